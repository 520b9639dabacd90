def WM_X5_rank (Q A : Nat) (a j : Nat) : Prop := (Q + 7 ≤ a ∧ a < Q + 8)
set_option maxRecDepth 100000 in
set_option maxHeartbeats 4000000 in
theorem v_X5_rank {Q : Nat} {A : Nat}  {M0 : zMt}  : ∃ r, D_X5_rank Q A M0 = some r ∧ ((∀ a j, ¬ WM_X5_rank Q A a j → r a j = M0 a j)) := by
  have TL_2 : ∀ u : Nat, ∀ (x2_2 : Int32) (M_2 : zMt), (∀ a j, ¬ WM_X5_rank Q A a j → M_2 a j = M0 a j) → (2147483648 - Int32.toInt x2_2).toNat < u → ∃ r, D_X5_rank_2 Q A u x2_2 M_2 = some r ∧ ((∀ a j, ¬ WM_X5_rank Q A a j → r a j = M0 a j)) := by
    intro u
    induction u with
    | zero => intro x2_2 M_2 k_2 hm_2; exact absurd hm_2 (Nat.not_lt_zero _)
    | succ u_2 ih_2 =>
      have T_86 : ∀ (x2_86 : Int32) (x3_86 : Int32) (x5_86 : Int32) (M_86 : zMt), (∀ a j, ¬ WM_X5_rank Q A a j → M_86 a j = M0 a j) → ((2147483648 - Int32.toInt x2_86).toNat < u_2 + 1) → (Int32.toInt x2_86 < 2147483647) → ∃ r, D_X5_rank_86 Q A (D_X5_rank_2 Q A u_2) x2_86 x3_86 x5_86 M_86 = some r ∧ ((∀ a j, ¬ WM_X5_rank Q A a j → r a j = M0 a j)) := by
        intro x2_86 x3_86 x5_86 M_86 k_86 f0_86 f1_86
        unfold D_X5_rank_86
        refine vLm (W := WM_X5_rank Q A) (fun a j h => (congrFun (zwr_row (by unfold WM_X5_rank at h; omega)) j).trans (k_86 a j h)) (fun M_93 f_93 k_93 => ?_)
        exact ih_2 _ _ k_93 (z_up1 f1_86 f0_86)
      have TL_32 : ∀ u : Nat, ∀ (x2_32 : Int32) (x3_32 : Int32) (x4_32 : Int32) (x5_32 : Int32) (M_32 : zMt), (∀ a j, ¬ WM_X5_rank Q A a j → M_32 a j = M0 a j) → ((2147483648 - Int32.toInt x2_32).toNat < u_2 + 1) → (Int32.toInt x2_32 < 2147483647) → (Int32.toInt x5_32).toNat < u → ∃ r, D_X5_rank_32 Q A (D_X5_rank_2 Q A u_2) u x2_32 x3_32 x4_32 x5_32 M_32 = some r ∧ ((∀ a j, ¬ WM_X5_rank Q A a j → r a j = M0 a j)) := by
        intro u
        induction u with
        | zero => intro x2_32 x3_32 x4_32 x5_32 M_32 k_32 f0_32 f1_32 hm_32; exact absurd hm_32 (Nat.not_lt_zero _)
        | succ u_32 ih_32 =>
          intro x2_32 x3_32 x4_32 x5_32 M_32 k_32 f0_32 f1_32 hm_32
          rw [D_X5_rank_32]
          refine vIf (fun h_34 => ?_) (fun h_34 => ?_)
          · exact T_86 _ _ _ _ k_32 f0_32 f1_32
          · refine vIf (fun h_57 => ?_) (fun h_57 => ?_)
            · exact T_86 _ _ _ _ k_32 f0_32 f1_32
            · refine vLm (W := WM_X5_rank Q A) (fun a j h => (congrFun (zwr_row (by unfold WM_X5_rank at h; omega)) j).trans (k_32 a j h)) (fun M_77 f_77 k_77 => ?_)
              exact ih_32 _ _ _ _ _ k_77 f0_32 f1_32 (z_dn1 (by first | assumption | exact z_gt (by assumption)) hm_32)
      have T_32 : ∀ (x2_32 : Int32) (x3_32 : Int32) (x4_32 : Int32) (x5_32 : Int32) (M_32 : zMt), (∀ a j, ¬ WM_X5_rank Q A a j → M_32 a j = M0 a j) → ((2147483648 - Int32.toInt x2_32).toNat < u_2 + 1) → (Int32.toInt x2_32 < 2147483647) → ∃ r, D_X5_rank_32 Q A (D_X5_rank_2 Q A u_2) zFu x2_32 x3_32 x4_32 x5_32 M_32 = some r ∧ ((∀ a j, ¬ WM_X5_rank Q A a j → r a j = M0 a j)) := fun x2_32 x3_32 x4_32 x5_32 M_32 k_32 f0_32 f1_32 => TL_32 zFu x2_32 x3_32 x4_32 x5_32 M_32 k_32 f0_32 f1_32 (zFu_dn _)
      intro x2_2 M_2 k_2 hm_2
      rw [D_X5_rank_2]
      refine vIf (fun h_7 => ?_) (fun h_7 => ?_)
      · exact ⟨_, rfl, k_2⟩
      · exact T_32 _ _ _ _ _ k_2 hm_2 (by first | assumption | exact z_lt (by assumption) | exact z_lt2 (by assumption) | exact z_lt3 (by assumption) (by first | assumption | decide))
  have T_2 : ∀ (x2_2 : Int32) (M_2 : zMt), (∀ a j, ¬ WM_X5_rank Q A a j → M_2 a j = M0 a j) → ∃ r, D_X5_rank_2 Q A zFu x2_2 M_2 = some r ∧ ((∀ a j, ¬ WM_X5_rank Q A a j → r a j = M0 a j)) := fun x2_2 M_2 k_2 => TL_2 zFu x2_2 M_2 k_2 (zFu_up _)
  unfold D_X5_rank
  exact T_2 _ _ (fun _ _ _ => rfl)
set_option maxRecDepth 100000 in
set_option maxHeartbeats 4000000 in
theorem v_X2_wish {Q : Nat} {M : zMt} {v0 : Int32} {v1 : Int32}  : ∃ r, D_X2_wish Q M v0 v1 = some r ∧ (True) := by
  unfold D_X2_wish
  exact ⟨_, rfl, trivial⟩
set_option maxRecDepth 100000 in
set_option maxHeartbeats 4000000 in
theorem v_X2_fits {Q : Nat} {M : zMt} {v0 : Int32} {v1 : Int32} {v2 : Int32}  : ∃ r, D_X2_fits Q M v0 v1 v2 = some r ∧ ((r = 0 ∨ r = 1)) := by
  have T_29 : ∀ (y0_29 : Int32), (y0_29 = 0 ∨ y0_29 = 1) → ∃ r, D_X2_fits_29 Q M y0_29 = some r ∧ ((r = 0 ∨ r = 1)) := by
    intro y0_29 f0_29
    unfold D_X2_fits_29
    exact ⟨_, rfl, (by first | exact Or.inl rfl | exact Or.inr rfl | assumption)⟩
  have T_28 : ∃ r, D_X2_fits_28 Q M = some r ∧ ((r = 0 ∨ r = 1)) := by
    unfold D_X2_fits_28
    exact T_29 _ (by first | exact Or.inl rfl | exact Or.inr rfl | assumption)
  unfold D_X2_fits
  refine vIf (fun h_9 => ?_) (fun h_9 => ?_)
  · exact T_28
  · refine vIf (fun h_21 => ?_) (fun h_21 => ?_)
    · exact T_28
    · exact T_29 _ (by first | exact Or.inl rfl | exact Or.inr rfl | assumption)
def WM_X5_hold (Q A : Nat) (a j : Nat) : Prop := (Q + 2 ≤ a ∧ a < Q + 6)
set_option maxRecDepth 100000 in
set_option maxHeartbeats 4000000 in
theorem v_X5_hold {Q : Nat} {A : Nat} {v0 : Int32} {v1 : Int32} {v2 : Int32} {M0 : zMt}  : ∃ r, D_X5_hold Q A v0 v1 v2 M0 = some r ∧ ((∀ a j, ¬ WM_X5_hold Q A a j → r a j = M0 a j)) := by
  unfold D_X5_hold
  refine vLm (W := WM_X5_hold Q A) (fun a j h => (congrFun (zwr_row (by unfold WM_X5_hold at h; omega)) j)) (fun M_6 f_6 k_6 => ?_)
  refine vLm (W := WM_X5_hold Q A) (fun a j h => (congrFun (zwr_row (by unfold WM_X5_hold at h; omega)) j).trans (k_6 a j h)) (fun M_16 f_16 k_16 => ?_)
  refine vLm (W := WM_X5_hold Q A) (fun a j h => (congrFun (zwr_row (by unfold WM_X5_hold at h; omega)) j).trans (k_16 a j h)) (fun M_33 f_33 k_33 => ?_)
  refine vLm (W := WM_X5_hold Q A) (fun a j h => (congrFun (zwr_row (by unfold WM_X5_hold at h; omega)) j).trans (k_33 a j h)) (fun M_50 f_50 k_50 => ?_)
  exact ⟨_, rfl, k_50⟩
def WM_X5_firstRound (Q A : Nat) (a j : Nat) : Prop := (Q + 2 ≤ a ∧ a < Q + 8)
set_option maxRecDepth 100000 in
set_option maxHeartbeats 4000000 in
theorem v_X5_firstRound {Q : Nat} {A : Nat}  {M0 : zMt}  : ∃ r, D_X5_firstRound Q A M0 = some r ∧ ((∀ a j, ¬ WM_X5_firstRound Q A a j → r a j = M0 a j)) := by
  have TL_7 : ∀ u : Nat, ∀ (x2_7 : Int32) (M_7 : zMt), (∀ a j, ¬ WM_X5_firstRound Q A a j → M_7 a j = M0 a j) → (2147483648 - Int32.toInt x2_7).toNat < u → ∃ r, D_X5_firstRound_7 Q A u x2_7 M_7 = some r ∧ ((∀ a j, ¬ WM_X5_firstRound Q A a j → r a j = M0 a j)) := by
    intro u
    induction u with
    | zero => intro x2_7 M_7 k_7 hm_7; exact absurd hm_7 (Nat.not_lt_zero _)
    | succ u_7 ih_7 =>
      have T_91 : ∀ (x2_91 : Int32) (M_91 : zMt), (∀ a j, ¬ WM_X5_firstRound Q A a j → M_91 a j = M0 a j) → ((2147483648 - Int32.toInt x2_91).toNat < u_7 + 1) → (Int32.toInt x2_91 < 2147483647) → ∃ r, D_X5_firstRound_91 Q A (D_X5_firstRound_7 Q A u_7) x2_91 M_91 = some r ∧ ((∀ a j, ¬ WM_X5_firstRound Q A a j → r a j = M0 a j)) := by
        intro x2_91 M_91 k_91 f0_91 f1_91
        unfold D_X5_firstRound_91
        exact ih_7 _ _ k_91 (z_up1 f1_91 f0_91)
      intro x2_7 M_7 k_7 hm_7
      rw [D_X5_firstRound_7]
      refine vIf (fun h_12 => ?_) (fun h_12 => ?_)
      · exact ⟨_, rfl, k_7⟩
      · refine vB (v_X2_wish) (fun e_27 f_27 q_27 => ?_)
        refine vIf (fun h_35 => ?_) (fun h_35 => ?_)
        · exact T_91 _ _ k_7 hm_7 (by first | assumption | exact z_lt (by assumption) | exact z_lt2 (by assumption) | exact z_lt3 (by assumption) (by first | assumption | decide))
        · refine vB (v_X2_fits) (fun e_58 f_58 q_58 => ?_)
          have b_58 := q_58
          refine vIf (fun h_61 => ?_) (fun h_61 => ?_)
          · exact T_91 _ _ k_7 hm_7 (by first | assumption | exact z_lt (by assumption) | exact z_lt2 (by assumption) | exact z_lt3 (by assumption) (by first | assumption | decide))
          · refine vLm (W := WM_X5_firstRound Q A) (fun a j h => (congrFun (zwr_row (by unfold WM_X5_firstRound at h; omega)) j).trans (k_7 a j h)) (fun M_79 f_79 k_79 => ?_)
            refine vB (v_X5_hold) (fun e_88 f_88 q_88 => ?_)
            have k_88 : ∀ a j, ¬ WM_X5_firstRound Q A a j → e_88 a j = M0 a j := fun a j h => (q_88 a j (by unfold WM_X5_hold; unfold WM_X5_firstRound at h; omega)).trans (k_79 a j h)
            exact T_91 _ _ k_88 hm_7 (by first | assumption | exact z_lt (by assumption) | exact z_lt2 (by assumption) | exact z_lt3 (by assumption) (by first | assumption | decide))
  have T_7 : ∀ (x2_7 : Int32) (M_7 : zMt), (∀ a j, ¬ WM_X5_firstRound Q A a j → M_7 a j = M0 a j) → ∃ r, D_X5_firstRound_7 Q A zFu x2_7 M_7 = some r ∧ ((∀ a j, ¬ WM_X5_firstRound Q A a j → r a j = M0 a j)) := fun x2_7 M_7 k_7 => TL_7 zFu x2_7 M_7 k_7 (zFu_up _)
  unfold D_X5_firstRound
  refine vB (v_X5_rank) (fun e_2 f_2 q_2 => ?_)
  have k_2 : ∀ a j, ¬ WM_X5_firstRound Q A a j → e_2 a j = M0 a j := fun a j h => (q_2 a j (by unfold WM_X5_rank; unfold WM_X5_firstRound at h; omega))
  exact T_7 _ _ k_2
def WM_X5_secondRound (Q A : Nat) (a j : Nat) : Prop := (Q + 2 ≤ a ∧ a < Q + 6)
set_option maxRecDepth 100000 in
set_option maxHeartbeats 4000000 in
theorem v_X5_secondRound {Q : Nat} {A : Nat}  {M0 : zMt}  : ∃ r, D_X5_secondRound Q A M0 = some r ∧ ((∀ a j, ¬ WM_X5_secondRound Q A a j → r a j = M0 a j)) := by
  have TL_2 : ∀ u : Nat, ∀ (x2_2 : Int32) (M_2 : zMt), (∀ a j, ¬ WM_X5_secondRound Q A a j → M_2 a j = M0 a j) → (2147483648 - Int32.toInt x2_2).toNat < u → ∃ r, D_X5_secondRound_2 Q A u x2_2 M_2 = some r ∧ ((∀ a j, ¬ WM_X5_secondRound Q A a j → r a j = M0 a j)) := by
    intro u
    induction u with
    | zero => intro x2_2 M_2 k_2 hm_2; exact absurd hm_2 (Nat.not_lt_zero _)
    | succ u_2 ih_2 =>
      have T_108 : ∀ (x2_108 : Int32) (M_108 : zMt), (∀ a j, ¬ WM_X5_secondRound Q A a j → M_108 a j = M0 a j) → ((2147483648 - Int32.toInt x2_108).toNat < u_2 + 1) → (Int32.toInt x2_108 < 2147483647) → ∃ r, D_X5_secondRound_108 Q A (D_X5_secondRound_2 Q A u_2) x2_108 M_108 = some r ∧ ((∀ a j, ¬ WM_X5_secondRound Q A a j → r a j = M0 a j)) := by
        intro x2_108 M_108 k_108 f0_108 f1_108
        unfold D_X5_secondRound_108
        exact ih_2 _ _ k_108 (z_up1 f1_108 f0_108)
      have TL_48 : ∀ u : Nat, ∀ (x2_48 : Int32) (x3_48 : Int32) (x4_48 : Int32) (x5_48 : Int32) (M_48 : zMt), (∀ a j, ¬ WM_X5_secondRound Q A a j → M_48 a j = M0 a j) → ((2147483648 - Int32.toInt x2_48).toNat < u_2 + 1) → (Int32.toInt x2_48 < 2147483647) → (2147483648 - Int32.toInt x5_48).toNat < u → ∃ r, D_X5_secondRound_48 Q A (D_X5_secondRound_2 Q A u_2) u x2_48 x3_48 x4_48 x5_48 M_48 = some r ∧ ((∀ a j, ¬ WM_X5_secondRound Q A a j → r a j = M0 a j)) := by
        intro u
        induction u with
        | zero => intro x2_48 x3_48 x4_48 x5_48 M_48 k_48 f0_48 f1_48 hm_48; exact absurd hm_48 (Nat.not_lt_zero _)
        | succ u_48 ih_48 =>
          intro x2_48 x3_48 x4_48 x5_48 M_48 k_48 f0_48 f1_48 hm_48
          rw [D_X5_secondRound_48]
          refine vIf (fun h_52 => ?_) (fun h_52 => ?_)
          · exact T_108 _ _ k_48 f0_48 f1_48
          · refine vB (v_X2_wish) (fun e_59 f_59 q_59 => ?_)
            refine vB (v_X2_fits) (fun e_84 f_84 q_84 => ?_)
            have b_84 := q_84
            refine vIf (fun h_87 => ?_) (fun h_87 => ?_)
            · exact ih_48 _ _ _ _ _ k_48 f0_48 f1_48 (z_up1 (by first | assumption | exact z_lt (by assumption) | exact z_lt2 (by assumption) | exact z_lt3 (by assumption) (by first | assumption | decide)) hm_48)
            · refine vB (v_X5_hold) (fun e_96 f_96 q_96 => ?_)
              have k_96 : ∀ a j, ¬ WM_X5_secondRound Q A a j → e_96 a j = M0 a j := fun a j h => (q_96 a j (by unfold WM_X5_hold; unfold WM_X5_secondRound at h; omega)).trans (k_48 a j h)
              exact T_108 _ _ k_96 f0_48 f1_48
      have T_48 : ∀ (x2_48 : Int32) (x3_48 : Int32) (x4_48 : Int32) (x5_48 : Int32) (M_48 : zMt), (∀ a j, ¬ WM_X5_secondRound Q A a j → M_48 a j = M0 a j) → ((2147483648 - Int32.toInt x2_48).toNat < u_2 + 1) → (Int32.toInt x2_48 < 2147483647) → ∃ r, D_X5_secondRound_48 Q A (D_X5_secondRound_2 Q A u_2) zFu x2_48 x3_48 x4_48 x5_48 M_48 = some r ∧ ((∀ a j, ¬ WM_X5_secondRound Q A a j → r a j = M0 a j)) := fun x2_48 x3_48 x4_48 x5_48 M_48 k_48 f0_48 f1_48 => TL_48 zFu x2_48 x3_48 x4_48 x5_48 M_48 k_48 f0_48 f1_48 (zFu_up _)
      have T_43 : ∀ (x2_43 : Int32) (x3_43 : Int32) (y0_43 : Int32) (M_43 : zMt), (∀ a j, ¬ WM_X5_secondRound Q A a j → M_43 a j = M0 a j) → ((2147483648 - Int32.toInt x2_43).toNat < u_2 + 1) → (Int32.toInt x2_43 < 2147483647) → ∃ r, D_X5_secondRound_43 Q A (D_X5_secondRound_2 Q A u_2) x2_43 x3_43 y0_43 M_43 = some r ∧ ((∀ a j, ¬ WM_X5_secondRound Q A a j → r a j = M0 a j)) := by
        intro x2_43 x3_43 y0_43 M_43 k_43 f0_43 f1_43
        unfold D_X5_secondRound_43
        exact T_48 _ _ _ _ _ k_43 f0_43 f1_43
      intro x2_2 M_2 k_2 hm_2
      rw [D_X5_secondRound_2]
      refine vIf (fun h_7 => ?_) (fun h_7 => ?_)
      · exact ⟨_, rfl, k_2⟩
      · refine vIf (fun h_28 => ?_) (fun h_28 => ?_)
        · exact T_43 _ _ _ _ k_2 hm_2 (by first | assumption | exact z_lt (by assumption) | exact z_lt2 (by assumption) | exact z_lt3 (by assumption) (by first | assumption | decide))
        · exact T_43 _ _ _ _ k_2 hm_2 (by first | assumption | exact z_lt (by assumption) | exact z_lt2 (by assumption) | exact z_lt3 (by assumption) (by first | assumption | decide))
  have T_2 : ∀ (x2_2 : Int32) (M_2 : zMt), (∀ a j, ¬ WM_X5_secondRound Q A a j → M_2 a j = M0 a j) → ∃ r, D_X5_secondRound_2 Q A zFu x2_2 M_2 = some r ∧ ((∀ a j, ¬ WM_X5_secondRound Q A a j → r a j = M0 a j)) := fun x2_2 M_2 k_2 => TL_2 zFu x2_2 M_2 k_2 (zFu_up _)
  unfold D_X5_secondRound
  exact T_2 _ _ (fun _ _ _ => rfl)
def WM_X5_settle (Q A : Nat) (a j : Nat) : Prop := (Q + 2 ≤ a ∧ a < Q + 8)
set_option maxRecDepth 100000 in
set_option maxHeartbeats 4000000 in
theorem v_X5_settle {Q : Nat} {A : Nat}  {M0 : zMt}  : ∃ r, D_X5_settle Q A M0 = some r ∧ ((∀ a j, ¬ WM_X5_settle Q A a j → r a j = M0 a j)) := by
  have T_110 : ∀ (M_110 : zMt), (∀ a j, ¬ WM_X5_settle Q A a j → M_110 a j = M0 a j) → ∃ r, D_X5_settle_110 Q A M_110 = some r ∧ ((∀ a j, ¬ WM_X5_settle Q A a j → r a j = M0 a j)) := by
    intro M_110 k_110
    unfold D_X5_settle_110
    refine vB (v_X5_secondRound) (fun e_112 f_112 q_112 => ?_)
    have k_112 : ∀ a j, ¬ WM_X5_settle Q A a j → e_112 a j = M0 a j := fun a j h => (q_112 a j (by unfold WM_X5_secondRound; unfold WM_X5_settle at h; omega)).trans (k_110 a j h)
    exact ⟨_, rfl, k_112⟩
  have TL_36 : ∀ u : Nat, ∀ (x2_36 : Int32) (M_36 : zMt), (∀ a j, ¬ WM_X5_settle Q A a j → M_36 a j = M0 a j) → (2147483648 - Int32.toInt x2_36).toNat < u → ∃ r, D_X5_settle_36 Q A u x2_36 M_36 = some r ∧ ((∀ a j, ¬ WM_X5_settle Q A a j → r a j = M0 a j)) := by
    intro u
    induction u with
    | zero => intro x2_36 M_36 k_36 hm_36; exact absurd hm_36 (Nat.not_lt_zero _)
    | succ u_36 ih_36 =>
      intro x2_36 M_36 k_36 hm_36
      rw [D_X5_settle_36]
      refine vIf (fun h_41 => ?_) (fun h_41 => ?_)
      · refine vIf (fun h_102 => ?_) (fun h_102 => ?_)
        · exact T_110 _ k_36
        · refine vB (v_X5_firstRound) (fun e_107 f_107 q_107 => ?_)
          have k_107 : ∀ a j, ¬ WM_X5_settle Q A a j → e_107 a j = M0 a j := fun a j h => (q_107 a j (by unfold WM_X5_firstRound; unfold WM_X5_settle at h; omega)).trans (k_36 a j h)
          exact T_110 _ k_107
      · refine vLm (W := WM_X5_settle Q A) (fun a j h => (congrFun (zwr_row (by unfold WM_X5_settle at h; omega)) j).trans (k_36 a j h)) (fun M_57 f_57 k_57 => ?_)
        refine vLm (W := WM_X5_settle Q A) (fun a j h => (congrFun (zwr_row (by unfold WM_X5_settle at h; omega)) j).trans (k_57 a j h)) (fun M_73 f_73 k_73 => ?_)
        refine vLm (W := WM_X5_settle Q A) (fun a j h => (congrFun (zwr_row (by unfold WM_X5_settle at h; omega)) j).trans (k_73 a j h)) (fun M_89 f_89 k_89 => ?_)
        exact ih_36 _ _ k_89 (z_up1 (by first | assumption | exact z_lt (by assumption) | exact z_lt2 (by assumption) | exact z_lt3 (by assumption) (by first | assumption | decide)) hm_36)
  have T_36 : ∀ (x2_36 : Int32) (M_36 : zMt), (∀ a j, ¬ WM_X5_settle Q A a j → M_36 a j = M0 a j) → ∃ r, D_X5_settle_36 Q A zFu x2_36 M_36 = some r ∧ ((∀ a j, ¬ WM_X5_settle Q A a j → r a j = M0 a j)) := fun x2_36 M_36 k_36 => TL_36 zFu x2_36 M_36 k_36 (zFu_up _)
  have TL_2 : ∀ u : Nat, ∀ (x2_2 : Int32) (M_2 : zMt), (∀ a j, ¬ WM_X5_settle Q A a j → M_2 a j = M0 a j) → (2147483648 - Int32.toInt x2_2).toNat < u → ∃ r, D_X5_settle_2 Q A u x2_2 M_2 = some r ∧ ((∀ a j, ¬ WM_X5_settle Q A a j → r a j = M0 a j)) := by
    intro u
    induction u with
    | zero => intro x2_2 M_2 k_2 hm_2; exact absurd hm_2 (Nat.not_lt_zero _)
    | succ u_2 ih_2 =>
      intro x2_2 M_2 k_2 hm_2
      rw [D_X5_settle_2]
      refine vIf (fun h_7 => ?_) (fun h_7 => ?_)
      · exact T_36 _ _ k_2
      · refine vLm (W := WM_X5_settle Q A) (fun a j h => (congrFun (zwr_row (by unfold WM_X5_settle at h; omega)) j).trans (k_2 a j h)) (fun M_16 f_16 k_16 => ?_)
        refine vLm (W := WM_X5_settle Q A) (fun a j h => (congrFun (zwr_row (by unfold WM_X5_settle at h; omega)) j).trans (k_16 a j h)) (fun M_25 f_25 k_25 => ?_)
        exact ih_2 _ _ k_25 (z_up1 (by first | assumption | exact z_lt (by assumption) | exact z_lt2 (by assumption) | exact z_lt3 (by assumption) (by first | assumption | decide)) hm_2)
  have T_2 : ∀ (x2_2 : Int32) (M_2 : zMt), (∀ a j, ¬ WM_X5_settle Q A a j → M_2 a j = M0 a j) → ∃ r, D_X5_settle_2 Q A zFu x2_2 M_2 = some r ∧ ((∀ a j, ¬ WM_X5_settle Q A a j → r a j = M0 a j)) := fun x2_2 M_2 k_2 => TL_2 zFu x2_2 M_2 k_2 (zFu_up _)
  unfold D_X5_settle
  exact T_2 _ _ (fun _ _ _ => rfl)
def WM_X0_record (Q A : Nat) (a j : Nat) : Prop := (Q + 2 ≤ a ∧ a < Q + 3)
def WN_X0_record (Q A : Nat) (a j : Nat) : Prop := (Q + 1 ≤ a ∧ a < Q + 2) ∨ (Q + 3 ≤ a ∧ a < Q + 5)
set_option maxRecDepth 100000 in
set_option maxHeartbeats 4000000 in
theorem v_X0_record {Q : Nat} {A : Nat} {v0 : Int64} {M0 : zMt} {N0 : zNt}  : ∃ r, D_X0_record Q A v0 M0 N0 = some r ∧ ((∀ a j, ¬ WM_X0_record Q A a j → r.1 a j = M0 a j) ∧ (∀ a j, ¬ WN_X0_record Q A a j → r.2 a j = N0 a j)) := by
  have TL_6 : ∀ u : Nat, ∀ (x2_6 : Int64) (x4_6 : Int32) (x5_6 : Int32) (M_6 : zMt) (N_6 : zNt), (∀ a j, ¬ WM_X0_record Q A a j → M_6 a j = M0 a j) → (∀ a j, ¬ WN_X0_record Q A a j → N_6 a j = N0 a j) → (2147483648 - Int32.toInt x5_6).toNat < u → ∃ r, D_X0_record_6 Q A u x2_6 x4_6 x5_6 M_6 N_6 = some r ∧ ((∀ a j, ¬ WM_X0_record Q A a j → r.1 a j = M0 a j) ∧ (∀ a j, ¬ WN_X0_record Q A a j → r.2 a j = N0 a j)) := by
    intro u
    induction u with
    | zero => intro x2_6 x4_6 x5_6 M_6 N_6 k_6 kn_6 hm_6; exact absurd hm_6 (Nat.not_lt_zero _)
    | succ u_6 ih_6 =>
      have T_88 : ∀ (x2_88 : Int64) (x4_88 : Int32) (x5_88 : Int32) (M_88 : zMt) (N_88 : zNt), (∀ a j, ¬ WM_X0_record Q A a j → M_88 a j = M0 a j) → (∀ a j, ¬ WN_X0_record Q A a j → N_88 a j = N0 a j) → ((2147483648 - Int32.toInt x5_88).toNat < u_6 + 1) → (Int32.toInt x5_88 < 2147483647) → ∃ r, D_X0_record_88 Q A (D_X0_record_6 Q A u_6) x2_88 x4_88 x5_88 M_88 N_88 = some r ∧ ((∀ a j, ¬ WM_X0_record Q A a j → r.1 a j = M0 a j) ∧ (∀ a j, ¬ WN_X0_record Q A a j → r.2 a j = N0 a j)) := by
        intro x2_88 x4_88 x5_88 M_88 N_88 k_88 kn_88 f0_88 f1_88
        unfold D_X0_record_88
        exact ih_6 _ _ _ _ _ k_88 kn_88 (z_up1 f1_88 f0_88)
      intro x2_6 x4_6 x5_6 M_6 N_6 k_6 kn_6 hm_6
      rw [D_X0_record_6]
      refine vIf (fun h_12 => ?_) (fun h_12 => ?_)
      · refine vLn (W := WN_X0_record Q A) (fun a j h => (congrFun (zwr_row (by unfold WN_X0_record at h; omega)) j).trans (kn_6 a j h)) (fun N_101 f_101 kn_101 => ?_)
        refine vLm (W := WM_X0_record Q A) (fun a j h => (congrFun (zwr_row (by unfold WM_X0_record at h; omega)) j).trans (k_6 a j h)) (fun M_111 f_111 k_111 => ?_)
        exact ⟨_, rfl, k_111, kn_101⟩
      · refine vIf (fun h_32 => ?_) (fun h_32 => ?_)
        · exact T_88 _ _ _ _ _ k_6 kn_6 hm_6 (by first | assumption | exact z_lt (by assumption) | exact z_lt2 (by assumption) | exact z_lt3 (by assumption) (by first | assumption | decide))
        · refine vLn (W := WN_X0_record Q A) (fun a j h => (congrFun (zwr_row (by unfold WN_X0_record at h; omega)) j).trans (kn_6 a j h)) (fun N_59 f_59 kn_59 => ?_)
          refine vIf (fun h_75 => ?_) (fun h_75 => ?_)
          · refine vLn (W := WN_X0_record Q A) (fun a j h => (congrFun (zwr_row (by unfold WN_X0_record at h; omega)) j).trans (kn_59 a j h)) (fun N_85 f_85 kn_85 => ?_)
            exact T_88 _ _ _ _ _ k_6 kn_85 hm_6 (by first | assumption | exact z_lt (by assumption) | exact z_lt2 (by assumption) | exact z_lt3 (by assumption) (by first | assumption | decide))
          · exact T_88 _ _ _ _ _ k_6 kn_59 hm_6 (by first | assumption | exact z_lt (by assumption) | exact z_lt2 (by assumption) | exact z_lt3 (by assumption) (by first | assumption | decide))
  have T_6 : ∀ (x2_6 : Int64) (x4_6 : Int32) (x5_6 : Int32) (M_6 : zMt) (N_6 : zNt), (∀ a j, ¬ WM_X0_record Q A a j → M_6 a j = M0 a j) → (∀ a j, ¬ WN_X0_record Q A a j → N_6 a j = N0 a j) → ∃ r, D_X0_record_6 Q A zFu x2_6 x4_6 x5_6 M_6 N_6 = some r ∧ ((∀ a j, ¬ WM_X0_record Q A a j → r.1 a j = M0 a j) ∧ (∀ a j, ¬ WN_X0_record Q A a j → r.2 a j = N0 a j)) := fun x2_6 x4_6 x5_6 M_6 N_6 k_6 kn_6 => TL_6 zFu x2_6 x4_6 x5_6 M_6 N_6 k_6 kn_6 (zFu_up _)
  unfold D_X0_record
  exact T_6 _ _ _ _ _ (fun _ _ _ => rfl) (fun _ _ _ => rfl)
def WM_X0_walk (Q A : Nat) (a j : Nat) : Prop := (Q + 2 ≤ a ∧ a < Q + 3) ∨ (Q + 6 ≤ a ∧ a < Q + 13)
def WN_X0_walk (Q A : Nat) (a j : Nat) : Prop := (Q + 1 ≤ a ∧ a < Q + 2) ∨ (Q + 3 ≤ a ∧ a < Q + 5)
set_option maxRecDepth 100000 in
set_option maxHeartbeats 4000000 in
theorem v_X0_walk_w {Q : Nat} {A : Nat} {M0 : zMt} {N0 : zNt}  : ∀ (w : Nat) (v0 : Int32) (v1 : Int32) (v2 : Int32) (v3 : Int64)(M : zMt) (N : zNt), (∀ a j, ¬ WM_X0_walk Q A a j → M a j = M0 a j) → (∀ a j, ¬ WN_X0_walk Q A a j → N a j = N0 a j) → (7 - Int32.toInt v0).toNat < w → ∃ r, D_X0_walk Q A w v0 v1 v2 v3 M N = some r ∧ ((∀ a j, ¬ WM_X0_walk Q A a j → r.1 a j = M0 a j) ∧ (∀ a j, ¬ WN_X0_walk Q A a j → r.2 a j = N0 a j)) := by
  intro w
  induction w with
  | zero => intro v0 v1 v2 v3 M N k0 kn0 hm; exact absurd hm (Nat.not_lt_zero _)
  | succ w ihw =>
    have TL_35 : ∀ u : Nat, ∀ (x2_35 : Int32) (x3_35 : Int32) (x4_35 : Int32) (x5_35 : Int64) (x7_35 : Int32) (M_35 : zMt) (N_35 : zNt), (∀ a j, ¬ WM_X0_walk Q A a j → M_35 a j = M0 a j) → (∀ a j, ¬ WN_X0_walk Q A a j → N_35 a j = N0 a j) → ((7 - Int32.toInt x2_35).toNat < w + 1) → (¬ 7 ≤ x2_35) → (¬ x4_35 ≤ 0) → (2147483648 - Int32.toInt x7_35).toNat < u → ∃ r, D_X0_walk_35 Q A (D_X0_walk Q A w) u x2_35 x3_35 x4_35 x5_35 x7_35 M_35 N_35 = some r ∧ ((∀ a j, ¬ WM_X0_walk Q A a j → r.1 a j = M0 a j) ∧ (∀ a j, ¬ WN_X0_walk Q A a j → r.2 a j = N0 a j)) := by
      intro u
      induction u with
      | zero => intro x2_35 x3_35 x4_35 x5_35 x7_35 M_35 N_35 k_35 kn_35 f0_35 f1_35 f2_35 hm_35; exact absurd hm_35 (Nat.not_lt_zero _)
      | succ u_35 ih_35 =>
        have T_109 : ∀ (x2_109 : Int32) (x3_109 : Int32) (x4_109 : Int32) (x5_109 : Int64) (x7_109 : Int32) (M_109 : zMt) (N_109 : zNt), (∀ a j, ¬ WM_X0_walk Q A a j → M_109 a j = M0 a j) → (∀ a j, ¬ WN_X0_walk Q A a j → N_109 a j = N0 a j) → ((2147483648 - Int32.toInt x7_109).toNat < u_35 + 1) → (Int32.toInt x7_109 < 2147483647) → ((7 - Int32.toInt x2_109).toNat < w + 1) → (¬ 7 ≤ x2_109) → (¬ x4_109 ≤ 0) → ∃ r, D_X0_walk_109 Q A (D_X0_walk Q A w) (D_X0_walk_35 Q A (D_X0_walk Q A w) u_35) x2_109 x3_109 x4_109 x5_109 x7_109 M_109 N_109 = some r ∧ ((∀ a j, ¬ WM_X0_walk Q A a j → r.1 a j = M0 a j) ∧ (∀ a j, ¬ WN_X0_walk Q A a j → r.2 a j = N0 a j)) := by
          intro x2_109 x3_109 x4_109 x5_109 x7_109 M_109 N_109 k_109 kn_109 f0_109 f1_109 f2_109 f3_109 f4_109
          unfold D_X0_walk_109
          exact ih_35 _ _ _ _ _ _ _ k_109 kn_109 (by assumption) (by assumption) (by first | assumption | exact Int32.not_le.mpr (by assumption)) (z_up1 f1_109 f0_109)
        intro x2_35 x3_35 x4_35 x5_35 x7_35 M_35 N_35 k_35 kn_35 f0_35 f1_35 f2_35 hm_35
        rw [D_X0_walk_35]
        refine vIf (fun h_41 => ?_) (fun h_41 => ?_)
        · exact ⟨_, rfl, k_35, kn_35⟩
        · refine vIf (fun h_51 => ?_) (fun h_51 => ?_)
          · refine vLm (W := WM_X0_walk Q A) (fun a j h => (congrFun (zwr_row (by unfold WM_X0_walk at h; omega)) j).trans (k_35 a j h)) (fun M_75 f_75 k_75 => ?_)
            refine vZl (by first | assumption | exact z_nzl (by assumption)) ?_
            refine vB (ihw _ _ _ _ _ _ k_75 kn_35 (by first | assumption | exact z_dep (by assumption) (by assumption))) (fun e_106 f_106 q_106 => ?_)
            have k_106 := q_106.1
            have kn_106 := q_106.2
            exact T_109 _ _ _ _ _ _ _ k_106 kn_106 hm_35 (by first | assumption | exact z_lt (by assumption) | exact z_lt2 (by assumption) | exact z_lt3 (by assumption) (by first | assumption | decide)) (by assumption) (by assumption) (by first | assumption | exact Int32.not_le.mpr (by assumption))
          · exact T_109 _ _ _ _ _ _ _ k_35 kn_35 hm_35 (by first | assumption | exact z_lt (by assumption) | exact z_lt2 (by assumption) | exact z_lt3 (by assumption) (by first | assumption | decide)) (by assumption) (by assumption) (by first | assumption | exact Int32.not_le.mpr (by assumption))
    have T_35 : ∀ (x2_35 : Int32) (x3_35 : Int32) (x4_35 : Int32) (x5_35 : Int64) (x7_35 : Int32) (M_35 : zMt) (N_35 : zNt), (∀ a j, ¬ WM_X0_walk Q A a j → M_35 a j = M0 a j) → (∀ a j, ¬ WN_X0_walk Q A a j → N_35 a j = N0 a j) → ((7 - Int32.toInt x2_35).toNat < w + 1) → (¬ 7 ≤ x2_35) → (¬ x4_35 ≤ 0) → ∃ r, D_X0_walk_35 Q A (D_X0_walk Q A w) zFu x2_35 x3_35 x4_35 x5_35 x7_35 M_35 N_35 = some r ∧ ((∀ a j, ¬ WM_X0_walk Q A a j → r.1 a j = M0 a j) ∧ (∀ a j, ¬ WN_X0_walk Q A a j → r.2 a j = N0 a j)) := fun x2_35 x3_35 x4_35 x5_35 x7_35 M_35 N_35 k_35 kn_35 f0_35 f1_35 f2_35 => TL_35 zFu x2_35 x3_35 x4_35 x5_35 x7_35 M_35 N_35 k_35 kn_35 f0_35 f1_35 f2_35 (zFu_up _)
    have T_31 : ∀ (M_31 : zMt) (N_31 : zNt), (∀ a j, ¬ WM_X0_walk Q A a j → M_31 a j = M0 a j) → (∀ a j, ¬ WN_X0_walk Q A a j → N_31 a j = N0 a j) → ∃ r, D_X0_walk_31 Q A (D_X0_walk Q A w) M_31 N_31 = some r ∧ ((∀ a j, ¬ WM_X0_walk Q A a j → r.1 a j = M0 a j) ∧ (∀ a j, ¬ WN_X0_walk Q A a j → r.2 a j = N0 a j)) := by
      intro M_31 N_31 k_31 kn_31
      unfold D_X0_walk_31
      exact ⟨_, rfl, k_31, kn_31⟩
    intro v0 v1 v2 v3 M N k0 kn0 hm
    rw [D_X0_walk]
    refine vIf (fun h_1 => ?_) (fun h_1 => ?_)
    · refine vB (v_X5_settle) (fun e_9 f_9 q_9 => ?_)
      have k_9 : ∀ a j, ¬ WM_X0_walk Q A a j → e_9 a j = M0 a j := fun a j h => (q_9 a j (by unfold WM_X5_settle; unfold WM_X0_walk at h; omega)).trans (k0 a j h)
      refine vB (v_X0_record) (fun e_16 f_16 q_16 => ?_)
      have k_16 : ∀ a j, ¬ WM_X0_walk Q A a j → e_16.1 a j = M0 a j := fun a j h => (q_16.1 a j (by unfold WM_X0_record; unfold WM_X0_walk at h; omega)).trans (k_9 a j h)
      have kn_16 : ∀ a j, ¬ WN_X0_walk Q A a j → e_16.2 a j = N0 a j := fun a j h => (q_16.2 a j (by unfold WN_X0_record; unfold WN_X0_walk at h; omega)).trans (kn0 a j h)
      exact ⟨_, rfl, k_16, kn_16⟩
    · refine vIf (fun h_23 => ?_) (fun h_23 => ?_)
      · exact T_31 _ _ k0 kn0
      · refine vIf (fun h_28 => ?_) (fun h_28 => ?_)
        · exact T_35 _ _ _ _ _ _ _ k0 kn0 (by assumption) (by assumption) (by first | assumption | exact Int32.not_le.mpr (by assumption))
        · exact T_31 _ _ k0 kn0
theorem v_X0_walk {Q : Nat} {A : Nat} {v0 : Int32} {v1 : Int32} {v2 : Int32} {v3 : Int64} {M0 : zMt} {N0 : zNt} (hm : (7 - Int32.toInt v0).toNat < zRec) : ∃ r, D_X0_walk Q A zRec v0 v1 v2 v3 M0 N0 = some r ∧ ((∀ a j, ¬ WM_X0_walk Q A a j → r.1 a j = M0 a j) ∧ (∀ a j, ¬ WN_X0_walk Q A a j → r.2 a j = N0 a j)) := v_X0_walk_w zRec _ _ _ _ _ _ (fun _ _ _ => rfl) (fun _ _ _ => rfl) hm
def WM_X0_reckon (Q A : Nat) (a j : Nat) : Prop := (Q + 2 ≤ a ∧ a < Q + 3) ∨ (Q + 6 ≤ a ∧ a < Q + 13)
def WN_X0_reckon (Q A : Nat) (a j : Nat) : Prop := (Q + 1 ≤ a ∧ a < Q + 2) ∨ (Q + 3 ≤ a ∧ a < Q + 5)
set_option maxRecDepth 100000 in
set_option maxHeartbeats 4000000 in
theorem v_X0_reckon {Q : Nat} {A : Nat}  {M0 : zMt} {N0 : zNt}  : ∃ r, D_X0_reckon Q A M0 N0 = some r ∧ ((∀ a j, ¬ WM_X0_reckon Q A a j → r.1 a j = M0 a j) ∧ (∀ a j, ¬ WN_X0_reckon Q A a j → r.2 a j = N0 a j)) := by
  have T_62 : ∀ (M_62 : zMt) (N_62 : zNt), (∀ a j, ¬ WM_X0_reckon Q A a j → M_62 a j = M0 a j) → (∀ a j, ¬ WN_X0_reckon Q A a j → N_62 a j = N0 a j) → ∃ r, D_X0_reckon_62 Q A M_62 N_62 = some r ∧ ((∀ a j, ¬ WM_X0_reckon Q A a j → r.1 a j = M0 a j) ∧ (∀ a j, ¬ WN_X0_reckon Q A a j → r.2 a j = N0 a j)) := by
    intro M_62 N_62 k_62 kn_62
    unfold D_X0_reckon_62
    exact ⟨_, rfl, k_62, kn_62⟩
  unfold D_X0_reckon
  refine vLn (W := WN_X0_reckon Q A) (fun a j h => (congrFun (zfil_row (by unfold WN_X0_reckon at h; omega)) j)) (fun N_5 f_5 kn_5 => ?_)
  refine vLm (W := WM_X0_reckon Q A) (fun a j h => (congrFun (zfil_row (by unfold WM_X0_reckon at h; omega)) j)) (fun M_13 f_13 k_13 => ?_)
  refine vLn (W := WN_X0_reckon Q A) (fun a j h => (congrFun (zfil_row (by unfold WN_X0_reckon at h; omega)) j).trans (kn_5 a j h)) (fun N_21 f_21 kn_21 => ?_)
  refine vLn (W := WN_X0_reckon Q A) (fun a j h => (congrFun (zfil_row (by unfold WN_X0_reckon at h; omega)) j).trans (kn_21 a j h)) (fun N_29 f_29 kn_29 => ?_)
  refine vIf (fun h_38 => ?_) (fun h_38 => ?_)
  · exact T_62 _ _ k_13 kn_29
  · refine vB (v_X0_walk (by decide)) (fun e_59 f_59 q_59 => ?_)
    have k_59 : ∀ a j, ¬ WM_X0_reckon Q A a j → e_59.1 a j = M0 a j := fun a j h => (q_59.1 a j (by unfold WM_X0_walk; unfold WM_X0_reckon at h; omega)).trans (k_13 a j h)
    have kn_59 : ∀ a j, ¬ WN_X0_reckon Q A a j → e_59.2 a j = N0 a j := fun a j h => (q_59.2 a j (by unfold WN_X0_walk; unfold WN_X0_reckon at h; omega)).trans (kn_29 a j h)
    exact T_62 _ _ k_59 kn_59
set_option maxRecDepth 100000 in
set_option maxHeartbeats 4000000 in
theorem v_X0_certainUnit {Q : Nat} {N : zNt} {v0 : Int32} {v1 : Int32}  : ∃ r, D_X0_certainUnit Q N v0 v1 = some r ∧ (True) := by
  unfold D_X0_certainUnit
  exact ⟨_, rfl, trivial⟩
set_option maxRecDepth 100000 in
set_option maxHeartbeats 4000000 in
theorem v_X0_allOf {Q : Nat} {N : zNt} {v0 : Int32}  : ∃ r, D_X0_allOf Q N v0 = some r ∧ (True) := by
  have TL_5 : ∀ u : Nat, ∀ (x1_5 : Int32) (x2_5 : Int64) (x4_5 : Int32), (2147483648 - Int32.toInt x4_5).toNat < u → ∃ r, D_X0_allOf_5 Q N u x1_5 x2_5 x4_5 = some r ∧ (True) := by
    intro u
    induction u with
    | zero => intro x1_5 x2_5 x4_5 hm_5; exact absurd hm_5 (Nat.not_lt_zero _)
    | succ u_5 ih_5 =>
      have T_33 : ∀ (x1_33 : Int32) (x2_33 : Int64) (x4_33 : Int32), ((2147483648 - Int32.toInt x4_33).toNat < u_5 + 1) → (Int32.toInt x4_33 < 2147483647) → ∃ r, D_X0_allOf_33 Q N (D_X0_allOf_5 Q N u_5) x1_33 x2_33 x4_33 = some r ∧ (True) := by
        intro x1_33 x2_33 x4_33 f0_33 f1_33
        unfold D_X0_allOf_33
        exact ih_5 _ _ _ (z_up1 f1_33 f0_33)
      intro x1_5 x2_5 x4_5 hm_5
      rw [D_X0_allOf_5]
      refine vIf (fun h_10 => ?_) (fun h_10 => ?_)
      · exact ⟨_, rfl, trivial⟩
      · refine vIf (fun h_18 => ?_) (fun h_18 => ?_)
        · exact T_33 _ _ _ hm_5 (by first | assumption | exact z_lt (by assumption) | exact z_lt2 (by assumption) | exact z_lt3 (by assumption) (by first | assumption | decide))
        · exact T_33 _ _ _ hm_5 (by first | assumption | exact z_lt (by assumption) | exact z_lt2 (by assumption) | exact z_lt3 (by assumption) (by first | assumption | decide))
  have T_5 : ∀ (x1_5 : Int32) (x2_5 : Int64) (x4_5 : Int32), ∃ r, D_X0_allOf_5 Q N zFu x1_5 x2_5 x4_5 = some r ∧ (True) := fun x1_5 x2_5 x4_5 => TL_5 zFu x1_5 x2_5 x4_5 (zFu_up _)
  unfold D_X0_allOf
  exact T_5 _ _ _
set_option maxRecDepth 100000 in
set_option maxHeartbeats 4000000 in
theorem v_X0_anyUnit {Q : Nat} {N : zNt} {v0 : Int32}  : ∃ r, D_X0_anyUnit Q N v0 = some r ∧ (True) := by
  unfold D_X0_anyUnit
  refine vB (v_X0_allOf) (fun e_4 f_4 q_4 => ?_)
  exact ⟨_, rfl, trivial⟩
set_option maxRecDepth 100000 in
set_option maxHeartbeats 4000000 in
theorem v_X0_always {Q : Nat} {M : zMt}   : ∃ r, D_X0_always Q M = some r ∧ (True) := by
  have TL_5 : ∀ u : Nat, ∀ (x1_5 : Int32) (x2_5 : Int32), (2147483648 - Int32.toInt x2_5).toNat < u → ∃ r, D_X0_always_5 Q M u x1_5 x2_5 = some r ∧ (True) := by
    intro u
    induction u with
    | zero => intro x1_5 x2_5 hm_5; exact absurd hm_5 (Nat.not_lt_zero _)
    | succ u_5 ih_5 =>
      have T_28 : ∀ (x1_28 : Int32) (x2_28 : Int32), ((2147483648 - Int32.toInt x2_28).toNat < u_5 + 1) → (Int32.toInt x2_28 < 2147483647) → ∃ r, D_X0_always_28 Q M (D_X0_always_5 Q M u_5) x1_28 x2_28 = some r ∧ (True) := by
        intro x1_28 x2_28 f0_28 f1_28
        unfold D_X0_always_28
        exact ih_5 _ _ (z_up1 f1_28 f0_28)
      intro x1_5 x2_5 hm_5
      rw [D_X0_always_5]
      refine vIf (fun h_9 => ?_) (fun h_9 => ?_)
      · exact ⟨_, rfl, trivial⟩
      · refine vIf (fun h_21 => ?_) (fun h_21 => ?_)
        · exact T_28 _ _ hm_5 (by first | assumption | exact z_lt (by assumption) | exact z_lt2 (by assumption) | exact z_lt3 (by assumption) (by first | assumption | decide))
        · exact T_28 _ _ hm_5 (by first | assumption | exact z_lt (by assumption) | exact z_lt2 (by assumption) | exact z_lt3 (by assumption) (by first | assumption | decide))
  have T_5 : ∀ (x1_5 : Int32) (x2_5 : Int32), ∃ r, D_X0_always_5 Q M zFu x1_5 x2_5 = some r ∧ (True) := fun x1_5 x2_5 => TL_5 zFu x1_5 x2_5 (zFu_up _)
  unfold D_X0_always
  exact T_5 _ _
set_option maxRecDepth 100000 in
set_option maxHeartbeats 4000000 in
theorem v_X0_ever {Q : Nat} {M : zMt}   : ∃ r, D_X0_ever Q M = some r ∧ (True) := by
  have TL_4 : ∀ u : Nat, ∀ (x1_4 : Int32) (x2_4 : Int32), (2147483648 - Int32.toInt x2_4).toNat < u → ∃ r, D_X0_ever_4 Q M u x1_4 x2_4 = some r ∧ (True) := by
    intro u
    induction u with
    | zero => intro x1_4 x2_4 hm_4; exact absurd hm_4 (Nat.not_lt_zero _)
    | succ u_4 ih_4 =>
      have T_27 : ∀ (x1_27 : Int32) (x2_27 : Int32), ((2147483648 - Int32.toInt x2_27).toNat < u_4 + 1) → (Int32.toInt x2_27 < 2147483647) → ∃ r, D_X0_ever_27 Q M (D_X0_ever_4 Q M u_4) x1_27 x2_27 = some r ∧ (True) := by
        intro x1_27 x2_27 f0_27 f1_27
        unfold D_X0_ever_27
        exact ih_4 _ _ (z_up1 f1_27 f0_27)
      intro x1_4 x2_4 hm_4
      rw [D_X0_ever_4]
      refine vIf (fun h_8 => ?_) (fun h_8 => ?_)
      · exact ⟨_, rfl, trivial⟩
      · refine vIf (fun h_20 => ?_) (fun h_20 => ?_)
        · exact T_27 _ _ hm_4 (by first | assumption | exact z_lt (by assumption) | exact z_lt2 (by assumption) | exact z_lt3 (by assumption) (by first | assumption | decide))
        · exact T_27 _ _ hm_4 (by first | assumption | exact z_lt (by assumption) | exact z_lt2 (by assumption) | exact z_lt3 (by assumption) (by first | assumption | decide))
  have T_4 : ∀ (x1_4 : Int32) (x2_4 : Int32), ∃ r, D_X0_ever_4 Q M zFu x1_4 x2_4 = some r ∧ (True) := fun x1_4 x2_4 => TL_4 zFu x1_4 x2_4 (zFu_up _)
  unfold D_X0_ever
  exact T_4 _ _
set_option maxRecDepth 100000 in
set_option maxHeartbeats 4000000 in
theorem v_X0_tagsOf {Q : Nat} {M : zMt} {v0 : Int32}  : ∃ r, D_X0_tagsOf Q M v0 = some r ∧ (True) := by
  have TL_4 : ∀ u : Nat, ∀ (x1_4 : Int32) (x2_4 : Int32) (x3_4 : Int32), (2147483648 - Int32.toInt x3_4).toNat < u → ∃ r, D_X0_tagsOf_4 Q M u x1_4 x2_4 x3_4 = some r ∧ (True) := by
    intro u
    induction u with
    | zero => intro x1_4 x2_4 x3_4 hm_4; exact absurd hm_4 (Nat.not_lt_zero _)
    | succ u_4 ih_4 =>
      have T_34 : ∀ (x1_34 : Int32) (x3_34 : Int32) (y0_34 : Int32) (y1_34 : Int32), ((2147483648 - Int32.toInt x3_34).toNat < u_4 + 1) → (Int32.toInt x3_34 < 2147483647) → ∃ r, D_X0_tagsOf_34 Q M (D_X0_tagsOf_4 Q M u_4) x1_34 x3_34 y0_34 y1_34 = some r ∧ (True) := by
        intro x1_34 x3_34 y0_34 y1_34 f0_34 f1_34
        unfold D_X0_tagsOf_34
        exact ih_4 _ _ _ (z_up1 f1_34 f0_34)
      intro x1_4 x2_4 x3_4 hm_4
      rw [D_X0_tagsOf_4]
      refine vIf (fun h_9 => ?_) (fun h_9 => ?_)
      · exact ⟨_, rfl, trivial⟩
      · refine vIf (fun h_19 => ?_) (fun h_19 => ?_)
        · exact T_34 _ _ _ _ hm_4 (by first | assumption | exact z_lt (by assumption) | exact z_lt2 (by assumption) | exact z_lt3 (by assumption) (by first | assumption | decide))
        · exact T_34 _ _ _ _ hm_4 (by first | assumption | exact z_lt (by assumption) | exact z_lt2 (by assumption) | exact z_lt3 (by assumption) (by first | assumption | decide))
  have T_4 : ∀ (x1_4 : Int32) (x2_4 : Int32) (x3_4 : Int32), ∃ r, D_X0_tagsOf_4 Q M zFu x1_4 x2_4 x3_4 = some r ∧ (True) := fun x1_4 x2_4 x3_4 => TL_4 zFu x1_4 x2_4 x3_4 (zFu_up _)
  unfold D_X0_tagsOf
  exact T_4 _ _ _
set_option maxRecDepth 100000 in
set_option maxHeartbeats 4000000 in
theorem v_X0_fewestTags {Q : Nat} {A : Nat} {M : zMt}   : ∃ r, D_X0_fewestTags Q A M = some r ∧ (True) := by
  have TL_5 : ∀ u : Nat, ∀ (x2_5 : Int32) (x3_5 : Int32), (2147483648 - Int32.toInt x3_5).toNat < u → ∃ r, D_X0_fewestTags_5 Q A M u x2_5 x3_5 = some r ∧ (True) := by
    intro u
    induction u with
    | zero => intro x2_5 x3_5 hm_5; exact absurd hm_5 (Nat.not_lt_zero _)
    | succ u_5 ih_5 =>
      have T_34 : ∀ (x2_34 : Int32) (x3_34 : Int32), ((2147483648 - Int32.toInt x3_34).toNat < u_5 + 1) → (Int32.toInt x3_34 < 2147483647) → ∃ r, D_X0_fewestTags_34 Q A M (D_X0_fewestTags_5 Q A M u_5) x2_34 x3_34 = some r ∧ (True) := by
        intro x2_34 x3_34 f0_34 f1_34
        unfold D_X0_fewestTags_34
        exact ih_5 _ _ (z_up1 f1_34 f0_34)
      intro x2_5 x3_5 hm_5
      rw [D_X0_fewestTags_5]
      refine vIf (fun h_9 => ?_) (fun h_9 => ?_)
      · exact ⟨_, rfl, trivial⟩
      · refine vIf (fun h_21 => ?_) (fun h_21 => ?_)
        · refine vB (v_X0_tagsOf) (fun e_27 f_27 q_27 => ?_)
          exact T_34 _ _ hm_5 (by first | assumption | exact z_lt (by assumption) | exact z_lt2 (by assumption) | exact z_lt3 (by assumption) (by first | assumption | decide))
        · exact T_34 _ _ hm_5 (by first | assumption | exact z_lt (by assumption) | exact z_lt2 (by assumption) | exact z_lt3 (by assumption) (by first | assumption | decide))
  have T_5 : ∀ (x2_5 : Int32) (x3_5 : Int32), ∃ r, D_X0_fewestTags_5 Q A M zFu x2_5 x3_5 = some r ∧ (True) := fun x2_5 x3_5 => TL_5 zFu x2_5 x3_5 (zFu_up _)
  unfold D_X0_fewestTags
  exact T_5 _ _
set_option maxRecDepth 100000 in
set_option maxHeartbeats 4000000 in
theorem v_X0_mostTags {Q : Nat} {A : Nat} {M : zMt}   : ∃ r, D_X0_mostTags Q A M = some r ∧ (True) := by
  have TL_4 : ∀ u : Nat, ∀ (x2_4 : Int32) (x3_4 : Int32), (2147483648 - Int32.toInt x3_4).toNat < u → ∃ r, D_X0_mostTags_4 Q A M u x2_4 x3_4 = some r ∧ (True) := by
    intro u
    induction u with
    | zero => intro x2_4 x3_4 hm_4; exact absurd hm_4 (Nat.not_lt_zero _)
    | succ u_4 ih_4 =>
      have T_33 : ∀ (x2_33 : Int32) (x3_33 : Int32), ((2147483648 - Int32.toInt x3_33).toNat < u_4 + 1) → (Int32.toInt x3_33 < 2147483647) → ∃ r, D_X0_mostTags_33 Q A M (D_X0_mostTags_4 Q A M u_4) x2_33 x3_33 = some r ∧ (True) := by
        intro x2_33 x3_33 f0_33 f1_33
        unfold D_X0_mostTags_33
        exact ih_4 _ _ (z_up1 f1_33 f0_33)
      intro x2_4 x3_4 hm_4
      rw [D_X0_mostTags_4]
      refine vIf (fun h_8 => ?_) (fun h_8 => ?_)
      · exact ⟨_, rfl, trivial⟩
      · refine vIf (fun h_20 => ?_) (fun h_20 => ?_)
        · refine vB (v_X0_tagsOf) (fun e_26 f_26 q_26 => ?_)
          exact T_33 _ _ hm_4 (by first | assumption | exact z_lt (by assumption) | exact z_lt2 (by assumption) | exact z_lt3 (by assumption) (by first | assumption | decide))
        · exact T_33 _ _ hm_4 (by first | assumption | exact z_lt (by assumption) | exact z_lt2 (by assumption) | exact z_lt3 (by assumption) (by first | assumption | decide))
  have T_4 : ∀ (x2_4 : Int32) (x3_4 : Int32), ∃ r, D_X0_mostTags_4 Q A M zFu x2_4 x3_4 = some r ∧ (True) := fun x2_4 x3_4 => TL_4 zFu x2_4 x3_4 (zFu_up _)
  unfold D_X0_mostTags
  exact T_4 _ _
def WM_X1_forget (Q : Nat) (a j : Nat) : Prop := (a = Q ∧ (j = 0))
set_option maxRecDepth 100000 in
set_option maxHeartbeats 4000000 in
theorem v_X1_forget {Q : Nat}  {M0 : zMt}  : ∃ r, D_X1_forget Q M0 = some r ∧ ((∀ a j, ¬ WM_X1_forget Q a j → r a j = M0 a j)) := by
  unfold D_X1_forget
  refine vLm (W := WM_X1_forget Q) (fun a j h => (zu_ne (by unfold WM_X1_forget at h; omega))) (fun M_2 f_2 k_2 => ?_)
  exact ⟨_, rfl, k_2⟩
def WM_X2_gatherUnits (Q A : Nat) (a j : Nat) : Prop := (Q + 1 ≤ a ∧ a < Q + 4) ∨ (a = Q ∧ (j = 0 ∨ j = 3))
set_option maxRecDepth 100000 in
set_option maxHeartbeats 4000000 in
theorem v_X2_gatherUnits {Q : Nat} {A : Nat}  {M0 : zMt}  : ∃ r, D_X2_gatherUnits Q A M0 = some r ∧ ((∀ a j, ¬ WM_X2_gatherUnits Q A a j → r a j = M0 a j)) := by
  have TL_15 : ∀ u : Nat, ∀ (x2_15 : Int32) (M_15 : zMt), (∀ a j, ¬ WM_X2_gatherUnits Q A a j → M_15 a j = M0 a j) → (M_15 Q 3 = 0 ∨ M_15 Q 3 = 1) → (2147483648 - Int32.toInt x2_15).toNat < u → ∃ r, D_X2_gatherUnits_15 Q A u x2_15 M_15 = some r ∧ ((∀ a j, ¬ WM_X2_gatherUnits Q A a j → r a j = M0 a j)) := by
    intro u
    induction u with
    | zero => intro x2_15 M_15 k_15 f0_15 hm_15; exact absurd hm_15 (Nat.not_lt_zero _)
    | succ u_15 ih_15 =>
      have T_96 : ∀ (x2_96 : Int32) (y1_96 : Int32) (y2_96 : Int32) (M_96 : zMt), (∀ a j, ¬ WM_X2_gatherUnits Q A a j → M_96 a j = M0 a j) → (y2_96 = 0 ∨ y2_96 = 1) → ((2147483648 - Int32.toInt x2_96).toNat < u_15 + 1) → (Int32.toInt x2_96 < 2147483647) → (y1_96 = 0 ∨ y1_96 = 1) → ∃ r, D_X2_gatherUnits_96 Q A (D_X2_gatherUnits_15 Q A u_15) x2_96 y1_96 y2_96 M_96 = some r ∧ ((∀ a j, ¬ WM_X2_gatherUnits Q A a j → r a j = M0 a j)) := by
        intro x2_96 y1_96 y2_96 M_96 k_96 f0_96 f1_96 f2_96 f3_96
        unfold D_X2_gatherUnits_96
        refine vO (z_or01 (by assumption) (by assumption)) ?_
        refine vLm (W := WM_X2_gatherUnits Q A) (fun a j h => (zu_ne (by unfold WM_X2_gatherUnits at h; omega)).trans (k_96 a j h)) (fun M_97 f_97 k_97 => ?_)
        exact ih_15 _ _ k_97 (by first | (rw [← f_10]; exact Or.inl zu_eq) | (rw [← f_97, zu_eq]; exact z_or01 (by assumption) (by assumption))) (z_up1 f2_96 f1_96)
      intro x2_15 M_15 k_15 f0_15 hm_15
      rw [D_X2_gatherUnits_15]
      refine vIf (fun h_20 => ?_) (fun h_20 => ?_)
      · exact ⟨_, rfl, k_15⟩
      · refine vLm (W := WM_X2_gatherUnits Q A) (fun a j h => (congrFun (zwr_row (by unfold WM_X2_gatherUnits at h; omega)) j).trans (k_15 a j h)) (fun M_38 f_38 k_38 => ?_)
        refine vLm (W := WM_X2_gatherUnits Q A) (fun a j h => (congrFun (zwr_row (by unfold WM_X2_gatherUnits at h; omega)) j).trans (k_38 a j h)) (fun M_55 f_55 k_55 => ?_)
        refine vLm (W := WM_X2_gatherUnits Q A) (fun a j h => (congrFun (zwr_row (by unfold WM_X2_gatherUnits at h; omega)) j).trans (k_55 a j h)) (fun M_72 f_72 k_72 => ?_)
        refine vIf (fun h_88 => ?_) (fun h_88 => ?_)
        · exact T_96 _ _ _ _ k_72 (by first | exact Or.inl rfl | exact Or.inr rfl | assumption) hm_15 (by first | assumption | exact z_lt (by assumption) | exact z_lt2 (by assumption) | exact z_lt3 (by assumption) (by first | assumption | decide)) (by rw [← f_72, congrFun (zwr_row (show Q ≠ Q + 3 by omega)) 3, ← f_55, congrFun (zwr_row (show Q ≠ Q + 2 by omega)) 3, ← f_38, congrFun (zwr_row (show Q ≠ Q + 1 by omega)) 3]; assumption)
        · exact T_96 _ _ _ _ k_72 (by first | exact Or.inl rfl | exact Or.inr rfl | assumption) hm_15 (by first | assumption | exact z_lt (by assumption) | exact z_lt2 (by assumption) | exact z_lt3 (by assumption) (by first | assumption | decide)) (by rw [← f_72, congrFun (zwr_row (show Q ≠ Q + 3 by omega)) 3, ← f_55, congrFun (zwr_row (show Q ≠ Q + 2 by omega)) 3, ← f_38, congrFun (zwr_row (show Q ≠ Q + 1 by omega)) 3]; assumption)
  have T_15 : ∀ (x2_15 : Int32) (M_15 : zMt), (∀ a j, ¬ WM_X2_gatherUnits Q A a j → M_15 a j = M0 a j) → (M_15 Q 3 = 0 ∨ M_15 Q 3 = 1) → ∃ r, D_X2_gatherUnits_15 Q A zFu x2_15 M_15 = some r ∧ ((∀ a j, ¬ WM_X2_gatherUnits Q A a j → r a j = M0 a j)) := fun x2_15 M_15 k_15 f0_15 => TL_15 zFu x2_15 M_15 k_15 f0_15 (zFu_up _)
  unfold D_X2_gatherUnits
  refine vLm (W := WM_X2_gatherUnits Q A) (fun a j h => (zu_ne (by unfold WM_X2_gatherUnits at h; omega))) (fun M_5 f_5 k_5 => ?_)
  refine vLm (W := WM_X2_gatherUnits Q A) (fun a j h => (zu_ne (by unfold WM_X2_gatherUnits at h; omega)).trans (k_5 a j h)) (fun M_10 f_10 k_10 => ?_)
  exact T_15 _ _ k_10 (by first | (rw [← f_10]; exact Or.inl zu_eq) | (rw [← f_97, zu_eq]; exact z_or01 (by assumption) (by assumption)))
def WM_X2_open (Q : Nat) (a j : Nat) : Prop := (Q + 5 ≤ a ∧ a < Q + 8) ∨ (Q + 9 ≤ a ∧ a < Q + 11) ∨ (a = Q ∧ (j = 1))
set_option maxRecDepth 100000 in
set_option maxHeartbeats 4000000 in
theorem v_X2_open {Q : Nat} {v0 : Int32} {M0 : zMt}  : ∃ r, D_X2_open Q v0 M0 = some r ∧ ((∀ a j, ¬ WM_X2_open Q a j → r a j = M0 a j)) := by
  unfold D_X2_open
  refine vLm (W := WM_X2_open Q) (fun a j h => (congrFun (zwr_row (by unfold WM_X2_open at h; omega)) j)) (fun M_9 f_9 k_9 => ?_)
  refine vLm (W := WM_X2_open Q) (fun a j h => (congrFun (zwr_row (by unfold WM_X2_open at h; omega)) j).trans (k_9 a j h)) (fun M_21 f_21 k_21 => ?_)
  refine vLm (W := WM_X2_open Q) (fun a j h => (congrFun (zwr_row (by unfold WM_X2_open at h; omega)) j).trans (k_21 a j h)) (fun M_33 f_33 k_33 => ?_)
  refine vLm (W := WM_X2_open Q) (fun a j h => (congrFun (zwr_row (by unfold WM_X2_open at h; omega)) j).trans (k_33 a j h)) (fun M_45 f_45 k_45 => ?_)
  refine vLm (W := WM_X2_open Q) (fun a j h => (congrFun (zwr_row (by unfold WM_X2_open at h; omega)) j).trans (k_45 a j h)) (fun M_57 f_57 k_57 => ?_)
  refine vLm (W := WM_X2_open Q) (fun a j h => (zu_ne (by unfold WM_X2_open at h; omega)).trans (k_57 a j h)) (fun M_67 f_67 k_67 => ?_)
  exact ⟨_, rfl, k_67⟩
def WM_X2_join (Q A : Nat) (a j : Nat) : Prop := (Q + 4 ≤ a ∧ a < Q + 8) ∨ (Q + 9 ≤ a ∧ a < Q + 10) ∨ (Q + 11 ≤ a ∧ a < Q + 13)
set_option maxRecDepth 100000 in
set_option maxHeartbeats 4000000 in
theorem v_X2_join {Q : Nat} {A : Nat} {v0 : Int32} {M0 : zMt}  : ∃ r, D_X2_join Q A v0 M0 = some r ∧ ((∀ a j, ¬ WM_X2_join Q A a j → r a j = M0 a j)) := by
  have TL_87 : ∀ u : Nat, ∀ (x2_87 : Int32) (x3_87 : Int32) (x4_87 : Int32) (M_87 : zMt), (∀ a j, ¬ WM_X2_join Q A a j → M_87 a j = M0 a j) → (2147483648 - Int32.toInt x4_87).toNat < u → ∃ r, D_X2_join_87 Q A u x2_87 x3_87 x4_87 M_87 = some r ∧ ((∀ a j, ¬ WM_X2_join Q A a j → r a j = M0 a j)) := by
    intro u
    induction u with
    | zero => intro x2_87 x3_87 x4_87 M_87 k_87 hm_87; exact absurd hm_87 (Nat.not_lt_zero _)
    | succ u_87 ih_87 =>
      intro x2_87 x3_87 x4_87 M_87 k_87 hm_87
      rw [D_X2_join_87]
      refine vIf (fun h_90 => ?_) (fun h_90 => ?_)
      · exact ⟨_, rfl, k_87⟩
      · refine vLm (W := WM_X2_join Q A) (fun a j h => (congrFun (zwr_row (by unfold WM_X2_join at h; omega)) j).trans (k_87 a j h)) (fun M_116 f_116 k_116 => ?_)
        exact ih_87 _ _ _ _ k_116 (z_up1 (by first | assumption | exact z_lt (by assumption) | exact z_lt2 (by assumption) | exact z_lt3 (by assumption) (by first | assumption | decide)) hm_87)
  have T_87 : ∀ (x2_87 : Int32) (x3_87 : Int32) (x4_87 : Int32) (M_87 : zMt), (∀ a j, ¬ WM_X2_join Q A a j → M_87 a j = M0 a j) → ∃ r, D_X2_join_87 Q A zFu x2_87 x3_87 x4_87 M_87 = some r ∧ ((∀ a j, ¬ WM_X2_join Q A a j → r a j = M0 a j)) := fun x2_87 x3_87 x4_87 M_87 k_87 => TL_87 zFu x2_87 x3_87 x4_87 M_87 k_87 (zFu_up _)
  unfold D_X2_join
  refine vLm (W := WM_X2_join Q A) (fun a j h => (congrFun (zwr_row (by unfold WM_X2_join at h; omega)) j)) (fun M_13 f_13 k_13 => ?_)
  refine vLm (W := WM_X2_join Q A) (fun a j h => (congrFun (zwr_row (by unfold WM_X2_join at h; omega)) j).trans (k_13 a j h)) (fun M_22 f_22 k_22 => ?_)
  refine vLm (W := WM_X2_join Q A) (fun a j h => (congrFun (zwr_row (by unfold WM_X2_join at h; omega)) j).trans (k_22 a j h)) (fun M_38 f_38 k_38 => ?_)
  refine vLm (W := WM_X2_join Q A) (fun a j h => (congrFun (zwr_row (by unfold WM_X2_join at h; omega)) j).trans (k_38 a j h)) (fun M_54 f_54 k_54 => ?_)
  refine vLm (W := WM_X2_join Q A) (fun a j h => (congrFun (zwr_row (by unfold WM_X2_join at h; omega)) j).trans (k_54 a j h)) (fun M_65 f_65 k_65 => ?_)
  refine vLm (W := WM_X2_join Q A) (fun a j h => (congrFun (zwr_row (by unfold WM_X2_join at h; omega)) j).trans (k_65 a j h)) (fun M_81 f_81 k_81 => ?_)
  exact T_87 _ _ _ _ k_81
def WM_X2_close (Q : Nat) (a j : Nat) : Prop := (Q + 7 ≤ a ∧ a < Q + 9)
set_option maxRecDepth 100000 in
set_option maxHeartbeats 4000000 in
theorem v_X2_close {Q : Nat} {v0 : Int32} {v1 : Int32} {M0 : zMt}  : ∃ r, D_X2_close Q v0 v1 M0 = some r ∧ ((∀ a j, ¬ WM_X2_close Q a j → r a j = M0 a j)) := by
  have T_72 : ∀ (y1_72 : Int32) (y2_72 : Int32) (M_72 : zMt), (∀ a j, ¬ WM_X2_close Q a j → M_72 a j = M0 a j) → ∃ r, D_X2_close_72 Q y1_72 y2_72 M_72 = some r ∧ ((∀ a j, ¬ WM_X2_close Q a j → r a j = M0 a j)) := by
    intro y1_72 y2_72 M_72 k_72
    unfold D_X2_close_72
    refine vLm (W := WM_X2_close Q) (fun a j h => (congrFun (zwr_row (by unfold WM_X2_close at h; omega)) j).trans (k_72 a j h)) (fun M_72 f_72 k_72 => ?_)
    exact ⟨_, rfl, k_72⟩
  have T_27 : ∀ (x1_27 : Int32) (x2_27 : Int32) (y0_27 : Int32) (M_27 : zMt), (∀ a j, ¬ WM_X2_close Q a j → M_27 a j = M0 a j) → ∃ r, D_X2_close_27 Q x1_27 x2_27 y0_27 M_27 = some r ∧ ((∀ a j, ¬ WM_X2_close Q a j → r a j = M0 a j)) := by
    intro x1_27 x2_27 y0_27 M_27 k_27
    unfold D_X2_close_27
    refine vLm (W := WM_X2_close Q) (fun a j h => (congrFun (zwr_row (by unfold WM_X2_close at h; omega)) j).trans (k_27 a j h)) (fun M_36 f_36 k_36 => ?_)
    refine vIf (fun h_46 => ?_) (fun h_46 => ?_)
    · exact T_72 _ _ _ k_36
    · refine vIf (fun h_61 => ?_) (fun h_61 => ?_)
      · exact T_72 _ _ _ k_36
      · exact T_72 _ _ _ k_36
  unfold D_X2_close
  refine vIf (fun h_10 => ?_) (fun h_10 => ?_)
  · exact T_27 _ _ _ _ (fun _ _ _ => rfl)
  · refine vZ (by first | assumption | exact z_nzl (by assumption)) ?_
    exact T_27 _ _ _ _ (fun _ _ _ => rfl)
def WM_X2_gather (Q A : Nat) (a j : Nat) : Prop := (Q + 1 ≤ a ∧ a < Q + 13) ∨ (a = Q ∧ (j = 0 ∨ j = 1 ∨ j = 2 ∨ j = 3))
set_option maxRecDepth 100000 in
set_option maxHeartbeats 4000000 in
theorem v_X2_gather {Q : Nat} {A : Nat}  {M0 : zMt}  : ∃ r, D_X2_gather Q A M0 = some r ∧ ((∀ a j, ¬ WM_X2_gather Q A a j → r a j = M0 a j)) := by
  have TL_111 : ∀ u : Nat, ∀ (x2_111 : Int32) (M_111 : zMt), (∀ a j, ¬ WM_X2_gather Q A a j → M_111 a j = M0 a j) → (2147483648 - Int32.toInt x2_111).toNat < u → ∃ r, D_X2_gather_111 Q A u x2_111 M_111 = some r ∧ ((∀ a j, ¬ WM_X2_gather Q A a j → r a j = M0 a j)) := by
    intro u
    induction u with
    | zero => intro x2_111 M_111 k_111 hm_111; exact absurd hm_111 (Nat.not_lt_zero _)
    | succ u_111 ih_111 =>
      intro x2_111 M_111 k_111 hm_111
      rw [D_X2_gather_111]
      refine vIf (fun h_116 => ?_) (fun h_116 => ?_)
      · exact ⟨_, rfl, k_111⟩
      · refine vB (v_X2_close) (fun e_125 f_125 q_125 => ?_)
        have k_125 : ∀ a j, ¬ WM_X2_gather Q A a j → e_125 a j = M0 a j := fun a j h => (q_125 a j (by unfold WM_X2_close; unfold WM_X2_gather at h; omega)).trans (k_111 a j h)
        refine vLm (W := WM_X2_gather Q A) (fun a j h => (zu_ne (by unfold WM_X2_gather at h; omega)).trans (k_125 a j h)) (fun M_142 f_142 k_142 => ?_)
        exact ih_111 _ _ k_142 (z_up1 (by first | assumption | exact z_lt (by assumption) | exact z_lt2 (by assumption) | exact z_lt3 (by assumption) (by first | assumption | decide)) hm_111)
  have T_111 : ∀ (x2_111 : Int32) (M_111 : zMt), (∀ a j, ¬ WM_X2_gather Q A a j → M_111 a j = M0 a j) → ∃ r, D_X2_gather_111 Q A zFu x2_111 M_111 = some r ∧ ((∀ a j, ¬ WM_X2_gather Q A a j → r a j = M0 a j)) := fun x2_111 M_111 k_111 => TL_111 zFu x2_111 M_111 k_111 (zFu_up _)
  have TL_51 : ∀ u : Nat, ∀ (x2_51 : Int32) (M_51 : zMt), (∀ a j, ¬ WM_X2_gather Q A a j → M_51 a j = M0 a j) → (2147483648 - Int32.toInt x2_51).toNat < u → ∃ r, D_X2_gather_51 Q A u x2_51 M_51 = some r ∧ ((∀ a j, ¬ WM_X2_gather Q A a j → r a j = M0 a j)) := by
    intro u
    induction u with
    | zero => intro x2_51 M_51 k_51 hm_51; exact absurd hm_51 (Nat.not_lt_zero _)
    | succ u_51 ih_51 =>
      have TL_66 : ∀ u : Nat, ∀ (x2_66 : Int32) (x3_66 : Int32) (M_66 : zMt), (∀ a j, ¬ WM_X2_gather Q A a j → M_66 a j = M0 a j) → ((2147483648 - Int32.toInt x2_66).toNat < u_51 + 1) → (Int32.toInt x2_66 < 2147483647) → (2147483648 - Int32.toInt x3_66).toNat < u → ∃ r, D_X2_gather_66 Q A (D_X2_gather_51 Q A u_51) u x2_66 x3_66 M_66 = some r ∧ ((∀ a j, ¬ WM_X2_gather Q A a j → r a j = M0 a j)) := by
        intro u
        induction u with
        | zero => intro x2_66 x3_66 M_66 k_66 f0_66 f1_66 hm_66; exact absurd hm_66 (Nat.not_lt_zero _)
        | succ u_66 ih_66 =>
          have T_92 : ∀ (x2_92 : Int32) (x3_92 : Int32) (M_92 : zMt), (∀ a j, ¬ WM_X2_gather Q A a j → M_92 a j = M0 a j) → ((2147483648 - Int32.toInt x2_92).toNat < u_51 + 1) → (Int32.toInt x2_92 < 2147483647) → ((2147483648 - Int32.toInt x3_92).toNat < u_66 + 1) → (Int32.toInt x3_92 < 2147483647) → ∃ r, D_X2_gather_92 Q A (D_X2_gather_51 Q A u_51) (D_X2_gather_66 Q A (D_X2_gather_51 Q A u_51) u_66) x2_92 x3_92 M_92 = some r ∧ ((∀ a j, ¬ WM_X2_gather Q A a j → r a j = M0 a j)) := by
            intro x2_92 x3_92 M_92 k_92 f0_92 f1_92 f2_92 f3_92
            unfold D_X2_gather_92
            exact ih_66 _ _ _ k_92 f0_92 f1_92 (z_up1 f3_92 f2_92)
          intro x2_66 x3_66 M_66 k_66 f0_66 f1_66 hm_66
          rw [D_X2_gather_66]
          refine vIf (fun h_71 => ?_) (fun h_71 => ?_)
          · exact ih_51 _ _ k_66 (z_up1 f1_66 f0_66)
          · refine vIf (fun h_83 => ?_) (fun h_83 => ?_)
            · refine vB (v_X2_join) (fun e_89 f_89 q_89 => ?_)
              have k_89 : ∀ a j, ¬ WM_X2_gather Q A a j → e_89 a j = M0 a j := fun a j h => (q_89 a j (by unfold WM_X2_join; unfold WM_X2_gather at h; omega)).trans (k_66 a j h)
              exact T_92 _ _ _ k_89 f0_66 f1_66 hm_66 (by first | assumption | exact z_lt (by assumption) | exact z_lt2 (by assumption) | exact z_lt3 (by assumption) (by first | assumption | decide))
            · exact T_92 _ _ _ k_66 f0_66 f1_66 hm_66 (by first | assumption | exact z_lt (by assumption) | exact z_lt2 (by assumption) | exact z_lt3 (by assumption) (by first | assumption | decide))
      have T_66 : ∀ (x2_66 : Int32) (x3_66 : Int32) (M_66 : zMt), (∀ a j, ¬ WM_X2_gather Q A a j → M_66 a j = M0 a j) → ((2147483648 - Int32.toInt x2_66).toNat < u_51 + 1) → (Int32.toInt x2_66 < 2147483647) → ∃ r, D_X2_gather_66 Q A (D_X2_gather_51 Q A u_51) zFu x2_66 x3_66 M_66 = some r ∧ ((∀ a j, ¬ WM_X2_gather Q A a j → r a j = M0 a j)) := fun x2_66 x3_66 M_66 k_66 f0_66 f1_66 => TL_66 zFu x2_66 x3_66 M_66 k_66 f0_66 f1_66 (zFu_up _)
      intro x2_51 M_51 k_51 hm_51
      rw [D_X2_gather_51]
      refine vIf (fun h_56 => ?_) (fun h_56 => ?_)
      · refine vLm (W := WM_X2_gather Q A) (fun a j h => (zu_ne (by unfold WM_X2_gather at h; omega)).trans (k_51 a j h)) (fun M_106 f_106 k_106 => ?_)
        exact T_111 _ _ k_106
      · refine vB (v_X2_open) (fun e_61 f_61 q_61 => ?_)
        have k_61 : ∀ a j, ¬ WM_X2_gather Q A a j → e_61 a j = M0 a j := fun a j h => (q_61 a j (by unfold WM_X2_open; unfold WM_X2_gather at h; omega)).trans (k_51 a j h)
        exact T_66 _ _ _ k_61 hm_51 (by first | assumption | exact z_lt (by assumption) | exact z_lt2 (by assumption) | exact z_lt3 (by assumption) (by first | assumption | decide))
  have T_51 : ∀ (x2_51 : Int32) (M_51 : zMt), (∀ a j, ¬ WM_X2_gather Q A a j → M_51 a j = M0 a j) → ∃ r, D_X2_gather_51 Q A zFu x2_51 M_51 = some r ∧ ((∀ a j, ¬ WM_X2_gather Q A a j → r a j = M0 a j)) := fun x2_51 M_51 k_51 => TL_51 zFu x2_51 M_51 k_51 (zFu_up _)
  have TL_12 : ∀ u : Nat, ∀ (x2_12 : Int32) (M_12 : zMt), (∀ a j, ¬ WM_X2_gather Q A a j → M_12 a j = M0 a j) → (2147483648 - Int32.toInt x2_12).toNat < u → ∃ r, D_X2_gather_12 Q A u x2_12 M_12 = some r ∧ ((∀ a j, ¬ WM_X2_gather Q A a j → r a j = M0 a j)) := by
    intro u
    induction u with
    | zero => intro x2_12 M_12 k_12 hm_12; exact absurd hm_12 (Nat.not_lt_zero _)
    | succ u_12 ih_12 =>
      have T_43 : ∀ (x2_43 : Int32) (M_43 : zMt), (∀ a j, ¬ WM_X2_gather Q A a j → M_43 a j = M0 a j) → ((2147483648 - Int32.toInt x2_43).toNat < u_12 + 1) → (Int32.toInt x2_43 < 2147483647) → ∃ r, D_X2_gather_43 Q A (D_X2_gather_12 Q A u_12) x2_43 M_43 = some r ∧ ((∀ a j, ¬ WM_X2_gather Q A a j → r a j = M0 a j)) := by
        intro x2_43 M_43 k_43 f0_43 f1_43
        unfold D_X2_gather_43
        exact ih_12 _ _ k_43 (z_up1 f1_43 f0_43)
      intro x2_12 M_12 k_12 hm_12
      rw [D_X2_gather_12]
      refine vIf (fun h_17 => ?_) (fun h_17 => ?_)
      · exact T_51 _ _ k_12
      · refine vIf (fun h_29 => ?_) (fun h_29 => ?_)
        · refine vB (v_X2_open) (fun e_34 f_34 q_34 => ?_)
          have k_34 : ∀ a j, ¬ WM_X2_gather Q A a j → e_34 a j = M0 a j := fun a j h => (q_34 a j (by unfold WM_X2_open; unfold WM_X2_gather at h; omega)).trans (k_12 a j h)
          refine vB (v_X2_join) (fun e_40 f_40 q_40 => ?_)
          have k_40 : ∀ a j, ¬ WM_X2_gather Q A a j → e_40 a j = M0 a j := fun a j h => (q_40 a j (by unfold WM_X2_join; unfold WM_X2_gather at h; omega)).trans (k_34 a j h)
          exact T_43 _ _ k_40 hm_12 (by first | assumption | exact z_lt (by assumption) | exact z_lt2 (by assumption) | exact z_lt3 (by assumption) (by first | assumption | decide))
        · exact T_43 _ _ k_12 hm_12 (by first | assumption | exact z_lt (by assumption) | exact z_lt2 (by assumption) | exact z_lt3 (by assumption) (by first | assumption | decide))
  have T_12 : ∀ (x2_12 : Int32) (M_12 : zMt), (∀ a j, ¬ WM_X2_gather Q A a j → M_12 a j = M0 a j) → ∃ r, D_X2_gather_12 Q A zFu x2_12 M_12 = some r ∧ ((∀ a j, ¬ WM_X2_gather Q A a j → r a j = M0 a j)) := fun x2_12 M_12 k_12 => TL_12 zFu x2_12 M_12 k_12 (zFu_up _)
  unfold D_X2_gather
  refine vB (v_X2_gatherUnits) (fun e_2 f_2 q_2 => ?_)
  have k_2 : ∀ a j, ¬ WM_X2_gather Q A a j → e_2 a j = M0 a j := fun a j h => (q_2 a j (by unfold WM_X2_gatherUnits; unfold WM_X2_gather at h; omega))
  refine vLm (W := WM_X2_gather Q A) (fun a j h => (zu_ne (by unfold WM_X2_gather at h; omega)).trans (k_2 a j h)) (fun M_7 f_7 k_7 => ?_)
  exact T_12 _ _ k_7
set_option maxRecDepth 100000 in
set_option maxHeartbeats 4000000 in
theorem v_X2_rankOf {Q : Nat} {M : zMt} {v0 : Int32} {v1 : Int32}  : ∃ r, D_X2_rankOf Q M v0 v1 = some r ∧ (True) := by
  have TL_2 : ∀ u : Nat, ∀ (x1_2 : Int32) (x2_2 : Int32) (x3_2 : Int32), (2147483648 - Int32.toInt x3_2).toNat < u → ∃ r, D_X2_rankOf_2 Q M u x1_2 x2_2 x3_2 = some r ∧ (True) := by
    intro u
    induction u with
    | zero => intro x1_2 x2_2 x3_2 hm_2; exact absurd hm_2 (Nat.not_lt_zero _)
    | succ u_2 ih_2 =>
      intro x1_2 x2_2 x3_2 hm_2
      rw [D_X2_rankOf_2]
      refine vIf (fun h_11 => ?_) (fun h_11 => ?_)
      · exact ⟨_, rfl, trivial⟩
      · refine vB (v_X2_wish) (fun e_17 f_17 q_17 => ?_)
        refine vIf (fun h_21 => ?_) (fun h_21 => ?_)
        · exact ⟨_, rfl, trivial⟩
        · exact ih_2 _ _ _ (z_up1 (by first | assumption | exact z_lt (by assumption) | exact z_lt2 (by assumption) | exact z_lt3 (by assumption) (by first | assumption | decide)) hm_2)
  have T_2 : ∀ (x1_2 : Int32) (x2_2 : Int32) (x3_2 : Int32), ∃ r, D_X2_rankOf_2 Q M zFu x1_2 x2_2 x3_2 = some r ∧ (True) := fun x1_2 x2_2 x3_2 => TL_2 zFu x1_2 x2_2 x3_2 (zFu_up _)
  unfold D_X2_rankOf
  exact T_2 _ _ _
set_option maxRecDepth 100000 in
set_option maxHeartbeats 4000000 in
theorem v_X2_firstApplicants {Q : Nat} {M : zMt} {v0 : Int32}  : ∃ r, D_X2_firstApplicants Q M v0 = some r ∧ (True) := by
  have TL_4 : ∀ u : Nat, ∀ (x1_4 : Int32) (x2_4 : Int32) (x3_4 : Int32), (2147483648 - Int32.toInt x3_4).toNat < u → ∃ r, D_X2_firstApplicants_4 Q M u x1_4 x2_4 x3_4 = some r ∧ (True) := by
    intro u
    induction u with
    | zero => intro x1_4 x2_4 x3_4 hm_4; exact absurd hm_4 (Nat.not_lt_zero _)
    | succ u_4 ih_4 =>
      have T_27 : ∀ (x1_27 : Int32) (x3_27 : Int32) (y0_27 : Int32) (y1_27 : Int32), (y1_27 = 0 ∨ y1_27 = 1) → ((2147483648 - Int32.toInt x3_27).toNat < u_4 + 1) → (Int32.toInt x3_27 < 2147483647) → ∃ r, D_X2_firstApplicants_27 Q M (D_X2_firstApplicants_4 Q M u_4) x1_27 x3_27 y0_27 y1_27 = some r ∧ (True) := by
        intro x1_27 x3_27 y0_27 y1_27 f0_27 f1_27 f2_27
        unfold D_X2_firstApplicants_27
        exact ih_4 _ _ _ (z_up1 f2_27 f1_27)
      intro x1_4 x2_4 x3_4 hm_4
      rw [D_X2_firstApplicants_4]
      refine vIf (fun h_9 => ?_) (fun h_9 => ?_)
      · exact ⟨_, rfl, trivial⟩
      · refine vB (v_X2_rankOf) (fun e_16 f_16 q_16 => ?_)
        refine vIf (fun h_19 => ?_) (fun h_19 => ?_)
        · exact T_27 _ _ _ _ (by first | exact Or.inl rfl | exact Or.inr rfl | assumption) hm_4 (by first | assumption | exact z_lt (by assumption) | exact z_lt2 (by assumption) | exact z_lt3 (by assumption) (by first | assumption | decide))
        · exact T_27 _ _ _ _ (by first | exact Or.inl rfl | exact Or.inr rfl | assumption) hm_4 (by first | assumption | exact z_lt (by assumption) | exact z_lt2 (by assumption) | exact z_lt3 (by assumption) (by first | assumption | decide))
  have T_4 : ∀ (x1_4 : Int32) (x2_4 : Int32) (x3_4 : Int32), ∃ r, D_X2_firstApplicants_4 Q M zFu x1_4 x2_4 x3_4 = some r ∧ (True) := fun x1_4 x2_4 x3_4 => TL_4 zFu x1_4 x2_4 x3_4 (zFu_up _)
  unfold D_X2_firstApplicants
  exact T_4 _ _ _
set_option maxRecDepth 100000 in
set_option maxHeartbeats 4000000 in
theorem v_X2_firstHunters {Q : Nat} {M : zMt} {v0 : Int32}  : ∃ r, D_X2_firstHunters Q M v0 = some r ∧ (True) := by
  have TL_4 : ∀ u : Nat, ∀ (x1_4 : Int32) (x2_4 : Int32) (x3_4 : Int32), (2147483648 - Int32.toInt x3_4).toNat < u → ∃ r, D_X2_firstHunters_4 Q M u x1_4 x2_4 x3_4 = some r ∧ (True) := by
    intro u
    induction u with
    | zero => intro x1_4 x2_4 x3_4 hm_4; exact absurd hm_4 (Nat.not_lt_zero _)
    | succ u_4 ih_4 =>
      have T_34 : ∀ (x1_34 : Int32) (x3_34 : Int32) (y0_34 : Int32) (y1_34 : Int32), ((2147483648 - Int32.toInt x3_34).toNat < u_4 + 1) → (Int32.toInt x3_34 < 2147483647) → ∃ r, D_X2_firstHunters_34 Q M (D_X2_firstHunters_4 Q M u_4) x1_34 x3_34 y0_34 y1_34 = some r ∧ (True) := by
        intro x1_34 x3_34 y0_34 y1_34 f0_34 f1_34
        unfold D_X2_firstHunters_34
        exact ih_4 _ _ _ (z_up1 f1_34 f0_34)
      intro x1_4 x2_4 x3_4 hm_4
      rw [D_X2_firstHunters_4]
      refine vIf (fun h_9 => ?_) (fun h_9 => ?_)
      · exact ⟨_, rfl, trivial⟩
      · refine vB (v_X2_rankOf) (fun e_16 f_16 q_16 => ?_)
        refine vIf (fun h_19 => ?_) (fun h_19 => ?_)
        · exact T_34 _ _ _ _ hm_4 (by first | assumption | exact z_lt (by assumption) | exact z_lt2 (by assumption) | exact z_lt3 (by assumption) (by first | assumption | decide))
        · exact T_34 _ _ _ _ hm_4 (by first | assumption | exact z_lt (by assumption) | exact z_lt2 (by assumption) | exact z_lt3 (by assumption) (by first | assumption | decide))
  have T_4 : ∀ (x1_4 : Int32) (x2_4 : Int32) (x3_4 : Int32), ∃ r, D_X2_firstHunters_4 Q M zFu x1_4 x2_4 x3_4 = some r ∧ (True) := fun x1_4 x2_4 x3_4 => TL_4 zFu x1_4 x2_4 x3_4 (zFu_up _)
  unfold D_X2_firstHunters
  exact T_4 _ _ _
set_option maxRecDepth 100000 in
set_option maxHeartbeats 4000000 in
theorem v_X2_askers {Q : Nat} {M : zMt} {v0 : Int32}  : ∃ r, D_X2_askers Q M v0 = some r ∧ (True) := by
  have TL_4 : ∀ u : Nat, ∀ (x1_4 : Int32) (x2_4 : Int32) (x3_4 : Int32), (2147483648 - Int32.toInt x3_4).toNat < u → ∃ r, D_X2_askers_4 Q M u x1_4 x2_4 x3_4 = some r ∧ (True) := by
    intro u
    induction u with
    | zero => intro x1_4 x2_4 x3_4 hm_4; exact absurd hm_4 (Nat.not_lt_zero _)
    | succ u_4 ih_4 =>
      have T_28 : ∀ (x1_28 : Int32) (x3_28 : Int32) (y0_28 : Int32) (y1_28 : Int32), (y1_28 = 0 ∨ y1_28 = 1) → ((2147483648 - Int32.toInt x3_28).toNat < u_4 + 1) → (Int32.toInt x3_28 < 2147483647) → ∃ r, D_X2_askers_28 Q M (D_X2_askers_4 Q M u_4) x1_28 x3_28 y0_28 y1_28 = some r ∧ (True) := by
        intro x1_28 x3_28 y0_28 y1_28 f0_28 f1_28 f2_28
        unfold D_X2_askers_28
        exact ih_4 _ _ _ (z_up1 f2_28 f1_28)
      intro x1_4 x2_4 x3_4 hm_4
      rw [D_X2_askers_4]
      refine vIf (fun h_9 => ?_) (fun h_9 => ?_)
      · exact ⟨_, rfl, trivial⟩
      · refine vB (v_X2_rankOf) (fun e_16 f_16 q_16 => ?_)
        refine vIf (fun h_20 => ?_) (fun h_20 => ?_)
        · exact T_28 _ _ _ _ (by first | exact Or.inl rfl | exact Or.inr rfl | assumption) hm_4 (by first | assumption | exact z_lt (by assumption) | exact z_lt2 (by assumption) | exact z_lt3 (by assumption) (by first | assumption | decide))
        · exact T_28 _ _ _ _ (by first | exact Or.inl rfl | exact Or.inr rfl | assumption) hm_4 (by first | assumption | exact z_lt (by assumption) | exact z_lt2 (by assumption) | exact z_lt3 (by assumption) (by first | assumption | decide))
  have T_4 : ∀ (x1_4 : Int32) (x2_4 : Int32) (x3_4 : Int32), ∃ r, D_X2_askers_4 Q M zFu x1_4 x2_4 x3_4 = some r ∧ (True) := fun x1_4 x2_4 x3_4 => TL_4 zFu x1_4 x2_4 x3_4 (zFu_up _)
  unfold D_X2_askers
  exact T_4 _ _ _
def WM_X4_clear (Q : Nat) (a j : Nat) : Prop := (Q + 1 ≤ a ∧ a < Q + 8) ∨ (a = Q ∧ (j = 0 ∨ j = 1 ∨ j = 2 ∨ j = 3 ∨ j = 4 ∨ j = 5 ∨ j = 6))
set_option maxRecDepth 100000 in
set_option maxHeartbeats 4000000 in
theorem v_X4_clear {Q : Nat}  {M0 : zMt}  : ∃ r, D_X4_clear Q M0 = some r ∧ ((∀ a j, ¬ WM_X4_clear Q a j → r a j = M0 a j)) := by
  unfold D_X4_clear
  refine vLm (W := WM_X4_clear Q) (fun a j h => (zu_ne (by unfold WM_X4_clear at h; omega))) (fun M_2 f_2 k_2 => ?_)
  refine vLm (W := WM_X4_clear Q) (fun a j h => (zu_ne (by unfold WM_X4_clear at h; omega)).trans (k_2 a j h)) (fun M_7 f_7 k_7 => ?_)
  refine vLm (W := WM_X4_clear Q) (fun a j h => (zu_ne (by unfold WM_X4_clear at h; omega)).trans (k_7 a j h)) (fun M_12 f_12 k_12 => ?_)
  refine vLm (W := WM_X4_clear Q) (fun a j h => (zu_ne (by unfold WM_X4_clear at h; omega)).trans (k_12 a j h)) (fun M_17 f_17 k_17 => ?_)
  refine vLm (W := WM_X4_clear Q) (fun a j h => (zu_ne (by unfold WM_X4_clear at h; omega)).trans (k_17 a j h)) (fun M_22 f_22 k_22 => ?_)
  refine vLm (W := WM_X4_clear Q) (fun a j h => (zu_ne (by unfold WM_X4_clear at h; omega)).trans (k_22 a j h)) (fun M_28 f_28 k_28 => ?_)
  refine vLm (W := WM_X4_clear Q) (fun a j h => (zu_ne (by unfold WM_X4_clear at h; omega)).trans (k_28 a j h)) (fun M_33 f_33 k_33 => ?_)
  refine vLm (W := WM_X4_clear Q) (fun a j h => (congrFun (zfil_row (by unfold WM_X4_clear at h; omega)) j).trans (k_33 a j h)) (fun M_41 f_41 k_41 => ?_)
  refine vLm (W := WM_X4_clear Q) (fun a j h => (congrFun (zfil_row (by unfold WM_X4_clear at h; omega)) j).trans (k_41 a j h)) (fun M_49 f_49 k_49 => ?_)
  refine vLm (W := WM_X4_clear Q) (fun a j h => (congrFun (zfil_row (by unfold WM_X4_clear at h; omega)) j).trans (k_49 a j h)) (fun M_57 f_57 k_57 => ?_)
  refine vLm (W := WM_X4_clear Q) (fun a j h => (congrFun (zfil_row (by unfold WM_X4_clear at h; omega)) j).trans (k_57 a j h)) (fun M_65 f_65 k_65 => ?_)
  refine vLm (W := WM_X4_clear Q) (fun a j h => (congrFun (zfil_row (by unfold WM_X4_clear at h; omega)) j).trans (k_65 a j h)) (fun M_73 f_73 k_73 => ?_)
  refine vLm (W := WM_X4_clear Q) (fun a j h => (congrFun (zfil_row (by unfold WM_X4_clear at h; omega)) j).trans (k_73 a j h)) (fun M_81 f_81 k_81 => ?_)
  refine vLm (W := WM_X4_clear Q) (fun a j h => (congrFun (zfil_row (by unfold WM_X4_clear at h; omega)) j).trans (k_81 a j h)) (fun M_89 f_89 k_89 => ?_)
  exact ⟨_, rfl, k_89⟩
set_option maxRecDepth 100000 in
set_option maxHeartbeats 4000000 in
theorem v_X3_isBlank  {v0 : Int32}  : ∃ r, D_X3_isBlank v0 = some r ∧ ((r = 0 ∨ r = 1)) := by
  have T_17 : ∀ (y0_17 : Int32), (y0_17 = 0 ∨ y0_17 = 1) → ∃ r, D_X3_isBlank_17 y0_17 = some r ∧ ((r = 0 ∨ r = 1)) := by
    intro y0_17 f0_17
    unfold D_X3_isBlank_17
    exact ⟨_, rfl, (by first | exact Or.inl rfl | exact Or.inr rfl | assumption)⟩
  have T_12 : ∃ r, D_X3_isBlank_12 = some r ∧ ((r = 0 ∨ r = 1)) := by
    unfold D_X3_isBlank_12
    exact T_17 _ (by first | exact Or.inl rfl | exact Or.inr rfl | assumption)
  unfold D_X3_isBlank
  refine vIf (fun h_3 => ?_) (fun h_3 => ?_)
  · exact T_12
  · refine vIf (fun h_9 => ?_) (fun h_9 => ?_)
    · exact T_12
    · exact T_17 _ (by first | exact Or.inl rfl | exact Or.inr rfl | assumption)
set_option maxRecDepth 100000 in
set_option maxHeartbeats 4000000 in
theorem v_X3_isLetter  {v0 : Int32}  : ∃ r, D_X3_isLetter v0 = some r ∧ ((r = 0 ∨ r = 1)) := by
  have T_17 : ∀ (y0_17 : Int32), (y0_17 = 0 ∨ y0_17 = 1) → ∃ r, D_X3_isLetter_17 y0_17 = some r ∧ ((r = 0 ∨ r = 1)) := by
    intro y0_17 f0_17
    unfold D_X3_isLetter_17
    exact ⟨_, rfl, (by first | exact Or.inl rfl | exact Or.inr rfl | assumption)⟩
  have T_16 : ∃ r, D_X3_isLetter_16 = some r ∧ ((r = 0 ∨ r = 1)) := by
    unfold D_X3_isLetter_16
    exact T_17 _ (by first | exact Or.inl rfl | exact Or.inr rfl | assumption)
  unfold D_X3_isLetter
  refine vIf (fun h_3 => ?_) (fun h_3 => ?_)
  · exact T_16
  · refine vIf (fun h_9 => ?_) (fun h_9 => ?_)
    · exact T_16
    · exact T_17 _ (by first | exact Or.inl rfl | exact Or.inr rfl | assumption)
def WM_X3_stepWord (Q : Nat) (a j : Nat) : Prop := (a = Q ∧ (j = 5 ∨ j = 6))
def WN_X3_stepWord (Q : Nat) (a j : Nat) : Prop := (a = Q ∧ (j = 8))
set_option maxRecDepth 100000 in
set_option maxHeartbeats 4000000 in
theorem v_X3_stepWord {Q : Nat}  {M0 : zMt} {N0 : zNt}  : ∃ r, D_X3_stepWord Q M0 N0 = some r ∧ ((∀ a j, ¬ WM_X3_stepWord Q a j → r.1 a j = M0 a j) ∧ (∀ a j, ¬ WN_X3_stepWord Q a j → r.2 a j = N0 a j)) := by
  have T_96 : ∀ (y1_96 : Int32) (M_96 : zMt) (N_96 : zNt), (∀ a j, ¬ WM_X3_stepWord Q a j → M_96 a j = M0 a j) → (∀ a j, ¬ WN_X3_stepWord Q a j → N_96 a j = N0 a j) → ∃ r, D_X3_stepWord_96 Q y1_96 M_96 N_96 = some r ∧ ((∀ a j, ¬ WM_X3_stepWord Q a j → r.1 a j = M0 a j) ∧ (∀ a j, ¬ WN_X3_stepWord Q a j → r.2 a j = N0 a j)) := by
    intro y1_96 M_96 N_96 k_96 kn_96
    unfold D_X3_stepWord_96
    refine vLm (W := WM_X3_stepWord Q) (fun a j h => (zu_ne (by unfold WM_X3_stepWord at h; omega)).trans (k_96 a j h)) (fun M_96 f_96 k_96 => ?_)
    exact ⟨_, rfl, k_96, kn_96⟩
  have T_76 : ∀ (M_76 : zMt) (N_76 : zNt), (∀ a j, ¬ WM_X3_stepWord Q a j → M_76 a j = M0 a j) → (∀ a j, ¬ WN_X3_stepWord Q a j → N_76 a j = N0 a j) → ∃ r, D_X3_stepWord_76 Q M_76 N_76 = some r ∧ ((∀ a j, ¬ WM_X3_stepWord Q a j → r.1 a j = M0 a j) ∧ (∀ a j, ¬ WN_X3_stepWord Q a j → r.2 a j = N0 a j)) := by
    intro M_76 N_76 k_76 kn_76
    unfold D_X3_stepWord_76
    refine vIf (fun h_88 => ?_) (fun h_88 => ?_)
    · exact T_96 _ _ _ k_76 kn_76
    · exact T_96 _ _ _ k_76 kn_76
  have TL_5 : ∀ u : Nat, ∀ (M_5 : zMt) (N_5 : zNt), (∀ a j, ¬ WM_X3_stepWord Q a j → M_5 a j = M0 a j) → (∀ a j, ¬ WN_X3_stepWord Q a j → N_5 a j = N0 a j) → (2147483648 - Int32.toInt (M_5 Q 5)).toNat < u → ∃ r, D_X3_stepWord_5 Q u M_5 N_5 = some r ∧ ((∀ a j, ¬ WM_X3_stepWord Q a j → r.1 a j = M0 a j) ∧ (∀ a j, ¬ WN_X3_stepWord Q a j → r.2 a j = N0 a j)) := by
    intro u
    induction u with
    | zero => intro M_5 N_5 k_5 kn_5 hm_5; exact absurd hm_5 (Nat.not_lt_zero _)
    | succ u_5 ih_5 =>
      intro M_5 N_5 k_5 kn_5 hm_5
      rw [D_X3_stepWord_5]
      refine vIf (fun h_13 => ?_) (fun h_13 => ?_)
      · exact T_76 _ _ k_5 kn_5
      · refine vB (v_X3_isLetter) (fun e_27 f_27 q_27 => ?_)
        have b_27 := q_27
        refine vIf (fun h_30 => ?_) (fun h_30 => ?_)
        · exact T_76 _ _ k_5 kn_5
        · refine vLn (W := WN_X3_stepWord Q) (fun a j h => (zu_ne (by unfold WN_X3_stepWord at h; omega)).trans (kn_5 a j h)) (fun N_60 f_60 kn_60 => ?_)
          refine vLm (W := WM_X3_stepWord Q) (fun a j h => (zu_ne (by unfold WM_X3_stepWord at h; omega)).trans (k_5 a j h)) (fun M_70 f_70 k_70 => ?_)
          exact ih_5 _ _ k_70 kn_60 (by rw [← f_70, zu_eq]; exact z_up1 (z_lt (by assumption)) hm_5)
  have T_5 : ∀ (M_5 : zMt) (N_5 : zNt), (∀ a j, ¬ WM_X3_stepWord Q a j → M_5 a j = M0 a j) → (∀ a j, ¬ WN_X3_stepWord Q a j → N_5 a j = N0 a j) → ∃ r, D_X3_stepWord_5 Q zFu M_5 N_5 = some r ∧ ((∀ a j, ¬ WM_X3_stepWord Q a j → r.1 a j = M0 a j) ∧ (∀ a j, ¬ WN_X3_stepWord Q a j → r.2 a j = N0 a j)) := fun M_5 N_5 k_5 kn_5 => TL_5 zFu M_5 N_5 k_5 kn_5 (zFu_up _)
  unfold D_X3_stepWord
  refine vLn (W := WN_X3_stepWord Q) (fun a j h => (zu_ne (by unfold WN_X3_stepWord at h; omega))) (fun N_2 f_2 kn_2 => ?_)
  exact T_5 _ _ (fun _ _ _ => rfl) kn_2
set_option maxRecDepth 100000 in
set_option maxHeartbeats 4000000 in
theorem v_X3_isDigit  {v0 : Int32}  : ∃ r, D_X3_isDigit v0 = some r ∧ ((r = 0 ∨ r = 1)) := by
  have T_17 : ∀ (y0_17 : Int32), (y0_17 = 0 ∨ y0_17 = 1) → ∃ r, D_X3_isDigit_17 y0_17 = some r ∧ ((r = 0 ∨ r = 1)) := by
    intro y0_17 f0_17
    unfold D_X3_isDigit_17
    exact ⟨_, rfl, (by first | exact Or.inl rfl | exact Or.inr rfl | assumption)⟩
  have T_16 : ∃ r, D_X3_isDigit_16 = some r ∧ ((r = 0 ∨ r = 1)) := by
    unfold D_X3_isDigit_16
    exact T_17 _ (by first | exact Or.inl rfl | exact Or.inr rfl | assumption)
  unfold D_X3_isDigit
  refine vIf (fun h_3 => ?_) (fun h_3 => ?_)
  · exact T_16
  · refine vIf (fun h_9 => ?_) (fun h_9 => ?_)
    · exact T_16
    · exact T_17 _ (by first | exact Or.inl rfl | exact Or.inr rfl | assumption)
def WM_X3_stepNumber (Q : Nat) (a j : Nat) : Prop := (a = Q ∧ (j = 5 ∨ j = 6 ∨ j = 9))
set_option maxRecDepth 100000 in
set_option maxHeartbeats 4000000 in
theorem v_X3_stepNumber {Q : Nat}  {M0 : zMt}  : ∃ r, D_X3_stepNumber Q M0 = some r ∧ ((∀ a j, ¬ WM_X3_stepNumber Q a j → r a j = M0 a j)) := by
  have T_91 : ∀ (y1_91 : Int32) (M_91 : zMt), (∀ a j, ¬ WM_X3_stepNumber Q a j → M_91 a j = M0 a j) → ∃ r, D_X3_stepNumber_91 Q y1_91 M_91 = some r ∧ ((∀ a j, ¬ WM_X3_stepNumber Q a j → r a j = M0 a j)) := by
    intro y1_91 M_91 k_91
    unfold D_X3_stepNumber_91
    refine vLm (W := WM_X3_stepNumber Q) (fun a j h => (zu_ne (by unfold WM_X3_stepNumber at h; omega)).trans (k_91 a j h)) (fun M_91 f_91 k_91 => ?_)
    exact ⟨_, rfl, k_91⟩
  have T_72 : ∀ (M_72 : zMt), (∀ a j, ¬ WM_X3_stepNumber Q a j → M_72 a j = M0 a j) → ∃ r, D_X3_stepNumber_72 Q M_72 = some r ∧ ((∀ a j, ¬ WM_X3_stepNumber Q a j → r a j = M0 a j)) := by
    intro M_72 k_72
    unfold D_X3_stepNumber_72
    refine vIf (fun h_83 => ?_) (fun h_83 => ?_)
    · exact T_91 _ _ k_72
    · exact T_91 _ _ k_72
  have TL_5 : ∀ u : Nat, ∀ (M_5 : zMt), (∀ a j, ¬ WM_X3_stepNumber Q a j → M_5 a j = M0 a j) → (2147483648 - Int32.toInt (M_5 Q 5)).toNat < u → ∃ r, D_X3_stepNumber_5 Q u M_5 = some r ∧ ((∀ a j, ¬ WM_X3_stepNumber Q a j → r a j = M0 a j)) := by
    intro u
    induction u with
    | zero => intro M_5 k_5 hm_5; exact absurd hm_5 (Nat.not_lt_zero _)
    | succ u_5 ih_5 =>
      intro M_5 k_5 hm_5
      rw [D_X3_stepNumber_5]
      refine vIf (fun h_13 => ?_) (fun h_13 => ?_)
      · exact T_72 _ k_5
      · refine vB (v_X3_isDigit) (fun e_27 f_27 q_27 => ?_)
        have b_27 := q_27
        refine vIf (fun h_30 => ?_) (fun h_30 => ?_)
        · exact T_72 _ k_5
        · refine vLm (W := WM_X3_stepNumber Q) (fun a j h => (zu_ne (by unfold WM_X3_stepNumber at h; omega)).trans (k_5 a j h)) (fun M_56 f_56 k_56 => ?_)
          refine vLm (W := WM_X3_stepNumber Q) (fun a j h => (zu_ne (by unfold WM_X3_stepNumber at h; omega)).trans (k_56 a j h)) (fun M_66 f_66 k_66 => ?_)
          exact ih_5 _ k_66 (by rw [← f_66, zu_eq, ← f_56, zu_ne (show ¬ (Q = Q ∧ (5 : Nat) = 9) by omega)]; exact z_up1 (z_lt (by assumption)) hm_5)
  have T_5 : ∀ (M_5 : zMt), (∀ a j, ¬ WM_X3_stepNumber Q a j → M_5 a j = M0 a j) → ∃ r, D_X3_stepNumber_5 Q zFu M_5 = some r ∧ ((∀ a j, ¬ WM_X3_stepNumber Q a j → r a j = M0 a j)) := fun M_5 k_5 => TL_5 zFu M_5 k_5 (zFu_up _)
  unfold D_X3_stepNumber
  refine vLm (W := WM_X3_stepNumber Q) (fun a j h => (zu_ne (by unfold WM_X3_stepNumber at h; omega))) (fun M_2 f_2 k_2 => ?_)
  exact T_5 _ k_2
def WM_X3_step (Q : Nat) (a j : Nat) : Prop := (a = Q ∧ (j = 5 ∨ j = 6 ∨ j = 7 ∨ j = 9))
def WN_X3_step (Q : Nat) (a j : Nat) : Prop := (a = Q ∧ (j = 8))
set_option maxRecDepth 100000 in
set_option maxHeartbeats 4000000 in
theorem v_X3_step {Q : Nat}  {M0 : zMt} {N0 : zNt}  : ∃ r, D_X3_step Q M0 N0 = some r ∧ ((∀ a j, ¬ WM_X3_step Q a j → r.1 a j = M0 a j) ∧ (∀ a j, ¬ WN_X3_step Q a j → r.2 a j = N0 a j)) := by
  have T_137 : ∀ (M_137 : zMt) (N_137 : zNt), (∀ a j, ¬ WM_X3_step Q a j → M_137 a j = M0 a j) → (∀ a j, ¬ WN_X3_step Q a j → N_137 a j = N0 a j) → ∃ r, D_X3_step_137 Q M_137 N_137 = some r ∧ ((∀ a j, ¬ WM_X3_step Q a j → r.1 a j = M0 a j) ∧ (∀ a j, ¬ WN_X3_step Q a j → r.2 a j = N0 a j)) := by
    intro M_137 N_137 k_137 kn_137
    unfold D_X3_step_137
    exact ⟨_, rfl, k_137, kn_137⟩
  have T_41 : ∀ (M_41 : zMt) (N_41 : zNt), (∀ a j, ¬ WM_X3_step Q a j → M_41 a j = M0 a j) → (∀ a j, ¬ WN_X3_step Q a j → N_41 a j = N0 a j) → ∃ r, D_X3_step_41 Q M_41 N_41 = some r ∧ ((∀ a j, ¬ WM_X3_step Q a j → r.1 a j = M0 a j) ∧ (∀ a j, ¬ WN_X3_step Q a j → r.2 a j = N0 a j)) := by
    intro M_41 N_41 k_41 kn_41
    unfold D_X3_step_41
    refine vLm (W := WM_X3_step Q) (fun a j h => (zu_ne (by unfold WM_X3_step at h; omega)).trans (k_41 a j h)) (fun M_46 f_46 k_46 => ?_)
    refine vIf (fun h_69 => ?_) (fun h_69 => ?_)
    · refine vB (v_X3_isLetter) (fun e_81 f_81 q_81 => ?_)
      have b_81 := q_81
      refine vIf (fun h_84 => ?_) (fun h_84 => ?_)
      · refine vB (v_X3_isDigit) (fun e_95 f_95 q_95 => ?_)
        have b_95 := q_95
        refine vIf (fun h_98 => ?_) (fun h_98 => ?_)
        · refine vIf (fun h_111 => ?_) (fun h_111 => ?_)
          · refine vLm (W := WM_X3_step Q) (fun a j h => (zu_ne (by unfold WM_X3_step at h; omega)).trans (k_46 a j h)) (fun M_116 f_116 k_116 => ?_)
            refine vLm (W := WM_X3_step Q) (fun a j h => (zu_ne (by unfold WM_X3_step at h; omega)).trans (k_116 a j h)) (fun M_126 f_126 k_126 => ?_)
            exact T_137 _ _ k_126 kn_41
          · refine vLm (W := WM_X3_step Q) (fun a j h => (zu_ne (by unfold WM_X3_step at h; omega)).trans (k_46 a j h)) (fun M_134 f_134 k_134 => ?_)
            exact T_137 _ _ k_134 kn_41
        · refine vB (v_X3_stepNumber) (fun e_102 f_102 q_102 => ?_)
          have k_102 : ∀ a j, ¬ WM_X3_step Q a j → e_102 a j = M0 a j := fun a j h => (q_102 a j (by unfold WM_X3_stepNumber; unfold WM_X3_step at h; omega)).trans (k_46 a j h)
          exact T_137 _ _ k_102 kn_41
      · refine vB (v_X3_stepWord) (fun e_88 f_88 q_88 => ?_)
        have k_88 : ∀ a j, ¬ WM_X3_step Q a j → e_88.1 a j = M0 a j := fun a j h => (q_88.1 a j (by unfold WM_X3_stepWord; unfold WM_X3_step at h; omega)).trans (k_46 a j h)
        have kn_88 : ∀ a j, ¬ WN_X3_step Q a j → e_88.2 a j = N0 a j := fun a j h => (q_88.2 a j (by unfold WN_X3_stepWord; unfold WN_X3_step at h; omega)).trans (kn_41 a j h)
        exact T_137 _ _ k_88 kn_88
    · refine vLm (W := WM_X3_step Q) (fun a j h => (zu_ne (by unfold WM_X3_step at h; omega)).trans (k_46 a j h)) (fun M_74 f_74 k_74 => ?_)
      exact T_137 _ _ k_74 kn_41
  have TL_0 : ∀ u : Nat, ∀ (M_0 : zMt) (N_0 : zNt), (∀ a j, ¬ WM_X3_step Q a j → M_0 a j = M0 a j) → (∀ a j, ¬ WN_X3_step Q a j → N_0 a j = N0 a j) → (2147483648 - Int32.toInt (M_0 Q 5)).toNat < u → ∃ r, D_X3_step_0 Q u M_0 N_0 = some r ∧ ((∀ a j, ¬ WM_X3_step Q a j → r.1 a j = M0 a j) ∧ (∀ a j, ¬ WN_X3_step Q a j → r.2 a j = N0 a j)) := by
    intro u
    induction u with
    | zero => intro M_0 N_0 k_0 kn_0 hm_0; exact absurd hm_0 (Nat.not_lt_zero _)
    | succ u_0 ih_0 =>
      intro M_0 N_0 k_0 kn_0 hm_0
      rw [D_X3_step_0]
      refine vIf (fun h_8 => ?_) (fun h_8 => ?_)
      · exact T_41 _ _ k_0 kn_0
      · refine vB (v_X3_isBlank) (fun e_22 f_22 q_22 => ?_)
        have b_22 := q_22
        refine vIf (fun h_25 => ?_) (fun h_25 => ?_)
        · exact T_41 _ _ k_0 kn_0
        · refine vLm (W := WM_X3_step Q) (fun a j h => (zu_ne (by unfold WM_X3_step at h; omega)).trans (k_0 a j h)) (fun M_35 f_35 k_35 => ?_)
          exact ih_0 _ _ k_35 kn_0 (by rw [← f_35, zu_eq]; exact z_up1 (z_lt (by assumption)) hm_0)
  have T_0 : ∀ (M_0 : zMt) (N_0 : zNt), (∀ a j, ¬ WM_X3_step Q a j → M_0 a j = M0 a j) → (∀ a j, ¬ WN_X3_step Q a j → N_0 a j = N0 a j) → ∃ r, D_X3_step_0 Q zFu M_0 N_0 = some r ∧ ((∀ a j, ¬ WM_X3_step Q a j → r.1 a j = M0 a j) ∧ (∀ a j, ¬ WN_X3_step Q a j → r.2 a j = N0 a j)) := fun M_0 N_0 k_0 kn_0 => TL_0 zFu M_0 N_0 k_0 kn_0 (zFu_up _)
  unfold D_X3_step
  exact T_0 _ _ (fun _ _ _ => rfl) (fun _ _ _ => rfl)
set_option maxRecDepth 100000 in
set_option maxHeartbeats 4000000 in
theorem v_X3_says {Q : Nat} {w0 : Nat} {M : zMt}  (hw0 : w0 < zLit.length) : ∃ r, D_X3_says Q w0 M = some r ∧ ((r = 0 ∨ r = 1)) := by
  have TL_28 : ∀ u : Nat, ∀ (x2_28 : Int32), (0 ≤ Int32.toInt x2_28) → (2147483648 - Int32.toInt x2_28).toNat < u → ∃ r, D_X3_says_28 Q w0 M u x2_28 = some r ∧ ((r = 0 ∨ r = 1)) := by
    intro u
    induction u with
    | zero => intro x2_28 f0_28 hm_28; exact absurd hm_28 (Nat.not_lt_zero _)
    | succ u_28 ih_28 =>
      intro x2_28 f0_28 hm_28
      rw [D_X3_says_28]
      refine vIf (fun h_33 => ?_) (fun h_33 => ?_)
      · exact ⟨_, rfl, (by first | exact Or.inl rfl | exact Or.inr rfl | assumption)⟩
      · refine vI (z_in (by have := (zCh_ok w0 (by assumption)).1; omega) (z_nlt (by assumption)) (by assumption)) ?_
        refine vIf (fun h_54 => ?_) (fun h_54 => ?_)
        · exact ih_28 _ (by first | decide | exact z_nn (by assumption) (by assumption)) (z_up1 (by first | assumption | exact z_lt (by assumption) | exact z_lt2 (by assumption) | exact z_lt3 (by assumption) (by first | assumption | decide)) hm_28)
        · exact ⟨_, rfl, (by first | exact Or.inl rfl | exact Or.inr rfl | assumption)⟩
  have T_28 : ∀ (x2_28 : Int32), (0 ≤ Int32.toInt x2_28) → ∃ r, D_X3_says_28 Q w0 M zFu x2_28 = some r ∧ ((r = 0 ∨ r = 1)) := fun x2_28 f0_28 => TL_28 zFu x2_28 f0_28 (zFu_up _)
  have T_24 : ∃ r, D_X3_says_24 Q w0 M = some r ∧ ((r = 0 ∨ r = 1)) := by
    unfold D_X3_says_24
    exact ⟨_, rfl, (by first | exact Or.inl rfl | exact Or.inr rfl | assumption)⟩
  unfold D_X3_says
  refine vIf (fun h_5 => ?_) (fun h_5 => ?_)
  · refine vIf (fun h_21 => ?_) (fun h_21 => ?_)
    · exact T_28 _ (by first | decide | exact z_nn (by assumption) (by assumption))
    · exact T_24
  · exact T_24
set_option maxRecDepth 100000 in
set_option maxHeartbeats 4000000 in
theorem v_X3_isName {Q : Nat} {M : zMt}   : ∃ r, D_X3_isName Q M = some r ∧ ((r = 0 ∨ r = 1)) := by
  have T_85 : ∀ (y0_85 : Int32), (y0_85 = 0 ∨ y0_85 = 1) → ∃ r, D_X3_isName_85 Q M y0_85 = some r ∧ ((r = 0 ∨ r = 1)) := by
    intro y0_85 f0_85
    unfold D_X3_isName_85
    exact ⟨_, rfl, (by first | exact Or.inl rfl | exact Or.inr rfl | assumption)⟩
  have T_84 : ∃ r, D_X3_isName_84 Q M = some r ∧ ((r = 0 ∨ r = 1)) := by
    unfold D_X3_isName_84
    exact T_85 _ (by first | exact Or.inl rfl | exact Or.inr rfl | assumption)
  unfold D_X3_isName
  refine vIf (fun h_5 => ?_) (fun h_5 => ?_)
  · refine vB (v_X3_says (by first | assumption | decide)) (fun e_11 f_11 q_11 => ?_)
    have b_11 := q_11
    refine vIf (fun h_14 => ?_) (fun h_14 => ?_)
    · refine vB (v_X3_says (by first | assumption | decide)) (fun e_20 f_20 q_20 => ?_)
      have b_20 := q_20
      refine vIf (fun h_23 => ?_) (fun h_23 => ?_)
      · refine vB (v_X3_says (by first | assumption | decide)) (fun e_29 f_29 q_29 => ?_)
        have b_29 := q_29
        refine vIf (fun h_32 => ?_) (fun h_32 => ?_)
        · refine vB (v_X3_says (by first | assumption | decide)) (fun e_38 f_38 q_38 => ?_)
          have b_38 := q_38
          refine vIf (fun h_41 => ?_) (fun h_41 => ?_)
          · refine vB (v_X3_says (by first | assumption | decide)) (fun e_47 f_47 q_47 => ?_)
            have b_47 := q_47
            refine vIf (fun h_50 => ?_) (fun h_50 => ?_)
            · refine vB (v_X3_says (by first | assumption | decide)) (fun e_56 f_56 q_56 => ?_)
              have b_56 := q_56
              refine vIf (fun h_59 => ?_) (fun h_59 => ?_)
              · refine vB (v_X3_says (by first | assumption | decide)) (fun e_65 f_65 q_65 => ?_)
                have b_65 := q_65
                refine vIf (fun h_68 => ?_) (fun h_68 => ?_)
                · refine vB (v_X3_says (by first | assumption | decide)) (fun e_74 f_74 q_74 => ?_)
                  have b_74 := q_74
                  refine vIf (fun h_77 => ?_) (fun h_77 => ?_)
                  · exact T_85 _ (by first | exact Or.inl rfl | exact Or.inr rfl | assumption)
                  · exact T_84
                · exact T_84
              · exact T_84
            · exact T_84
          · exact T_84
        · exact T_84
      · exact T_84
    · exact T_84
  · exact T_84
def WM_X3_fail (Q : Nat) (a j : Nat) : Prop := (a = Q ∧ (j = 1 ∨ j = 2))
set_option maxRecDepth 100000 in
set_option maxHeartbeats 4000000 in
theorem v_X3_fail {Q : Nat} {v0 : Int32} {M0 : zMt}  : ∃ r, D_X3_fail Q v0 M0 = some r ∧ ((∀ a j, ¬ WM_X3_fail Q a j → r.2 a j = M0 a j) ∧ (r.1 = 0 ∨ r.1 = 1)) := by
  have T_14 : ∀ (y1_14 : Int32) (M_14 : zMt), (∀ a j, ¬ WM_X3_fail Q a j → M_14 a j = M0 a j) → ∃ r, D_X3_fail_14 Q y1_14 M_14 = some r ∧ ((∀ a j, ¬ WM_X3_fail Q a j → r.2 a j = M0 a j) ∧ (r.1 = 0 ∨ r.1 = 1)) := by
    intro y1_14 M_14 k_14
    unfold D_X3_fail_14
    refine vLm (W := WM_X3_fail Q) (fun a j h => (zu_ne (by unfold WM_X3_fail at h; omega)).trans (k_14 a j h)) (fun M_14 f_14 k_14 => ?_)
    refine vLm (W := WM_X3_fail Q) (fun a j h => (zu_ne (by unfold WM_X3_fail at h; omega)).trans (k_14 a j h)) (fun M_22 f_22 k_22 => ?_)
    exact ⟨_, rfl, k_22, (by first | exact Or.inl rfl | exact Or.inr rfl | assumption)⟩
  unfold D_X3_fail
  refine vIf (fun h_6 => ?_) (fun h_6 => ?_)
  · exact T_14 _ _ (fun _ _ _ => rfl)
  · exact T_14 _ _ (fun _ _ _ => rfl)
set_option maxRecDepth 100000 in
set_option maxHeartbeats 4000000 in
theorem v_X3_find {Q : Nat} {nQ : Nat} {N : zNt} {v0 : Int32} {v1 : Int64}  : ∃ r, D_X3_find Q nQ N v0 v1 = some r ∧ (True) := by
  have TL_3 : ∀ u : Nat, ∀ (x1_3 : Int32) (x2_3 : Int64) (x4_3 : Int32), (2147483648 - Int32.toInt x4_3).toNat < u → ∃ r, D_X3_find_3 Q nQ N u x1_3 x2_3 x4_3 = some r ∧ (True) := by
    intro u
    induction u with
    | zero => intro x1_3 x2_3 x4_3 hm_3; exact absurd hm_3 (Nat.not_lt_zero _)
    | succ u_3 ih_3 =>
      intro x1_3 x2_3 x4_3 hm_3
      rw [D_X3_find_3]
      refine vIf (fun h_6 => ?_) (fun h_6 => ?_)
      · exact ⟨_, rfl, trivial⟩
      · refine vIf (fun h_17 => ?_) (fun h_17 => ?_)
        · exact ⟨_, rfl, trivial⟩
        · exact ih_3 _ _ _ (z_up1 (by first | assumption | exact z_lt (by assumption) | exact z_lt2 (by assumption) | exact z_lt3 (by assumption) (by first | assumption | decide)) hm_3)
  have T_3 : ∀ (x1_3 : Int32) (x2_3 : Int64) (x4_3 : Int32), ∃ r, D_X3_find_3 Q nQ N zFu x1_3 x2_3 x4_3 = some r ∧ (True) := fun x1_3 x2_3 x4_3 => TL_3 zFu x1_3 x2_3 x4_3 (zFu_up _)
  unfold D_X3_find
  exact T_3 _ _ _
set_option maxRecDepth 100000 in
set_option maxHeartbeats 4000000 in
theorem v_X3_isTaken {Q : Nat} {M : zMt} {N : zNt} {v0 : Int64}  : ∃ r, D_X3_isTaken Q M N v0 = some r ∧ ((r = 0 ∨ r = 1)) := by
  have T_62 : ∀ (y0_62 : Int32), (y0_62 = 0 ∨ y0_62 = 1) → ∃ r, D_X3_isTaken_62 Q M N y0_62 = some r ∧ ((r = 0 ∨ r = 1)) := by
    intro y0_62 f0_62
    unfold D_X3_isTaken_62
    exact ⟨_, rfl, (by first | exact Or.inl rfl | exact Or.inr rfl | assumption)⟩
  have T_57 : ∃ r, D_X3_isTaken_57 Q M N = some r ∧ ((r = 0 ∨ r = 1)) := by
    unfold D_X3_isTaken_57
    exact T_62 _ (by first | exact Or.inl rfl | exact Or.inr rfl | assumption)
  unfold D_X3_isTaken
  refine vB (v_X3_find) (fun e_12 f_12 q_12 => ?_)
  refine vIf (fun h_16 => ?_) (fun h_16 => ?_)
  · refine vB (v_X3_find) (fun e_31 f_31 q_31 => ?_)
    refine vIf (fun h_35 => ?_) (fun h_35 => ?_)
    · refine vB (v_X3_find) (fun e_50 f_50 q_50 => ?_)
      refine vIf (fun h_54 => ?_) (fun h_54 => ?_)
      · exact T_62 _ (by first | exact Or.inl rfl | exact Or.inr rfl | assumption)
      · exact T_57
    · exact T_57
  · exact T_57
def WM_X3_readNewName (Q : Nat) (a j : Nat) : Prop := (a = Q ∧ (j = 1 ∨ j = 2 ∨ j = 5 ∨ j = 6 ∨ j = 7 ∨ j = 9))
def WN_X3_readNewName (Q : Nat) (a j : Nat) : Prop := (a = Q ∧ (j = 8 ∨ j = 10))
set_option maxRecDepth 100000 in
set_option maxHeartbeats 4000000 in
theorem v_X3_readNewName {Q : Nat}  {M0 : zMt} {N0 : zNt}  : ∃ r, D_X3_readNewName Q M0 N0 = some r ∧ ((∀ a j, ¬ WM_X3_readNewName Q a j → r.2.1 a j = M0 a j) ∧ (∀ a j, ¬ WN_X3_readNewName Q a j → r.2.2 a j = N0 a j) ∧ (r.1 = 0 ∨ r.1 = 1)) := by
  unfold D_X3_readNewName
  refine vB (v_X3_isName) (fun e_1 f_1 q_1 => ?_)
  have b_1 := q_1
  refine vIf (fun h_4 => ?_) (fun h_4 => ?_)
  · refine vB (v_X3_fail) (fun e_9 f_9 q_9 => ?_)
    have k_9 : ∀ a j, ¬ WM_X3_readNewName Q a j → e_9.2 a j = M0 a j := fun a j h => (q_9.1 a j (by unfold WM_X3_fail; unfold WM_X3_readNewName at h; omega))
    have b_9 := q_9.2
    exact ⟨_, rfl, k_9, (fun _ _ _ => rfl), (by first | exact Or.inl rfl | exact Or.inr rfl | assumption)⟩
  · refine vB (v_X3_isTaken) (fun e_18 f_18 q_18 => ?_)
    have b_18 := q_18
    refine vIf (fun h_21 => ?_) (fun h_21 => ?_)
    · refine vLn (W := WN_X3_readNewName Q) (fun a j h => (zu_ne (by unfold WN_X3_readNewName at h; omega))) (fun N_35 f_35 kn_35 => ?_)
      refine vB (v_X3_step) (fun e_39 f_39 q_39 => ?_)
      have k_39 : ∀ a j, ¬ WM_X3_readNewName Q a j → e_39.1 a j = M0 a j := fun a j h => (q_39.1 a j (by unfold WM_X3_step; unfold WM_X3_readNewName at h; omega))
      have kn_39 : ∀ a j, ¬ WN_X3_readNewName Q a j → e_39.2 a j = N0 a j := fun a j h => (q_39.2 a j (by unfold WN_X3_step; unfold WN_X3_readNewName at h; omega)).trans (kn_35 a j h)
      exact ⟨_, rfl, k_39, kn_39, (by first | exact Or.inl rfl | exact Or.inr rfl | assumption)⟩
    · refine vB (v_X3_fail) (fun e_26 f_26 q_26 => ?_)
      have k_26 : ∀ a j, ¬ WM_X3_readNewName Q a j → e_26.2 a j = M0 a j := fun a j h => (q_26.1 a j (by unfold WM_X3_fail; unfold WM_X3_readNewName at h; omega))
      have b_26 := q_26.2
      exact ⟨_, rfl, k_26, (fun _ _ _ => rfl), (by first | exact Or.inl rfl | exact Or.inr rfl | assumption)⟩
def WM_X3_numberUpTo (Q : Nat) (a j : Nat) : Prop := (a = Q ∧ (j = 1 ∨ j = 2 ∨ j = 5 ∨ j = 6 ∨ j = 7 ∨ j = 9))
def WN_X3_numberUpTo (Q : Nat) (a j : Nat) : Prop := (a = Q ∧ (j = 8))
set_option maxRecDepth 100000 in
set_option maxHeartbeats 4000000 in
theorem v_X3_numberUpTo {Q : Nat} {v0 : Int32} {M0 : zMt} {N0 : zNt}  : ∃ r, D_X3_numberUpTo Q v0 M0 N0 = some r ∧ ((∀ a j, ¬ WM_X3_numberUpTo Q a j → r.2.1 a j = M0 a j) ∧ (∀ a j, ¬ WN_X3_numberUpTo Q a j → r.2.2 a j = N0 a j) ∧ (r.1 = 0 ∨ r.1 = 1)) := by
  unfold D_X3_numberUpTo
  refine vIf (fun h_5 => ?_) (fun h_5 => ?_)
  · refine vIf (fun h_19 => ?_) (fun h_19 => ?_)
    · refine vB (v_X3_step) (fun e_29 f_29 q_29 => ?_)
      have k_29 : ∀ a j, ¬ WM_X3_numberUpTo Q a j → e_29.1 a j = M0 a j := fun a j h => (q_29.1 a j (by unfold WM_X3_step; unfold WM_X3_numberUpTo at h; omega))
      have kn_29 : ∀ a j, ¬ WN_X3_numberUpTo Q a j → e_29.2 a j = N0 a j := fun a j h => (q_29.2 a j (by unfold WN_X3_step; unfold WN_X3_numberUpTo at h; omega))
      exact ⟨_, rfl, k_29, kn_29, (by first | exact Or.inl rfl | exact Or.inr rfl | assumption)⟩
    · refine vB (v_X3_fail) (fun e_24 f_24 q_24 => ?_)
      have k_24 : ∀ a j, ¬ WM_X3_numberUpTo Q a j → e_24.2 a j = M0 a j := fun a j h => (q_24.1 a j (by unfold WM_X3_fail; unfold WM_X3_numberUpTo at h; omega))
      have b_24 := q_24.2
      exact ⟨_, rfl, k_24, (fun _ _ _ => rfl), (by first | exact Or.inl rfl | exact Or.inr rfl | assumption)⟩
  · refine vB (v_X3_fail) (fun e_10 f_10 q_10 => ?_)
    have k_10 : ∀ a j, ¬ WM_X3_numberUpTo Q a j → e_10.2 a j = M0 a j := fun a j h => (q_10.1 a j (by unfold WM_X3_fail; unfold WM_X3_numberUpTo at h; omega))
    have b_10 := q_10.2
    exact ⟨_, rfl, k_10, (fun _ _ _ => rfl), (by first | exact Or.inl rfl | exact Or.inr rfl | assumption)⟩
def WM_X3_endOfLine (Q : Nat) (a j : Nat) : Prop := (a = Q ∧ (j = 1 ∨ j = 2 ∨ j = 5 ∨ j = 6 ∨ j = 7 ∨ j = 9))
def WN_X3_endOfLine (Q : Nat) (a j : Nat) : Prop := (a = Q ∧ (j = 8))
set_option maxRecDepth 100000 in
set_option maxHeartbeats 4000000 in
theorem v_X3_endOfLine {Q : Nat}  {M0 : zMt} {N0 : zNt}  : ∃ r, D_X3_endOfLine Q M0 N0 = some r ∧ ((∀ a j, ¬ WM_X3_endOfLine Q a j → r.2.1 a j = M0 a j) ∧ (∀ a j, ¬ WN_X3_endOfLine Q a j → r.2.2 a j = N0 a j) ∧ (r.1 = 0 ∨ r.1 = 1)) := by
  unfold D_X3_endOfLine
  refine vIf (fun h_5 => ?_) (fun h_5 => ?_)
  · refine vB (v_X3_step) (fun e_15 f_15 q_15 => ?_)
    have k_15 : ∀ a j, ¬ WM_X3_endOfLine Q a j → e_15.1 a j = M0 a j := fun a j h => (q_15.1 a j (by unfold WM_X3_step; unfold WM_X3_endOfLine at h; omega))
    have kn_15 : ∀ a j, ¬ WN_X3_endOfLine Q a j → e_15.2 a j = N0 a j := fun a j h => (q_15.2 a j (by unfold WN_X3_step; unfold WN_X3_endOfLine at h; omega))
    exact ⟨_, rfl, k_15, kn_15, (by first | exact Or.inl rfl | exact Or.inr rfl | assumption)⟩
  · refine vB (v_X3_fail) (fun e_10 f_10 q_10 => ?_)
    have k_10 : ∀ a j, ¬ WM_X3_endOfLine Q a j → e_10.2 a j = M0 a j := fun a j h => (q_10.1 a j (by unfold WM_X3_fail; unfold WM_X3_endOfLine at h; omega))
    have b_10 := q_10.2
    exact ⟨_, rfl, k_10, (fun _ _ _ => rfl), (by first | exact Or.inl rfl | exact Or.inr rfl | assumption)⟩
def WM_X4_addUnit (Q : Nat) (a j : Nat) : Prop := (Q + 1 ≤ a ∧ a < Q + 2) ∨ (a = Q ∧ (j = 0))
set_option maxRecDepth 100000 in
set_option maxHeartbeats 4000000 in
theorem v_X4_addUnit {Q : Nat} {v0 : Int32} {M0 : zMt}  : ∃ r, D_X4_addUnit Q v0 M0 = some r ∧ ((∀ a j, ¬ WM_X4_addUnit Q a j → r a j = M0 a j)) := by
  unfold D_X4_addUnit
  refine vLm (W := WM_X4_addUnit Q) (fun a j h => (congrFun (zwr_row (by unfold WM_X4_addUnit at h; omega)) j)) (fun M_9 f_9 k_9 => ?_)
  refine vLm (W := WM_X4_addUnit Q) (fun a j h => (zu_ne (by unfold WM_X4_addUnit at h; omega)).trans (k_9 a j h)) (fun M_19 f_19 k_19 => ?_)
  exact ⟨_, rfl, k_19⟩
def WM_X3_readUnit (Q : Nat) (a j : Nat) : Prop := (Q + 2 ≤ a ∧ a < Q + 3) ∨ (a = Q ∧ (j = 1 ∨ j = 2 ∨ j = 5 ∨ j = 6 ∨ j = 7 ∨ j = 9)) ∨ (a = Q + 1 ∧ (j = 0))
def WN_X3_readUnit (Q : Nat) (a j : Nat) : Prop := (Q + 10 ≤ a ∧ a < Q + 11) ∨ (a = Q ∧ (j = 8 ∨ j = 10))
set_option maxRecDepth 100000 in
set_option maxHeartbeats 4000000 in
theorem v_X3_readUnit {Q : Nat}  {M0 : zMt} {N0 : zNt}  : ∃ r, D_X3_readUnit Q M0 N0 = some r ∧ ((∀ a j, ¬ WM_X3_readUnit Q a j → r.2.1 a j = M0 a j) ∧ (∀ a j, ¬ WN_X3_readUnit Q a j → r.2.2 a j = N0 a j) ∧ (r.1 = 0 ∨ r.1 = 1)) := by
  have T_29 : ∀ (M_29 : zMt) (N_29 : zNt), (∀ a j, ¬ WM_X3_readUnit Q a j → M_29 a j = M0 a j) → (∀ a j, ¬ WN_X3_readUnit Q a j → N_29 a j = N0 a j) → ∃ r, D_X3_readUnit_29 Q M_29 N_29 = some r ∧ ((∀ a j, ¬ WM_X3_readUnit Q a j → r.2.1 a j = M0 a j) ∧ (∀ a j, ¬ WN_X3_readUnit Q a j → r.2.2 a j = N0 a j) ∧ (r.1 = 0 ∨ r.1 = 1)) := by
    intro M_29 N_29 k_29 kn_29
    unfold D_X3_readUnit_29
    exact ⟨_, rfl, k_29, kn_29, (by first | exact Or.inl rfl | exact Or.inr rfl | assumption)⟩
  unfold D_X3_readUnit
  refine vB (v_X3_step) (fun e_1 f_1 q_1 => ?_)
  have k_1 : ∀ a j, ¬ WM_X3_readUnit Q a j → e_1.1 a j = M0 a j := fun a j h => (q_1.1 a j (by unfold WM_X3_step; unfold WM_X3_readUnit at h; omega))
  have kn_1 : ∀ a j, ¬ WN_X3_readUnit Q a j → e_1.2 a j = N0 a j := fun a j h => (q_1.2 a j (by unfold WN_X3_step; unfold WN_X3_readUnit at h; omega))
  refine vB (v_X3_readNewName) (fun e_5 f_5 q_5 => ?_)
  have k_5 : ∀ a j, ¬ WM_X3_readUnit Q a j → e_5.2.1 a j = M0 a j := fun a j h => (q_5.1 a j (by unfold WM_X3_readNewName; unfold WM_X3_readUnit at h; omega)).trans (k_1 a j h)
  have kn_5 : ∀ a j, ¬ WN_X3_readUnit Q a j → e_5.2.2 a j = N0 a j := fun a j h => (q_5.2.1 a j (by unfold WN_X3_readNewName; unfold WN_X3_readUnit at h; omega)).trans (kn_1 a j h)
  have b_5 := q_5.2.2
  refine vIf (fun h_8 => ?_) (fun h_8 => ?_)
  · exact ⟨_, rfl, k_5, kn_5, (by first | exact Or.inl rfl | exact Or.inr rfl | assumption)⟩
  · refine vB (v_X3_numberUpTo) (fun e_16 f_16 q_16 => ?_)
    have k_16 : ∀ a j, ¬ WM_X3_readUnit Q a j → e_16.2.1 a j = M0 a j := fun a j h => (q_16.1 a j (by unfold WM_X3_numberUpTo; unfold WM_X3_readUnit at h; omega)).trans (k_5 a j h)
    have kn_16 : ∀ a j, ¬ WN_X3_readUnit Q a j → e_16.2.2 a j = N0 a j := fun a j h => (q_16.2.1 a j (by unfold WN_X3_numberUpTo; unfold WN_X3_readUnit at h; omega)).trans (kn_5 a j h)
    have b_16 := q_16.2.2
    refine vIf (fun h_19 => ?_) (fun h_19 => ?_)
    · exact T_29 _ _ k_16 kn_16
    · refine vB (v_X3_endOfLine) (fun e_23 f_23 q_23 => ?_)
      have k_23 : ∀ a j, ¬ WM_X3_readUnit Q a j → e_23.2.1 a j = M0 a j := fun a j h => (q_23.1 a j (by unfold WM_X3_endOfLine; unfold WM_X3_readUnit at h; omega)).trans (k_16 a j h)
      have kn_23 : ∀ a j, ¬ WN_X3_readUnit Q a j → e_23.2.2 a j = N0 a j := fun a j h => (q_23.2.1 a j (by unfold WN_X3_endOfLine; unfold WN_X3_readUnit at h; omega)).trans (kn_16 a j h)
      have b_23 := q_23.2.2
      refine vIf (fun h_26 => ?_) (fun h_26 => ?_)
      · exact T_29 _ _ k_23 kn_23
      · refine vLn (W := WN_X3_readUnit Q) (fun a j h => (congrFun (zwr_row (by unfold WN_X3_readUnit at h; omega)) j).trans (kn_23 a j h)) (fun N_46 f_46 kn_46 => ?_)
        refine vB (v_X4_addUnit) (fun e_57 f_57 q_57 => ?_)
        have k_57 : ∀ a j, ¬ WM_X3_readUnit Q a j → e_57 a j = M0 a j := fun a j h => (q_57 a j (by unfold WM_X4_addUnit; unfold WM_X3_readUnit at h; omega)).trans (k_23 a j h)
        exact ⟨_, rfl, k_57, kn_46, (by first | exact Or.inl rfl | exact Or.inr rfl | assumption)⟩
def WM_X4_addHunter (Q : Nat) (a j : Nat) : Prop := (Q + 2 ≤ a ∧ a < Q + 4) ∨ (a = Q ∧ (j = 1))
set_option maxRecDepth 100000 in
set_option maxHeartbeats 4000000 in
theorem v_X4_addHunter {Q : Nat} {v0 : Int32} {v1 : Int32} {M0 : zMt} (bv1 : v1 = 0 ∨ v1 = 1) : ∃ r, D_X4_addHunter Q v0 v1 M0 = some r ∧ ((∀ a j, ¬ WM_X4_addHunter Q a j → r a j = M0 a j)) := by
  have T_29 : ∀ (y1_29 : Int32) (y2_29 : Int32) (M_29 : zMt), (∀ a j, ¬ WM_X4_addHunter Q a j → M_29 a j = M0 a j) → (y2_29 = 0 ∨ y2_29 = 1) → ∃ r, D_X4_addHunter_29 Q y1_29 y2_29 M_29 = some r ∧ ((∀ a j, ¬ WM_X4_addHunter Q a j → r a j = M0 a j)) := by
    intro y1_29 y2_29 M_29 k_29 f0_29
    unfold D_X4_addHunter_29
    refine vLm (W := WM_X4_addHunter Q) (fun a j h => (congrFun (zwr_row (by unfold WM_X4_addHunter at h; omega)) j).trans (k_29 a j h)) (fun M_29 f_29 k_29 => ?_)
    refine vLm (W := WM_X4_addHunter Q) (fun a j h => (zu_ne (by unfold WM_X4_addHunter at h; omega)).trans (k_29 a j h)) (fun M_39 f_39 k_39 => ?_)
    exact ⟨_, rfl, k_39⟩
  unfold D_X4_addHunter
  refine vLm (W := WM_X4_addHunter Q) (fun a j h => (congrFun (zwr_row (by unfold WM_X4_addHunter at h; omega)) j)) (fun M_9 f_9 k_9 => ?_)
  refine vIf (fun h_21 => ?_) (fun h_21 => ?_)
  · exact T_29 _ _ _ k_9 (by first | exact Or.inl rfl | exact Or.inr rfl | assumption)
  · exact T_29 _ _ _ k_9 (by first | exact Or.inl rfl | exact Or.inr rfl | assumption)
def WM_X3_readHunter (Q : Nat) (a j : Nat) : Prop := (Q + 3 ≤ a ∧ a < Q + 5) ∨ (a = Q ∧ (j = 1 ∨ j = 2 ∨ j = 5 ∨ j = 6 ∨ j = 7 ∨ j = 9)) ∨ (a = Q + 1 ∧ (j = 1))
def WN_X3_readHunter (Q : Nat) (a j : Nat) : Prop := (Q + 11 ≤ a ∧ a < Q + 12) ∨ (a = Q ∧ (j = 8 ∨ j = 10))
set_option maxRecDepth 100000 in
set_option maxHeartbeats 4000000 in
theorem v_X3_readHunter {Q : Nat}  {M0 : zMt} {N0 : zNt}  : ∃ r, D_X3_readHunter Q M0 N0 = some r ∧ ((∀ a j, ¬ WM_X3_readHunter Q a j → r.2.1 a j = M0 a j) ∧ (∀ a j, ¬ WN_X3_readHunter Q a j → r.2.2 a j = N0 a j) ∧ (r.1 = 0 ∨ r.1 = 1)) := by
  have T_39 : ∀ (x1_39 : Int32) (M_39 : zMt) (N_39 : zNt), (∀ a j, ¬ WM_X3_readHunter Q a j → M_39 a j = M0 a j) → (∀ a j, ¬ WN_X3_readHunter Q a j → N_39 a j = N0 a j) → (x1_39 = 0 ∨ x1_39 = 1) → ∃ r, D_X3_readHunter_39 Q x1_39 M_39 N_39 = some r ∧ ((∀ a j, ¬ WM_X3_readHunter Q a j → r.2.1 a j = M0 a j) ∧ (∀ a j, ¬ WN_X3_readHunter Q a j → r.2.2 a j = N0 a j) ∧ (r.1 = 0 ∨ r.1 = 1)) := by
    intro x1_39 M_39 N_39 k_39 kn_39 f0_39
    unfold D_X3_readHunter_39
    refine vB (v_X3_endOfLine) (fun e_40 f_40 q_40 => ?_)
    have k_40 : ∀ a j, ¬ WM_X3_readHunter Q a j → e_40.2.1 a j = M0 a j := fun a j h => (q_40.1 a j (by unfold WM_X3_endOfLine; unfold WM_X3_readHunter at h; omega)).trans (k_39 a j h)
    have kn_40 : ∀ a j, ¬ WN_X3_readHunter Q a j → e_40.2.2 a j = N0 a j := fun a j h => (q_40.2.1 a j (by unfold WN_X3_endOfLine; unfold WN_X3_readHunter at h; omega)).trans (kn_39 a j h)
    have b_40 := q_40.2.2
    refine vIf (fun h_43 => ?_) (fun h_43 => ?_)
    · exact ⟨_, rfl, k_40, kn_40, (by first | exact Or.inl rfl | exact Or.inr rfl | assumption)⟩
    · refine vLn (W := WN_X3_readHunter Q) (fun a j h => (congrFun (zwr_row (by unfold WN_X3_readHunter at h; omega)) j).trans (kn_40 a j h)) (fun N_63 f_63 kn_63 => ?_)
      refine vB (v_X4_addHunter (by first | exact Or.inl rfl | exact Or.inr rfl | assumption)) (fun e_75 f_75 q_75 => ?_)
      have k_75 : ∀ a j, ¬ WM_X3_readHunter Q a j → e_75 a j = M0 a j := fun a j h => (q_75 a j (by unfold WM_X4_addHunter; unfold WM_X3_readHunter at h; omega)).trans (k_40 a j h)
      exact ⟨_, rfl, k_75, kn_63, (by first | exact Or.inl rfl | exact Or.inr rfl | assumption)⟩
  unfold D_X3_readHunter
  refine vB (v_X3_step) (fun e_1 f_1 q_1 => ?_)
  have k_1 : ∀ a j, ¬ WM_X3_readHunter Q a j → e_1.1 a j = M0 a j := fun a j h => (q_1.1 a j (by unfold WM_X3_step; unfold WM_X3_readHunter at h; omega))
  have kn_1 : ∀ a j, ¬ WN_X3_readHunter Q a j → e_1.2 a j = N0 a j := fun a j h => (q_1.2 a j (by unfold WN_X3_step; unfold WN_X3_readHunter at h; omega))
  refine vB (v_X3_readNewName) (fun e_5 f_5 q_5 => ?_)
  have k_5 : ∀ a j, ¬ WM_X3_readHunter Q a j → e_5.2.1 a j = M0 a j := fun a j h => (q_5.1 a j (by unfold WM_X3_readNewName; unfold WM_X3_readHunter at h; omega)).trans (k_1 a j h)
  have kn_5 : ∀ a j, ¬ WN_X3_readHunter Q a j → e_5.2.2 a j = N0 a j := fun a j h => (q_5.2.1 a j (by unfold WN_X3_readNewName; unfold WN_X3_readHunter at h; omega)).trans (kn_1 a j h)
  have b_5 := q_5.2.2
  refine vIf (fun h_8 => ?_) (fun h_8 => ?_)
  · exact ⟨_, rfl, k_5, kn_5, (by first | exact Or.inl rfl | exact Or.inr rfl | assumption)⟩
  · refine vB (v_X3_numberUpTo) (fun e_16 f_16 q_16 => ?_)
    have k_16 : ∀ a j, ¬ WM_X3_readHunter Q a j → e_16.2.1 a j = M0 a j := fun a j h => (q_16.1 a j (by unfold WM_X3_numberUpTo; unfold WM_X3_readHunter at h; omega)).trans (k_5 a j h)
    have kn_16 : ∀ a j, ¬ WN_X3_readHunter Q a j → e_16.2.2 a j = N0 a j := fun a j h => (q_16.2.1 a j (by unfold WN_X3_numberUpTo; unfold WN_X3_readHunter at h; omega)).trans (kn_5 a j h)
    have b_16 := q_16.2.2
    refine vIf (fun h_19 => ?_) (fun h_19 => ?_)
    · exact ⟨_, rfl, k_16, kn_16, (by first | exact Or.inl rfl | exact Or.inr rfl | assumption)⟩
    · refine vB (v_X3_says (by first | assumption | decide)) (fun e_27 f_27 q_27 => ?_)
      have b_27 := q_27
      refine vIf (fun h_32 => ?_) (fun h_32 => ?_)
      · exact T_39 _ _ _ k_16 kn_16 (by first | exact Or.inl rfl | exact Or.inr rfl | assumption)
      · refine vB (v_X3_step) (fun e_36 f_36 q_36 => ?_)
        have k_36 : ∀ a j, ¬ WM_X3_readHunter Q a j → e_36.1 a j = M0 a j := fun a j h => (q_36.1 a j (by unfold WM_X3_step; unfold WM_X3_readHunter at h; omega)).trans (k_16 a j h)
        have kn_36 : ∀ a j, ¬ WN_X3_readHunter Q a j → e_36.2 a j = N0 a j := fun a j h => (q_36.2 a j (by unfold WN_X3_step; unfold WN_X3_readHunter at h; omega)).trans (kn_16 a j h)
        exact T_39 _ _ _ k_36 kn_36 (by first | exact Or.inl rfl | exact Or.inr rfl | assumption)
set_option maxRecDepth 100000 in
set_option maxHeartbeats 4000000 in
theorem v_X3_isFree {Q : Nat} {M : zMt} {v0 : Int32}  : ∃ r, D_X3_isFree Q M v0 = some r ∧ ((r = 0 ∨ r = 1)) := by
  have T_39 : ∀ (y0_39 : Int32), (y0_39 = 0 ∨ y0_39 = 1) → ∃ r, D_X3_isFree_39 Q M y0_39 = some r ∧ ((r = 0 ∨ r = 1)) := by
    intro y0_39 f0_39
    unfold D_X3_isFree_39
    exact ⟨_, rfl, (by first | exact Or.inl rfl | exact Or.inr rfl | assumption)⟩
  have T_38 : ∃ r, D_X3_isFree_38 Q M = some r ∧ ((r = 0 ∨ r = 1)) := by
    unfold D_X3_isFree_38
    exact T_39 _ (by first | exact Or.inl rfl | exact Or.inr rfl | assumption)
  unfold D_X3_isFree
  refine vIf (fun h_2 => ?_) (fun h_2 => ?_)
  · exact T_38
  · refine vIf (fun h_17 => ?_) (fun h_17 => ?_)
    · refine vIf (fun h_31 => ?_) (fun h_31 => ?_)
      · exact T_39 _ (by first | exact Or.inl rfl | exact Or.inr rfl | assumption)
      · exact T_38
    · exact T_38
def WM_X4_addParty (Q : Nat) (a j : Nat) : Prop := (Q + 4 ≤ a ∧ a < Q + 5) ∨ (a = Q ∧ (j = 2))
set_option maxRecDepth 100000 in
set_option maxHeartbeats 4000000 in
theorem v_X4_addParty {Q : Nat} {v0 : Int32} {M0 : zMt}  : ∃ r, D_X4_addParty Q v0 M0 = some r ∧ ((∀ a j, ¬ WM_X4_addParty Q a j → r a j = M0 a j)) := by
  have TL_2 : ∀ u : Nat, ∀ (x1_2 : Int32) (x2_2 : Int32) (M_2 : zMt), (∀ a j, ¬ WM_X4_addParty Q a j → M_2 a j = M0 a j) → (2147483648 - Int32.toInt x2_2).toNat < u → ∃ r, D_X4_addParty_2 Q u x1_2 x2_2 M_2 = some r ∧ ((∀ a j, ¬ WM_X4_addParty Q a j → r a j = M0 a j)) := by
    intro u
    induction u with
    | zero => intro x1_2 x2_2 M_2 k_2 hm_2; exact absurd hm_2 (Nat.not_lt_zero _)
    | succ u_2 ih_2 =>
      have T_31 : ∀ (x1_31 : Int32) (x2_31 : Int32) (M_31 : zMt), (∀ a j, ¬ WM_X4_addParty Q a j → M_31 a j = M0 a j) → ((2147483648 - Int32.toInt x2_31).toNat < u_2 + 1) → (Int32.toInt x2_31 < 2147483647) → ∃ r, D_X4_addParty_31 Q (D_X4_addParty_2 Q u_2) x1_31 x2_31 M_31 = some r ∧ ((∀ a j, ¬ WM_X4_addParty Q a j → r a j = M0 a j)) := by
        intro x1_31 x2_31 M_31 k_31 f0_31 f1_31
        unfold D_X4_addParty_31
        exact ih_2 _ _ _ k_31 (z_up1 f1_31 f0_31)
      intro x1_2 x2_2 M_2 k_2 hm_2
      rw [D_X4_addParty_2]
      refine vIf (fun h_7 => ?_) (fun h_7 => ?_)
      · refine vLm (W := WM_X4_addParty Q) (fun a j h => (zu_ne (by unfold WM_X4_addParty at h; omega)).trans (k_2 a j h)) (fun M_44 f_44 k_44 => ?_)
        exact ⟨_, rfl, k_44⟩
      · refine vIf (fun h_16 => ?_) (fun h_16 => ?_)
        · refine vLm (W := WM_X4_addParty Q) (fun a j h => (congrFun (zwr_row (by unfold WM_X4_addParty at h; omega)) j).trans (k_2 a j h)) (fun M_28 f_28 k_28 => ?_)
          exact T_31 _ _ _ k_28 hm_2 (by first | assumption | exact z_lt (by assumption) | exact z_lt2 (by assumption) | exact z_lt3 (by assumption) (by first | assumption | decide))
        · exact T_31 _ _ _ k_2 hm_2 (by first | assumption | exact z_lt (by assumption) | exact z_lt2 (by assumption) | exact z_lt3 (by assumption) (by first | assumption | decide))
  have T_2 : ∀ (x1_2 : Int32) (x2_2 : Int32) (M_2 : zMt), (∀ a j, ¬ WM_X4_addParty Q a j → M_2 a j = M0 a j) → ∃ r, D_X4_addParty_2 Q zFu x1_2 x2_2 M_2 = some r ∧ ((∀ a j, ¬ WM_X4_addParty Q a j → r a j = M0 a j)) := fun x1_2 x2_2 M_2 k_2 => TL_2 zFu x1_2 x2_2 M_2 k_2 (zFu_up _)
  unfold D_X4_addParty
  exact T_2 _ _ _ (fun _ _ _ => rfl)
def WM_X3_readParty (Q : Nat) (a j : Nat) : Prop := (Q + 5 ≤ a ∧ a < Q + 6) ∨ (a = Q ∧ (j = 1 ∨ j = 2 ∨ j = 5 ∨ j = 6 ∨ j = 7 ∨ j = 9)) ∨ (a = Q + 1 ∧ (j = 2))
def WN_X3_readParty (Q : Nat) (a j : Nat) : Prop := (Q + 12 ≤ a ∧ a < Q + 13) ∨ (a = Q ∧ (j = 8 ∨ j = 10))
set_option maxRecDepth 100000 in
set_option maxHeartbeats 4000000 in
theorem v_X3_readParty {Q : Nat}  {M0 : zMt} {N0 : zNt}  : ∃ r, D_X3_readParty Q M0 N0 = some r ∧ ((∀ a j, ¬ WM_X3_readParty Q a j → r.2.1 a j = M0 a j) ∧ (∀ a j, ¬ WN_X3_readParty Q a j → r.2.2 a j = N0 a j) ∧ (r.1 = 0 ∨ r.1 = 1)) := by
  have T_106 : ∀ (x1_106 : Int32) (M_106 : zMt) (N_106 : zNt), (∀ a j, ¬ WM_X3_readParty Q a j → M_106 a j = M0 a j) → (∀ a j, ¬ WN_X3_readParty Q a j → N_106 a j = N0 a j) → ∃ r, D_X3_readParty_106 Q x1_106 M_106 N_106 = some r ∧ ((∀ a j, ¬ WM_X3_readParty Q a j → r.2.1 a j = M0 a j) ∧ (∀ a j, ¬ WN_X3_readParty Q a j → r.2.2 a j = N0 a j) ∧ (r.1 = 0 ∨ r.1 = 1)) := by
    intro x1_106 M_106 N_106 k_106 kn_106
    unfold D_X3_readParty_106
    refine vB (v_X3_endOfLine) (fun e_107 f_107 q_107 => ?_)
    have k_107 : ∀ a j, ¬ WM_X3_readParty Q a j → e_107.2.1 a j = M0 a j := fun a j h => (q_107.1 a j (by unfold WM_X3_endOfLine; unfold WM_X3_readParty at h; omega)).trans (k_106 a j h)
    have kn_107 : ∀ a j, ¬ WN_X3_readParty Q a j → e_107.2.2 a j = N0 a j := fun a j h => (q_107.2.1 a j (by unfold WN_X3_endOfLine; unfold WN_X3_readParty at h; omega)).trans (kn_106 a j h)
    have b_107 := q_107.2.2
    refine vIf (fun h_110 => ?_) (fun h_110 => ?_)
    · exact ⟨_, rfl, k_107, kn_107, (by first | exact Or.inl rfl | exact Or.inr rfl | assumption)⟩
    · refine vLn (W := WN_X3_readParty Q) (fun a j h => (congrFun (zwr_row (by unfold WN_X3_readParty at h; omega)) j).trans (kn_107 a j h)) (fun N_130 f_130 kn_130 => ?_)
      refine vB (v_X4_addParty) (fun e_138 f_138 q_138 => ?_)
      have k_138 : ∀ a j, ¬ WM_X3_readParty Q a j → e_138 a j = M0 a j := fun a j h => (q_138 a j (by unfold WM_X4_addParty; unfold WM_X3_readParty at h; omega)).trans (k_107 a j h)
      exact ⟨_, rfl, k_138, kn_130, (by first | exact Or.inl rfl | exact Or.inr rfl | assumption)⟩
  have T_84 : ∀ (M_84 : zMt) (N_84 : zNt), (∀ a j, ¬ WM_X3_readParty Q a j → M_84 a j = M0 a j) → (∀ a j, ¬ WN_X3_readParty Q a j → N_84 a j = N0 a j) → ∃ r, D_X3_readParty_84 Q M_84 N_84 = some r ∧ ((∀ a j, ¬ WM_X3_readParty Q a j → r.2.1 a j = M0 a j) ∧ (∀ a j, ¬ WN_X3_readParty Q a j → r.2.2 a j = N0 a j) ∧ (r.1 = 0 ∨ r.1 = 1)) := by
    intro M_84 N_84 k_84 kn_84
    unfold D_X3_readParty_84
    refine vB (v_X3_fail) (fun e_86 f_86 q_86 => ?_)
    have k_86 : ∀ a j, ¬ WM_X3_readParty Q a j → e_86.2 a j = M0 a j := fun a j h => (q_86.1 a j (by unfold WM_X3_fail; unfold WM_X3_readParty at h; omega)).trans (k_84 a j h)
    have b_86 := q_86.2
    exact ⟨_, rfl, k_86, kn_84, (by first | exact Or.inl rfl | exact Or.inr rfl | assumption)⟩
  have TL_17 : ∀ u : Nat, ∀ (x1_17 : Int32) (x2_17 : Int32) (M_17 : zMt) (N_17 : zNt), (∀ a j, ¬ WM_X3_readParty Q a j → M_17 a j = M0 a j) → (∀ a j, ¬ WN_X3_readParty Q a j → N_17 a j = N0 a j) → (2147483648 - Int32.toInt x2_17).toNat < u → ∃ r, D_X3_readParty_17 Q u x1_17 x2_17 M_17 N_17 = some r ∧ ((∀ a j, ¬ WM_X3_readParty Q a j → r.2.1 a j = M0 a j) ∧ (∀ a j, ¬ WN_X3_readParty Q a j → r.2.2 a j = N0 a j) ∧ (r.1 = 0 ∨ r.1 = 1)) := by
    intro u
    induction u with
    | zero => intro x1_17 x2_17 M_17 N_17 k_17 kn_17 hm_17; exact absurd hm_17 (Nat.not_lt_zero _)
    | succ u_17 ih_17 =>
      have T_35 : ∀ (x1_35 : Int32) (x2_35 : Int32) (M_35 : zMt) (N_35 : zNt), (∀ a j, ¬ WM_X3_readParty Q a j → M_35 a j = M0 a j) → (∀ a j, ¬ WN_X3_readParty Q a j → N_35 a j = N0 a j) → ((2147483648 - Int32.toInt x2_35).toNat < u_17 + 1) → (Int32.toInt x2_35 < 2147483647) → ∃ r, D_X3_readParty_35 Q (D_X3_readParty_17 Q u_17) x1_35 x2_35 M_35 N_35 = some r ∧ ((∀ a j, ¬ WM_X3_readParty Q a j → r.2.1 a j = M0 a j) ∧ (∀ a j, ¬ WN_X3_readParty Q a j → r.2.2 a j = N0 a j) ∧ (r.1 = 0 ∨ r.1 = 1)) := by
        intro x1_35 x2_35 M_35 N_35 k_35 kn_35 f0_35 f1_35
        unfold D_X3_readParty_35
        refine vB (v_X3_isName) (fun e_36 f_36 q_36 => ?_)
        have b_36 := q_36
        refine vIf (fun h_39 => ?_) (fun h_39 => ?_)
        · refine vB (v_X3_fail) (fun e_44 f_44 q_44 => ?_)
          have k_44 : ∀ a j, ¬ WM_X3_readParty Q a j → e_44.2 a j = M0 a j := fun a j h => (q_44.1 a j (by unfold WM_X3_fail; unfold WM_X3_readParty at h; omega)).trans (k_35 a j h)
          have b_44 := q_44.2
          exact ⟨_, rfl, k_44, kn_35, (by first | exact Or.inl rfl | exact Or.inr rfl | assumption)⟩
        · refine vB (v_X3_find) (fun e_63 f_63 q_63 => ?_)
          refine vB (v_X3_isFree) (fun e_69 f_69 q_69 => ?_)
          have b_69 := q_69
          refine vIf (fun h_72 => ?_) (fun h_72 => ?_)
          · exact T_84 _ _ k_35 kn_35
          · refine vIf (fun h_81 => ?_) (fun h_81 => ?_)
            · exact T_84 _ _ k_35 kn_35
            · refine vB (v_X3_step) (fun e_97 f_97 q_97 => ?_)
              have k_97 : ∀ a j, ¬ WM_X3_readParty Q a j → e_97.1 a j = M0 a j := fun a j h => (q_97.1 a j (by unfold WM_X3_step; unfold WM_X3_readParty at h; omega)).trans (k_35 a j h)
              have kn_97 : ∀ a j, ¬ WN_X3_readParty Q a j → e_97.2 a j = N0 a j := fun a j h => (q_97.2 a j (by unfold WN_X3_step; unfold WN_X3_readParty at h; omega)).trans (kn_35 a j h)
              exact ih_17 _ _ _ _ k_97 kn_97 (z_up1 f1_35 f0_35)
      intro x1_17 x2_17 M_17 N_17 k_17 kn_17 hm_17
      rw [D_X3_readParty_17]
      refine vIf (fun h_19 => ?_) (fun h_19 => ?_)
      · exact T_106 _ _ _ k_17 kn_17
      · refine vIf (fun h_24 => ?_) (fun h_24 => ?_)
        · exact T_35 _ _ _ _ k_17 kn_17 hm_17 (by first | assumption | exact z_lt (by assumption) | exact z_lt2 (by assumption) | exact z_lt3 (by assumption) (by first | assumption | decide))
        · refine vIf (fun h_32 => ?_) (fun h_32 => ?_)
          · exact T_106 _ _ _ k_17 kn_17
          · exact T_35 _ _ _ _ k_17 kn_17 hm_17 (by first | assumption | exact z_lt (by assumption) | exact z_lt2 (by assumption) | exact z_lt3 (by assumption) (by first | assumption | decide))
  have T_17 : ∀ (x1_17 : Int32) (x2_17 : Int32) (M_17 : zMt) (N_17 : zNt), (∀ a j, ¬ WM_X3_readParty Q a j → M_17 a j = M0 a j) → (∀ a j, ¬ WN_X3_readParty Q a j → N_17 a j = N0 a j) → ∃ r, D_X3_readParty_17 Q zFu x1_17 x2_17 M_17 N_17 = some r ∧ ((∀ a j, ¬ WM_X3_readParty Q a j → r.2.1 a j = M0 a j) ∧ (∀ a j, ¬ WN_X3_readParty Q a j → r.2.2 a j = N0 a j) ∧ (r.1 = 0 ∨ r.1 = 1)) := fun x1_17 x2_17 M_17 N_17 k_17 kn_17 => TL_17 zFu x1_17 x2_17 M_17 N_17 k_17 kn_17 (zFu_up _)
  unfold D_X3_readParty
  refine vB (v_X3_step) (fun e_1 f_1 q_1 => ?_)
  have k_1 : ∀ a j, ¬ WM_X3_readParty Q a j → e_1.1 a j = M0 a j := fun a j h => (q_1.1 a j (by unfold WM_X3_step; unfold WM_X3_readParty at h; omega))
  have kn_1 : ∀ a j, ¬ WN_X3_readParty Q a j → e_1.2 a j = N0 a j := fun a j h => (q_1.2 a j (by unfold WN_X3_step; unfold WN_X3_readParty at h; omega))
  refine vB (v_X3_readNewName) (fun e_5 f_5 q_5 => ?_)
  have k_5 : ∀ a j, ¬ WM_X3_readParty Q a j → e_5.2.1 a j = M0 a j := fun a j h => (q_5.1 a j (by unfold WM_X3_readNewName; unfold WM_X3_readParty at h; omega)).trans (k_1 a j h)
  have kn_5 : ∀ a j, ¬ WN_X3_readParty Q a j → e_5.2.2 a j = N0 a j := fun a j h => (q_5.2.1 a j (by unfold WN_X3_readNewName; unfold WN_X3_readParty at h; omega)).trans (kn_1 a j h)
  have b_5 := q_5.2.2
  refine vIf (fun h_8 => ?_) (fun h_8 => ?_)
  · exact ⟨_, rfl, k_5, kn_5, (by first | exact Or.inl rfl | exact Or.inr rfl | assumption)⟩
  · exact T_17 _ _ _ _ k_5 kn_5
set_option maxRecDepth 100000 in
set_option maxHeartbeats 4000000 in
theorem v_X3_asker {Q : Nat} {M : zMt} {N : zNt}   : ∃ r, D_X3_asker Q M N = some r ∧ (True) := by
  have T_116 : ∀ (x3_116 : Int32), ∃ r, D_X3_asker_116 Q M N x3_116 = some r ∧ (True) := by
    intro x3_116
    unfold D_X3_asker_116
    exact ⟨_, rfl, trivial⟩
  have TL_55 : ∀ u : Nat, ∀ (x2_55 : Int32) (x3_55 : Int32) (x4_55 : Int32), (2147483648 - Int32.toInt x4_55).toNat < u → ∃ r, D_X3_asker_55 Q M N u x2_55 x3_55 x4_55 = some r ∧ (True) := by
    intro u
    induction u with
    | zero => intro x2_55 x3_55 x4_55 hm_55; exact absurd hm_55 (Nat.not_lt_zero _)
    | succ u_55 ih_55 =>
      have T_110 : ∀ (x2_110 : Int32) (x3_110 : Int32) (x4_110 : Int32), ((2147483648 - Int32.toInt x4_110).toNat < u_55 + 1) → (Int32.toInt x4_110 < 2147483647) → ∃ r, D_X3_asker_110 Q M N (D_X3_asker_55 Q M N u_55) x2_110 x3_110 x4_110 = some r ∧ (True) := by
        intro x2_110 x3_110 x4_110 f0_110 f1_110
        unfold D_X3_asker_110
        exact ih_55 _ _ _ (z_up1 f1_110 f0_110)
      intro x2_55 x3_55 x4_55 hm_55
      rw [D_X3_asker_55]
      refine vIf (fun h_57 => ?_) (fun h_57 => ?_)
      · exact T_116 _
      · refine vIf (fun h_69 => ?_) (fun h_69 => ?_)
        · exact T_116 _
        · refine vIf (fun h_85 => ?_) (fun h_85 => ?_)
          · refine vIf (fun h_100 => ?_) (fun h_100 => ?_)
            · exact T_110 _ _ _ hm_55 (by first | assumption | exact z_lt (by assumption) | exact z_lt2 (by assumption) | exact z_lt3 (by assumption) (by first | assumption | decide))
            · exact T_110 _ _ _ hm_55 (by first | assumption | exact z_lt (by assumption) | exact z_lt2 (by assumption) | exact z_lt3 (by assumption) (by first | assumption | decide))
          · exact T_110 _ _ _ hm_55 (by first | assumption | exact z_lt (by assumption) | exact z_lt2 (by assumption) | exact z_lt3 (by assumption) (by first | assumption | decide))
  have T_55 : ∀ (x2_55 : Int32) (x3_55 : Int32) (x4_55 : Int32), ∃ r, D_X3_asker_55 Q M N zFu x2_55 x3_55 x4_55 = some r ∧ (True) := fun x2_55 x3_55 x4_55 => TL_55 zFu x2_55 x3_55 x4_55 (zFu_up _)
  unfold D_X3_asker
  refine vB (v_X3_find) (fun e_15 f_15 q_15 => ?_)
  refine vB (v_X3_isFree) (fun e_21 f_21 q_21 => ?_)
  have b_21 := q_21
  refine vIf (fun h_24 => ?_) (fun h_24 => ?_)
  · refine vB (v_X3_find) (fun e_46 f_46 q_46 => ?_)
    exact T_55 _ _ _
  · exact ⟨_, rfl, trivial⟩
def WM_X4_wishFor (Q : Nat) (a j : Nat) : Prop := (Q + 5 ≤ a ∧ a < Q + 7)
set_option maxRecDepth 100000 in
set_option maxHeartbeats 4000000 in
theorem v_X4_wishFor {Q : Nat} {v0 : Int32} {v1 : Int32} {v2 : Int32} {v3 : Int32} {M0 : zMt}  : ∃ r, D_X4_wishFor Q v0 v1 v2 v3 M0 = some r ∧ ((∀ a j, ¬ WM_X4_wishFor Q a j → r a j = M0 a j)) := by
  have TL_38 : ∀ u : Nat, ∀ (x1_38 : Int32) (x2_38 : Int32) (x3_38 : Int32) (x4_38 : Int32) (x5_38 : Int32) (x6_38 : Int32) (M_38 : zMt), (∀ a j, ¬ WM_X4_wishFor Q a j → M_38 a j = M0 a j) → (2147483648 - Int32.toInt x6_38).toNat < u → ∃ r, D_X4_wishFor_38 Q u x1_38 x2_38 x3_38 x4_38 x5_38 x6_38 M_38 = some r ∧ ((∀ a j, ¬ WM_X4_wishFor Q a j → r a j = M0 a j)) := by
    intro u
    induction u with
    | zero => intro x1_38 x2_38 x3_38 x4_38 x5_38 x6_38 M_38 k_38 hm_38; exact absurd hm_38 (Nat.not_lt_zero _)
    | succ u_38 ih_38 =>
      have T_109 : ∀ (x1_109 : Int32) (x2_109 : Int32) (x3_109 : Int32) (x4_109 : Int32) (x5_109 : Int32) (x6_109 : Int32) (M_109 : zMt), (∀ a j, ¬ WM_X4_wishFor Q a j → M_109 a j = M0 a j) → ((2147483648 - Int32.toInt x6_109).toNat < u_38 + 1) → (Int32.toInt x6_109 < 2147483647) → ∃ r, D_X4_wishFor_109 Q (D_X4_wishFor_38 Q u_38) x1_109 x2_109 x3_109 x4_109 x5_109 x6_109 M_109 = some r ∧ ((∀ a j, ¬ WM_X4_wishFor Q a j → r a j = M0 a j)) := by
        intro x1_109 x2_109 x3_109 x4_109 x5_109 x6_109 M_109 k_109 f0_109 f1_109
        unfold D_X4_wishFor_109
        exact ih_38 _ _ _ _ _ _ _ k_109 (z_up1 f1_109 f0_109)
      intro x1_38 x2_38 x3_38 x4_38 x5_38 x6_38 M_38 k_38 hm_38
      rw [D_X4_wishFor_38]
      refine vIf (fun h_44 => ?_) (fun h_44 => ?_)
      · exact ⟨_, rfl, k_38⟩
      · refine vIf (fun h_54 => ?_) (fun h_54 => ?_)
        · refine vLm (W := WM_X4_wishFor Q) (fun a j h => (congrFun (zwr_row (by unfold WM_X4_wishFor at h; omega)) j).trans (k_38 a j h)) (fun M_65 f_65 k_65 => ?_)
          refine vLm (W := WM_X4_wishFor Q) (fun a j h => (congrFun (zwr_row (by unfold WM_X4_wishFor at h; omega)) j).trans (k_65 a j h)) (fun M_77 f_77 k_77 => ?_)
          refine vLm (W := WM_X4_wishFor Q) (fun a j h => (congrFun (zwr_row (by unfold WM_X4_wishFor at h; omega)) j).trans (k_77 a j h)) (fun M_91 f_91 k_91 => ?_)
          refine vLm (W := WM_X4_wishFor Q) (fun a j h => (congrFun (zwr_row (by unfold WM_X4_wishFor at h; omega)) j).trans (k_91 a j h)) (fun M_106 f_106 k_106 => ?_)
          exact T_109 _ _ _ _ _ _ _ k_106 hm_38 (by first | assumption | exact z_lt (by assumption) | exact z_lt2 (by assumption) | exact z_lt3 (by assumption) (by first | assumption | decide))
        · exact T_109 _ _ _ _ _ _ _ k_38 hm_38 (by first | assumption | exact z_lt (by assumption) | exact z_lt2 (by assumption) | exact z_lt3 (by assumption) (by first | assumption | decide))
  have T_38 : ∀ (x1_38 : Int32) (x2_38 : Int32) (x3_38 : Int32) (x4_38 : Int32) (x5_38 : Int32) (x6_38 : Int32) (M_38 : zMt), (∀ a j, ¬ WM_X4_wishFor Q a j → M_38 a j = M0 a j) → ∃ r, D_X4_wishFor_38 Q zFu x1_38 x2_38 x3_38 x4_38 x5_38 x6_38 M_38 = some r ∧ ((∀ a j, ¬ WM_X4_wishFor Q a j → r a j = M0 a j)) := fun x1_38 x2_38 x3_38 x4_38 x5_38 x6_38 M_38 k_38 => TL_38 zFu x1_38 x2_38 x3_38 x4_38 x5_38 x6_38 M_38 k_38 (zFu_up _)
  have T_32 : ∀ (x1_32 : Int32) (x2_32 : Int32) (x3_32 : Int32) (x4_32 : Int32) (y0_32 : Int32) (y1_32 : Int32) (M_32 : zMt), (∀ a j, ¬ WM_X4_wishFor Q a j → M_32 a j = M0 a j) → (y1_32 = 0 ∨ y1_32 = 1) → ∃ r, D_X4_wishFor_32 Q x1_32 x2_32 x3_32 x4_32 y0_32 y1_32 M_32 = some r ∧ ((∀ a j, ¬ WM_X4_wishFor Q a j → r a j = M0 a j)) := by
    intro x1_32 x2_32 x3_32 x4_32 y0_32 y1_32 M_32 k_32 f0_32
    unfold D_X4_wishFor_32
    exact T_38 _ _ _ _ _ _ _ k_32
  have T_20 : ∀ (x1_20 : Int32) (x2_20 : Int32) (x3_20 : Int32) (x4_20 : Int32) (y0_20 : Int32) (y1_20 : Int32) (M_20 : zMt), (∀ a j, ¬ WM_X4_wishFor Q a j → M_20 a j = M0 a j) → (y0_20 = 0 ∨ y0_20 = 1) → (y1_20 = 0 ∨ y1_20 = 1) → ∃ r, D_X4_wishFor_20 Q x1_20 x2_20 x3_20 x4_20 y0_20 y1_20 M_20 = some r ∧ ((∀ a j, ¬ WM_X4_wishFor Q a j → r a j = M0 a j)) := by
    intro x1_20 x2_20 x3_20 x4_20 y0_20 y1_20 M_20 k_20 f0_20 f1_20
    unfold D_X4_wishFor_20
    refine vIf (fun h_24 => ?_) (fun h_24 => ?_)
    · exact T_32 _ _ _ _ _ _ _ k_20 (by first | exact Or.inl rfl | exact Or.inr rfl | assumption)
    · exact T_32 _ _ _ _ _ _ _ k_20 (by first | exact Or.inl rfl | exact Or.inr rfl | assumption)
  have T_10 : ∀ (x1_10 : Int32) (x2_10 : Int32) (x3_10 : Int32) (x4_10 : Int32) (y0_10 : Int32) (M_10 : zMt), (∀ a j, ¬ WM_X4_wishFor Q a j → M_10 a j = M0 a j) → (y0_10 = 0 ∨ y0_10 = 1) → ∃ r, D_X4_wishFor_10 Q x1_10 x2_10 x3_10 x4_10 y0_10 M_10 = some r ∧ ((∀ a j, ¬ WM_X4_wishFor Q a j → r a j = M0 a j)) := by
    intro x1_10 x2_10 x3_10 x4_10 y0_10 M_10 k_10 f0_10
    unfold D_X4_wishFor_10
    refine vIf (fun h_12 => ?_) (fun h_12 => ?_)
    · exact T_20 _ _ _ _ _ _ _ k_10 (by first | exact Or.inl rfl | exact Or.inr rfl | assumption) (by first | exact Or.inl rfl | exact Or.inr rfl | assumption)
    · exact T_20 _ _ _ _ _ _ _ k_10 (by first | exact Or.inl rfl | exact Or.inr rfl | assumption) (by first | exact Or.inl rfl | exact Or.inr rfl | assumption)
  unfold D_X4_wishFor
  refine vIf (fun h_2 => ?_) (fun h_2 => ?_)
  · exact T_10 _ _ _ _ _ _ (fun _ _ _ => rfl) (by first | exact Or.inl rfl | exact Or.inr rfl | assumption)
  · exact T_10 _ _ _ _ _ _ (fun _ _ _ => rfl) (by first | exact Or.inl rfl | exact Or.inr rfl | assumption)
def WM_X3_readAsks (Q : Nat) (a j : Nat) : Prop := (Q + 6 ≤ a ∧ a < Q + 8) ∨ (Q + 13 ≤ a ∧ a < Q + 14) ∨ (a = Q ∧ (j = 1 ∨ j = 2 ∨ j = 5 ∨ j = 6 ∨ j = 7 ∨ j = 9))
def WN_X3_readAsks (Q : Nat) (a j : Nat) : Prop := (a = Q ∧ (j = 8))
set_option maxRecDepth 100000 in
set_option maxHeartbeats 4000000 in
theorem v_X3_readAsks {Q : Nat}  {M0 : zMt} {N0 : zNt}  : ∃ r, D_X3_readAsks Q M0 N0 = some r ∧ ((∀ a j, ¬ WM_X3_readAsks Q a j → r.2.1 a j = M0 a j) ∧ (∀ a j, ¬ WN_X3_readAsks Q a j → r.2.2 a j = N0 a j) ∧ (r.1 = 0 ∨ r.1 = 1)) := by
  have T_150 : ∀ (x1_150 : Int32) (M_150 : zMt) (N_150 : zNt), (∀ a j, ¬ WM_X3_readAsks Q a j → M_150 a j = M0 a j) → (∀ a j, ¬ WN_X3_readAsks Q a j → N_150 a j = N0 a j) → ∃ r, D_X3_readAsks_150 Q x1_150 M_150 N_150 = some r ∧ ((∀ a j, ¬ WM_X3_readAsks Q a j → r.2.1 a j = M0 a j) ∧ (∀ a j, ¬ WN_X3_readAsks Q a j → r.2.2 a j = N0 a j) ∧ (r.1 = 0 ∨ r.1 = 1)) := by
    intro x1_150 M_150 N_150 k_150 kn_150
    unfold D_X3_readAsks_150
    refine vB (v_X3_endOfLine) (fun e_151 f_151 q_151 => ?_)
    have k_151 : ∀ a j, ¬ WM_X3_readAsks Q a j → e_151.2.1 a j = M0 a j := fun a j h => (q_151.1 a j (by unfold WM_X3_endOfLine; unfold WM_X3_readAsks at h; omega)).trans (k_150 a j h)
    have kn_151 : ∀ a j, ¬ WN_X3_readAsks Q a j → e_151.2.2 a j = N0 a j := fun a j h => (q_151.2.1 a j (by unfold WN_X3_endOfLine; unfold WN_X3_readAsks at h; omega)).trans (kn_150 a j h)
    have b_151 := q_151.2.2
    refine vIf (fun h_154 => ?_) (fun h_154 => ?_)
    · exact ⟨_, rfl, k_151, kn_151, (by first | exact Or.inl rfl | exact Or.inr rfl | assumption)⟩
    · refine vB (v_X4_wishFor) (fun e_188 f_188 q_188 => ?_)
      have k_188 : ∀ a j, ¬ WM_X3_readAsks Q a j → e_188 a j = M0 a j := fun a j h => (q_188 a j (by unfold WM_X4_wishFor; unfold WM_X3_readAsks at h; omega)).trans (k_151 a j h)
      exact ⟨_, rfl, k_188, kn_151, (by first | exact Or.inl rfl | exact Or.inr rfl | assumption)⟩
  have T_125 : ∀ (M_125 : zMt) (N_125 : zNt), (∀ a j, ¬ WM_X3_readAsks Q a j → M_125 a j = M0 a j) → (∀ a j, ¬ WN_X3_readAsks Q a j → N_125 a j = N0 a j) → ∃ r, D_X3_readAsks_125 Q M_125 N_125 = some r ∧ ((∀ a j, ¬ WM_X3_readAsks Q a j → r.2.1 a j = M0 a j) ∧ (∀ a j, ¬ WN_X3_readAsks Q a j → r.2.2 a j = N0 a j) ∧ (r.1 = 0 ∨ r.1 = 1)) := by
    intro M_125 N_125 k_125 kn_125
    unfold D_X3_readAsks_125
    refine vB (v_X3_fail) (fun e_127 f_127 q_127 => ?_)
    have k_127 : ∀ a j, ¬ WM_X3_readAsks Q a j → e_127.2 a j = M0 a j := fun a j h => (q_127.1 a j (by unfold WM_X3_fail; unfold WM_X3_readAsks at h; omega)).trans (k_125 a j h)
    have b_127 := q_127.2
    exact ⟨_, rfl, k_127, kn_125, (by first | exact Or.inl rfl | exact Or.inr rfl | assumption)⟩
  have TL_46 : ∀ u : Nat, ∀ (x1_46 : Int32) (x2_46 : Int32) (M_46 : zMt) (N_46 : zNt), (∀ a j, ¬ WM_X3_readAsks Q a j → M_46 a j = M0 a j) → (∀ a j, ¬ WN_X3_readAsks Q a j → N_46 a j = N0 a j) → (2147483648 - Int32.toInt x2_46).toNat < u → ∃ r, D_X3_readAsks_46 Q u x1_46 x2_46 M_46 N_46 = some r ∧ ((∀ a j, ¬ WM_X3_readAsks Q a j → r.2.1 a j = M0 a j) ∧ (∀ a j, ¬ WN_X3_readAsks Q a j → r.2.2 a j = N0 a j) ∧ (r.1 = 0 ∨ r.1 = 1)) := by
    intro u
    induction u with
    | zero => intro x1_46 x2_46 M_46 N_46 k_46 kn_46 hm_46; exact absurd hm_46 (Nat.not_lt_zero _)
    | succ u_46 ih_46 =>
      have T_64 : ∀ (x1_64 : Int32) (x2_64 : Int32) (M_64 : zMt) (N_64 : zNt), (∀ a j, ¬ WM_X3_readAsks Q a j → M_64 a j = M0 a j) → (∀ a j, ¬ WN_X3_readAsks Q a j → N_64 a j = N0 a j) → ((2147483648 - Int32.toInt x2_64).toNat < u_46 + 1) → (Int32.toInt x2_64 < 2147483647) → ∃ r, D_X3_readAsks_64 Q (D_X3_readAsks_46 Q u_46) x1_64 x2_64 M_64 N_64 = some r ∧ ((∀ a j, ¬ WM_X3_readAsks Q a j → r.2.1 a j = M0 a j) ∧ (∀ a j, ¬ WN_X3_readAsks Q a j → r.2.2 a j = N0 a j) ∧ (r.1 = 0 ∨ r.1 = 1)) := by
        intro x1_64 x2_64 M_64 N_64 k_64 kn_64 f0_64 f1_64
        unfold D_X3_readAsks_64
        refine vB (v_X3_isName) (fun e_65 f_65 q_65 => ?_)
        have b_65 := q_65
        refine vIf (fun h_68 => ?_) (fun h_68 => ?_)
        · refine vB (v_X3_fail) (fun e_73 f_73 q_73 => ?_)
          have k_73 : ∀ a j, ¬ WM_X3_readAsks Q a j → e_73.2 a j = M0 a j := fun a j h => (q_73.1 a j (by unfold WM_X3_fail; unfold WM_X3_readAsks at h; omega)).trans (k_64 a j h)
          have b_73 := q_73.2
          exact ⟨_, rfl, k_73, kn_64, (by first | exact Or.inl rfl | exact Or.inr rfl | assumption)⟩
        · refine vB (v_X3_find) (fun e_92 f_92 q_92 => ?_)
          refine vIf (fun h_98 => ?_) (fun h_98 => ?_)
          · exact T_125 _ _ k_64 kn_64
          · refine vIf (fun h_110 => ?_) (fun h_110 => ?_)
            · exact T_125 _ _ k_64 kn_64
            · refine vIf (fun h_122 => ?_) (fun h_122 => ?_)
              · exact T_125 _ _ k_64 kn_64
              · refine vLm (W := WM_X3_readAsks Q) (fun a j h => (congrFun (zwr_row (by unfold WM_X3_readAsks at h; omega)) j).trans (k_64 a j h)) (fun M_137 f_137 k_137 => ?_)
                refine vB (v_X3_step) (fun e_141 f_141 q_141 => ?_)
                have k_141 : ∀ a j, ¬ WM_X3_readAsks Q a j → e_141.1 a j = M0 a j := fun a j h => (q_141.1 a j (by unfold WM_X3_step; unfold WM_X3_readAsks at h; omega)).trans (k_137 a j h)
                have kn_141 : ∀ a j, ¬ WN_X3_readAsks Q a j → e_141.2 a j = N0 a j := fun a j h => (q_141.2 a j (by unfold WN_X3_step; unfold WN_X3_readAsks at h; omega)).trans (kn_64 a j h)
                exact ih_46 _ _ _ _ k_141 kn_141 (z_up1 f1_64 f0_64)
      intro x1_46 x2_46 M_46 N_46 k_46 kn_46 hm_46
      rw [D_X3_readAsks_46]
      refine vIf (fun h_48 => ?_) (fun h_48 => ?_)
      · exact T_150 _ _ _ k_46 kn_46
      · refine vIf (fun h_53 => ?_) (fun h_53 => ?_)
        · exact T_64 _ _ _ _ k_46 kn_46 hm_46 (by first | assumption | exact z_lt (by assumption) | exact z_lt2 (by assumption) | exact z_lt3 (by assumption) (by first | assumption | decide))
        · refine vIf (fun h_61 => ?_) (fun h_61 => ?_)
          · exact T_150 _ _ _ k_46 kn_46
          · exact T_64 _ _ _ _ k_46 kn_46 hm_46 (by first | assumption | exact z_lt (by assumption) | exact z_lt2 (by assumption) | exact z_lt3 (by assumption) (by first | assumption | decide))
  have T_46 : ∀ (x1_46 : Int32) (x2_46 : Int32) (M_46 : zMt) (N_46 : zNt), (∀ a j, ¬ WM_X3_readAsks Q a j → M_46 a j = M0 a j) → (∀ a j, ¬ WN_X3_readAsks Q a j → N_46 a j = N0 a j) → ∃ r, D_X3_readAsks_46 Q zFu x1_46 x2_46 M_46 N_46 = some r ∧ ((∀ a j, ¬ WM_X3_readAsks Q a j → r.2.1 a j = M0 a j) ∧ (∀ a j, ¬ WN_X3_readAsks Q a j → r.2.2 a j = N0 a j) ∧ (r.1 = 0 ∨ r.1 = 1)) := fun x1_46 x2_46 M_46 N_46 k_46 kn_46 => TL_46 zFu x1_46 x2_46 M_46 N_46 k_46 kn_46 (zFu_up _)
  unfold D_X3_readAsks
  refine vB (v_X3_step) (fun e_1 f_1 q_1 => ?_)
  have k_1 : ∀ a j, ¬ WM_X3_readAsks Q a j → e_1.1 a j = M0 a j := fun a j h => (q_1.1 a j (by unfold WM_X3_step; unfold WM_X3_readAsks at h; omega))
  have kn_1 : ∀ a j, ¬ WN_X3_readAsks Q a j → e_1.2 a j = N0 a j := fun a j h => (q_1.2 a j (by unfold WN_X3_step; unfold WN_X3_readAsks at h; omega))
  refine vB (v_X3_isName) (fun e_5 f_5 q_5 => ?_)
  have b_5 := q_5
  refine vIf (fun h_8 => ?_) (fun h_8 => ?_)
  · refine vB (v_X3_fail) (fun e_13 f_13 q_13 => ?_)
    have k_13 : ∀ a j, ¬ WM_X3_readAsks Q a j → e_13.2 a j = M0 a j := fun a j h => (q_13.1 a j (by unfold WM_X3_fail; unfold WM_X3_readAsks at h; omega)).trans (k_1 a j h)
    have b_13 := q_13.2
    exact ⟨_, rfl, k_13, kn_1, (by first | exact Or.inl rfl | exact Or.inr rfl | assumption)⟩
  · refine vB (v_X3_asker) (fun e_18 f_18 q_18 => ?_)
    refine vIf (fun h_23 => ?_) (fun h_23 => ?_)
    · refine vB (v_X3_fail) (fun e_28 f_28 q_28 => ?_)
      have k_28 : ∀ a j, ¬ WM_X3_readAsks Q a j → e_28.2 a j = M0 a j := fun a j h => (q_28.1 a j (by unfold WM_X3_fail; unfold WM_X3_readAsks at h; omega)).trans (k_1 a j h)
      have b_28 := q_28.2
      exact ⟨_, rfl, k_28, kn_1, (by first | exact Or.inl rfl | exact Or.inr rfl | assumption)⟩
    · refine vB (v_X3_step) (fun e_33 f_33 q_33 => ?_)
      have k_33 : ∀ a j, ¬ WM_X3_readAsks Q a j → e_33.1 a j = M0 a j := fun a j h => (q_33.1 a j (by unfold WM_X3_step; unfold WM_X3_readAsks at h; omega)).trans (k_1 a j h)
      have kn_33 : ∀ a j, ¬ WN_X3_readAsks Q a j → e_33.2 a j = N0 a j := fun a j h => (q_33.2 a j (by unfold WN_X3_step; unfold WN_X3_readAsks at h; omega)).trans (kn_1 a j h)
      refine vLm (W := WM_X3_readAsks Q) (fun a j h => (congrFun (zfil_row (by unfold WM_X3_readAsks at h; omega)) j).trans (k_33 a j h)) (fun M_41 f_41 k_41 => ?_)
      exact T_46 _ _ _ _ k_41 kn_33
def WM_X3_readLaw (Q : Nat) (a j : Nat) : Prop := (a = Q ∧ (j = 1 ∨ j = 2 ∨ j = 5 ∨ j = 6 ∨ j = 7 ∨ j = 9 ∨ j = 11)) ∨ (a = Q + 1 ∧ (j = 3))
def WN_X3_readLaw (Q : Nat) (a j : Nat) : Prop := (a = Q ∧ (j = 8))
set_option maxRecDepth 100000 in
set_option maxHeartbeats 4000000 in
theorem v_X3_readLaw {Q : Nat}  {M0 : zMt} {N0 : zNt}  : ∃ r, D_X3_readLaw Q M0 N0 = some r ∧ ((∀ a j, ¬ WM_X3_readLaw Q a j → r.2.1 a j = M0 a j) ∧ (∀ a j, ¬ WN_X3_readLaw Q a j → r.2.2 a j = N0 a j) ∧ (r.1 = 0 ∨ r.1 = 1)) := by
  have T_59 : ∀ (M_59 : zMt) (N_59 : zNt), (∀ a j, ¬ WM_X3_readLaw Q a j → M_59 a j = M0 a j) → (∀ a j, ¬ WN_X3_readLaw Q a j → N_59 a j = N0 a j) → ∃ r, D_X3_readLaw_59 Q M_59 N_59 = some r ∧ ((∀ a j, ¬ WM_X3_readLaw Q a j → r.2.1 a j = M0 a j) ∧ (∀ a j, ¬ WN_X3_readLaw Q a j → r.2.2 a j = N0 a j) ∧ (r.1 = 0 ∨ r.1 = 1)) := by
    intro M_59 N_59 k_59 kn_59
    unfold D_X3_readLaw_59
    refine vLm (W := WM_X3_readLaw Q) (fun a j h => (zu_ne (by unfold WM_X3_readLaw at h; omega)).trans (k_59 a j h)) (fun M_61 f_61 k_61 => ?_)
    refine vB (v_X3_step) (fun e_65 f_65 q_65 => ?_)
    have k_65 : ∀ a j, ¬ WM_X3_readLaw Q a j → e_65.1 a j = M0 a j := fun a j h => (q_65.1 a j (by unfold WM_X3_step; unfold WM_X3_readLaw at h; omega)).trans (k_61 a j h)
    have kn_65 : ∀ a j, ¬ WN_X3_readLaw Q a j → e_65.2 a j = N0 a j := fun a j h => (q_65.2 a j (by unfold WN_X3_step; unfold WN_X3_readLaw at h; omega)).trans (kn_59 a j h)
    refine vB (v_X3_endOfLine) (fun e_69 f_69 q_69 => ?_)
    have k_69 : ∀ a j, ¬ WM_X3_readLaw Q a j → e_69.2.1 a j = M0 a j := fun a j h => (q_69.1 a j (by unfold WM_X3_endOfLine; unfold WM_X3_readLaw at h; omega)).trans (k_65 a j h)
    have kn_69 : ∀ a j, ¬ WN_X3_readLaw Q a j → e_69.2.2 a j = N0 a j := fun a j h => (q_69.2.1 a j (by unfold WN_X3_endOfLine; unfold WN_X3_readLaw at h; omega)).trans (kn_65 a j h)
    have b_69 := q_69.2.2
    exact ⟨_, rfl, k_69, kn_69, (by first | exact Or.inl rfl | exact Or.inr rfl | assumption)⟩
  unfold D_X3_readLaw
  refine vB (v_X3_step) (fun e_1 f_1 q_1 => ?_)
  have k_1 : ∀ a j, ¬ WM_X3_readLaw Q a j → e_1.1 a j = M0 a j := fun a j h => (q_1.1 a j (by unfold WM_X3_step; unfold WM_X3_readLaw at h; omega))
  have kn_1 : ∀ a j, ¬ WN_X3_readLaw Q a j → e_1.2 a j = N0 a j := fun a j h => (q_1.2 a j (by unfold WN_X3_step; unfold WN_X3_readLaw at h; omega))
  refine vB (v_X3_says (by first | assumption | decide)) (fun e_7 f_7 q_7 => ?_)
  have b_7 := q_7
  refine vIf (fun h_10 => ?_) (fun h_10 => ?_)
  · refine vB (v_X3_says (by first | assumption | decide)) (fun e_27 f_27 q_27 => ?_)
    have b_27 := q_27
    refine vIf (fun h_30 => ?_) (fun h_30 => ?_)
    · refine vB (v_X3_says (by first | assumption | decide)) (fun e_47 f_47 q_47 => ?_)
      have b_47 := q_47
      refine vIf (fun h_50 => ?_) (fun h_50 => ?_)
      · refine vB (v_X3_fail) (fun e_55 f_55 q_55 => ?_)
        have k_55 : ∀ a j, ¬ WM_X3_readLaw Q a j → e_55.2 a j = M0 a j := fun a j h => (q_55.1 a j (by unfold WM_X3_fail; unfold WM_X3_readLaw at h; omega)).trans (k_1 a j h)
        have b_55 := q_55.2
        exact ⟨_, rfl, k_55, kn_1, (by first | exact Or.inl rfl | exact Or.inr rfl | assumption)⟩
      · exact T_59 _ _ k_1 kn_1
    · refine vLm (W := WM_X3_readLaw Q) (fun a j h => (zu_ne (by unfold WM_X3_readLaw at h; omega)).trans (k_1 a j h)) (fun M_38 f_38 k_38 => ?_)
      exact T_59 _ _ k_38 kn_1
  · refine vLm (W := WM_X3_readLaw Q) (fun a j h => (zu_ne (by unfold WM_X3_readLaw at h; omega)).trans (k_1 a j h)) (fun M_18 f_18 k_18 => ?_)
    exact T_59 _ _ k_18 kn_1
def WM_X3_readPrefer (Q : Nat) (a j : Nat) : Prop := (a = Q ∧ (j = 1 ∨ j = 2 ∨ j = 5 ∨ j = 6 ∨ j = 7 ∨ j = 9 ∨ j = 12)) ∨ (a = Q + 1 ∧ (j = 4))
def WN_X3_readPrefer (Q : Nat) (a j : Nat) : Prop := (a = Q ∧ (j = 8))
set_option maxRecDepth 100000 in
set_option maxHeartbeats 4000000 in
theorem v_X3_readPrefer {Q : Nat}  {M0 : zMt} {N0 : zNt}  : ∃ r, D_X3_readPrefer Q M0 N0 = some r ∧ ((∀ a j, ¬ WM_X3_readPrefer Q a j → r.2.1 a j = M0 a j) ∧ (∀ a j, ¬ WN_X3_readPrefer Q a j → r.2.2 a j = N0 a j) ∧ (r.1 = 0 ∨ r.1 = 1)) := by
  unfold D_X3_readPrefer
  refine vB (v_X3_step) (fun e_1 f_1 q_1 => ?_)
  have k_1 : ∀ a j, ¬ WM_X3_readPrefer Q a j → e_1.1 a j = M0 a j := fun a j h => (q_1.1 a j (by unfold WM_X3_step; unfold WM_X3_readPrefer at h; omega))
  have kn_1 : ∀ a j, ¬ WN_X3_readPrefer Q a j → e_1.2 a j = N0 a j := fun a j h => (q_1.2 a j (by unfold WN_X3_step; unfold WN_X3_readPrefer at h; omega))
  refine vB (v_X3_numberUpTo) (fun e_7 f_7 q_7 => ?_)
  have k_7 : ∀ a j, ¬ WM_X3_readPrefer Q a j → e_7.2.1 a j = M0 a j := fun a j h => (q_7.1 a j (by unfold WM_X3_numberUpTo; unfold WM_X3_readPrefer at h; omega)).trans (k_1 a j h)
  have kn_7 : ∀ a j, ¬ WN_X3_readPrefer Q a j → e_7.2.2 a j = N0 a j := fun a j h => (q_7.2.1 a j (by unfold WN_X3_numberUpTo; unfold WN_X3_readPrefer at h; omega)).trans (kn_1 a j h)
  have b_7 := q_7.2.2
  refine vIf (fun h_10 => ?_) (fun h_10 => ?_)
  · exact ⟨_, rfl, k_7, kn_7, (by first | exact Or.inl rfl | exact Or.inr rfl | assumption)⟩
  · refine vLm (W := WM_X3_readPrefer Q) (fun a j h => (zu_ne (by unfold WM_X3_readPrefer at h; omega)).trans (k_7 a j h)) (fun M_17 f_17 k_17 => ?_)
    refine vLm (W := WM_X3_readPrefer Q) (fun a j h => (zu_ne (by unfold WM_X3_readPrefer at h; omega)).trans (k_17 a j h)) (fun M_28 f_28 k_28 => ?_)
    refine vB (v_X3_endOfLine) (fun e_32 f_32 q_32 => ?_)
    have k_32 : ∀ a j, ¬ WM_X3_readPrefer Q a j → e_32.2.1 a j = M0 a j := fun a j h => (q_32.1 a j (by unfold WM_X3_endOfLine; unfold WM_X3_readPrefer at h; omega)).trans (k_28 a j h)
    have kn_32 : ∀ a j, ¬ WN_X3_readPrefer Q a j → e_32.2.2 a j = N0 a j := fun a j h => (q_32.2.1 a j (by unfold WN_X3_endOfLine; unfold WN_X3_readPrefer at h; omega)).trans (kn_7 a j h)
    have b_32 := q_32.2.2
    exact ⟨_, rfl, k_32, kn_32, (by first | exact Or.inl rfl | exact Or.inr rfl | assumption)⟩
def WM_X3_readGuests (Q : Nat) (a j : Nat) : Prop := (a = Q ∧ (j = 1 ∨ j = 2 ∨ j = 5 ∨ j = 6 ∨ j = 7 ∨ j = 9 ∨ j = 13)) ∨ (a = Q + 1 ∧ (j = 5))
def WN_X3_readGuests (Q : Nat) (a j : Nat) : Prop := (a = Q ∧ (j = 8))
set_option maxRecDepth 100000 in
set_option maxHeartbeats 4000000 in
theorem v_X3_readGuests {Q : Nat}  {M0 : zMt} {N0 : zNt}  : ∃ r, D_X3_readGuests Q M0 N0 = some r ∧ ((∀ a j, ¬ WM_X3_readGuests Q a j → r.2.1 a j = M0 a j) ∧ (∀ a j, ¬ WN_X3_readGuests Q a j → r.2.2 a j = N0 a j) ∧ (r.1 = 0 ∨ r.1 = 1)) := by
  unfold D_X3_readGuests
  refine vB (v_X3_step) (fun e_1 f_1 q_1 => ?_)
  have k_1 : ∀ a j, ¬ WM_X3_readGuests Q a j → e_1.1 a j = M0 a j := fun a j h => (q_1.1 a j (by unfold WM_X3_step; unfold WM_X3_readGuests at h; omega))
  have kn_1 : ∀ a j, ¬ WN_X3_readGuests Q a j → e_1.2 a j = N0 a j := fun a j h => (q_1.2 a j (by unfold WN_X3_step; unfold WN_X3_readGuests at h; omega))
  refine vB (v_X3_numberUpTo) (fun e_7 f_7 q_7 => ?_)
  have k_7 : ∀ a j, ¬ WM_X3_readGuests Q a j → e_7.2.1 a j = M0 a j := fun a j h => (q_7.1 a j (by unfold WM_X3_numberUpTo; unfold WM_X3_readGuests at h; omega)).trans (k_1 a j h)
  have kn_7 : ∀ a j, ¬ WN_X3_readGuests Q a j → e_7.2.2 a j = N0 a j := fun a j h => (q_7.2.1 a j (by unfold WN_X3_numberUpTo; unfold WN_X3_readGuests at h; omega)).trans (kn_1 a j h)
  have b_7 := q_7.2.2
  refine vIf (fun h_10 => ?_) (fun h_10 => ?_)
  · exact ⟨_, rfl, k_7, kn_7, (by first | exact Or.inl rfl | exact Or.inr rfl | assumption)⟩
  · refine vLm (W := WM_X3_readGuests Q) (fun a j h => (zu_ne (by unfold WM_X3_readGuests at h; omega)).trans (k_7 a j h)) (fun M_17 f_17 k_17 => ?_)
    refine vLm (W := WM_X3_readGuests Q) (fun a j h => (zu_ne (by unfold WM_X3_readGuests at h; omega)).trans (k_17 a j h)) (fun M_28 f_28 k_28 => ?_)
    refine vB (v_X3_endOfLine) (fun e_32 f_32 q_32 => ?_)
    have k_32 : ∀ a j, ¬ WM_X3_readGuests Q a j → e_32.2.1 a j = M0 a j := fun a j h => (q_32.1 a j (by unfold WM_X3_endOfLine; unfold WM_X3_readGuests at h; omega)).trans (k_28 a j h)
    have kn_32 : ∀ a j, ¬ WN_X3_readGuests Q a j → e_32.2.2 a j = N0 a j := fun a j h => (q_32.2.1 a j (by unfold WN_X3_endOfLine; unfold WN_X3_readGuests at h; omega)).trans (kn_7 a j h)
    have b_32 := q_32.2.2
    exact ⟨_, rfl, k_32, kn_32, (by first | exact Or.inl rfl | exact Or.inr rfl | assumption)⟩
def WM_X3_readLine (Q : Nat) (a j : Nat) : Prop := (Q + 2 ≤ a ∧ a < Q + 8) ∨ (Q + 13 ≤ a ∧ a < Q + 14) ∨ (a = Q ∧ (j = 1 ∨ j = 2 ∨ j = 5 ∨ j = 6 ∨ j = 7 ∨ j = 9 ∨ j = 11 ∨ j = 12 ∨ j = 13)) ∨ (a = Q + 1 ∧ (j = 0 ∨ j = 1 ∨ j = 2 ∨ j = 3 ∨ j = 4 ∨ j = 5))
def WN_X3_readLine (Q : Nat) (a j : Nat) : Prop := (Q + 10 ≤ a ∧ a < Q + 13) ∨ (a = Q ∧ (j = 8 ∨ j = 10))
set_option maxRecDepth 100000 in
set_option maxHeartbeats 4000000 in
theorem v_X3_readLine {Q : Nat}  {M0 : zMt} {N0 : zNt}  : ∃ r, D_X3_readLine Q M0 N0 = some r ∧ ((∀ a j, ¬ WM_X3_readLine Q a j → r.2.1 a j = M0 a j) ∧ (∀ a j, ¬ WN_X3_readLine Q a j → r.2.2 a j = N0 a j) ∧ (r.1 = 0 ∨ r.1 = 1)) := by
  have T_200 : ∀ (y0_200 : Int32) (M_200 : zMt) (N_200 : zNt), (∀ a j, ¬ WM_X3_readLine Q a j → M_200 a j = M0 a j) → (∀ a j, ¬ WN_X3_readLine Q a j → N_200 a j = N0 a j) → (y0_200 = 0 ∨ y0_200 = 1) → ∃ r, D_X3_readLine_200 Q y0_200 M_200 N_200 = some r ∧ ((∀ a j, ¬ WM_X3_readLine Q a j → r.2.1 a j = M0 a j) ∧ (∀ a j, ¬ WN_X3_readLine Q a j → r.2.2 a j = N0 a j) ∧ (r.1 = 0 ∨ r.1 = 1)) := by
    intro y0_200 M_200 N_200 k_200 kn_200 f0_200
    unfold D_X3_readLine_200
    exact ⟨_, rfl, k_200, kn_200, (by first | exact Or.inl rfl | exact Or.inr rfl | assumption)⟩
  have T_171 : ∀ (y0_171 : Int32) (M_171 : zMt) (N_171 : zNt), (∀ a j, ¬ WM_X3_readLine Q a j → M_171 a j = M0 a j) → (∀ a j, ¬ WN_X3_readLine Q a j → N_171 a j = N0 a j) → (y0_171 = 0 ∨ y0_171 = 1) → ∃ r, D_X3_readLine_171 Q y0_171 M_171 N_171 = some r ∧ ((∀ a j, ¬ WM_X3_readLine Q a j → r.2.1 a j = M0 a j) ∧ (∀ a j, ¬ WN_X3_readLine Q a j → r.2.2 a j = N0 a j) ∧ (r.1 = 0 ∨ r.1 = 1)) := by
    intro y0_171 M_171 N_171 k_171 kn_171 f0_171
    unfold D_X3_readLine_171
    exact ⟨_, rfl, k_171, kn_171, (by first | exact Or.inl rfl | exact Or.inr rfl | assumption)⟩
  have T_142 : ∀ (y0_142 : Int32) (M_142 : zMt) (N_142 : zNt), (∀ a j, ¬ WM_X3_readLine Q a j → M_142 a j = M0 a j) → (∀ a j, ¬ WN_X3_readLine Q a j → N_142 a j = N0 a j) → (y0_142 = 0 ∨ y0_142 = 1) → ∃ r, D_X3_readLine_142 Q y0_142 M_142 N_142 = some r ∧ ((∀ a j, ¬ WM_X3_readLine Q a j → r.2.1 a j = M0 a j) ∧ (∀ a j, ¬ WN_X3_readLine Q a j → r.2.2 a j = N0 a j) ∧ (r.1 = 0 ∨ r.1 = 1)) := by
    intro y0_142 M_142 N_142 k_142 kn_142 f0_142
    unfold D_X3_readLine_142
    exact ⟨_, rfl, k_142, kn_142, (by first | exact Or.inl rfl | exact Or.inr rfl | assumption)⟩
  have T_99 : ∀ (y0_99 : Int32) (M_99 : zMt) (N_99 : zNt), (∀ a j, ¬ WM_X3_readLine Q a j → M_99 a j = M0 a j) → (∀ a j, ¬ WN_X3_readLine Q a j → N_99 a j = N0 a j) → (y0_99 = 0 ∨ y0_99 = 1) → ∃ r, D_X3_readLine_99 Q y0_99 M_99 N_99 = some r ∧ ((∀ a j, ¬ WM_X3_readLine Q a j → r.2.1 a j = M0 a j) ∧ (∀ a j, ¬ WN_X3_readLine Q a j → r.2.2 a j = N0 a j) ∧ (r.1 = 0 ∨ r.1 = 1)) := by
    intro y0_99 M_99 N_99 k_99 kn_99 f0_99
    unfold D_X3_readLine_99
    exact ⟨_, rfl, k_99, kn_99, (by first | exact Or.inl rfl | exact Or.inr rfl | assumption)⟩
  have T_66 : ∀ (y0_66 : Int32) (M_66 : zMt) (N_66 : zNt), (∀ a j, ¬ WM_X3_readLine Q a j → M_66 a j = M0 a j) → (∀ a j, ¬ WN_X3_readLine Q a j → N_66 a j = N0 a j) → (y0_66 = 0 ∨ y0_66 = 1) → ∃ r, D_X3_readLine_66 Q y0_66 M_66 N_66 = some r ∧ ((∀ a j, ¬ WM_X3_readLine Q a j → r.2.1 a j = M0 a j) ∧ (∀ a j, ¬ WN_X3_readLine Q a j → r.2.2 a j = N0 a j) ∧ (r.1 = 0 ∨ r.1 = 1)) := by
    intro y0_66 M_66 N_66 k_66 kn_66 f0_66
    unfold D_X3_readLine_66
    exact ⟨_, rfl, k_66, kn_66, (by first | exact Or.inl rfl | exact Or.inr rfl | assumption)⟩
  have T_32 : ∀ (y0_32 : Int32) (M_32 : zMt) (N_32 : zNt), (∀ a j, ¬ WM_X3_readLine Q a j → M_32 a j = M0 a j) → (∀ a j, ¬ WN_X3_readLine Q a j → N_32 a j = N0 a j) → (y0_32 = 0 ∨ y0_32 = 1) → ∃ r, D_X3_readLine_32 Q y0_32 M_32 N_32 = some r ∧ ((∀ a j, ¬ WM_X3_readLine Q a j → r.2.1 a j = M0 a j) ∧ (∀ a j, ¬ WN_X3_readLine Q a j → r.2.2 a j = N0 a j) ∧ (r.1 = 0 ∨ r.1 = 1)) := by
    intro y0_32 M_32 N_32 k_32 kn_32 f0_32
    unfold D_X3_readLine_32
    exact ⟨_, rfl, k_32, kn_32, (by first | exact Or.inl rfl | exact Or.inr rfl | assumption)⟩
  unfold D_X3_readLine
  refine vB (v_X3_says (by first | assumption | decide)) (fun e_3 f_3 q_3 => ?_)
  have b_3 := q_3
  refine vIf (fun h_6 => ?_) (fun h_6 => ?_)
  · refine vB (v_X3_says (by first | assumption | decide)) (fun e_36 f_36 q_36 => ?_)
    have b_36 := q_36
    refine vIf (fun h_39 => ?_) (fun h_39 => ?_)
    · refine vB (v_X3_says (by first | assumption | decide)) (fun e_70 f_70 q_70 => ?_)
      have b_70 := q_70
      refine vIf (fun h_73 => ?_) (fun h_73 => ?_)
      · refine vB (v_X3_says (by first | assumption | decide)) (fun e_103 f_103 q_103 => ?_)
        have b_103 := q_103
        refine vIf (fun h_106 => ?_) (fun h_106 => ?_)
        · refine vB (v_X3_says (by first | assumption | decide)) (fun e_117 f_117 q_117 => ?_)
          have b_117 := q_117
          refine vIf (fun h_120 => ?_) (fun h_120 => ?_)
          · refine vB (v_X3_says (by first | assumption | decide)) (fun e_146 f_146 q_146 => ?_)
            have b_146 := q_146
            refine vIf (fun h_149 => ?_) (fun h_149 => ?_)
            · refine vB (v_X3_says (by first | assumption | decide)) (fun e_175 f_175 q_175 => ?_)
              have b_175 := q_175
              refine vIf (fun h_178 => ?_) (fun h_178 => ?_)
              · refine vB (v_X3_fail) (fun e_203 f_203 q_203 => ?_)
                have k_203 : ∀ a j, ¬ WM_X3_readLine Q a j → e_203.2 a j = M0 a j := fun a j h => (q_203.1 a j (by unfold WM_X3_fail; unfold WM_X3_readLine at h; omega))
                have b_203 := q_203.2
                exact ⟨_, rfl, k_203, (fun _ _ _ => rfl), (by first | exact Or.inl rfl | exact Or.inr rfl | assumption)⟩
              · refine vIf (fun h_185 => ?_) (fun h_185 => ?_)
                · refine vB (v_X3_readGuests) (fun e_197 f_197 q_197 => ?_)
                  have k_197 : ∀ a j, ¬ WM_X3_readLine Q a j → e_197.2.1 a j = M0 a j := fun a j h => (q_197.1 a j (by unfold WM_X3_readGuests; unfold WM_X3_readLine at h; omega))
                  have kn_197 : ∀ a j, ¬ WN_X3_readLine Q a j → e_197.2.2 a j = N0 a j := fun a j h => (q_197.2.1 a j (by unfold WN_X3_readGuests; unfold WN_X3_readLine at h; omega))
                  have b_197 := q_197.2.2
                  exact T_200 _ _ _ k_197 kn_197 (by first | exact Or.inl rfl | exact Or.inr rfl | assumption)
                · refine vB (v_X3_fail) (fun e_190 f_190 q_190 => ?_)
                  have k_190 : ∀ a j, ¬ WM_X3_readLine Q a j → e_190.2 a j = M0 a j := fun a j h => (q_190.1 a j (by unfold WM_X3_fail; unfold WM_X3_readLine at h; omega))
                  have b_190 := q_190.2
                  exact T_200 _ _ _ k_190 (fun _ _ _ => rfl) (by first | exact Or.inl rfl | exact Or.inr rfl | assumption)
            · refine vIf (fun h_156 => ?_) (fun h_156 => ?_)
              · refine vB (v_X3_readPrefer) (fun e_168 f_168 q_168 => ?_)
                have k_168 : ∀ a j, ¬ WM_X3_readLine Q a j → e_168.2.1 a j = M0 a j := fun a j h => (q_168.1 a j (by unfold WM_X3_readPrefer; unfold WM_X3_readLine at h; omega))
                have kn_168 : ∀ a j, ¬ WN_X3_readLine Q a j → e_168.2.2 a j = N0 a j := fun a j h => (q_168.2.1 a j (by unfold WN_X3_readPrefer; unfold WN_X3_readLine at h; omega))
                have b_168 := q_168.2.2
                exact T_171 _ _ _ k_168 kn_168 (by first | exact Or.inl rfl | exact Or.inr rfl | assumption)
              · refine vB (v_X3_fail) (fun e_161 f_161 q_161 => ?_)
                have k_161 : ∀ a j, ¬ WM_X3_readLine Q a j → e_161.2 a j = M0 a j := fun a j h => (q_161.1 a j (by unfold WM_X3_fail; unfold WM_X3_readLine at h; omega))
                have b_161 := q_161.2
                exact T_171 _ _ _ k_161 (fun _ _ _ => rfl) (by first | exact Or.inl rfl | exact Or.inr rfl | assumption)
          · refine vIf (fun h_127 => ?_) (fun h_127 => ?_)
            · refine vB (v_X3_readLaw) (fun e_139 f_139 q_139 => ?_)
              have k_139 : ∀ a j, ¬ WM_X3_readLine Q a j → e_139.2.1 a j = M0 a j := fun a j h => (q_139.1 a j (by unfold WM_X3_readLaw; unfold WM_X3_readLine at h; omega))
              have kn_139 : ∀ a j, ¬ WN_X3_readLine Q a j → e_139.2.2 a j = N0 a j := fun a j h => (q_139.2.1 a j (by unfold WN_X3_readLaw; unfold WN_X3_readLine at h; omega))
              have b_139 := q_139.2.2
              exact T_142 _ _ _ k_139 kn_139 (by first | exact Or.inl rfl | exact Or.inr rfl | assumption)
            · refine vB (v_X3_fail) (fun e_132 f_132 q_132 => ?_)
              have k_132 : ∀ a j, ¬ WM_X3_readLine Q a j → e_132.2 a j = M0 a j := fun a j h => (q_132.1 a j (by unfold WM_X3_fail; unfold WM_X3_readLine at h; omega))
              have b_132 := q_132.2
              exact T_142 _ _ _ k_132 (fun _ _ _ => rfl) (by first | exact Or.inl rfl | exact Or.inr rfl | assumption)
        · refine vB (v_X3_readAsks) (fun e_110 f_110 q_110 => ?_)
          have k_110 : ∀ a j, ¬ WM_X3_readLine Q a j → e_110.2.1 a j = M0 a j := fun a j h => (q_110.1 a j (by unfold WM_X3_readAsks; unfold WM_X3_readLine at h; omega))
          have kn_110 : ∀ a j, ¬ WN_X3_readLine Q a j → e_110.2.2 a j = N0 a j := fun a j h => (q_110.2.1 a j (by unfold WN_X3_readAsks; unfold WN_X3_readLine at h; omega))
          have b_110 := q_110.2.2
          exact ⟨_, rfl, k_110, kn_110, (by first | exact Or.inl rfl | exact Or.inr rfl | assumption)⟩
      · refine vIf (fun h_84 => ?_) (fun h_84 => ?_)
        · refine vB (v_X3_fail) (fun e_96 f_96 q_96 => ?_)
          have k_96 : ∀ a j, ¬ WM_X3_readLine Q a j → e_96.2 a j = M0 a j := fun a j h => (q_96.1 a j (by unfold WM_X3_fail; unfold WM_X3_readLine at h; omega))
          have b_96 := q_96.2
          exact T_99 _ _ _ k_96 (fun _ _ _ => rfl) (by first | exact Or.inl rfl | exact Or.inr rfl | assumption)
        · refine vB (v_X3_readParty) (fun e_88 f_88 q_88 => ?_)
          have k_88 : ∀ a j, ¬ WM_X3_readLine Q a j → e_88.2.1 a j = M0 a j := fun a j h => (q_88.1 a j (by unfold WM_X3_readParty; unfold WM_X3_readLine at h; omega))
          have kn_88 : ∀ a j, ¬ WN_X3_readLine Q a j → e_88.2.2 a j = N0 a j := fun a j h => (q_88.2.1 a j (by unfold WN_X3_readParty; unfold WN_X3_readLine at h; omega))
          have b_88 := q_88.2.2
          exact T_99 _ _ _ k_88 kn_88 (by first | exact Or.inl rfl | exact Or.inr rfl | assumption)
    · refine vIf (fun h_51 => ?_) (fun h_51 => ?_)
      · refine vB (v_X3_fail) (fun e_63 f_63 q_63 => ?_)
        have k_63 : ∀ a j, ¬ WM_X3_readLine Q a j → e_63.2 a j = M0 a j := fun a j h => (q_63.1 a j (by unfold WM_X3_fail; unfold WM_X3_readLine at h; omega))
        have b_63 := q_63.2
        exact T_66 _ _ _ k_63 (fun _ _ _ => rfl) (by first | exact Or.inl rfl | exact Or.inr rfl | assumption)
      · refine vB (v_X3_readHunter) (fun e_55 f_55 q_55 => ?_)
        have k_55 : ∀ a j, ¬ WM_X3_readLine Q a j → e_55.2.1 a j = M0 a j := fun a j h => (q_55.1 a j (by unfold WM_X3_readHunter; unfold WM_X3_readLine at h; omega))
        have kn_55 : ∀ a j, ¬ WN_X3_readLine Q a j → e_55.2.2 a j = N0 a j := fun a j h => (q_55.2.1 a j (by unfold WN_X3_readHunter; unfold WN_X3_readLine at h; omega))
        have b_55 := q_55.2.2
        exact T_66 _ _ _ k_55 kn_55 (by first | exact Or.inl rfl | exact Or.inr rfl | assumption)
  · refine vIf (fun h_17 => ?_) (fun h_17 => ?_)
    · refine vB (v_X3_fail) (fun e_29 f_29 q_29 => ?_)
      have k_29 : ∀ a j, ¬ WM_X3_readLine Q a j → e_29.2 a j = M0 a j := fun a j h => (q_29.1 a j (by unfold WM_X3_fail; unfold WM_X3_readLine at h; omega))
      have b_29 := q_29.2
      exact T_32 _ _ _ k_29 (fun _ _ _ => rfl) (by first | exact Or.inl rfl | exact Or.inr rfl | assumption)
    · refine vB (v_X3_readUnit) (fun e_21 f_21 q_21 => ?_)
      have k_21 : ∀ a j, ¬ WM_X3_readLine Q a j → e_21.2.1 a j = M0 a j := fun a j h => (q_21.1 a j (by unfold WM_X3_readUnit; unfold WM_X3_readLine at h; omega))
      have kn_21 : ∀ a j, ¬ WN_X3_readLine Q a j → e_21.2.2 a j = N0 a j := fun a j h => (q_21.2.1 a j (by unfold WN_X3_readUnit; unfold WN_X3_readLine at h; omega))
      have b_21 := q_21.2.2
      exact T_32 _ _ _ k_21 kn_21 (by first | exact Or.inl rfl | exact Or.inr rfl | assumption)
def WM_X3_read (Q A : Nat) (a j : Nat) : Prop := (Q + 2 ≤ a ∧ a < Q + 10) ∨ (Q + 13 ≤ a ∧ a < Q + 14) ∨ (a = Q ∧ (j = 1 ∨ j = 2 ∨ j = 4 ∨ j = 5 ∨ j = 6 ∨ j = 7 ∨ j = 9 ∨ j = 11 ∨ j = 12 ∨ j = 13)) ∨ (a = Q + 1 ∧ (j = 0 ∨ j = 1 ∨ j = 2 ∨ j = 3 ∨ j = 4 ∨ j = 5 ∨ j = 6))
def WN_X3_read (Q A : Nat) (a j : Nat) : Prop := (Q + 10 ≤ a ∧ a < Q + 13) ∨ (a = Q ∧ (j = 8 ∨ j = 10))
set_option maxRecDepth 100000 in
set_option maxHeartbeats 4000000 in
theorem v_X3_read {Q : Nat} {A : Nat} {nA : Nat} {v0 : Int32} {M0 : zMt} {N0 : zNt}  : ∃ r, D_X3_read Q A nA v0 M0 N0 = some r ∧ ((∀ a j, ¬ WM_X3_read Q A a j → r.2.1 a j = M0 a j) ∧ (∀ a j, ¬ WN_X3_read Q A a j → r.2.2 a j = N0 a j) ∧ (r.1 = 0 ∨ r.1 = 1)) := by
  have T_91 : ∀ (M_91 : zMt) (N_91 : zNt), (∀ a j, ¬ WM_X3_read Q A a j → M_91 a j = M0 a j) → (∀ a j, ¬ WN_X3_read Q A a j → N_91 a j = N0 a j) → ∃ r, D_X3_read_91 Q A nA M_91 N_91 = some r ∧ ((∀ a j, ¬ WM_X3_read Q A a j → r.2.1 a j = M0 a j) ∧ (∀ a j, ¬ WN_X3_read Q A a j → r.2.2 a j = N0 a j) ∧ (r.1 = 0 ∨ r.1 = 1)) := by
    intro M_91 N_91 k_91 kn_91
    unfold D_X3_read_91
    exact ⟨_, rfl, k_91, kn_91, (by first | exact Or.inl rfl | exact Or.inr rfl | assumption)⟩
  have TL_62 : ∀ u : Nat, ∀ (x3_62 : Int32) (M_62 : zMt) (N_62 : zNt), (∀ a j, ¬ WM_X3_read Q A a j → M_62 a j = M0 a j) → (∀ a j, ¬ WN_X3_read Q A a j → N_62 a j = N0 a j) → (2147483648 - Int32.toInt x3_62).toNat < u → ∃ r, D_X3_read_62 Q A nA u x3_62 M_62 N_62 = some r ∧ ((∀ a j, ¬ WM_X3_read Q A a j → r.2.1 a j = M0 a j) ∧ (∀ a j, ¬ WN_X3_read Q A a j → r.2.2 a j = N0 a j) ∧ (r.1 = 0 ∨ r.1 = 1)) := by
    intro u
    induction u with
    | zero => intro x3_62 M_62 N_62 k_62 kn_62 hm_62; exact absurd hm_62 (Nat.not_lt_zero _)
    | succ u_62 ih_62 =>
      intro x3_62 M_62 N_62 k_62 kn_62 hm_62
      rw [D_X3_read_62]
      refine vIf (fun h_66 => ?_) (fun h_66 => ?_)
      · exact T_91 _ _ k_62 kn_62
      · refine vIf (fun h_73 => ?_) (fun h_73 => ?_)
        · exact T_91 _ _ k_62 kn_62
        · refine vB (v_X3_readLine) (fun e_77 f_77 q_77 => ?_)
          have k_77 : ∀ a j, ¬ WM_X3_read Q A a j → e_77.2.1 a j = M0 a j := fun a j h => (q_77.1 a j (by unfold WM_X3_readLine; unfold WM_X3_read at h; omega)).trans (k_62 a j h)
          have kn_77 : ∀ a j, ¬ WN_X3_read Q A a j → e_77.2.2 a j = N0 a j := fun a j h => (q_77.2.1 a j (by unfold WN_X3_readLine; unfold WN_X3_read at h; omega)).trans (kn_62 a j h)
          have b_77 := q_77.2.2
          refine vIf (fun h_80 => ?_) (fun h_80 => ?_)
          · exact ⟨_, rfl, k_77, kn_77, (by first | exact Or.inl rfl | exact Or.inr rfl | assumption)⟩
          · exact ih_62 _ _ _ k_77 kn_77 (z_up1 (by first | assumption | exact z_lt (by assumption) | exact z_lt2 (by assumption) | exact z_lt3 (by assumption) (by first | assumption | decide)) hm_62)
  have T_62 : ∀ (x3_62 : Int32) (M_62 : zMt) (N_62 : zNt), (∀ a j, ¬ WM_X3_read Q A a j → M_62 a j = M0 a j) → (∀ a j, ¬ WN_X3_read Q A a j → N_62 a j = N0 a j) → ∃ r, D_X3_read_62 Q A nA zFu x3_62 M_62 N_62 = some r ∧ ((∀ a j, ¬ WM_X3_read Q A a j → r.2.1 a j = M0 a j) ∧ (∀ a j, ¬ WN_X3_read Q A a j → r.2.2 a j = N0 a j) ∧ (r.1 = 0 ∨ r.1 = 1)) := fun x3_62 M_62 N_62 k_62 kn_62 => TL_62 zFu x3_62 M_62 N_62 k_62 kn_62 (zFu_up _)
  unfold D_X3_read
  refine vLm (W := WM_X3_read Q A) (fun a j h => (congrFun (zcpy_row (by unfold WM_X3_read at h; omega)) j)) (fun M_5 f_5 k_5 => ?_)
  refine vLm (W := WM_X3_read Q A) (fun a j h => (zu_ne (by unfold WM_X3_read at h; omega)).trans (k_5 a j h)) (fun M_16 f_16 k_16 => ?_)
  refine vLm (W := WM_X3_read Q A) (fun a j h => (zu_ne (by unfold WM_X3_read at h; omega)).trans (k_16 a j h)) (fun M_21 f_21 k_21 => ?_)
  refine vLm (W := WM_X3_read Q A) (fun a j h => (zu_ne (by unfold WM_X3_read at h; omega)).trans (k_21 a j h)) (fun M_26 f_26 k_26 => ?_)
  refine vLm (W := WM_X3_read Q A) (fun a j h => (zu_ne (by unfold WM_X3_read at h; omega)).trans (k_26 a j h)) (fun M_31 f_31 k_31 => ?_)
  refine vLm (W := WM_X3_read Q A) (fun a j h => (zu_ne (by unfold WM_X3_read at h; omega)).trans (k_31 a j h)) (fun M_36 f_36 k_36 => ?_)
  refine vB (v_X4_clear) (fun e_43 f_43 q_43 => ?_)
  have k_43 : ∀ a j, ¬ WM_X3_read Q A a j → e_43 a j = M0 a j := fun a j h => (q_43 a j (by unfold WM_X4_clear; unfold WM_X3_read at h; omega)).trans (k_36 a j h)
  refine vLm (W := WM_X3_read Q A) (fun a j h => (zu_ne (by unfold WM_X3_read at h; omega)).trans (k_43 a j h)) (fun M_48 f_48 k_48 => ?_)
  refine vLm (W := WM_X3_read Q A) (fun a j h => (zu_ne (by unfold WM_X3_read at h; omega)).trans (k_48 a j h)) (fun M_53 f_53 k_53 => ?_)
  refine vB (v_X3_step) (fun e_57 f_57 q_57 => ?_)
  have k_57 : ∀ a j, ¬ WM_X3_read Q A a j → e_57.1 a j = M0 a j := fun a j h => (q_57.1 a j (by unfold WM_X3_step; unfold WM_X3_read at h; omega)).trans (k_53 a j h)
  have kn_57 : ∀ a j, ¬ WN_X3_read Q A a j → e_57.2 a j = N0 a j := fun a j h => (q_57.2 a j (by unfold WN_X3_step; unfold WN_X3_read at h; omega))
  exact T_62 _ _ _ k_57 kn_57
def WM_X4_take (Q A : Nat) (a j : Nat) : Prop := (Q + 1 ≤ a ∧ a < Q + 8) ∨ (a = Q ∧ (j = 0 ∨ j = 1 ∨ j = 2 ∨ j = 3 ∨ j = 4 ∨ j = 5 ∨ j = 6))
set_option maxRecDepth 100000 in
set_option maxHeartbeats 4000000 in
theorem v_X4_take {Q : Nat} {A : Nat}  {M0 : zMt}  : ∃ r, D_X4_take Q A M0 = some r ∧ ((∀ a j, ¬ WM_X4_take Q A a j → r a j = M0 a j)) := by
  unfold D_X4_take
  refine vLm (W := WM_X4_take Q A) (fun a j h => (zu_ne (by unfold WM_X4_take at h; omega))) (fun M_5 f_5 k_5 => ?_)
  refine vLm (W := WM_X4_take Q A) (fun a j h => (zu_ne (by unfold WM_X4_take at h; omega)).trans (k_5 a j h)) (fun M_13 f_13 k_13 => ?_)
  refine vLm (W := WM_X4_take Q A) (fun a j h => (zu_ne (by unfold WM_X4_take at h; omega)).trans (k_13 a j h)) (fun M_21 f_21 k_21 => ?_)
  refine vLm (W := WM_X4_take Q A) (fun a j h => (zu_ne (by unfold WM_X4_take at h; omega)).trans (k_21 a j h)) (fun M_29 f_29 k_29 => ?_)
  refine vLm (W := WM_X4_take Q A) (fun a j h => (zu_ne (by unfold WM_X4_take at h; omega)).trans (k_29 a j h)) (fun M_37 f_37 k_37 => ?_)
  refine vLm (W := WM_X4_take Q A) (fun a j h => (zu_ne (by unfold WM_X4_take at h; omega)).trans (k_37 a j h)) (fun M_45 f_45 k_45 => ?_)
  refine vLm (W := WM_X4_take Q A) (fun a j h => (zu_ne (by unfold WM_X4_take at h; omega)).trans (k_45 a j h)) (fun M_53 f_53 k_53 => ?_)
  refine vLm (W := WM_X4_take Q A) (fun a j h => (congrFun (zcpy_row (by unfold WM_X4_take at h; omega)) j).trans (k_53 a j h)) (fun M_64 f_64 k_64 => ?_)
  refine vLm (W := WM_X4_take Q A) (fun a j h => (congrFun (zcpy_row (by unfold WM_X4_take at h; omega)) j).trans (k_64 a j h)) (fun M_75 f_75 k_75 => ?_)
  refine vLm (W := WM_X4_take Q A) (fun a j h => (congrFun (zcpy_row (by unfold WM_X4_take at h; omega)) j).trans (k_75 a j h)) (fun M_86 f_86 k_86 => ?_)
  refine vLm (W := WM_X4_take Q A) (fun a j h => (congrFun (zcpy_row (by unfold WM_X4_take at h; omega)) j).trans (k_86 a j h)) (fun M_97 f_97 k_97 => ?_)
  refine vLm (W := WM_X4_take Q A) (fun a j h => (congrFun (zcpy_row (by unfold WM_X4_take at h; omega)) j).trans (k_97 a j h)) (fun M_108 f_108 k_108 => ?_)
  refine vLm (W := WM_X4_take Q A) (fun a j h => (congrFun (zcpy_row (by unfold WM_X4_take at h; omega)) j).trans (k_108 a j h)) (fun M_119 f_119 k_119 => ?_)
  refine vLm (W := WM_X4_take Q A) (fun a j h => (congrFun (zcpy_row (by unfold WM_X4_take at h; omega)) j).trans (k_119 a j h)) (fun M_130 f_130 k_130 => ?_)
  exact ⟨_, rfl, k_130⟩
def WM_X1_keep (Q A : Nat) (a j : Nat) : Prop := Q ≤ a ∧ a < Q + 66
def WM_X1_giveBack (Q A : Nat) (a j : Nat) : Prop := (a = Q ∧ (j = 0 ∨ j = 1)) ∨ (A ≤ a ∧ a < A + 8)
theorem z_8 {x : Int32} (h : vp_in x 8) (hc : ¬ 8 ≤ x + 1) : vp_in (x + 1) 8 := by
  obtain ⟨e, h8⟩ := z_vin (by decide) h
  generalize x.toNatClampNeg = k at e h8
  subst e
  rw [nI_1] at hc ⊢
  have := (nI_leI (a := 8) (b := k + 1) (by decide) (by omega))
  have h9 : ¬ 8 ≤ k + 1 := fun q => hc (this.mpr q)
  exact vp_in_nI (by omega) (by decide)
theorem z_8m {x : Int32} (h : vp_in x 8) (hc : ¬ x ≤ 0) : vp_in (x - 1) 8 := by
  obtain ⟨e, h8⟩ := z_vin (by decide) h
  generalize x.toNatClampNeg = k at e h8
  subst e
  match k, h8 with
  | 0, _ => exact absurd (by decide) hc
  | 1, _ => unfold vp_in; decide
  | 2, _ => unfold vp_in; decide
  | 3, _ => unfold vp_in; decide
  | 4, _ => unfold vp_in; decide
  | 5, _ => unfold vp_in; decide
  | 6, _ => unfold vp_in; decide
  | 7, _ => unfold vp_in; decide
theorem v_X1_keep_22 {Q A : Nat} {y : Int32} {M0 : zMt} (hy : vp_in y 8) : ∃ r, D_X1_keep_22 Q A y M0 = some r ∧ ((∀ a j, ¬ WM_X1_keep Q A a j → r a j = M0 a j) ∧ vp_in (r Q 1) 8) := by
  unfold D_X1_keep_22
  obtain ⟨e, h8⟩ := z_vin (by decide) hy
  refine vLm (W := WM_X1_keep Q A) (fun a j h => zu_ne (by unfold WM_X1_keep at h; omega)) (fun M1 f1 k1 => ?_)
  refine vI hy ?_
  refine vB v_X4_take (fun M2 f2 q2 => ?_)
  have k2 : ∀ a j, ¬ WM_X1_keep Q A a j → M2 a j = M0 a j := fun a j h => (q2 a j (by unfold WM_X4_take; unfold WM_X1_keep at h; omega)).trans (k1 a j h)
  have t2 : M2 Q 1 = y := by rw [q2 Q 1 (by unfold WM_X4_take; omega), ← f1, zu_eq]
  refine vLm (W := WM_X1_keep Q A) (fun a j h => (zu_ne (by unfold WM_X1_keep at h; omega)).trans (k2 a j h)) (fun M3 f3 k3 => ?_)
  refine ⟨_, rfl, k3, ?_⟩
  rw [← f3, zu_ne (by omega), t2]
  exact hy
theorem v_X1_keep {Q A : Nat} {M0 : zMt} (hvp : vp_in (M0 Q 1) 8) : ∃ r, D_X1_keep Q A M0 = some r ∧ ((∀ a j, ¬ WM_X1_keep Q A a j → r a j = M0 a j) ∧ vp_in (r Q 1) 8) := by
  unfold D_X1_keep
  exact vIf (fun _ => v_X1_keep_22 (by unfold vp_in; decide)) (fun h => v_X1_keep_22 (z_8 hvp h))
theorem v_X1_giveBack {Q A : Nat} {M0 : zMt} (dQA : Q + 66 ≤ A ∨ A + 8 ≤ Q) (hvp : vp_in (M0 Q 1) 8) : ∃ r, D_X1_giveBack Q A M0 = some r ∧ ((∀ a j, ¬ WM_X1_giveBack Q A a j → r.2 a j = M0 a j) ∧ (r.1 = 0 ∨ r.1 = 1) ∧ vp_in (r.2 Q 1) 8) := by
  unfold D_X1_giveBack
  refine vI hvp ?_
  refine vIf (fun _ => ⟨_, rfl, fun _ _ _ => rfl, Or.inl rfl, hvp⟩) (fun _ => ?_)
  refine vB v_X4_take (fun M1 f1 q1 => ?_)
  have k1 : ∀ a j, ¬ WM_X1_giveBack Q A a j → M1 a j = M0 a j := fun a j h => (q1 a j (by unfold WM_X4_take; unfold WM_X1_giveBack at h; omega))
  have t1 : M1 Q 1 = M0 Q 1 := q1 Q 1 (by unfold WM_X4_take; omega)
  refine vLm (W := WM_X1_giveBack Q A) (fun a j h => (zu_ne (by unfold WM_X1_giveBack at h; omega)).trans (k1 a j h)) (fun M2 f2 k2 => ?_)
  have t2 : M2 Q 1 = M0 Q 1 := by rw [← f2, zu_ne (by omega), t1]
  refine vIf (fun h => ?_) (fun h => ?_)
  all_goals
    unfold D_X1_giveBack_52
    refine vLm (W := WM_X1_giveBack Q A) (fun a j h => (zu_ne (by unfold WM_X1_giveBack at h; omega)).trans (k2 a j h)) (fun M3 f3 k3 => ?_)
    refine ⟨_, rfl, k3, Or.inr rfl, ?_⟩
    show vp_in (M3 Q 1) 8
    rw [← f3, zu_eq]
    first | (unfold vp_in; decide) | (rw [t2] at h ⊢; exact z_8m hvp h)

def WM_X4_join (Q : Nat) (a j : Nat) : Prop := (Q + 4 ≤ a ∧ a < Q + 7) ∨ (a = Q ∧ (j = 2))
set_option maxRecDepth 100000 in
set_option maxHeartbeats 4000000 in
theorem v_X4_join {Q : Nat} {v0 : Int32} {v1 : Int32} {M0 : zMt}  : ∃ r, D_X4_join Q v0 v1 M0 = some r ∧ ((∀ a j, ¬ WM_X4_join Q a j → r a j = M0 a j)) := by
  unfold D_X4_join
  refine vB (v_X4_wishFor) (fun e_36 f_36 q_36 => ?_)
  have k_36 : ∀ a j, ¬ WM_X4_join Q a j → e_36 a j = M0 a j := fun a j h => (q_36 a j (by unfold WM_X4_wishFor; unfold WM_X4_join at h; omega))
  refine vB (v_X4_addParty) (fun e_47 f_47 q_47 => ?_)
  have k_47 : ∀ a j, ¬ WM_X4_join Q a j → e_47 a j = M0 a j := fun a j h => (q_47 a j (by unfold WM_X4_addParty; unfold WM_X4_join at h; omega)).trans (k_36 a j h)
  exact ⟨_, rfl, k_47⟩
def WM_X4_dissolve (Q : Nat) (a j : Nat) : Prop := (Q + 4 ≤ a ∧ a < Q + 5) ∨ (a = Q ∧ (j = 2))
set_option maxRecDepth 100000 in
set_option maxHeartbeats 4000000 in
theorem v_X4_dissolve {Q : Nat} {v0 : Int32} {M0 : zMt}  : ∃ r, D_X4_dissolve Q v0 M0 = some r ∧ ((∀ a j, ¬ WM_X4_dissolve Q a j → r a j = M0 a j)) := by
  have TL_2 : ∀ u : Nat, ∀ (x1_2 : Int32) (x2_2 : Int32) (M_2 : zMt), (∀ a j, ¬ WM_X4_dissolve Q a j → M_2 a j = M0 a j) → (2147483648 - Int32.toInt x2_2).toNat < u → ∃ r, D_X4_dissolve_2 Q u x1_2 x2_2 M_2 = some r ∧ ((∀ a j, ¬ WM_X4_dissolve Q a j → r a j = M0 a j)) := by
    intro u
    induction u with
    | zero => intro x1_2 x2_2 M_2 k_2 hm_2; exact absurd hm_2 (Nat.not_lt_zero _)
    | succ u_2 ih_2 =>
      have T_52 : ∀ (x1_52 : Int32) (x2_52 : Int32) (M_52 : zMt), (∀ a j, ¬ WM_X4_dissolve Q a j → M_52 a j = M0 a j) → ((2147483648 - Int32.toInt x2_52).toNat < u_2 + 1) → (Int32.toInt x2_52 < 2147483647) → ∃ r, D_X4_dissolve_52 Q (D_X4_dissolve_2 Q u_2) x1_52 x2_52 M_52 = some r ∧ ((∀ a j, ¬ WM_X4_dissolve Q a j → r a j = M0 a j)) := by
        intro x1_52 x2_52 M_52 k_52 f0_52 f1_52
        unfold D_X4_dissolve_52
        exact ih_2 _ _ _ k_52 (z_up1 f1_52 f0_52)
      intro x1_2 x2_2 M_2 k_2 hm_2
      rw [D_X4_dissolve_2]
      refine vIf (fun h_7 => ?_) (fun h_7 => ?_)
      · refine vLm (W := WM_X4_dissolve Q) (fun a j h => (zu_ne (by unfold WM_X4_dissolve at h; omega)).trans (k_2 a j h)) (fun M_65 f_65 k_65 => ?_)
        exact ⟨_, rfl, k_65⟩
      · refine vIf (fun h_21 => ?_) (fun h_21 => ?_)
        · refine vLm (W := WM_X4_dissolve Q) (fun a j h => (congrFun (zwr_row (by unfold WM_X4_dissolve at h; omega)) j).trans (k_2 a j h)) (fun M_30 f_30 k_30 => ?_)
          exact T_52 _ _ _ k_30 hm_2 (by first | assumption | exact z_lt (by assumption) | exact z_lt2 (by assumption) | exact z_lt3 (by assumption) (by first | assumption | decide))
        · refine vIf (fun h_38 => ?_) (fun h_38 => ?_)
          · exact T_52 _ _ _ k_2 hm_2 (by first | assumption | exact z_lt (by assumption) | exact z_lt2 (by assumption) | exact z_lt3 (by assumption) (by first | assumption | decide))
          · refine vLm (W := WM_X4_dissolve Q) (fun a j h => (congrFun (zwr_row (by unfold WM_X4_dissolve at h; omega)) j).trans (k_2 a j h)) (fun M_49 f_49 k_49 => ?_)
            exact T_52 _ _ _ k_49 hm_2 (by first | assumption | exact z_lt (by assumption) | exact z_lt2 (by assumption) | exact z_lt3 (by assumption) (by first | assumption | decide))
  have T_2 : ∀ (x1_2 : Int32) (x2_2 : Int32) (M_2 : zMt), (∀ a j, ¬ WM_X4_dissolve Q a j → M_2 a j = M0 a j) → ∃ r, D_X4_dissolve_2 Q zFu x1_2 x2_2 M_2 = some r ∧ ((∀ a j, ¬ WM_X4_dissolve Q a j → r a j = M0 a j)) := fun x1_2 x2_2 M_2 k_2 => TL_2 zFu x1_2 x2_2 M_2 k_2 (zFu_up _)
  unfold D_X4_dissolve
  exact T_2 _ _ _ (fun _ _ _ => rfl)
set_option maxRecDepth 100000 in
set_option maxHeartbeats 4000000 in
theorem v_X5_hasFirst {Q : Nat} {A : Nat} {M : zMt} {v0 : Int32}  : ∃ r, D_X5_hasFirst Q A M v0 = some r ∧ ((r = 0 ∨ r = 1)) := by
  have T_34 : ∀ (y0_34 : Int32), (y0_34 = 0 ∨ y0_34 = 1) → ∃ r, D_X5_hasFirst_34 Q A M y0_34 = some r ∧ ((r = 0 ∨ r = 1)) := by
    intro y0_34 f0_34
    unfold D_X5_hasFirst_34
    exact ⟨_, rfl, (by first | exact Or.inl rfl | exact Or.inr rfl | assumption)⟩
  have T_33 : ∃ r, D_X5_hasFirst_33 Q A M = some r ∧ ((r = 0 ∨ r = 1)) := by
    unfold D_X5_hasFirst_33
    exact T_34 _ (by first | exact Or.inl rfl | exact Or.inr rfl | assumption)
  unfold D_X5_hasFirst
  refine vIf (fun h_9 => ?_) (fun h_9 => ?_)
  · exact T_33
  · refine vB (v_X2_wish) (fun e_23 f_23 q_23 => ?_)
    refine vIf (fun h_26 => ?_) (fun h_26 => ?_)
    · exact T_34 _ (by first | exact Or.inl rfl | exact Or.inr rfl | assumption)
    · exact T_33
set_option maxRecDepth 100000 in
set_option maxHeartbeats 4000000 in
theorem v_X5_scoreBehind {Q : Nat} {A : Nat} {M : zMt} {v0 : Int32} {v1 : Int32}  : ∃ r, D_X5_scoreBehind Q A M v0 v1 = some r ∧ (True) := by
  have T_48 : ∀ (y0_48 : Int32), ∃ r, D_X5_scoreBehind_48 Q A M y0_48 = some r ∧ (True) := by
    intro y0_48
    unfold D_X5_scoreBehind_48
    exact ⟨_, rfl, trivial⟩
  unfold D_X5_scoreBehind
  refine vIf (fun h_8 => ?_) (fun h_8 => ?_)
  · exact ⟨_, rfl, trivial⟩
  · refine vIf (fun h_22 => ?_) (fun h_22 => ?_)
    · exact ⟨_, rfl, trivial⟩
    · refine vB (v_X5_hasFirst) (fun e_37 f_37 q_37 => ?_)
      have b_37 := q_37
      refine vIf (fun h_40 => ?_) (fun h_40 => ?_)
      · exact T_48 _
      · exact T_48 _
def WM_X4_live (Q A B : Nat) (a j : Nat) : Prop := (Q + 2 ≤ a ∧ a < Q + 3) ∨ (Q + 7 ≤ a ∧ a < Q + 8)
set_option maxRecDepth 100000 in
set_option maxHeartbeats 4000000 in
theorem v_X4_live {Q : Nat} {A : Nat} {B : Nat}  {M0 : zMt}  : ∃ r, D_X4_live Q A B M0 = some r ∧ ((∀ a j, ¬ WM_X4_live Q A B a j → r a j = M0 a j)) := by
  have TL_2 : ∀ u : Nat, ∀ (x3_2 : Int32) (M_2 : zMt), (∀ a j, ¬ WM_X4_live Q A B a j → M_2 a j = M0 a j) → (2147483648 - Int32.toInt x3_2).toNat < u → ∃ r, D_X4_live_2 Q A B u x3_2 M_2 = some r ∧ ((∀ a j, ¬ WM_X4_live Q A B a j → r a j = M0 a j)) := by
    intro u
    induction u with
    | zero => intro x3_2 M_2 k_2 hm_2; exact absurd hm_2 (Nat.not_lt_zero _)
    | succ u_2 ih_2 =>
      intro x3_2 M_2 k_2 hm_2
      rw [D_X4_live_2]
      refine vIf (fun h_7 => ?_) (fun h_7 => ?_)
      · exact ⟨_, rfl, k_2⟩
      · refine vB (v_X5_scoreBehind) (fun e_37 f_37 q_37 => ?_)
        refine vLm (W := WM_X4_live Q A B) (fun a j h => (congrFun (zwr_row (by unfold WM_X4_live at h; omega)) j).trans (k_2 a j h)) (fun M_40 f_40 k_40 => ?_)
        refine vLm (W := WM_X4_live Q A B) (fun a j h => (congrFun (zwr_row (by unfold WM_X4_live at h; omega)) j).trans (k_40 a j h)) (fun M_57 f_57 k_57 => ?_)
        exact ih_2 _ _ k_57 (z_up1 (by first | assumption | exact z_lt (by assumption) | exact z_lt2 (by assumption) | exact z_lt3 (by assumption) (by first | assumption | decide)) hm_2)
  have T_2 : ∀ (x3_2 : Int32) (M_2 : zMt), (∀ a j, ¬ WM_X4_live Q A B a j → M_2 a j = M0 a j) → ∃ r, D_X4_live_2 Q A B zFu x3_2 M_2 = some r ∧ ((∀ a j, ¬ WM_X4_live Q A B a j → r a j = M0 a j)) := fun x3_2 M_2 k_2 => TL_2 zFu x3_2 M_2 k_2 (zFu_up _)
  unfold D_X4_live
  exact T_2 _ _ (fun _ _ _ => rfl)
set_option maxRecDepth 100000 in
set_option maxHeartbeats 4000000 in
theorem v_X5_holderOf {Q : Nat} {M : zMt} {v0 : Int32} {v1 : Int32}  : ∃ r, D_X5_holderOf Q M v0 v1 = some r ∧ (True) := by
  have TL_5 : ∀ u : Nat, ∀ (x1_5 : Int32) (x2_5 : Int32) (x3_5 : Int32) (x4_5 : Int32), (2147483648 - Int32.toInt x4_5).toNat < u → ∃ r, D_X5_holderOf_5 Q M u x1_5 x2_5 x3_5 x4_5 = some r ∧ (True) := by
    intro u
    induction u with
    | zero => intro x1_5 x2_5 x3_5 x4_5 hm_5; exact absurd hm_5 (Nat.not_lt_zero _)
    | succ u_5 ih_5 =>
      have T_44 : ∀ (x1_44 : Int32) (x2_44 : Int32) (x3_44 : Int32) (x4_44 : Int32), ((2147483648 - Int32.toInt x4_44).toNat < u_5 + 1) → (Int32.toInt x4_44 < 2147483647) → ∃ r, D_X5_holderOf_44 Q M (D_X5_holderOf_5 Q M u_5) x1_44 x2_44 x3_44 x4_44 = some r ∧ (True) := by
        intro x1_44 x2_44 x3_44 x4_44 f0_44 f1_44
        unfold D_X5_holderOf_44
        exact ih_5 _ _ _ _ (z_up1 f1_44 f0_44)
      intro x1_5 x2_5 x3_5 x4_5 hm_5
      rw [D_X5_holderOf_5]
      refine vIf (fun h_11 => ?_) (fun h_11 => ?_)
      · exact ⟨_, rfl, trivial⟩
      · refine vIf (fun h_21 => ?_) (fun h_21 => ?_)
        · refine vIf (fun h_38 => ?_) (fun h_38 => ?_)
          · exact T_44 _ _ _ _ hm_5 (by first | assumption | exact z_lt (by assumption) | exact z_lt2 (by assumption) | exact z_lt3 (by assumption) (by first | assumption | decide))
          · exact ⟨_, rfl, trivial⟩
        · exact T_44 _ _ _ _ hm_5 (by first | assumption | exact z_lt (by assumption) | exact z_lt2 (by assumption) | exact z_lt3 (by assumption) (by first | assumption | decide))
  have T_5 : ∀ (x1_5 : Int32) (x2_5 : Int32) (x3_5 : Int32) (x4_5 : Int32), ∃ r, D_X5_holderOf_5 Q M zFu x1_5 x2_5 x3_5 x4_5 = some r ∧ (True) := fun x1_5 x2_5 x3_5 x4_5 => TL_5 zFu x1_5 x2_5 x3_5 x4_5 (zFu_up _)
  unfold D_X5_holderOf
  exact T_5 _ _ _ _
def WM_X5_lineUp (Q A : Nat) (a j : Nat) : Prop := (Q + 1 ≤ a ∧ a < Q + 2)
set_option maxRecDepth 100000 in
set_option maxHeartbeats 4000000 in
theorem v_X5_lineUp {Q : Nat} {A : Nat} {v0 : Int32} {M0 : zMt}  : ∃ r, D_X5_lineUp Q A v0 M0 = some r ∧ ((∀ a j, ¬ WM_X5_lineUp Q A a j → r a j = M0 a j)) := by
  have T_110 : ∀ (M_110 : zMt), (∀ a j, ¬ WM_X5_lineUp Q A a j → M_110 a j = M0 a j) → ∃ r, D_X5_lineUp_110 Q A M_110 = some r ∧ ((∀ a j, ¬ WM_X5_lineUp Q A a j → r a j = M0 a j)) := by
    intro M_110 k_110
    unfold D_X5_lineUp_110
    exact ⟨_, rfl, k_110⟩
  have TL_22 : ∀ u : Nat, ∀ (x3_22 : Int64) (x5_22 : Int32) (x6_22 : Int32) (x7_22 : Int32) (M_22 : zMt), (∀ a j, ¬ WM_X5_lineUp Q A a j → M_22 a j = M0 a j) → (2147483648 - Int32.toInt x7_22).toNat < u → ∃ r, D_X5_lineUp_22 Q A u x3_22 x5_22 x6_22 x7_22 M_22 = some r ∧ ((∀ a j, ¬ WM_X5_lineUp Q A a j → r a j = M0 a j)) := by
    intro u
    induction u with
    | zero => intro x3_22 x5_22 x6_22 x7_22 M_22 k_22 hm_22; exact absurd hm_22 (Nat.not_lt_zero _)
    | succ u_22 ih_22 =>
      intro x3_22 x5_22 x6_22 x7_22 M_22 k_22 hm_22
      rw [D_X5_lineUp_22]
      refine vIf (fun h_28 => ?_) (fun h_28 => ?_)
      · exact T_110 _ k_22
      · refine vIf (fun h_33 => ?_) (fun h_33 => ?_)
        · exact T_110 _ k_22
        · refine vZl (by first | assumption | exact z_nzl (by assumption)) ?_
          refine vB (v_X5_holderOf) (fun e_63 f_63 q_63 => ?_)
          refine vLm (W := WM_X5_lineUp Q A) (fun a j h => (congrFun (zwr_row (by unfold WM_X5_lineUp at h; omega)) j).trans (k_22 a j h)) (fun M_76 f_76 k_76 => ?_)
          exact ih_22 _ _ _ _ _ k_76 (z_up1 (by first | assumption | exact z_lt (by assumption) | exact z_lt2 (by assumption) | exact z_lt3 (by assumption) (by first | assumption | decide)) hm_22)
  have T_22 : ∀ (x3_22 : Int64) (x5_22 : Int32) (x6_22 : Int32) (x7_22 : Int32) (M_22 : zMt), (∀ a j, ¬ WM_X5_lineUp Q A a j → M_22 a j = M0 a j) → ∃ r, D_X5_lineUp_22 Q A zFu x3_22 x5_22 x6_22 x7_22 M_22 = some r ∧ ((∀ a j, ¬ WM_X5_lineUp Q A a j → r a j = M0 a j)) := fun x3_22 x5_22 x6_22 x7_22 M_22 k_22 => TL_22 zFu x3_22 x5_22 x6_22 x7_22 M_22 k_22 (zFu_up _)
  unfold D_X5_lineUp
  exact T_22 _ _ _ _ _ (fun _ _ _ => rfl)
def WM_X5_bySeed (Q A : Nat) (a j : Nat) : Prop := (Q + 1 ≤ a ∧ a < Q + 8)
set_option maxRecDepth 100000 in
set_option maxHeartbeats 4000000 in
theorem v_X5_bySeed {Q : Nat} {A : Nat} {v0 : Int32} {M0 : zMt}  : ∃ r, D_X5_bySeed Q A v0 M0 = some r ∧ ((∀ a j, ¬ WM_X5_bySeed Q A a j → r a j = M0 a j)) := by
  unfold D_X5_bySeed
  refine vB (v_X5_lineUp) (fun e_3 f_3 q_3 => ?_)
  have k_3 : ∀ a j, ¬ WM_X5_bySeed Q A a j → e_3 a j = M0 a j := fun a j h => (q_3 a j (by unfold WM_X5_lineUp; unfold WM_X5_bySeed at h; omega))
  refine vB (v_X5_settle) (fun e_8 f_8 q_8 => ?_)
  have k_8 : ∀ a j, ¬ WM_X5_bySeed Q A a j → e_8 a j = M0 a j := fun a j h => (q_8 a j (by unfold WM_X5_settle; unfold WM_X5_bySeed at h; omega)).trans (k_3 a j h)
  exact ⟨_, rfl, k_8⟩
set_option maxRecDepth 100000 in
set_option maxHeartbeats 4000000 in
theorem v_X5_rankHeld {Q : Nat} {A : Nat} {M : zMt} {v0 : Int32}  : ∃ r, D_X5_rankHeld Q A M v0 = some r ∧ (True) := by
  have T_24 : ∀ (y0_24 : Int32), ∃ r, D_X5_rankHeld_24 Q A M y0_24 = some r ∧ (True) := by
    intro y0_24
    unfold D_X5_rankHeld_24
    exact ⟨_, rfl, trivial⟩
  unfold D_X5_rankHeld
  refine vB (v_X2_rankOf) (fun e_10 f_10 q_10 => ?_)
  refine vIf (fun h_16 => ?_) (fun h_16 => ?_)
  · exact T_24 _
  · exact T_24 _
set_option maxRecDepth 100000 in
set_option maxHeartbeats 4000000 in
theorem v_X5_isWaiting {Q : Nat} {A : Nat} {M : zMt} {v0 : Int32} {v1 : Int32}  : ∃ r, D_X5_isWaiting Q A M v0 v1 = some r ∧ ((r = 0 ∨ r = 1)) := by
  have T_27 : ∀ (y0_27 : Int32), (y0_27 = 0 ∨ y0_27 = 1) → ∃ r, D_X5_isWaiting_27 Q A M y0_27 = some r ∧ ((r = 0 ∨ r = 1)) := by
    intro y0_27 f0_27
    unfold D_X5_isWaiting_27
    exact ⟨_, rfl, (by first | exact Or.inl rfl | exact Or.inr rfl | assumption)⟩
  have T_26 : ∃ r, D_X5_isWaiting_26 Q A M = some r ∧ ((r = 0 ∨ r = 1)) := by
    unfold D_X5_isWaiting_26
    exact T_27 _ (by first | exact Or.inl rfl | exact Or.inr rfl | assumption)
  unfold D_X5_isWaiting
  refine vIf (fun h_9 => ?_) (fun h_9 => ?_)
  · refine vB (v_X2_rankOf) (fun e_15 f_15 q_15 => ?_)
    refine vIf (fun h_19 => ?_) (fun h_19 => ?_)
    · exact T_26
    · exact T_27 _ (by first | exact Or.inl rfl | exact Or.inr rfl | assumption)
  · exact T_26
set_option maxRecDepth 100000 in
set_option maxHeartbeats 4000000 in
theorem v_X5_holders {Q : Nat} {A : Nat} {M : zMt} {v0 : Int32}  : ∃ r, D_X5_holders Q A M v0 = some r ∧ (True) := by
  have TL_5 : ∀ u : Nat, ∀ (x2_5 : Int32) (x3_5 : Int32) (x4_5 : Int32), (2147483648 - Int32.toInt x4_5).toNat < u → ∃ r, D_X5_holders_5 Q A M u x2_5 x3_5 x4_5 = some r ∧ (True) := by
    intro u
    induction u with
    | zero => intro x2_5 x3_5 x4_5 hm_5; exact absurd hm_5 (Nat.not_lt_zero _)
    | succ u_5 ih_5 =>
      have T_33 : ∀ (x2_33 : Int32) (x4_33 : Int32) (y0_33 : Int32) (y1_33 : Int32), (y1_33 = 0 ∨ y1_33 = 1) → ((2147483648 - Int32.toInt x4_33).toNat < u_5 + 1) → (Int32.toInt x4_33 < 2147483647) → ∃ r, D_X5_holders_33 Q A M (D_X5_holders_5 Q A M u_5) x2_33 x4_33 y0_33 y1_33 = some r ∧ (True) := by
        intro x2_33 x4_33 y0_33 y1_33 f0_33 f1_33 f2_33
        unfold D_X5_holders_33
        exact ih_5 _ _ _ (z_up1 f2_33 f1_33)
      intro x2_5 x3_5 x4_5 hm_5
      rw [D_X5_holders_5]
      refine vIf (fun h_11 => ?_) (fun h_11 => ?_)
      · exact ⟨_, rfl, trivial⟩
      · refine vIf (fun h_25 => ?_) (fun h_25 => ?_)
        · exact T_33 _ _ _ _ (by first | exact Or.inl rfl | exact Or.inr rfl | assumption) hm_5 (by first | assumption | exact z_lt (by assumption) | exact z_lt2 (by assumption) | exact z_lt3 (by assumption) (by first | assumption | decide))
        · exact T_33 _ _ _ _ (by first | exact Or.inl rfl | exact Or.inr rfl | assumption) hm_5 (by first | assumption | exact z_lt (by assumption) | exact z_lt2 (by assumption) | exact z_lt3 (by assumption) (by first | assumption | decide))
  have T_5 : ∀ (x2_5 : Int32) (x3_5 : Int32) (x4_5 : Int32), ∃ r, D_X5_holders_5 Q A M zFu x2_5 x3_5 x4_5 = some r ∧ (True) := fun x2_5 x3_5 x4_5 => TL_5 zFu x2_5 x3_5 x4_5 (zFu_up _)
  unfold D_X5_holders
  exact T_5 _ _ _
set_option maxRecDepth 100000 in
set_option maxHeartbeats 4000000 in
theorem v_X5_fewestPoints {Q : Nat} {A : Nat} {M : zMt} {v0 : Int32}  : ∃ r, D_X5_fewestPoints Q A M v0 = some r ∧ (True) := by
  have TL_5 : ∀ u : Nat, ∀ (x2_5 : Int32) (x3_5 : Int32) (x4_5 : Int32), (2147483648 - Int32.toInt x4_5).toNat < u → ∃ r, D_X5_fewestPoints_5 Q A M u x2_5 x3_5 x4_5 = some r ∧ (True) := by
    intro u
    induction u with
    | zero => intro x2_5 x3_5 x4_5 hm_5; exact absurd hm_5 (Nat.not_lt_zero _)
    | succ u_5 ih_5 =>
      have T_55 : ∀ (x2_55 : Int32) (x3_55 : Int32) (x4_55 : Int32), ((2147483648 - Int32.toInt x4_55).toNat < u_5 + 1) → (Int32.toInt x4_55 < 2147483647) → ∃ r, D_X5_fewestPoints_55 Q A M (D_X5_fewestPoints_5 Q A M u_5) x2_55 x3_55 x4_55 = some r ∧ (True) := by
        intro x2_55 x3_55 x4_55 f0_55 f1_55
        unfold D_X5_fewestPoints_55
        exact ih_5 _ _ _ (z_up1 f1_55 f0_55)
      have T_45 : ∀ (x2_45 : Int32) (x4_45 : Int32), ((2147483648 - Int32.toInt x4_45).toNat < u_5 + 1) → (Int32.toInt x4_45 < 2147483647) → ∃ r, D_X5_fewestPoints_45 Q A M (D_X5_fewestPoints_5 Q A M u_5) x2_45 x4_45 = some r ∧ (True) := by
        intro x2_45 x4_45 f0_45 f1_45
        unfold D_X5_fewestPoints_45
        exact T_55 _ _ _ f0_45 f1_45
      intro x2_5 x3_5 x4_5 hm_5
      rw [D_X5_fewestPoints_5]
      refine vIf (fun h_11 => ?_) (fun h_11 => ?_)
      · exact ⟨_, rfl, trivial⟩
      · refine vIf (fun h_24 => ?_) (fun h_24 => ?_)
        · refine vIf (fun h_29 => ?_) (fun h_29 => ?_)
          · exact T_45 _ _ hm_5 (by first | assumption | exact z_lt (by assumption) | exact z_lt2 (by assumption) | exact z_lt3 (by assumption) (by first | assumption | decide))
          · refine vIf (fun h_42 => ?_) (fun h_42 => ?_)
            · exact T_55 _ _ _ hm_5 (by first | assumption | exact z_lt (by assumption) | exact z_lt2 (by assumption) | exact z_lt3 (by assumption) (by first | assumption | decide))
            · exact T_45 _ _ hm_5 (by first | assumption | exact z_lt (by assumption) | exact z_lt2 (by assumption) | exact z_lt3 (by assumption) (by first | assumption | decide))
        · exact T_55 _ _ _ hm_5 (by first | assumption | exact z_lt (by assumption) | exact z_lt2 (by assumption) | exact z_lt3 (by assumption) (by first | assumption | decide))
  have T_5 : ∀ (x2_5 : Int32) (x3_5 : Int32) (x4_5 : Int32), ∃ r, D_X5_fewestPoints_5 Q A M zFu x2_5 x3_5 x4_5 = some r ∧ (True) := fun x2_5 x3_5 x4_5 => TL_5 zFu x2_5 x3_5 x4_5 (zFu_up _)
  unfold D_X5_fewestPoints
  exact T_5 _ _ _
set_option maxRecDepth 100000 in
set_option maxHeartbeats 4000000 in
theorem v_X5_tagsGiven {Q : Nat} {A : Nat} {M : zMt}   : ∃ r, D_X5_tagsGiven Q A M = some r ∧ (True) := by
  have TL_4 : ∀ u : Nat, ∀ (x2_4 : Int32) (x3_4 : Int32), (2147483648 - Int32.toInt x3_4).toNat < u → ∃ r, D_X5_tagsGiven_4 Q A M u x2_4 x3_4 = some r ∧ (True) := by
    intro u
    induction u with
    | zero => intro x2_4 x3_4 hm_4; exact absurd hm_4 (Nat.not_lt_zero _)
    | succ u_4 ih_4 =>
      have T_37 : ∀ (x3_37 : Int32) (y0_37 : Int32) (y1_37 : Int32), ((2147483648 - Int32.toInt x3_37).toNat < u_4 + 1) → (Int32.toInt x3_37 < 2147483647) → ∃ r, D_X5_tagsGiven_37 Q A M (D_X5_tagsGiven_4 Q A M u_4) x3_37 y0_37 y1_37 = some r ∧ (True) := by
        intro x3_37 y0_37 y1_37 f0_37 f1_37
        unfold D_X5_tagsGiven_37
        exact ih_4 _ _ (z_up1 f1_37 f0_37)
      intro x2_4 x3_4 hm_4
      rw [D_X5_tagsGiven_4]
      refine vIf (fun h_9 => ?_) (fun h_9 => ?_)
      · exact ⟨_, rfl, trivial⟩
      · refine vIf (fun h_22 => ?_) (fun h_22 => ?_)
        · exact T_37 _ _ _ hm_4 (by first | assumption | exact z_lt (by assumption) | exact z_lt2 (by assumption) | exact z_lt3 (by assumption) (by first | assumption | decide))
        · exact T_37 _ _ _ hm_4 (by first | assumption | exact z_lt (by assumption) | exact z_lt2 (by assumption) | exact z_lt3 (by assumption) (by first | assumption | decide))
  have T_4 : ∀ (x2_4 : Int32) (x3_4 : Int32), ∃ r, D_X5_tagsGiven_4 Q A M zFu x2_4 x3_4 = some r ∧ (True) := fun x2_4 x3_4 => TL_4 zFu x2_4 x3_4 (zFu_up _)
  unfold D_X5_tagsGiven
  exact T_4 _ _
def WM_X6_note (Q : Nat) (a j : Nat) : Prop := (Q + 1 ≤ a ∧ a < Q + 4) ∨ (a = Q ∧ (j = 1))
set_option maxRecDepth 100000 in
set_option maxHeartbeats 4000000 in
theorem v_X6_note {Q : Nat} {v0 : Int32} {v1 : Int32} {M0 : zMt}  : ∃ r, D_X6_note Q v0 v1 M0 = some r ∧ ((∀ a j, ¬ WM_X6_note Q a j → r a j = M0 a j)) := by
  have T_109 : ∀ (M_109 : zMt), (∀ a j, ¬ WM_X6_note Q a j → M_109 a j = M0 a j) → ∃ r, D_X6_note_109 Q M_109 = some r ∧ ((∀ a j, ¬ WM_X6_note Q a j → r a j = M0 a j)) := by
    intro M_109 k_109
    unfold D_X6_note_109
    exact ⟨_, rfl, k_109⟩
  unfold D_X6_note
  refine vIf (fun h_24 => ?_) (fun h_24 => ?_)
  · refine vLm (W := WM_X6_note Q) (fun a j h => (congrFun (zwr_row (by unfold WM_X6_note at h; omega)) j)) (fun M_33 f_33 k_33 => ?_)
    refine vLm (W := WM_X6_note Q) (fun a j h => (zu_ne (by unfold WM_X6_note at h; omega)).trans (k_33 a j h)) (fun M_52 f_52 k_52 => ?_)
    exact ⟨_, rfl, k_52⟩
  · refine vLm (W := WM_X6_note Q) (fun a j h => (congrFun (zwr_row (by unfold WM_X6_note at h; omega)) j)) (fun M_62 f_62 k_62 => ?_)
    refine vLm (W := WM_X6_note Q) (fun a j h => (congrFun (zwr_row (by unfold WM_X6_note at h; omega)) j).trans (k_62 a j h)) (fun M_71 f_71 k_71 => ?_)
    refine vB (v_X5_hasFirst) (fun e_83 f_83 q_83 => ?_)
    have b_83 := q_83
    refine vIf (fun h_86 => ?_) (fun h_86 => ?_)
    · exact T_109 _ k_71
    · refine vIf (fun h_97 => ?_) (fun h_97 => ?_)
      · refine vLm (W := WM_X6_note Q) (fun a j h => (congrFun (zwr_row (by unfold WM_X6_note at h; omega)) j).trans (k_71 a j h)) (fun M_106 f_106 k_106 => ?_)
        exact T_109 _ k_106
      · exact T_109 _ k_71
def WM_X6_pass (Q A : Nat) (a j : Nat) : Prop := (Q + 1 ≤ a ∧ a < Q + 4) ∨ (Q + 5 ≤ a ∧ a < Q + 12) ∨ (Q + 13 ≤ a ∧ a < Q + 25) ∨ (Q + 26 ≤ a ∧ a < Q + 33) ∨ (a = Q ∧ (j = 0 ∨ j = 1)) ∨ (a = Q + 4 ∧ (j = 0 ∨ j = 1 ∨ j = 2 ∨ j = 3 ∨ j = 4 ∨ j = 5 ∨ j = 6)) ∨ (a = Q + 12 ∧ (j = 0 ∨ j = 1 ∨ j = 2 ∨ j = 3))
set_option maxRecDepth 100000 in
set_option maxHeartbeats 4000000 in
theorem v_X6_pass {Q : Nat} {A : Nat} {v0 : Int32} {v1 : Int32} {M0 : zMt}  (hn : Int32.toInt v1 < 2147483647) : ∃ r, D_X6_pass Q A v0 v1 M0 = some r ∧ ((∀ a j, ¬ WM_X6_pass Q A a j → r a j = M0 a j)) := by
  have TL_45 : ∀ u : Nat, ∀ (x2_45 : Int32) (x3_45 : Int32) (x4_45 : Int32) (M_45 : zMt), (∀ a j, ¬ WM_X6_pass Q A a j → M_45 a j = M0 a j) → (Int32.toInt x3_45 < 2147483647) → (2147483648 - Int32.toInt x4_45).toNat < u → ∃ r, D_X6_pass_45 Q A u x2_45 x3_45 x4_45 M_45 = some r ∧ ((∀ a j, ¬ WM_X6_pass Q A a j → r a j = M0 a j)) := by
    intro u
    induction u with
    | zero => intro x2_45 x3_45 x4_45 M_45 k_45 f0_45 hm_45; exact absurd hm_45 (Nat.not_lt_zero _)
    | succ u_45 ih_45 =>
      have TL_102 : ∀ u : Nat, ∀ (x2_102 : Int32) (x3_102 : Int32) (x4_102 : Int32) (x5_102 : Int32) (M_102 : zMt), (∀ a j, ¬ WM_X6_pass Q A a j → M_102 a j = M0 a j) → ((2147483648 - Int32.toInt x4_102).toNat < u_45 + 1) → (Int32.toInt x4_102 < 2147483647) → (Int32.toInt x3_102 < 2147483647) → (2147483648 - Int32.toInt x5_102).toNat < u → ∃ r, D_X6_pass_102 Q A (D_X6_pass_45 Q A u_45) u x2_102 x3_102 x4_102 x5_102 M_102 = some r ∧ ((∀ a j, ¬ WM_X6_pass Q A a j → r a j = M0 a j)) := by
        intro u
        induction u with
        | zero => intro x2_102 x3_102 x4_102 x5_102 M_102 k_102 f0_102 f1_102 f2_102 hm_102; exact absurd hm_102 (Nat.not_lt_zero _)
        | succ u_102 ih_102 =>
          intro x2_102 x3_102 x4_102 x5_102 M_102 k_102 f0_102 f1_102 f2_102 hm_102
          rw [D_X6_pass_102]
          refine vIf (fun h_111 => ?_) (fun h_111 => ?_)
          · refine vB (v_X4_live) (fun e_140 f_140 q_140 => ?_)
            have k_140 : ∀ a j, ¬ WM_X6_pass Q A a j → e_140 a j = M0 a j := fun a j h => (q_140 a j (by unfold WM_X4_live; unfold WM_X6_pass at h; omega)).trans (k_102 a j h)
            exact ih_45 _ _ _ _ k_140 (by assumption) (z_up1 f1_102 f0_102)
          · refine vB (v_X6_note) (fun e_119 f_119 q_119 => ?_)
            have k_119 : ∀ a j, ¬ WM_X6_pass Q A a j → e_119 a j = M0 a j := fun a j h => (q_119 a j (by unfold WM_X6_note; unfold WM_X6_pass at h; omega)).trans (k_102 a j h)
            exact ih_102 _ _ _ _ _ k_119 f0_102 f1_102 (by assumption) (z_up1 (by first | assumption | exact z_lt (by assumption) | exact z_lt2 (by assumption) | exact z_lt3 (by assumption) (by first | assumption | decide)) hm_102)
      have T_102 : ∀ (x2_102 : Int32) (x3_102 : Int32) (x4_102 : Int32) (x5_102 : Int32) (M_102 : zMt), (∀ a j, ¬ WM_X6_pass Q A a j → M_102 a j = M0 a j) → ((2147483648 - Int32.toInt x4_102).toNat < u_45 + 1) → (Int32.toInt x4_102 < 2147483647) → (Int32.toInt x3_102 < 2147483647) → ∃ r, D_X6_pass_102 Q A (D_X6_pass_45 Q A u_45) zFu x2_102 x3_102 x4_102 x5_102 M_102 = some r ∧ ((∀ a j, ¬ WM_X6_pass Q A a j → r a j = M0 a j)) := fun x2_102 x3_102 x4_102 x5_102 M_102 k_102 f0_102 f1_102 f2_102 => TL_102 zFu x2_102 x3_102 x4_102 x5_102 M_102 k_102 f0_102 f1_102 f2_102 (zFu_up _)
      intro x2_45 x3_45 x4_45 M_45 k_45 f0_45 hm_45
      rw [D_X6_pass_45]
      refine vIf (fun h_48 => ?_) (fun h_48 => ?_)
      · exact ⟨_, rfl, k_45⟩
      · refine vB (v_X2_gather) (fun e_59 f_59 q_59 => ?_)
        have k_59 : ∀ a j, ¬ WM_X6_pass Q A a j → e_59 a j = M0 a j := fun a j h => (q_59 a j (by unfold WM_X2_gather; unfold WM_X6_pass at h; omega)).trans (k_45 a j h)
        refine vB (v_X5_bySeed) (fun e_76 f_76 q_76 => ?_)
        have k_76 : ∀ a j, ¬ WM_X6_pass Q A a j → e_76 a j = M0 a j := fun a j h => (q_76 a j (by unfold WM_X5_bySeed; unfold WM_X6_pass at h; omega)).trans (k_59 a j h)
        refine vB (v_X5_tagsGiven) (fun e_92 f_92 q_92 => ?_)
        refine vLm (W := WM_X6_pass Q A) (fun a j h => (zu_ne (by unfold WM_X6_pass at h; omega)).trans (k_76 a j h)) (fun M_96 f_96 k_96 => ?_)
        exact T_102 _ _ _ _ _ k_96 hm_45 (by first | assumption | exact z_lt (by assumption) | exact z_lt2 (by assumption) | exact z_lt3 (by assumption) (by first | assumption | decide)) (by assumption)
  have T_45 : ∀ (x2_45 : Int32) (x3_45 : Int32) (x4_45 : Int32) (M_45 : zMt), (∀ a j, ¬ WM_X6_pass Q A a j → M_45 a j = M0 a j) → (Int32.toInt x3_45 < 2147483647) → ∃ r, D_X6_pass_45 Q A zFu x2_45 x3_45 x4_45 M_45 = some r ∧ ((∀ a j, ¬ WM_X6_pass Q A a j → r a j = M0 a j)) := fun x2_45 x3_45 x4_45 M_45 k_45 f0_45 => TL_45 zFu x2_45 x3_45 x4_45 M_45 k_45 f0_45 (zFu_up _)
  unfold D_X6_pass
  refine vLm (W := WM_X6_pass Q A) (fun a j h => (zu_ne (by unfold WM_X6_pass at h; omega))) (fun M_2 f_2 k_2 => ?_)
  refine vLm (W := WM_X6_pass Q A) (fun a j h => (zu_ne (by unfold WM_X6_pass at h; omega)).trans (k_2 a j h)) (fun M_7 f_7 k_7 => ?_)
  refine vLm (W := WM_X6_pass Q A) (fun a j h => (congrFun (zfil_row (by unfold WM_X6_pass at h; omega)) j).trans (k_7 a j h)) (fun M_15 f_15 k_15 => ?_)
  refine vLm (W := WM_X6_pass Q A) (fun a j h => (congrFun (zfil_row (by unfold WM_X6_pass at h; omega)) j).trans (k_15 a j h)) (fun M_23 f_23 k_23 => ?_)
  refine vLm (W := WM_X6_pass Q A) (fun a j h => (congrFun (zfil_row (by unfold WM_X6_pass at h; omega)) j).trans (k_23 a j h)) (fun M_31 f_31 k_31 => ?_)
  refine vB (v_X4_take) (fun e_39 f_39 q_39 => ?_)
  have k_39 : ∀ a j, ¬ WM_X6_pass Q A a j → e_39 a j = M0 a j := fun a j h => (q_39 a j (by unfold WM_X4_take; unfold WM_X6_pass at h; omega)).trans (k_31 a j h)
  exact T_45 _ _ _ _ k_39 (by assumption)
set_option maxRecDepth 100000 in
set_option maxHeartbeats 4000000 in
theorem v_X6_unserved {Q : Nat} {M : zMt} {v0 : Int32}  : ∃ r, D_X6_unserved Q M v0 = some r ∧ (True) := by
  have TL_4 : ∀ u : Nat, ∀ (x1_4 : Int32) (x2_4 : Int32) (x3_4 : Int32), (2147483648 - Int32.toInt x3_4).toNat < u → ∃ r, D_X6_unserved_4 Q M u x1_4 x2_4 x3_4 = some r ∧ (True) := by
    intro u
    induction u with
    | zero => intro x1_4 x2_4 x3_4 hm_4; exact absurd hm_4 (Nat.not_lt_zero _)
    | succ u_4 ih_4 =>
      have T_28 : ∀ (x1_28 : Int32) (x3_28 : Int32) (y0_28 : Int32) (y1_28 : Int32), ((2147483648 - Int32.toInt x3_28).toNat < u_4 + 1) → (Int32.toInt x3_28 < 2147483647) → ∃ r, D_X6_unserved_28 Q M (D_X6_unserved_4 Q M u_4) x1_28 x3_28 y0_28 y1_28 = some r ∧ (True) := by
        intro x1_28 x3_28 y0_28 y1_28 f0_28 f1_28
        unfold D_X6_unserved_28
        exact ih_4 _ _ _ (z_up1 f1_28 f0_28)
      intro x1_4 x2_4 x3_4 hm_4
      rw [D_X6_unserved_4]
      refine vIf (fun h_6 => ?_) (fun h_6 => ?_)
      · exact ⟨_, rfl, trivial⟩
      · refine vIf (fun h_18 => ?_) (fun h_18 => ?_)
        · exact T_28 _ _ _ _ hm_4 (by first | assumption | exact z_lt (by assumption) | exact z_lt2 (by assumption) | exact z_lt3 (by assumption) (by first | assumption | decide))
        · exact T_28 _ _ _ _ hm_4 (by first | assumption | exact z_lt (by assumption) | exact z_lt2 (by assumption) | exact z_lt3 (by assumption) (by first | assumption | decide))
  have T_4 : ∀ (x1_4 : Int32) (x2_4 : Int32) (x3_4 : Int32), ∃ r, D_X6_unserved_4 Q M zFu x1_4 x2_4 x3_4 = some r ∧ (True) := fun x1_4 x2_4 x3_4 => TL_4 zFu x1_4 x2_4 x3_4 (zFu_up _)
  unfold D_X6_unserved
  exact T_4 _ _ _
set_option maxRecDepth 100000 in
set_option maxHeartbeats 4000000 in
theorem v_X7_status {P : Nat} {M : zMt}   : ∃ r, D_X7_status P M = some r ∧ (True) := by
  unfold D_X7_status
  exact ⟨_, rfl, trivial⟩
def WM_X7_append (P : Nat) (a j : Nat) : Prop := (P + 1 ≤ a ∧ a < P + 2) ∨ (a = P ∧ (j = 1))
theorem v_X7_append_s {P n : Nat} {v x : Int32} {M : zMt} (h : ¬ x < 0) : ∃ M', D_X7_append_3 P (n + 1) v x M = D_X7_append_3 P n v (x + (-8)) M' ∧ (∀ a j, ¬ WM_X7_append P a j → M' a j = M a j) ∧ M' P 1 = M P 1 + 1 := by
  refine ⟨zu (zwr M (P + 1) 700 (M P 1) ((Int32.toUInt32 v >>> (Int32.toUInt32 x &&& Int32.toUInt32 31)).toInt32 &&& (255 : Int32))) P 1 (zwr M (P + 1) 700 (M P 1) ((Int32.toUInt32 v >>> (Int32.toUInt32 x &&& Int32.toUInt32 31)).toInt32 &&& (255 : Int32)) P 1 + 1), ?_, fun a j h => (zu_ne (by unfold WM_X7_append at h; omega)).trans (congrFun (zwr_row (by unfold WM_X7_append at h; omega)) j), ?_⟩
  · rw [D_X7_append_3, if_neg h]; rfl
  · rw [zu_eq, congrFun (zwr_row (show P ≠ P + 1 by omega)) 1]
theorem v_X7_append {P : Nat} {v0 : Int32} {M0 : zMt} : ∃ r, D_X7_append P v0 M0 = some r ∧ ((∀ a j, ¬ WM_X7_append P a j → r a j = M0 a j) ∧ (r P 1 = M0 P 1 + 1 + 1 + 1 + 1)) := by
  unfold D_X7_append
  rw [show zFu = 4294967292 + 1 + 1 + 1 + 1 + 1 from rfl]
  obtain ⟨M1, e1, k1, t1⟩ := v_X7_append_s (P := P) (n := 4294967292 + 1 + 1 + 1 + 1) (v := v0) (x := 24) (M := M0) (by decide)
  obtain ⟨M2, e2, k2, t2⟩ := v_X7_append_s (P := P) (n := 4294967292 + 1 + 1 + 1) (v := v0) (x := 24 + (-8)) (M := M1) (by decide)
  obtain ⟨M3, e3, k3, t3⟩ := v_X7_append_s (P := P) (n := 4294967292 + 1 + 1) (v := v0) (x := 24 + (-8) + (-8)) (M := M2) (by decide)
  obtain ⟨M4, e4, k4, t4⟩ := v_X7_append_s (P := P) (n := 4294967292 + 1) (v := v0) (x := 24 + (-8) + (-8) + (-8)) (M := M3) (by decide)
  rw [e1, e2, e3, e4, D_X7_append_3, if_pos (by decide)]
  exact ⟨_, rfl, fun a j h => (k4 a j h).trans ((k3 a j h).trans ((k2 a j h).trans (k1 a j h))), by rw [t4, t3, t2, t1]⟩
def WM_X7_feed (P : Nat) (a j : Nat) : Prop := (P + 1 ≤ a ∧ a < P + 2) ∨ (a = P ∧ (j = 1))
theorem z_20 {x y z u w : Int32} {a : Int32} (h1 : x = a + 1 + 1 + 1 + 1) (h2 : y = x + 1 + 1 + 1 + 1) (h3 : z = y + 1 + 1 + 1 + 1) (h4 : u = z + 1 + 1 + 1 + 1) (h5 : w = u + 1 + 1 + 1 + 1) : w = a + 20 := by
  subst h1 h2 h3 h4 h5
  simp only [Int32.add_assoc]
  rfl
theorem v_X7_feed {P : Nat} {v0 v1 v2 v3 v4 : Int32} {M0 : zMt} : ∃ r, D_X7_feed P v0 v1 v2 v3 v4 M0 = some r ∧ ((∀ a j, ¬ WM_X7_feed P a j → r.2 a j = M0 a j) ∧ ((M0 P 1 + 20 ≤ 700 ∧ r.1 = M0 P 1 + 20 ∧ r.2 P 1 = M0 P 1 + 20) ∨ (¬ M0 P 1 + 20 ≤ 700 ∧ r.1 = -1 ∧ r.2 P 1 = M0 P 1))) := by
  unfold D_X7_feed
  refine vIf (fun hc => ?_) (fun hc => ⟨_, rfl, fun _ _ _ => rfl, Or.inr ⟨hc, rfl, rfl⟩⟩)
  refine vB v_X7_append (fun e1 f1 q1 => vB v_X7_append (fun e2 f2 q2 => vB v_X7_append (fun e3 f3 q3 => vB v_X7_append (fun e4 f4 q4 => vB v_X7_append (fun e5 f5 q5 => ?_)))))
  have t := z_20 q1.2 q2.2 q3.2 q4.2 q5.2
  have hw : ∀ a j, ¬ WM_X7_feed P a j → ¬ WM_X7_append P a j := fun a j h => by unfold WM_X7_append; unfold WM_X7_feed at h; omega
  exact ⟨_, rfl, fun a j h => (q5.1 a j (hw a j h)).trans ((q4.1 a j (hw a j h)).trans ((q3.1 a j (hw a j h)).trans ((q2.1 a j (hw a j h)).trans (q1.1 a j (hw a j h))))), Or.inl ⟨hc, t, t⟩⟩
def WM_X7_refuse (P : Nat) (a j : Nat) : Prop := (a = P ∧ (j = 0))
set_option maxRecDepth 100000 in
set_option maxHeartbeats 4000000 in
theorem v_X7_refuse {P : Nat} {v0 : Int32} {M0 : zMt}  : ∃ r, D_X7_refuse P v0 M0 = some r ∧ ((∀ a j, ¬ WM_X7_refuse P a j → r.2 a j = M0 a j)) := by
  unfold D_X7_refuse
  refine vLm (W := WM_X7_refuse P) (fun a j h => (zu_ne (by unfold WM_X7_refuse at h; omega))) (fun M_2 f_2 k_2 => ?_)
  exact ⟨_, rfl, k_2⟩
def WM_X7_answer (P : Nat) (a j : Nat) : Prop := (a = P ∧ (j = 0))
set_option maxRecDepth 100000 in
set_option maxHeartbeats 4000000 in
theorem v_X7_answer {P : Nat} {v0 : Int32} {M0 : zMt}  : ∃ r, D_X7_answer P v0 M0 = some r ∧ ((∀ a j, ¬ WM_X7_answer P a j → r.2 a j = M0 a j)) := by
  unfold D_X7_answer
  refine vLm (W := WM_X7_answer P) (fun a j h => (zu_ne (by unfold WM_X7_answer at h; omega))) (fun M_2 f_2 k_2 => ?_)
  exact ⟨_, rfl, k_2⟩
def WM_X7_changed (P : Nat) (a j : Nat) : Prop := (P + 92 ≤ a ∧ a < P + 104) ∨ (a = P ∧ (j = 0 ∨ j = 3)) ∨ (a = P + 91 ∧ (j = 0 ∨ j = 1 ∨ j = 2 ∨ j = 3))
set_option maxRecDepth 100000 in
set_option maxHeartbeats 4000000 in
theorem v_X7_changed {P : Nat} {v0 : Int32} {M0 : zMt}  : ∃ r, D_X7_changed P v0 M0 = some r ∧ ((∀ a j, ¬ WM_X7_changed P a j → r.2 a j = M0 a j)) := by
  unfold D_X7_changed
  refine vB (v_X2_gather) (fun e_8 f_8 q_8 => ?_)
  have k_8 : ∀ a j, ¬ WM_X7_changed P a j → e_8 a j = M0 a j := fun a j h => (q_8 a j (by unfold WM_X2_gather; unfold WM_X7_changed at h; omega))
  refine vLm (W := WM_X7_changed P) (fun a j h => (zu_ne (by unfold WM_X7_changed at h; omega)).trans (k_8 a j h)) (fun M_13 f_13 k_13 => ?_)
  refine vB (v_X7_answer) (fun e_18 f_18 q_18 => ?_)
  have k_18 : ∀ a j, ¬ WM_X7_changed P a j → e_18.2 a j = M0 a j := fun a j h => (q_18 a j (by unfold WM_X7_answer; unfold WM_X7_changed at h; omega)).trans (k_13 a j h)
  exact ⟨_, rfl, k_18⟩
def WM_X7_load (P : Nat) (a j : Nat) : Prop := (P + 5 ≤ a ∧ a < P + 13) ∨ (P + 16 ≤ a ∧ a < P + 17) ∨ (P + 18 ≤ a ∧ a < P + 25) ∨ (P + 92 ≤ a ∧ a < P + 104) ∨ (a = P ∧ (j = 0 ∨ j = 1 ∨ j = 3)) ∨ (a = P + 3 ∧ (j = 1 ∨ j = 2 ∨ j = 4 ∨ j = 5 ∨ j = 6 ∨ j = 7 ∨ j = 9 ∨ j = 11 ∨ j = 12 ∨ j = 13)) ∨ (a = P + 4 ∧ (j = 0 ∨ j = 1 ∨ j = 2 ∨ j = 3 ∨ j = 4 ∨ j = 5 ∨ j = 6)) ∨ (a = P + 17 ∧ (j = 0 ∨ j = 1 ∨ j = 2 ∨ j = 3 ∨ j = 4 ∨ j = 5 ∨ j = 6)) ∨ (a = P + 25 ∧ (j = 0)) ∨ (a = P + 91 ∧ (j = 0 ∨ j = 1 ∨ j = 2 ∨ j = 3))
def WN_X7_load (P : Nat) (a j : Nat) : Prop := (P + 13 ≤ a ∧ a < P + 16) ∨ (a = P + 3 ∧ (j = 8 ∨ j = 10))
set_option maxRecDepth 100000 in
set_option maxHeartbeats 4000000 in
theorem v_X7_load {P : Nat} {v0 : Int32} {M0 : zMt} {N0 : zNt}  : ∃ r, D_X7_load P v0 M0 N0 = some r ∧ ((∀ a j, ¬ WM_X7_load P a j → r.2.1 a j = M0 a j) ∧ (∀ a j, ¬ WN_X7_load P a j → r.2.2 a j = N0 a j)) := by
  have T_12 : ∀ (M_12 : zMt) (N_12 : zNt), (∀ a j, ¬ WM_X7_load P a j → M_12 a j = M0 a j) → (∀ a j, ¬ WN_X7_load P a j → N_12 a j = N0 a j) → ∃ r, D_X7_load_12 P M_12 N_12 = some r ∧ ((∀ a j, ¬ WM_X7_load P a j → r.2.1 a j = M0 a j) ∧ (∀ a j, ¬ WN_X7_load P a j → r.2.2 a j = N0 a j)) := by
    intro M_12 N_12 k_12 kn_12
    unfold D_X7_load_12
    refine vB (v_X7_refuse) (fun e_14 f_14 q_14 => ?_)
    have k_14 : ∀ a j, ¬ WM_X7_load P a j → e_14.2 a j = M0 a j := fun a j h => (q_14 a j (by unfold WM_X7_refuse; unfold WM_X7_load at h; omega)).trans (k_12 a j h)
    exact ⟨_, rfl, k_14, kn_12⟩
  unfold D_X7_load
  refine vIf (fun h_1 => ?_) (fun h_1 => ?_)
  · exact T_12 _ _ (fun _ _ _ => rfl) (fun _ _ _ => rfl)
  · refine vIf (fun h_9 => ?_) (fun h_9 => ?_)
    · refine vB (v_X3_read) (fun e_27 f_27 q_27 => ?_)
      have k_27 : ∀ a j, ¬ WM_X7_load P a j → e_27.2.1 a j = M0 a j := fun a j h => (q_27.1 a j (by unfold WM_X3_read; unfold WM_X7_load at h; omega))
      have kn_27 : ∀ a j, ¬ WN_X7_load P a j → e_27.2.2 a j = N0 a j := fun a j h => (q_27.2.1 a j (by unfold WN_X3_read; unfold WN_X7_load at h; omega))
      have b_27 := q_27.2.2
      refine vLm (W := WM_X7_load P) (fun a j h => (zu_ne (by unfold WM_X7_load at h; omega)).trans (k_27 a j h)) (fun M_33 f_33 k_33 => ?_)
      refine vIf (fun h_37 => ?_) (fun h_37 => ?_)
      · refine vB (v_X7_refuse) (fun e_43 f_43 q_43 => ?_)
        have k_43 : ∀ a j, ¬ WM_X7_load P a j → e_43.2 a j = M0 a j := fun a j h => (q_43 a j (by unfold WM_X7_refuse; unfold WM_X7_load at h; omega)).trans (k_33 a j h)
        exact ⟨_, rfl, k_43, kn_27⟩
      · refine vB (v_X4_take) (fun e_58 f_58 q_58 => ?_)
        have k_58 : ∀ a j, ¬ WM_X7_load P a j → e_58 a j = M0 a j := fun a j h => (q_58 a j (by unfold WM_X4_take; unfold WM_X7_load at h; omega)).trans (k_33 a j h)
        refine vB (v_X1_forget) (fun e_65 f_65 q_65 => ?_)
        have k_65 : ∀ a j, ¬ WM_X7_load P a j → e_65 a j = M0 a j := fun a j h => (q_65 a j (by unfold WM_X1_forget; unfold WM_X7_load at h; omega)).trans (k_58 a j h)
        refine vB (v_X7_changed) (fun e_76 f_76 q_76 => ?_)
        have k_76 : ∀ a j, ¬ WM_X7_load P a j → e_76.2 a j = M0 a j := fun a j h => (q_76 a j (by unfold WM_X7_changed; unfold WM_X7_load at h; omega)).trans (k_65 a j h)
        exact ⟨_, rfl, k_76, kn_27⟩
    · exact T_12 _ _ (fun _ _ _ => rfl) (fun _ _ _ => rfl)
set_option maxRecDepth 100000 in
set_option maxHeartbeats 4000000 in
theorem v_X7_fault {P : Nat} {M : zMt} {v0 : Int32}  : ∃ r, D_X7_fault P M v0 = some r ∧ (True) := by
  have T_28 : ∀ (y0_28 : Int32), ∃ r, D_X7_fault_28 P M y0_28 = some r ∧ (True) := by
    intro y0_28
    unfold D_X7_fault_28
    exact ⟨_, rfl, trivial⟩
  unfold D_X7_fault
  refine vIf (fun h_1 => ?_) (fun h_1 => ?_)
  · exact ⟨_, rfl, trivial⟩
  · refine vIf (fun h_14 => ?_) (fun h_14 => ?_)
    · exact T_28 _
    · exact T_28 _
def WM_X7_many (P : Nat) (a j : Nat) : Prop := (a = P ∧ (j = 0))
set_option maxRecDepth 100000 in
set_option maxHeartbeats 4000000 in
theorem v_X7_many {P : Nat} {v0 : Int32} {M0 : zMt}  : ∃ r, D_X7_many P v0 M0 = some r ∧ ((∀ a j, ¬ WM_X7_many P a j → r.2 a j = M0 a j)) := by
  unfold D_X7_many
  refine vIf (fun h_1 => ?_) (fun h_1_0 => ?_)
  · skip
    refine vB (v_X7_answer) (fun e_68 f_68 q_68 => ?_)
    have k_68 : ∀ a j, ¬ WM_X7_many P a j → e_68.2 a j = M0 a j := fun a j h => (q_68 a j (by unfold WM_X7_answer; unfold WM_X7_many at h; omega))
    exact ⟨_, rfl, k_68⟩
  refine vIf (fun h_1 => ?_) (fun h_1_1 => ?_)
  · skip
    refine vB (v_X7_answer) (fun e_80 f_80 q_80 => ?_)
    have k_80 : ∀ a j, ¬ WM_X7_many P a j → e_80.2 a j = M0 a j := fun a j h => (q_80 a j (by unfold WM_X7_answer; unfold WM_X7_many at h; omega))
    exact ⟨_, rfl, k_80⟩
  refine vIf (fun h_1 => ?_) (fun h_1_2 => ?_)
  · skip
    refine vB (v_X7_answer) (fun e_92 f_92 q_92 => ?_)
    have k_92 : ∀ a j, ¬ WM_X7_many P a j → e_92.2 a j = M0 a j := fun a j h => (q_92 a j (by unfold WM_X7_answer; unfold WM_X7_many at h; omega))
    exact ⟨_, rfl, k_92⟩
  refine vIf (fun h_1 => ?_) (fun h_1_3 => ?_)
  · skip
    refine vB (v_X7_answer) (fun e_104 f_104 q_104 => ?_)
    have k_104 : ∀ a j, ¬ WM_X7_many P a j → e_104.2 a j = M0 a j := fun a j h => (q_104 a j (by unfold WM_X7_answer; unfold WM_X7_many at h; omega))
    exact ⟨_, rfl, k_104⟩
  refine vIf (fun h_1 => ?_) (fun h_1_4 => ?_)
  · skip
    refine vB (v_X7_answer) (fun e_116 f_116 q_116 => ?_)
    have k_116 : ∀ a j, ¬ WM_X7_many P a j → e_116.2 a j = M0 a j := fun a j h => (q_116 a j (by unfold WM_X7_answer; unfold WM_X7_many at h; omega))
    exact ⟨_, rfl, k_116⟩
  refine vIf (fun h_1 => ?_) (fun h_1_5 => ?_)
  · skip
    refine vB (v_X7_answer) (fun e_128 f_128 q_128 => ?_)
    have k_128 : ∀ a j, ¬ WM_X7_many P a j → e_128.2 a j = M0 a j := fun a j h => (q_128 a j (by unfold WM_X7_answer; unfold WM_X7_many at h; omega))
    exact ⟨_, rfl, k_128⟩
  refine vIf (fun h_1 => ?_) (fun h_1_6 => ?_)
  · skip
    refine vB (v_X7_answer) (fun e_140 f_140 q_140 => ?_)
    have k_140 : ∀ a j, ¬ WM_X7_many P a j → e_140.2 a j = M0 a j := fun a j h => (q_140 a j (by unfold WM_X7_answer; unfold WM_X7_many at h; omega))
    exact ⟨_, rfl, k_140⟩
  refine vIf (fun h_1 => ?_) (fun h_1_7 => ?_)
  · skip
    refine vB (v_X7_answer) (fun e_152 f_152 q_152 => ?_)
    have k_152 : ∀ a j, ¬ WM_X7_many P a j → e_152.2 a j = M0 a j := fun a j h => (q_152 a j (by unfold WM_X7_answer; unfold WM_X7_many at h; omega))
    exact ⟨_, rfl, k_152⟩
  refine vIf (fun h_1 => ?_) (fun h_1_8 => ?_)
  · skip
    refine vB (v_X7_answer) (fun e_164 f_164 q_164 => ?_)
    have k_164 : ∀ a j, ¬ WM_X7_many P a j → e_164.2 a j = M0 a j := fun a j h => (q_164 a j (by unfold WM_X7_answer; unfold WM_X7_many at h; omega))
    exact ⟨_, rfl, k_164⟩
  refine vIf (fun h_1 => ?_) (fun h_1_9 => ?_)
  · skip
    refine vB (v_X7_answer) (fun e_179 f_179 q_179 => ?_)
    have k_179 : ∀ a j, ¬ WM_X7_many P a j → e_179.2 a j = M0 a j := fun a j h => (q_179 a j (by unfold WM_X7_answer; unfold WM_X7_many at h; omega))
    exact ⟨_, rfl, k_179⟩
  refine vIf (fun h_1 => ?_) (fun h_1_10 => ?_)
  · skip
    refine vB (v_X7_answer) (fun e_194 f_194 q_194 => ?_)
    have k_194 : ∀ a j, ¬ WM_X7_many P a j → e_194.2 a j = M0 a j := fun a j h => (q_194 a j (by unfold WM_X7_answer; unfold WM_X7_many at h; omega))
    exact ⟨_, rfl, k_194⟩
  refine vB (v_X7_refuse) (fun e_200 f_200 q_200 => ?_)
  have k_200 : ∀ a j, ¬ WM_X7_many P a j → e_200.2 a j = M0 a j := fun a j h => (q_200 a j (by unfold WM_X7_refuse; unfold WM_X7_many at h; omega))
  exact ⟨_, rfl, k_200⟩
set_option maxRecDepth 100000 in
set_option maxHeartbeats 4000000 in
theorem v_X7_isHunter {P : Nat} {M : zMt} {v0 : Int32}  : ∃ r, D_X7_isHunter P M v0 = some r ∧ ((r = 0 ∨ r = 1)) := by
  have T_20 : ∀ (y0_20 : Int32), (y0_20 = 0 ∨ y0_20 = 1) → ∃ r, D_X7_isHunter_20 P M y0_20 = some r ∧ ((r = 0 ∨ r = 1)) := by
    intro y0_20 f0_20
    unfold D_X7_isHunter_20
    exact ⟨_, rfl, (by first | exact Or.inl rfl | exact Or.inr rfl | assumption)⟩
  have T_19 : ∃ r, D_X7_isHunter_19 P M = some r ∧ ((r = 0 ∨ r = 1)) := by
    unfold D_X7_isHunter_19
    exact T_20 _ (by first | exact Or.inl rfl | exact Or.inr rfl | assumption)
  unfold D_X7_isHunter
  refine vIf (fun h_1 => ?_) (fun h_1 => ?_)
  · exact T_19
  · refine vIf (fun h_12 => ?_) (fun h_12 => ?_)
    · exact T_19
    · exact T_20 _ (by first | exact Or.inl rfl | exact Or.inr rfl | assumption)
def WM_X7_hunter (P : Nat) (a j : Nat) : Prop := (a = P ∧ (j = 0))
set_option maxRecDepth 100000 in
set_option maxHeartbeats 4000000 in
theorem v_X7_hunter {P : Nat} {v0 : Int32} {v1 : Int32} {M0 : zMt}  : ∃ r, D_X7_hunter P v0 v1 M0 = some r ∧ ((∀ a j, ¬ WM_X7_hunter P a j → r.2 a j = M0 a j)) := by
  have T_9 : ∀ (M_9 : zMt), (∀ a j, ¬ WM_X7_hunter P a j → M_9 a j = M0 a j) → ∃ r, D_X7_hunter_9 P M_9 = some r ∧ ((∀ a j, ¬ WM_X7_hunter P a j → r.2 a j = M0 a j)) := by
    intro M_9 k_9
    unfold D_X7_hunter_9
    refine vB (v_X7_refuse) (fun e_11 f_11 q_11 => ?_)
    have k_11 : ∀ a j, ¬ WM_X7_hunter P a j → e_11.2 a j = M0 a j := fun a j h => (q_11 a j (by unfold WM_X7_refuse; unfold WM_X7_hunter at h; omega)).trans (k_9 a j h)
    exact ⟨_, rfl, k_11⟩
  unfold D_X7_hunter
  refine vIf (fun h_1 => ?_) (fun h_1 => ?_)
  · exact T_9 _ (fun _ _ _ => rfl)
  · refine vIf (fun h_6 => ?_) (fun h_6 => ?_)
    · refine vB (v_X7_isHunter) (fun e_17 f_17 q_17 => ?_)
      have b_17 := q_17
      refine vIf (fun h_20 => ?_) (fun h_20 => ?_)
      · refine vB (v_X7_refuse) (fun e_25 f_25 q_25 => ?_)
        have k_25 : ∀ a j, ¬ WM_X7_hunter P a j → e_25.2 a j = M0 a j := fun a j h => (q_25 a j (by unfold WM_X7_refuse; unfold WM_X7_hunter at h; omega))
        exact ⟨_, rfl, k_25⟩
      · refine vIf (fun h_30 => ?_) (fun h_30_0 => ?_)
        · skip
          refine vB (v_X7_answer) (fun e_72 f_72 q_72 => ?_)
          have k_72 : ∀ a j, ¬ WM_X7_hunter P a j → e_72.2 a j = M0 a j := fun a j h => (q_72 a j (by unfold WM_X7_answer; unfold WM_X7_hunter at h; omega))
          exact ⟨_, rfl, k_72⟩
        refine vIf (fun h_30 => ?_) (fun h_30_1 => ?_)
        · skip
          refine vB (v_X7_answer) (fun e_88 f_88 q_88 => ?_)
          have k_88 : ∀ a j, ¬ WM_X7_hunter P a j → e_88.2 a j = M0 a j := fun a j h => (q_88 a j (by unfold WM_X7_answer; unfold WM_X7_hunter at h; omega))
          exact ⟨_, rfl, k_88⟩
        refine vIf (fun h_30 => ?_) (fun h_30_2 => ?_)
        · skip
          refine vB (v_X7_answer) (fun e_104 f_104 q_104 => ?_)
          have k_104 : ∀ a j, ¬ WM_X7_hunter P a j → e_104.2 a j = M0 a j := fun a j h => (q_104 a j (by unfold WM_X7_answer; unfold WM_X7_hunter at h; omega))
          exact ⟨_, rfl, k_104⟩
        refine vIf (fun h_30 => ?_) (fun h_30_3 => ?_)
        · skip
          refine vB (v_X7_answer) (fun e_120 f_120 q_120 => ?_)
          have k_120 : ∀ a j, ¬ WM_X7_hunter P a j → e_120.2 a j = M0 a j := fun a j h => (q_120 a j (by unfold WM_X7_answer; unfold WM_X7_hunter at h; omega))
          exact ⟨_, rfl, k_120⟩
        refine vB (v_X7_answer) (fun e_136 f_136 q_136 => ?_)
        have k_136 : ∀ a j, ¬ WM_X7_hunter P a j → e_136.2 a j = M0 a j := fun a j h => (q_136 a j (by unfold WM_X7_answer; unfold WM_X7_hunter at h; omega))
        exact ⟨_, rfl, k_136⟩
    · exact T_9 _ (fun _ _ _ => rfl)
set_option maxRecDepth 100000 in
set_option maxHeartbeats 4000000 in
theorem v_X7_isUnit {P : Nat} {M : zMt} {v0 : Int32}  : ∃ r, D_X7_isUnit P M v0 = some r ∧ ((r = 0 ∨ r = 1)) := by
  have T_20 : ∀ (y0_20 : Int32), (y0_20 = 0 ∨ y0_20 = 1) → ∃ r, D_X7_isUnit_20 P M y0_20 = some r ∧ ((r = 0 ∨ r = 1)) := by
    intro y0_20 f0_20
    unfold D_X7_isUnit_20
    exact ⟨_, rfl, (by first | exact Or.inl rfl | exact Or.inr rfl | assumption)⟩
  have T_19 : ∃ r, D_X7_isUnit_19 P M = some r ∧ ((r = 0 ∨ r = 1)) := by
    unfold D_X7_isUnit_19
    exact T_20 _ (by first | exact Or.inl rfl | exact Or.inr rfl | assumption)
  unfold D_X7_isUnit
  refine vIf (fun h_1 => ?_) (fun h_1 => ?_)
  · exact T_19
  · refine vIf (fun h_12 => ?_) (fun h_12 => ?_)
    · exact T_19
    · exact T_20 _ (by first | exact Or.inl rfl | exact Or.inr rfl | assumption)
def WM_X7_unit (P : Nat) (a j : Nat) : Prop := (a = P ∧ (j = 0))
set_option maxRecDepth 100000 in
set_option maxHeartbeats 4000000 in
theorem v_X7_unit {P : Nat} {v0 : Int32} {v1 : Int32} {M0 : zMt}  : ∃ r, D_X7_unit P v0 v1 M0 = some r ∧ ((∀ a j, ¬ WM_X7_unit P a j → r.2 a j = M0 a j)) := by
  have T_9 : ∀ (M_9 : zMt), (∀ a j, ¬ WM_X7_unit P a j → M_9 a j = M0 a j) → ∃ r, D_X7_unit_9 P M_9 = some r ∧ ((∀ a j, ¬ WM_X7_unit P a j → r.2 a j = M0 a j)) := by
    intro M_9 k_9
    unfold D_X7_unit_9
    refine vB (v_X7_refuse) (fun e_11 f_11 q_11 => ?_)
    have k_11 : ∀ a j, ¬ WM_X7_unit P a j → e_11.2 a j = M0 a j := fun a j h => (q_11 a j (by unfold WM_X7_refuse; unfold WM_X7_unit at h; omega)).trans (k_9 a j h)
    exact ⟨_, rfl, k_11⟩
  unfold D_X7_unit
  refine vIf (fun h_1 => ?_) (fun h_1 => ?_)
  · exact T_9 _ (fun _ _ _ => rfl)
  · refine vIf (fun h_6 => ?_) (fun h_6 => ?_)
    · refine vB (v_X7_isUnit) (fun e_17 f_17 q_17 => ?_)
      have b_17 := q_17
      refine vIf (fun h_20 => ?_) (fun h_20 => ?_)
      · refine vB (v_X7_refuse) (fun e_25 f_25 q_25 => ?_)
        have k_25 : ∀ a j, ¬ WM_X7_unit P a j → e_25.2 a j = M0 a j := fun a j h => (q_25 a j (by unfold WM_X7_refuse; unfold WM_X7_unit at h; omega))
        exact ⟨_, rfl, k_25⟩
      · refine vIf (fun h_30 => ?_) (fun h_30_0 => ?_)
        · skip
          refine vB (v_X7_answer) (fun e_76 f_76 q_76 => ?_)
          have k_76 : ∀ a j, ¬ WM_X7_unit P a j → e_76.2 a j = M0 a j := fun a j h => (q_76 a j (by unfold WM_X7_answer; unfold WM_X7_unit at h; omega))
          exact ⟨_, rfl, k_76⟩
        refine vIf (fun h_30 => ?_) (fun h_30_1 => ?_)
        · skip
          refine vB (v_X7_answer) (fun e_92 f_92 q_92 => ?_)
          have k_92 : ∀ a j, ¬ WM_X7_unit P a j → e_92.2 a j = M0 a j := fun a j h => (q_92 a j (by unfold WM_X7_answer; unfold WM_X7_unit at h; omega))
          exact ⟨_, rfl, k_92⟩
        refine vIf (fun h_30 => ?_) (fun h_30_2 => ?_)
        · skip
          refine vB (v_X7_answer) (fun e_108 f_108 q_108 => ?_)
          have k_108 : ∀ a j, ¬ WM_X7_unit P a j → e_108.2 a j = M0 a j := fun a j h => (q_108 a j (by unfold WM_X7_answer; unfold WM_X7_unit at h; omega))
          exact ⟨_, rfl, k_108⟩
        refine vIf (fun h_30 => ?_) (fun h_30_3 => ?_)
        · skip
          refine vB (v_X2_firstApplicants) (fun e_118 f_118 q_118 => ?_)
          refine vB (v_X7_answer) (fun e_121 f_121 q_121 => ?_)
          have k_121 : ∀ a j, ¬ WM_X7_unit P a j → e_121.2 a j = M0 a j := fun a j h => (q_121 a j (by unfold WM_X7_answer; unfold WM_X7_unit at h; omega))
          exact ⟨_, rfl, k_121⟩
        refine vIf (fun h_30 => ?_) (fun h_30_4 => ?_)
        · skip
          refine vB (v_X2_firstHunters) (fun e_131 f_131 q_131 => ?_)
          refine vB (v_X7_answer) (fun e_134 f_134 q_134 => ?_)
          have k_134 : ∀ a j, ¬ WM_X7_unit P a j → e_134.2 a j = M0 a j := fun a j h => (q_134 a j (by unfold WM_X7_answer; unfold WM_X7_unit at h; omega))
          exact ⟨_, rfl, k_134⟩
        refine vB (v_X2_askers) (fun e_144 f_144 q_144 => ?_)
        refine vB (v_X7_answer) (fun e_147 f_147 q_147 => ?_)
        have k_147 : ∀ a j, ¬ WM_X7_unit P a j → e_147.2 a j = M0 a j := fun a j h => (q_147 a j (by unfold WM_X7_answer; unfold WM_X7_unit at h; omega))
        exact ⟨_, rfl, k_147⟩
    · exact T_9 _ (fun _ _ _ => rfl)
set_option maxRecDepth 100000 in
set_option maxHeartbeats 4000000 in
theorem v_X7_isApplicant {P : Nat} {M : zMt} {v0 : Int32}  : ∃ r, D_X7_isApplicant P M v0 = some r ∧ ((r = 0 ∨ r = 1)) := by
  have T_20 : ∀ (y0_20 : Int32), (y0_20 = 0 ∨ y0_20 = 1) → ∃ r, D_X7_isApplicant_20 P M y0_20 = some r ∧ ((r = 0 ∨ r = 1)) := by
    intro y0_20 f0_20
    unfold D_X7_isApplicant_20
    exact ⟨_, rfl, (by first | exact Or.inl rfl | exact Or.inr rfl | assumption)⟩
  have T_19 : ∃ r, D_X7_isApplicant_19 P M = some r ∧ ((r = 0 ∨ r = 1)) := by
    unfold D_X7_isApplicant_19
    exact T_20 _ (by first | exact Or.inl rfl | exact Or.inr rfl | assumption)
  unfold D_X7_isApplicant
  refine vIf (fun h_1 => ?_) (fun h_1 => ?_)
  · exact T_19
  · refine vIf (fun h_12 => ?_) (fun h_12 => ?_)
    · exact T_19
    · exact T_20 _ (by first | exact Or.inl rfl | exact Or.inr rfl | assumption)
def WM_X7_applicant (P : Nat) (a j : Nat) : Prop := (a = P ∧ (j = 0))
set_option maxRecDepth 100000 in
set_option maxHeartbeats 4000000 in
theorem v_X7_applicant {P : Nat} {v0 : Int32} {v1 : Int32} {M0 : zMt}  : ∃ r, D_X7_applicant P v0 v1 M0 = some r ∧ ((∀ a j, ¬ WM_X7_applicant P a j → r.2 a j = M0 a j)) := by
  have T_10 : ∀ (M_10 : zMt), (∀ a j, ¬ WM_X7_applicant P a j → M_10 a j = M0 a j) → ∃ r, D_X7_applicant_10 P M_10 = some r ∧ ((∀ a j, ¬ WM_X7_applicant P a j → r.2 a j = M0 a j)) := by
    intro M_10 k_10
    unfold D_X7_applicant_10
    refine vB (v_X7_refuse) (fun e_12 f_12 q_12 => ?_)
    have k_12 : ∀ a j, ¬ WM_X7_applicant P a j → e_12.2 a j = M0 a j := fun a j h => (q_12 a j (by unfold WM_X7_refuse; unfold WM_X7_applicant at h; omega)).trans (k_10 a j h)
    exact ⟨_, rfl, k_12⟩
  unfold D_X7_applicant
  refine vIf (fun h_1 => ?_) (fun h_1 => ?_)
  · exact T_10 _ (fun _ _ _ => rfl)
  · refine vIf (fun h_7 => ?_) (fun h_7 => ?_)
    · refine vB (v_X7_isApplicant) (fun e_18 f_18 q_18 => ?_)
      have b_18 := q_18
      refine vIf (fun h_21 => ?_) (fun h_21 => ?_)
      · refine vB (v_X7_refuse) (fun e_26 f_26 q_26 => ?_)
        have k_26 : ∀ a j, ¬ WM_X7_applicant P a j → e_26.2 a j = M0 a j := fun a j h => (q_26 a j (by unfold WM_X7_refuse; unfold WM_X7_applicant at h; omega))
        exact ⟨_, rfl, k_26⟩
      · refine vIf (fun h_31 => ?_) (fun h_31_0 => ?_)
        · skip
          refine vB (v_X7_answer) (fun e_80 f_80 q_80 => ?_)
          have k_80 : ∀ a j, ¬ WM_X7_applicant P a j → e_80.2 a j = M0 a j := fun a j h => (q_80 a j (by unfold WM_X7_answer; unfold WM_X7_applicant at h; omega))
          exact ⟨_, rfl, k_80⟩
        refine vIf (fun h_31 => ?_) (fun h_31_1 => ?_)
        · skip
          refine vB (v_X7_answer) (fun e_96 f_96 q_96 => ?_)
          have k_96 : ∀ a j, ¬ WM_X7_applicant P a j → e_96.2 a j = M0 a j := fun a j h => (q_96 a j (by unfold WM_X7_answer; unfold WM_X7_applicant at h; omega))
          exact ⟨_, rfl, k_96⟩
        refine vIf (fun h_31 => ?_) (fun h_31_2 => ?_)
        · skip
          refine vB (v_X7_answer) (fun e_112 f_112 q_112 => ?_)
          have k_112 : ∀ a j, ¬ WM_X7_applicant P a j → e_112.2 a j = M0 a j := fun a j h => (q_112 a j (by unfold WM_X7_answer; unfold WM_X7_applicant at h; omega))
          exact ⟨_, rfl, k_112⟩
        refine vIf (fun h_31 => ?_) (fun h_31_3 => ?_)
        · skip
          refine vB (v_X7_answer) (fun e_128 f_128 q_128 => ?_)
          have k_128 : ∀ a j, ¬ WM_X7_applicant P a j → e_128.2 a j = M0 a j := fun a j h => (q_128 a j (by unfold WM_X7_answer; unfold WM_X7_applicant at h; omega))
          exact ⟨_, rfl, k_128⟩
        refine vIf (fun h_31 => ?_) (fun h_31_4 => ?_)
        · skip
          refine vB (v_X7_answer) (fun e_144 f_144 q_144 => ?_)
          have k_144 : ∀ a j, ¬ WM_X7_applicant P a j → e_144.2 a j = M0 a j := fun a j h => (q_144 a j (by unfold WM_X7_answer; unfold WM_X7_applicant at h; omega))
          exact ⟨_, rfl, k_144⟩
        refine vIf (fun h_31 => ?_) (fun h_31_5 => ?_)
        · skip
          refine vB (v_X7_answer) (fun e_160 f_160 q_160 => ?_)
          have k_160 : ∀ a j, ¬ WM_X7_applicant P a j → e_160.2 a j = M0 a j := fun a j h => (q_160 a j (by unfold WM_X7_answer; unfold WM_X7_applicant at h; omega))
          exact ⟨_, rfl, k_160⟩
        refine vB (v_X7_answer) (fun e_176 f_176 q_176 => ?_)
        have k_176 : ∀ a j, ¬ WM_X7_applicant P a j → e_176.2 a j = M0 a j := fun a j h => (q_176 a j (by unfold WM_X7_answer; unfold WM_X7_applicant at h; omega))
        exact ⟨_, rfl, k_176⟩
    · exact T_10 _ (fun _ _ _ => rfl)
def WM_X7_choice (P : Nat) (a j : Nat) : Prop := (a = P ∧ (j = 0))
set_option maxRecDepth 100000 in
set_option maxHeartbeats 4000000 in
theorem v_X7_choice {P : Nat} {v0 : Int32} {v1 : Int32} {M0 : zMt}  : ∃ r, D_X7_choice P v0 v1 M0 = some r ∧ ((∀ a j, ¬ WM_X7_choice P a j → r.2 a j = M0 a j)) := by
  unfold D_X7_choice
  refine vIf (fun h_1 => ?_) (fun h_1 => ?_)
  · refine vB (v_X7_isApplicant) (fun e_12 f_12 q_12 => ?_)
    have b_12 := q_12
    refine vIf (fun h_15 => ?_) (fun h_15 => ?_)
    · refine vB (v_X7_refuse) (fun e_20 f_20 q_20 => ?_)
      have k_20 : ∀ a j, ¬ WM_X7_choice P a j → e_20.2 a j = M0 a j := fun a j h => (q_20 a j (by unfold WM_X7_refuse; unfold WM_X7_choice at h; omega))
      exact ⟨_, rfl, k_20⟩
    · refine vIf (fun h_36 => ?_) (fun h_36 => ?_)
      · refine vB (v_X2_wish) (fun e_52 f_52 q_52 => ?_)
        refine vB (v_X7_answer) (fun e_55 f_55 q_55 => ?_)
        have k_55 : ∀ a j, ¬ WM_X7_choice P a j → e_55.2 a j = M0 a j := fun a j h => (q_55 a j (by unfold WM_X7_answer; unfold WM_X7_choice at h; omega))
        exact ⟨_, rfl, k_55⟩
      · refine vB (v_X7_refuse) (fun e_41 f_41 q_41 => ?_)
        have k_41 : ∀ a j, ¬ WM_X7_choice P a j → e_41.2 a j = M0 a j := fun a j h => (q_41 a j (by unfold WM_X7_refuse; unfold WM_X7_choice at h; omega))
        exact ⟨_, rfl, k_41⟩
  · refine vB (v_X7_refuse) (fun e_6 f_6 q_6 => ?_)
    have k_6 : ∀ a j, ¬ WM_X7_choice P a j → e_6.2 a j = M0 a j := fun a j h => (q_6 a j (by unfold WM_X7_refuse; unfold WM_X7_choice at h; omega))
    exact ⟨_, rfl, k_6⟩
set_option maxRecDepth 100000 in
set_option maxHeartbeats 4000000 in
theorem v_X7_commonDivisor  {v0 : Int32} {v1 : Int32}  : ∃ r, D_X7_commonDivisor v0 v1 = some r ∧ (True) := by
  have T_34 : ∀ (x2_34 : Int32), ∃ r, D_X7_commonDivisor_34 x2_34 = some r ∧ (True) := by
    intro x2_34
    unfold D_X7_commonDivisor_34
    exact ⟨_, rfl, trivial⟩
  have TL_7 : ∀ u : Nat, ∀ (x2_7 : Int32) (x3_7 : Int32) (x4_7 : Int32), (2147483648 - Int32.toInt x4_7).toNat < u → ∃ r, D_X7_commonDivisor_7 u x2_7 x3_7 x4_7 = some r ∧ (True) := by
    intro u
    induction u with
    | zero => intro x2_7 x3_7 x4_7 hm_7; exact absurd hm_7 (Nat.not_lt_zero _)
    | succ u_7 ih_7 =>
      intro x2_7 x3_7 x4_7 hm_7
      rw [D_X7_commonDivisor_7]
      refine vIf (fun h_11 => ?_) (fun h_11 => ?_)
      · exact T_34 _
      · refine vIf (fun h_15 => ?_) (fun h_15 => ?_)
        · exact T_34 _
        · refine vZ (by first | assumption | exact z_nzl (by assumption)) ?_
          exact ih_7 _ _ _ (z_up1 (by first | assumption | exact z_lt (by assumption) | exact z_lt2 (by assumption) | exact z_lt3 (by assumption) (by first | assumption | decide)) hm_7)
  have T_7 : ∀ (x2_7 : Int32) (x3_7 : Int32) (x4_7 : Int32), ∃ r, D_X7_commonDivisor_7 zFu x2_7 x3_7 x4_7 = some r ∧ (True) := fun x2_7 x3_7 x4_7 => TL_7 zFu x2_7 x3_7 x4_7 (zFu_up _)
  unfold D_X7_commonDivisor
  exact T_7 _ _ _
set_option maxRecDepth 100000 in
set_option maxHeartbeats 4000000 in
theorem v_X7_lowest  {v0 : Int32} {v1 : Int32} {v2 : Int32}  : ∃ r, D_X7_lowest v0 v1 v2 = some r ∧ (True) := by
  have T_30 : ∀ (y0_30 : Int32), ∃ r, D_X7_lowest_30 y0_30 = some r ∧ (True) := by
    intro y0_30
    unfold D_X7_lowest_30
    exact ⟨_, rfl, trivial⟩
  have T_15 : ∀ (x3_15 : Int32) (y0_15 : Int32), ∃ r, D_X7_lowest_15 x3_15 y0_15 = some r ∧ (True) := by
    intro x3_15 y0_15
    unfold D_X7_lowest_15
    refine vIf (fun h_18 => ?_) (fun h_18 => ?_)
    · exact T_30 _
    · refine vZ (by first | assumption | exact z_nzl (by assumption)) ?_
      exact T_30 _
  unfold D_X7_lowest
  refine vB (v_X7_commonDivisor) (fun e_2 f_2 q_2 => ?_)
  refine vIf (fun h_7 => ?_) (fun h_7 => ?_)
  · exact T_15 _ _
  · exact T_15 _ _
def WM_X7_demand (P : Nat) (a j : Nat) : Prop := (a = P ∧ (j = 0))
set_option maxRecDepth 100000 in
set_option maxHeartbeats 4000000 in
theorem v_X7_demand {P : Nat} {v0 : Int32} {v1 : Int32} {M0 : zMt}  : ∃ r, D_X7_demand P v0 v1 M0 = some r ∧ ((∀ a j, ¬ WM_X7_demand P a j → r.2 a j = M0 a j)) := by
  have T_9 : ∀ (M_9 : zMt), (∀ a j, ¬ WM_X7_demand P a j → M_9 a j = M0 a j) → ∃ r, D_X7_demand_9 P M_9 = some r ∧ ((∀ a j, ¬ WM_X7_demand P a j → r.2 a j = M0 a j)) := by
    intro M_9 k_9
    unfold D_X7_demand_9
    refine vB (v_X7_refuse) (fun e_11 f_11 q_11 => ?_)
    have k_11 : ∀ a j, ¬ WM_X7_demand P a j → e_11.2 a j = M0 a j := fun a j h => (q_11 a j (by unfold WM_X7_refuse; unfold WM_X7_demand at h; omega)).trans (k_9 a j h)
    exact ⟨_, rfl, k_11⟩
  unfold D_X7_demand
  refine vIf (fun h_1 => ?_) (fun h_1 => ?_)
  · exact T_9 _ (fun _ _ _ => rfl)
  · refine vIf (fun h_6 => ?_) (fun h_6 => ?_)
    · refine vB (v_X7_isUnit) (fun e_17 f_17 q_17 => ?_)
      have b_17 := q_17
      refine vIf (fun h_20 => ?_) (fun h_20 => ?_)
      · refine vB (v_X7_refuse) (fun e_25 f_25 q_25 => ?_)
        have k_25 : ∀ a j, ¬ WM_X7_demand P a j → e_25.2 a j = M0 a j := fun a j h => (q_25 a j (by unfold WM_X7_refuse; unfold WM_X7_demand at h; omega))
        exact ⟨_, rfl, k_25⟩
      · refine vIf (fun h_40 => ?_) (fun h_40 => ?_)
        · refine vB (v_X7_refuse) (fun e_45 f_45 q_45 => ?_)
          have k_45 : ∀ a j, ¬ WM_X7_demand P a j → e_45.2 a j = M0 a j := fun a j h => (q_45 a j (by unfold WM_X7_refuse; unfold WM_X7_demand at h; omega))
          exact ⟨_, rfl, k_45⟩
        · refine vB (v_X2_firstHunters) (fun e_55 f_55 q_55 => ?_)
          refine vB (v_X7_lowest) (fun e_70 f_70 q_70 => ?_)
          refine vB (v_X7_answer) (fun e_73 f_73 q_73 => ?_)
          have k_73 : ∀ a j, ¬ WM_X7_demand P a j → e_73.2 a j = M0 a j := fun a j h => (q_73 a j (by unfold WM_X7_answer; unfold WM_X7_demand at h; omega))
          exact ⟨_, rfl, k_73⟩
    · exact T_9 _ (fun _ _ _ => rfl)
def WM_X7_share (P : Nat) (a j : Nat) : Prop := (a = P ∧ (j = 0))
set_option maxRecDepth 100000 in
set_option maxHeartbeats 4000000 in
theorem v_X7_share {P : Nat} {v0 : Int32} {v1 : Int32} {M0 : zMt}  : ∃ r, D_X7_share P v0 v1 M0 = some r ∧ ((∀ a j, ¬ WM_X7_share P a j → r.2 a j = M0 a j)) := by
  have T_9 : ∀ (M_9 : zMt), (∀ a j, ¬ WM_X7_share P a j → M_9 a j = M0 a j) → ∃ r, D_X7_share_9 P M_9 = some r ∧ ((∀ a j, ¬ WM_X7_share P a j → r.2 a j = M0 a j)) := by
    intro M_9 k_9
    unfold D_X7_share_9
    refine vB (v_X7_refuse) (fun e_11 f_11 q_11 => ?_)
    have k_11 : ∀ a j, ¬ WM_X7_share P a j → e_11.2 a j = M0 a j := fun a j h => (q_11 a j (by unfold WM_X7_refuse; unfold WM_X7_share at h; omega)).trans (k_9 a j h)
    exact ⟨_, rfl, k_11⟩
  unfold D_X7_share
  refine vIf (fun h_1 => ?_) (fun h_1 => ?_)
  · exact T_9 _ (fun _ _ _ => rfl)
  · refine vIf (fun h_6 => ?_) (fun h_6 => ?_)
    · refine vB (v_X7_isApplicant) (fun e_17 f_17 q_17 => ?_)
      have b_17 := q_17
      refine vIf (fun h_20 => ?_) (fun h_20 => ?_)
      · refine vB (v_X7_refuse) (fun e_25 f_25 q_25 => ?_)
        have k_25 : ∀ a j, ¬ WM_X7_share P a j → e_25.2 a j = M0 a j := fun a j h => (q_25 a j (by unfold WM_X7_refuse; unfold WM_X7_share at h; omega))
        exact ⟨_, rfl, k_25⟩
      · refine vB (v_X7_lowest) (fun e_49 f_49 q_49 => ?_)
        refine vB (v_X7_answer) (fun e_52 f_52 q_52 => ?_)
        have k_52 : ∀ a j, ¬ WM_X7_share P a j → e_52.2 a j = M0 a j := fun a j h => (q_52 a j (by unfold WM_X7_answer; unfold WM_X7_share at h; omega))
        exact ⟨_, rfl, k_52⟩
    · exact T_9 _ (fun _ _ _ => rfl)
set_option maxRecDepth 100000 in
set_option maxHeartbeats 4000000 in
theorem v_X7_isSeed  {v0 : Int32}  : ∃ r, D_X7_isSeed v0 = some r ∧ ((r = 0 ∨ r = 1)) := by
  have T_16 : ∀ (y0_16 : Int32), (y0_16 = 0 ∨ y0_16 = 1) → ∃ r, D_X7_isSeed_16 y0_16 = some r ∧ ((r = 0 ∨ r = 1)) := by
    intro y0_16 f0_16
    unfold D_X7_isSeed_16
    exact ⟨_, rfl, (by first | exact Or.inl rfl | exact Or.inr rfl | assumption)⟩
  have T_15 : ∃ r, D_X7_isSeed_15 = some r ∧ ((r = 0 ∨ r = 1)) := by
    unfold D_X7_isSeed_15
    exact T_16 _ (by first | exact Or.inl rfl | exact Or.inr rfl | assumption)
  unfold D_X7_isSeed
  refine vIf (fun h_1 => ?_) (fun h_1 => ?_)
  · exact T_15
  · refine vIf (fun h_8 => ?_) (fun h_8 => ?_)
    · exact T_15
    · exact T_16 _ (by first | exact Or.inl rfl | exact Or.inr rfl | assumption)
def WM_X7_order (P : Nat) (a j : Nat) : Prop := (P + 105 ≤ a ∧ a < P + 106) ∨ (a = P ∧ (j = 0))
set_option maxRecDepth 100000 in
set_option maxHeartbeats 4000000 in
theorem v_X7_order {P : Nat} {v0 : Int32} {v1 : Int32} {M0 : zMt}  : ∃ r, D_X7_order P v0 v1 M0 = some r ∧ ((∀ a j, ¬ WM_X7_order P a j → r.2 a j = M0 a j)) := by
  have T_11 : ∀ (M_11 : zMt), (∀ a j, ¬ WM_X7_order P a j → M_11 a j = M0 a j) → ∃ r, D_X7_order_11 P M_11 = some r ∧ ((∀ a j, ¬ WM_X7_order P a j → r.2 a j = M0 a j)) := by
    intro M_11 k_11
    unfold D_X7_order_11
    refine vB (v_X7_refuse) (fun e_13 f_13 q_13 => ?_)
    have k_13 : ∀ a j, ¬ WM_X7_order P a j → e_13.2 a j = M0 a j := fun a j h => (q_13 a j (by unfold WM_X7_refuse; unfold WM_X7_order at h; omega)).trans (k_11 a j h)
    exact ⟨_, rfl, k_13⟩
  unfold D_X7_order
  refine vB (v_X7_isSeed) (fun e_1 f_1 q_1 => ?_)
  have b_1 := q_1
  refine vIf (fun h_4 => ?_) (fun h_4 => ?_)
  · exact T_11 _ (fun _ _ _ => rfl)
  · refine vIf (fun h_8 => ?_) (fun h_8 => ?_)
    · refine vIf (fun h_25 => ?_) (fun h_25 => ?_)
      · refine vB (v_X5_lineUp) (fun e_43 f_43 q_43 => ?_)
        have k_43 : ∀ a j, ¬ WM_X7_order P a j → e_43 a j = M0 a j := fun a j h => (q_43 a j (by unfold WM_X5_lineUp; unfold WM_X7_order at h; omega))
        refine vB (v_X7_answer) (fun e_58 f_58 q_58 => ?_)
        have k_58 : ∀ a j, ¬ WM_X7_order P a j → e_58.2 a j = M0 a j := fun a j h => (q_58 a j (by unfold WM_X7_answer; unfold WM_X7_order at h; omega)).trans (k_43 a j h)
        exact ⟨_, rfl, k_58⟩
      · refine vB (v_X7_refuse) (fun e_30 f_30 q_30 => ?_)
        have k_30 : ∀ a j, ¬ WM_X7_order P a j → e_30.2 a j = M0 a j := fun a j h => (q_30 a j (by unfold WM_X7_refuse; unfold WM_X7_order at h; omega))
        exact ⟨_, rfl, k_30⟩
    · exact T_11 _ (fun _ _ _ => rfl)
def WM_X7_drawn (P : Nat) (a j : Nat) : Prop := (P + 105 ≤ a ∧ a < P + 112) ∨ (a = P ∧ (j = 0))
set_option maxRecDepth 100000 in
set_option maxHeartbeats 4000000 in
theorem v_X7_drawn {P : Nat} {v0 : Int32} {v1 : Int32} {M0 : zMt}  : ∃ r, D_X7_drawn P v0 v1 M0 = some r ∧ ((∀ a j, ¬ WM_X7_drawn P a j → r.2 a j = M0 a j)) := by
  have T_69 : ∀ (y0_69 : Int32) (M_69 : zMt), (∀ a j, ¬ WM_X7_drawn P a j → M_69 a j = M0 a j) → ∃ r, D_X7_drawn_69 P y0_69 M_69 = some r ∧ ((∀ a j, ¬ WM_X7_drawn P a j → r.2 a j = M0 a j)) := by
    intro y0_69 M_69 k_69
    unfold D_X7_drawn_69
    exact ⟨_, rfl, k_69⟩
  unfold D_X7_drawn
  refine vB (v_X7_isSeed) (fun e_1 f_1 q_1 => ?_)
  have b_1 := q_1
  refine vIf (fun h_4 => ?_) (fun h_4 => ?_)
  · refine vB (v_X7_refuse) (fun e_9 f_9 q_9 => ?_)
    have k_9 : ∀ a j, ¬ WM_X7_drawn P a j → e_9.2 a j = M0 a j := fun a j h => (q_9 a j (by unfold WM_X7_refuse; unfold WM_X7_drawn at h; omega))
    exact ⟨_, rfl, k_9⟩
  · refine vB (v_X7_isApplicant) (fun e_15 f_15 q_15 => ?_)
    have b_15 := q_15
    refine vIf (fun h_18 => ?_) (fun h_18 => ?_)
    · refine vB (v_X7_refuse) (fun e_23 f_23 q_23 => ?_)
      have k_23 : ∀ a j, ¬ WM_X7_drawn P a j → e_23.2 a j = M0 a j := fun a j h => (q_23 a j (by unfold WM_X7_refuse; unfold WM_X7_drawn at h; omega))
      exact ⟨_, rfl, k_23⟩
    · refine vB (v_X5_bySeed) (fun e_36 f_36 q_36 => ?_)
      have k_36 : ∀ a j, ¬ WM_X7_drawn P a j → e_36 a j = M0 a j := fun a j h => (q_36 a j (by unfold WM_X5_bySeed; unfold WM_X7_drawn at h; omega))
      refine vIf (fun h_53 => ?_) (fun h_53 => ?_)
      · refine vB (v_X7_refuse) (fun e_58 f_58 q_58 => ?_)
        have k_58 : ∀ a j, ¬ WM_X7_drawn P a j → e_58.2 a j = M0 a j := fun a j h => (q_58 a j (by unfold WM_X7_refuse; unfold WM_X7_drawn at h; omega)).trans (k_36 a j h)
        exact T_69 _ _ k_58
      · refine vB (v_X7_answer) (fun e_66 f_66 q_66 => ?_)
        have k_66 : ∀ a j, ¬ WM_X7_drawn P a j → e_66.2 a j = M0 a j := fun a j h => (q_66 a j (by unfold WM_X7_answer; unfold WM_X7_drawn at h; omega)).trans (k_36 a j h)
        exact T_69 _ _ k_66
def WM_X7_round (P : Nat) (a j : Nat) : Prop := (P + 105 ≤ a ∧ a < P + 112) ∨ (a = P ∧ (j = 0))
set_option maxRecDepth 100000 in
set_option maxHeartbeats 4000000 in
theorem v_X7_round {P : Nat} {v0 : Int32} {v1 : Int32} {M0 : zMt}  : ∃ r, D_X7_round P v0 v1 M0 = some r ∧ ((∀ a j, ¬ WM_X7_round P a j → r.2 a j = M0 a j)) := by
  have T_77 : ∀ (y0_77 : Int32) (M_77 : zMt), (∀ a j, ¬ WM_X7_round P a j → M_77 a j = M0 a j) → ∃ r, D_X7_round_77 P y0_77 M_77 = some r ∧ ((∀ a j, ¬ WM_X7_round P a j → r.2 a j = M0 a j)) := by
    intro y0_77 M_77 k_77
    unfold D_X7_round_77
    exact ⟨_, rfl, k_77⟩
  unfold D_X7_round
  refine vB (v_X7_isSeed) (fun e_1 f_1 q_1 => ?_)
  have b_1 := q_1
  refine vIf (fun h_4 => ?_) (fun h_4 => ?_)
  · refine vB (v_X7_refuse) (fun e_9 f_9 q_9 => ?_)
    have k_9 : ∀ a j, ¬ WM_X7_round P a j → e_9.2 a j = M0 a j := fun a j h => (q_9 a j (by unfold WM_X7_refuse; unfold WM_X7_round at h; omega))
    exact ⟨_, rfl, k_9⟩
  · refine vB (v_X7_isApplicant) (fun e_15 f_15 q_15 => ?_)
    have b_15 := q_15
    refine vIf (fun h_18 => ?_) (fun h_18 => ?_)
    · refine vB (v_X7_refuse) (fun e_23 f_23 q_23 => ?_)
      have k_23 : ∀ a j, ¬ WM_X7_round P a j → e_23.2 a j = M0 a j := fun a j h => (q_23 a j (by unfold WM_X7_refuse; unfold WM_X7_round at h; omega))
      exact ⟨_, rfl, k_23⟩
    · refine vB (v_X5_bySeed) (fun e_36 f_36 q_36 => ?_)
      have k_36 : ∀ a j, ¬ WM_X7_round P a j → e_36 a j = M0 a j := fun a j h => (q_36 a j (by unfold WM_X5_bySeed; unfold WM_X7_round at h; omega))
      refine vIf (fun h_51 => ?_) (fun h_51 => ?_)
      · refine vB (v_X7_refuse) (fun e_56 f_56 q_56 => ?_)
        have k_56 : ∀ a j, ¬ WM_X7_round P a j → e_56.2 a j = M0 a j := fun a j h => (q_56 a j (by unfold WM_X7_refuse; unfold WM_X7_round at h; omega)).trans (k_36 a j h)
        exact T_77 _ _ k_56
      · refine vB (v_X7_answer) (fun e_74 f_74 q_74 => ?_)
        have k_74 : ∀ a j, ¬ WM_X7_round P a j → e_74.2 a j = M0 a j := fun a j h => (q_74 a j (by unfold WM_X7_answer; unfold WM_X7_round at h; omega)).trans (k_36 a j h)
        exact T_77 _ _ k_74
def WM_X7_left (P : Nat) (a j : Nat) : Prop := (P + 105 ≤ a ∧ a < P + 112) ∨ (a = P ∧ (j = 0))
set_option maxRecDepth 100000 in
set_option maxHeartbeats 4000000 in
theorem v_X7_left {P : Nat} {v0 : Int32} {v1 : Int32} {v2 : Int32} {M0 : zMt}  : ∃ r, D_X7_left P v0 v1 v2 M0 = some r ∧ ((∀ a j, ¬ WM_X7_left P a j → r.2 a j = M0 a j)) := by
  have T_159 : ∀ (y0_159 : Int32) (M_159 : zMt), (∀ a j, ¬ WM_X7_left P a j → M_159 a j = M0 a j) → ∃ r, D_X7_left_159 P y0_159 M_159 = some r ∧ ((∀ a j, ¬ WM_X7_left P a j → r.2 a j = M0 a j)) := by
    intro y0_159 M_159 k_159
    unfold D_X7_left_159
    exact ⟨_, rfl, k_159⟩
  have T_16 : ∀ (M_16 : zMt), (∀ a j, ¬ WM_X7_left P a j → M_16 a j = M0 a j) → ∃ r, D_X7_left_16 P M_16 = some r ∧ ((∀ a j, ¬ WM_X7_left P a j → r.2 a j = M0 a j)) := by
    intro M_16 k_16
    unfold D_X7_left_16
    refine vB (v_X7_refuse) (fun e_18 f_18 q_18 => ?_)
    have k_18 : ∀ a j, ¬ WM_X7_left P a j → e_18.2 a j = M0 a j := fun a j h => (q_18 a j (by unfold WM_X7_refuse; unfold WM_X7_left at h; omega)).trans (k_16 a j h)
    exact ⟨_, rfl, k_18⟩
  unfold D_X7_left
  refine vB (v_X7_isSeed) (fun e_1 f_1 q_1 => ?_)
  have b_1 := q_1
  refine vIf (fun h_4 => ?_) (fun h_4 => ?_)
  · exact T_16 _ (fun _ _ _ => rfl)
  · refine vIf (fun h_8 => ?_) (fun h_8 => ?_)
    · exact T_16 _ (fun _ _ _ => rfl)
    · refine vIf (fun h_13 => ?_) (fun h_13 => ?_)
      · refine vB (v_X7_isUnit) (fun e_24 f_24 q_24 => ?_)
        have b_24 := q_24
        refine vIf (fun h_27 => ?_) (fun h_27 => ?_)
        · refine vB (v_X7_refuse) (fun e_32 f_32 q_32 => ?_)
          have k_32 : ∀ a j, ¬ WM_X7_left P a j → e_32.2 a j = M0 a j := fun a j h => (q_32 a j (by unfold WM_X7_refuse; unfold WM_X7_left at h; omega))
          exact ⟨_, rfl, k_32⟩
        · refine vB (v_X5_bySeed) (fun e_45 f_45 q_45 => ?_)
          have k_45 : ∀ a j, ¬ WM_X7_left P a j → e_45 a j = M0 a j := fun a j h => (q_45 a j (by unfold WM_X5_bySeed; unfold WM_X7_left at h; omega))
          refine vIf (fun h_49 => ?_) (fun h_49_0 => ?_)
          · skip
            refine vB (v_X7_answer) (fun e_88 f_88 q_88 => ?_)
            have k_88 : ∀ a j, ¬ WM_X7_left P a j → e_88.2 a j = M0 a j := fun a j h => (q_88 a j (by unfold WM_X7_answer; unfold WM_X7_left at h; omega)).trans (k_45 a j h)
            exact ⟨_, rfl, k_88⟩
          refine vIf (fun h_49 => ?_) (fun h_49_1 => ?_)
          · skip
            refine vB (v_X7_answer) (fun e_104 f_104 q_104 => ?_)
            have k_104 : ∀ a j, ¬ WM_X7_left P a j → e_104.2 a j = M0 a j := fun a j h => (q_104 a j (by unfold WM_X7_answer; unfold WM_X7_left at h; omega)).trans (k_45 a j h)
            exact ⟨_, rfl, k_104⟩
          refine vIf (fun h_49 => ?_) (fun h_49_2 => ?_)
          · skip
            refine vB (v_X5_holders) (fun e_118 f_118 q_118 => ?_)
            refine vB (v_X7_answer) (fun e_121 f_121 q_121 => ?_)
            have k_121 : ∀ a j, ¬ WM_X7_left P a j → e_121.2 a j = M0 a j := fun a j h => (q_121 a j (by unfold WM_X7_answer; unfold WM_X7_left at h; omega)).trans (k_45 a j h)
            exact ⟨_, rfl, k_121⟩
          refine vB (v_X5_fewestPoints) (fun e_134 f_134 q_134 => ?_)
          refine vIf (fun h_142 => ?_) (fun h_142 => ?_)
          · refine vB (v_X7_refuse) (fun e_147 f_147 q_147 => ?_)
            have k_147 : ∀ a j, ¬ WM_X7_left P a j → e_147.2 a j = M0 a j := fun a j h => (q_147 a j (by unfold WM_X7_refuse; unfold WM_X7_left at h; omega)).trans (k_45 a j h)
            exact T_159 _ _ k_147
          · refine vB (v_X7_answer) (fun e_156 f_156 q_156 => ?_)
            have k_156 : ∀ a j, ¬ WM_X7_left P a j → e_156.2 a j = M0 a j := fun a j h => (q_156 a j (by unfold WM_X7_answer; unfold WM_X7_left at h; omega)).trans (k_45 a j h)
            exact T_159 _ _ k_156
      · exact T_16 _ (fun _ _ _ => rfl)
def WM_X7_winners (P : Nat) (a j : Nat) : Prop := (P + 105 ≤ a ∧ a < P + 112) ∨ (a = P ∧ (j = 0))
set_option maxRecDepth 100000 in
set_option maxHeartbeats 4000000 in
theorem v_X7_winners {P : Nat} {v0 : Int32} {M0 : zMt}  : ∃ r, D_X7_winners P v0 M0 = some r ∧ ((∀ a j, ¬ WM_X7_winners P a j → r.2 a j = M0 a j)) := by
  have TL_29 : ∀ u : Nat, ∀ (x2_29 : Int32) (x3_29 : Int32) (M_29 : zMt), (∀ a j, ¬ WM_X7_winners P a j → M_29 a j = M0 a j) → (2147483648 - Int32.toInt x3_29).toNat < u → ∃ r, D_X7_winners_29 P u x2_29 x3_29 M_29 = some r ∧ ((∀ a j, ¬ WM_X7_winners P a j → r.2 a j = M0 a j)) := by
    intro u
    induction u with
    | zero => intro x2_29 x3_29 M_29 k_29 hm_29; exact absurd hm_29 (Nat.not_lt_zero _)
    | succ u_29 ih_29 =>
      have T_69 : ∀ (x2_69 : Int32) (x3_69 : Int32) (M_69 : zMt), (∀ a j, ¬ WM_X7_winners P a j → M_69 a j = M0 a j) → ((2147483648 - Int32.toInt x3_69).toNat < u_29 + 1) → (Int32.toInt x3_69 < 2147483647) → ∃ r, D_X7_winners_69 P (D_X7_winners_29 P u_29) x2_69 x3_69 M_69 = some r ∧ ((∀ a j, ¬ WM_X7_winners P a j → r.2 a j = M0 a j)) := by
        intro x2_69 x3_69 M_69 k_69 f0_69 f1_69
        unfold D_X7_winners_69
        exact ih_29 _ _ _ k_69 (z_up1 f1_69 f0_69)
      intro x2_29 x3_29 M_29 k_29 hm_29
      rw [D_X7_winners_29]
      refine vIf (fun h_37 => ?_) (fun h_37 => ?_)
      · refine vB (v_X7_answer) (fun e_77 f_77 q_77 => ?_)
        have k_77 : ∀ a j, ¬ WM_X7_winners P a j → e_77.2 a j = M0 a j := fun a j h => (q_77 a j (by unfold WM_X7_answer; unfold WM_X7_winners at h; omega)).trans (k_29 a j h)
        exact ⟨_, rfl, k_77⟩
      · refine vIf (fun h_52 => ?_) (fun h_52 => ?_)
        · exact T_69 _ _ _ k_29 hm_29 (by first | assumption | exact z_lt (by assumption) | exact z_lt2 (by assumption) | exact z_lt3 (by assumption) (by first | assumption | decide))
        · exact T_69 _ _ _ k_29 hm_29 (by first | assumption | exact z_lt (by assumption) | exact z_lt2 (by assumption) | exact z_lt3 (by assumption) (by first | assumption | decide))
  have T_29 : ∀ (x2_29 : Int32) (x3_29 : Int32) (M_29 : zMt), (∀ a j, ¬ WM_X7_winners P a j → M_29 a j = M0 a j) → ∃ r, D_X7_winners_29 P zFu x2_29 x3_29 M_29 = some r ∧ ((∀ a j, ¬ WM_X7_winners P a j → r.2 a j = M0 a j)) := fun x2_29 x3_29 M_29 k_29 => TL_29 zFu x2_29 x3_29 M_29 k_29 (zFu_up _)
  unfold D_X7_winners
  refine vB (v_X7_isSeed) (fun e_1 f_1 q_1 => ?_)
  have b_1 := q_1
  refine vIf (fun h_4 => ?_) (fun h_4 => ?_)
  · refine vB (v_X7_refuse) (fun e_9 f_9 q_9 => ?_)
    have k_9 : ∀ a j, ¬ WM_X7_winners P a j → e_9.2 a j = M0 a j := fun a j h => (q_9 a j (by unfold WM_X7_refuse; unfold WM_X7_winners at h; omega))
    exact ⟨_, rfl, k_9⟩
  · refine vB (v_X5_bySeed) (fun e_22 f_22 q_22 => ?_)
    have k_22 : ∀ a j, ¬ WM_X7_winners P a j → e_22 a j = M0 a j := fun a j h => (q_22 a j (by unfold WM_X5_bySeed; unfold WM_X7_winners at h; omega))
    exact T_29 _ _ _ k_22
def WM_X7_waits (P : Nat) (a j : Nat) : Prop := (P + 105 ≤ a ∧ a < P + 112) ∨ (a = P ∧ (j = 0))
set_option maxRecDepth 100000 in
set_option maxHeartbeats 4000000 in
theorem v_X7_waits {P : Nat} {v0 : Int32} {v1 : Int32} {v2 : Int32} {M0 : zMt}  : ∃ r, D_X7_waits P v0 v1 v2 M0 = some r ∧ ((∀ a j, ¬ WM_X7_waits P a j → r.2 a j = M0 a j)) := by
  have T_137 : ∀ (y0_137 : Int32) (M_137 : zMt), (∀ a j, ¬ WM_X7_waits P a j → M_137 a j = M0 a j) → ∃ r, D_X7_waits_137 P y0_137 M_137 = some r ∧ ((∀ a j, ¬ WM_X7_waits P a j → r.2 a j = M0 a j)) := by
    intro y0_137 M_137 k_137
    unfold D_X7_waits_137
    exact ⟨_, rfl, k_137⟩
  have TL_50 : ∀ u : Nat, ∀ (x2_50 : Int32) (x3_50 : Int32) (x4_50 : Int32) (x5_50 : Int32) (M_50 : zMt), (∀ a j, ¬ WM_X7_waits P a j → M_50 a j = M0 a j) → (2147483648 - Int32.toInt x5_50).toNat < u → ∃ r, D_X7_waits_50 P u x2_50 x3_50 x4_50 x5_50 M_50 = some r ∧ ((∀ a j, ¬ WM_X7_waits P a j → r.2 a j = M0 a j)) := by
    intro u
    induction u with
    | zero => intro x2_50 x3_50 x4_50 x5_50 M_50 k_50 hm_50; exact absurd hm_50 (Nat.not_lt_zero _)
    | succ u_50 ih_50 =>
      have T_112 : ∀ (x2_112 : Int32) (x3_112 : Int32) (x4_112 : Int32) (x5_112 : Int32) (M_112 : zMt), (∀ a j, ¬ WM_X7_waits P a j → M_112 a j = M0 a j) → ((2147483648 - Int32.toInt x5_112).toNat < u_50 + 1) → (Int32.toInt x5_112 < 2147483647) → ∃ r, D_X7_waits_112 P (D_X7_waits_50 P u_50) x2_112 x3_112 x4_112 x5_112 M_112 = some r ∧ ((∀ a j, ¬ WM_X7_waits P a j → r.2 a j = M0 a j)) := by
        intro x2_112 x3_112 x4_112 x5_112 M_112 k_112 f0_112 f1_112
        unfold D_X7_waits_112
        exact ih_50 _ _ _ _ _ k_112 (z_up1 f1_112 f0_112)
      intro x2_50 x3_50 x4_50 x5_50 M_50 k_50 hm_50
      rw [D_X7_waits_50]
      refine vIf (fun h_59 => ?_) (fun h_59 => ?_)
      · refine vIf (fun h_120 => ?_) (fun h_120 => ?_)
        · refine vB (v_X7_answer) (fun e_126 f_126 q_126 => ?_)
          have k_126 : ∀ a j, ¬ WM_X7_waits P a j → e_126.2 a j = M0 a j := fun a j h => (q_126 a j (by unfold WM_X7_answer; unfold WM_X7_waits at h; omega)).trans (k_50 a j h)
          exact T_137 _ _ k_126
        · refine vB (v_X7_refuse) (fun e_134 f_134 q_134 => ?_)
          have k_134 : ∀ a j, ¬ WM_X7_waits P a j → e_134.2 a j = M0 a j := fun a j h => (q_134 a j (by unfold WM_X7_refuse; unfold WM_X7_waits at h; omega)).trans (k_50 a j h)
          exact T_137 _ _ k_134
      · refine vB (v_X5_isWaiting) (fun e_87 f_87 q_87 => ?_)
        have b_87 := q_87
        refine vIf (fun h_90 => ?_) (fun h_90 => ?_)
        · exact T_112 _ _ _ _ _ k_50 hm_50 (by first | assumption | exact z_lt (by assumption) | exact z_lt2 (by assumption) | exact z_lt3 (by assumption) (by first | assumption | decide))
        · refine vIf (fun h_99 => ?_) (fun h_99 => ?_)
          · refine vB (v_X7_answer) (fun e_105 f_105 q_105 => ?_)
            have k_105 : ∀ a j, ¬ WM_X7_waits P a j → e_105.2 a j = M0 a j := fun a j h => (q_105 a j (by unfold WM_X7_answer; unfold WM_X7_waits at h; omega)).trans (k_50 a j h)
            exact ⟨_, rfl, k_105⟩
          · exact T_112 _ _ _ _ _ k_50 hm_50 (by first | assumption | exact z_lt (by assumption) | exact z_lt2 (by assumption) | exact z_lt3 (by assumption) (by first | assumption | decide))
  have T_50 : ∀ (x2_50 : Int32) (x3_50 : Int32) (x4_50 : Int32) (x5_50 : Int32) (M_50 : zMt), (∀ a j, ¬ WM_X7_waits P a j → M_50 a j = M0 a j) → ∃ r, D_X7_waits_50 P zFu x2_50 x3_50 x4_50 x5_50 M_50 = some r ∧ ((∀ a j, ¬ WM_X7_waits P a j → r.2 a j = M0 a j)) := fun x2_50 x3_50 x4_50 x5_50 M_50 k_50 => TL_50 zFu x2_50 x3_50 x4_50 x5_50 M_50 k_50 (zFu_up _)
  have T_12 : ∀ (M_12 : zMt), (∀ a j, ¬ WM_X7_waits P a j → M_12 a j = M0 a j) → ∃ r, D_X7_waits_12 P M_12 = some r ∧ ((∀ a j, ¬ WM_X7_waits P a j → r.2 a j = M0 a j)) := by
    intro M_12 k_12
    unfold D_X7_waits_12
    refine vB (v_X7_refuse) (fun e_14 f_14 q_14 => ?_)
    have k_14 : ∀ a j, ¬ WM_X7_waits P a j → e_14.2 a j = M0 a j := fun a j h => (q_14 a j (by unfold WM_X7_refuse; unfold WM_X7_waits at h; omega)).trans (k_12 a j h)
    exact ⟨_, rfl, k_14⟩
  unfold D_X7_waits
  refine vB (v_X7_isSeed) (fun e_1 f_1 q_1 => ?_)
  have b_1 := q_1
  refine vIf (fun h_4 => ?_) (fun h_4 => ?_)
  · exact T_12 _ (fun _ _ _ => rfl)
  · refine vIf (fun h_9 => ?_) (fun h_9 => ?_)
    · refine vB (v_X7_isUnit) (fun e_20 f_20 q_20 => ?_)
      have b_20 := q_20
      refine vIf (fun h_23 => ?_) (fun h_23 => ?_)
      · refine vB (v_X7_refuse) (fun e_28 f_28 q_28 => ?_)
        have k_28 : ∀ a j, ¬ WM_X7_waits P a j → e_28.2 a j = M0 a j := fun a j h => (q_28 a j (by unfold WM_X7_refuse; unfold WM_X7_waits at h; omega))
        exact ⟨_, rfl, k_28⟩
      · refine vB (v_X5_bySeed) (fun e_41 f_41 q_41 => ?_)
        have k_41 : ∀ a j, ¬ WM_X7_waits P a j → e_41 a j = M0 a j := fun a j h => (q_41 a j (by unfold WM_X5_bySeed; unfold WM_X7_waits at h; omega))
        exact T_50 _ _ _ _ _ k_41
    · exact T_12 _ (fun _ _ _ => rfl)
def WM_X7_next (P : Nat) (a j : Nat) : Prop := (P + 105 ≤ a ∧ a < P + 112) ∨ (a = P ∧ (j = 0))
set_option maxRecDepth 100000 in
set_option maxHeartbeats 4000000 in
theorem v_X7_next {P : Nat} {v0 : Int32} {v1 : Int32} {v2 : Int32} {M0 : zMt}  : ∃ r, D_X7_next P v0 v1 v2 M0 = some r ∧ ((∀ a j, ¬ WM_X7_next P a j → r.2 a j = M0 a j)) := by
  have TL_82 : ∀ u : Nat, ∀ (x2_82 : Int32) (x4_82 : Int32) (x5_82 : Int32) (x6_82 : Int32) (M_82 : zMt), (∀ a j, ¬ WM_X7_next P a j → M_82 a j = M0 a j) → (2147483648 - Int32.toInt x6_82).toNat < u → ∃ r, D_X7_next_82 P u x2_82 x4_82 x5_82 x6_82 M_82 = some r ∧ ((∀ a j, ¬ WM_X7_next P a j → r.2 a j = M0 a j)) := by
    intro u
    induction u with
    | zero => intro x2_82 x4_82 x5_82 x6_82 M_82 k_82 hm_82; exact absurd hm_82 (Nat.not_lt_zero _)
    | succ u_82 ih_82 =>
      have T_148 : ∀ (x2_148 : Int32) (x4_148 : Int32) (x5_148 : Int32) (x6_148 : Int32) (M_148 : zMt), (∀ a j, ¬ WM_X7_next P a j → M_148 a j = M0 a j) → ((2147483648 - Int32.toInt x6_148).toNat < u_82 + 1) → (Int32.toInt x6_148 < 2147483647) → ∃ r, D_X7_next_148 P (D_X7_next_82 P u_82) x2_148 x4_148 x5_148 x6_148 M_148 = some r ∧ ((∀ a j, ¬ WM_X7_next P a j → r.2 a j = M0 a j)) := by
        intro x2_148 x4_148 x5_148 x6_148 M_148 k_148 f0_148 f1_148
        unfold D_X7_next_148
        exact ih_82 _ _ _ _ _ k_148 (z_up1 f1_148 f0_148)
      intro x2_82 x4_82 x5_82 x6_82 M_82 k_82 hm_82
      rw [D_X7_next_82]
      refine vIf (fun h_91 => ?_) (fun h_91 => ?_)
      · refine vB (v_X7_refuse) (fun e_156 f_156 q_156 => ?_)
        have k_156 : ∀ a j, ¬ WM_X7_next P a j → e_156.2 a j = M0 a j := fun a j h => (q_156 a j (by unfold WM_X7_refuse; unfold WM_X7_next at h; omega)).trans (k_82 a j h)
        exact ⟨_, rfl, k_156⟩
      · refine vB (v_X5_isWaiting) (fun e_119 f_119 q_119 => ?_)
        have b_119 := q_119
        refine vIf (fun h_122 => ?_) (fun h_122 => ?_)
        · exact T_148 _ _ _ _ _ k_82 hm_82 (by first | assumption | exact z_lt (by assumption) | exact z_lt2 (by assumption) | exact z_lt3 (by assumption) (by first | assumption | decide))
        · refine vB (v_X2_fits) (fun e_135 f_135 q_135 => ?_)
          have b_135 := q_135
          refine vIf (fun h_138 => ?_) (fun h_138 => ?_)
          · exact T_148 _ _ _ _ _ k_82 hm_82 (by first | assumption | exact z_lt (by assumption) | exact z_lt2 (by assumption) | exact z_lt3 (by assumption) (by first | assumption | decide))
          · refine vB (v_X7_answer) (fun e_144 f_144 q_144 => ?_)
            have k_144 : ∀ a j, ¬ WM_X7_next P a j → e_144.2 a j = M0 a j := fun a j h => (q_144 a j (by unfold WM_X7_answer; unfold WM_X7_next at h; omega)).trans (k_82 a j h)
            exact ⟨_, rfl, k_144⟩
  have T_82 : ∀ (x2_82 : Int32) (x4_82 : Int32) (x5_82 : Int32) (x6_82 : Int32) (M_82 : zMt), (∀ a j, ¬ WM_X7_next P a j → M_82 a j = M0 a j) → ∃ r, D_X7_next_82 P zFu x2_82 x4_82 x5_82 x6_82 M_82 = some r ∧ ((∀ a j, ¬ WM_X7_next P a j → r.2 a j = M0 a j)) := fun x2_82 x4_82 x5_82 x6_82 M_82 k_82 => TL_82 zFu x2_82 x4_82 x5_82 x6_82 M_82 k_82 (zFu_up _)
  have T_17 : ∀ (M_17 : zMt), (∀ a j, ¬ WM_X7_next P a j → M_17 a j = M0 a j) → ∃ r, D_X7_next_17 P M_17 = some r ∧ ((∀ a j, ¬ WM_X7_next P a j → r.2 a j = M0 a j)) := by
    intro M_17 k_17
    unfold D_X7_next_17
    refine vB (v_X7_refuse) (fun e_19 f_19 q_19 => ?_)
    have k_19 : ∀ a j, ¬ WM_X7_next P a j → e_19.2 a j = M0 a j := fun a j h => (q_19 a j (by unfold WM_X7_refuse; unfold WM_X7_next at h; omega)).trans (k_17 a j h)
    exact ⟨_, rfl, k_19⟩
  unfold D_X7_next
  refine vB (v_X7_isSeed) (fun e_1 f_1 q_1 => ?_)
  have b_1 := q_1
  refine vIf (fun h_4 => ?_) (fun h_4 => ?_)
  · exact T_17 _ (fun _ _ _ => rfl)
  · refine vIf (fun h_8 => ?_) (fun h_8 => ?_)
    · exact T_17 _ (fun _ _ _ => rfl)
    · refine vIf (fun h_14 => ?_) (fun h_14 => ?_)
      · refine vB (v_X7_isUnit) (fun e_25 f_25 q_25 => ?_)
        have b_25 := q_25
        refine vIf (fun h_28 => ?_) (fun h_28 => ?_)
        · refine vB (v_X7_refuse) (fun e_33 f_33 q_33 => ?_)
          have k_33 : ∀ a j, ¬ WM_X7_next P a j → e_33.2 a j = M0 a j := fun a j h => (q_33 a j (by unfold WM_X7_refuse; unfold WM_X7_next at h; omega))
          exact ⟨_, rfl, k_33⟩
        · refine vB (v_X5_bySeed) (fun e_46 f_46 q_46 => ?_)
          have k_46 : ∀ a j, ¬ WM_X7_next P a j → e_46 a j = M0 a j := fun a j h => (q_46 a j (by unfold WM_X5_bySeed; unfold WM_X7_next at h; omega))
          exact T_82 _ _ _ _ _ k_46
      · exact T_17 _ (fun _ _ _ => rfl)
def WM_X7_envies (P : Nat) (a j : Nat) : Prop := (P + 105 ≤ a ∧ a < P + 112) ∨ (a = P ∧ (j = 0))
set_option maxRecDepth 100000 in
set_option maxHeartbeats 4000000 in
theorem v_X7_envies {P : Nat} {v0 : Int32} {v1 : Int32} {M0 : zMt}  : ∃ r, D_X7_envies P v0 v1 M0 = some r ∧ ((∀ a j, ¬ WM_X7_envies P a j → r.2 a j = M0 a j)) := by
  have TL_44 : ∀ u : Nat, ∀ (x2_44 : Int32) (x3_44 : Int32) (x4_44 : Int32) (M_44 : zMt), (∀ a j, ¬ WM_X7_envies P a j → M_44 a j = M0 a j) → (2147483648 - Int32.toInt x4_44).toNat < u → ∃ r, D_X7_envies_44 P u x2_44 x3_44 x4_44 M_44 = some r ∧ ((∀ a j, ¬ WM_X7_envies P a j → r.2 a j = M0 a j)) := by
    intro u
    induction u with
    | zero => intro x2_44 x3_44 x4_44 M_44 k_44 hm_44; exact absurd hm_44 (Nat.not_lt_zero _)
    | succ u_44 ih_44 =>
      have T_147 : ∀ (x2_147 : Int32) (x3_147 : Int32) (x4_147 : Int32) (M_147 : zMt), (∀ a j, ¬ WM_X7_envies P a j → M_147 a j = M0 a j) → ((2147483648 - Int32.toInt x4_147).toNat < u_44 + 1) → (Int32.toInt x4_147 < 2147483647) → ∃ r, D_X7_envies_147 P (D_X7_envies_44 P u_44) x2_147 x3_147 x4_147 M_147 = some r ∧ ((∀ a j, ¬ WM_X7_envies P a j → r.2 a j = M0 a j)) := by
        intro x2_147 x3_147 x4_147 M_147 k_147 f0_147 f1_147
        unfold D_X7_envies_147
        exact ih_44 _ _ _ _ k_147 (z_up1 f1_147 f0_147)
      intro x2_44 x3_44 x4_44 M_44 k_44 hm_44
      rw [D_X7_envies_44]
      refine vIf (fun h_53 => ?_) (fun h_53 => ?_)
      · refine vB (v_X7_answer) (fun e_155 f_155 q_155 => ?_)
        have k_155 : ∀ a j, ¬ WM_X7_envies P a j → e_155.2 a j = M0 a j := fun a j h => (q_155 a j (by unfold WM_X7_answer; unfold WM_X7_envies at h; omega)).trans (k_44 a j h)
        exact ⟨_, rfl, k_155⟩
      · refine vIf (fun h_73 => ?_) (fun h_73 => ?_)
        · exact T_147 _ _ _ _ k_44 hm_44 (by first | assumption | exact z_lt (by assumption) | exact z_lt2 (by assumption) | exact z_lt3 (by assumption) (by first | assumption | decide))
        · refine vIf (fun h_99 => ?_) (fun h_99 => ?_)
          · refine vB (v_X2_rankOf) (fun e_112 f_112 q_112 => ?_)
            refine vIf (fun h_120 => ?_) (fun h_120 => ?_)
            · exact T_147 _ _ _ _ k_44 hm_44 (by first | assumption | exact z_lt (by assumption) | exact z_lt2 (by assumption) | exact z_lt3 (by assumption) (by first | assumption | decide))
            · refine vB (v_X5_rankHeld) (fun e_134 f_134 q_134 => ?_)
              refine vIf (fun h_137 => ?_) (fun h_137 => ?_)
              · exact T_147 _ _ _ _ k_44 hm_44 (by first | assumption | exact z_lt (by assumption) | exact z_lt2 (by assumption) | exact z_lt3 (by assumption) (by first | assumption | decide))
              · exact T_147 _ _ _ _ k_44 hm_44 (by first | assumption | exact z_lt (by assumption) | exact z_lt2 (by assumption) | exact z_lt3 (by assumption) (by first | assumption | decide))
          · exact T_147 _ _ _ _ k_44 hm_44 (by first | assumption | exact z_lt (by assumption) | exact z_lt2 (by assumption) | exact z_lt3 (by assumption) (by first | assumption | decide))
  have T_44 : ∀ (x2_44 : Int32) (x3_44 : Int32) (x4_44 : Int32) (M_44 : zMt), (∀ a j, ¬ WM_X7_envies P a j → M_44 a j = M0 a j) → ∃ r, D_X7_envies_44 P zFu x2_44 x3_44 x4_44 M_44 = some r ∧ ((∀ a j, ¬ WM_X7_envies P a j → r.2 a j = M0 a j)) := fun x2_44 x3_44 x4_44 M_44 k_44 => TL_44 zFu x2_44 x3_44 x4_44 M_44 k_44 (zFu_up _)
  unfold D_X7_envies
  refine vB (v_X7_isSeed) (fun e_1 f_1 q_1 => ?_)
  have b_1 := q_1
  refine vIf (fun h_4 => ?_) (fun h_4 => ?_)
  · refine vB (v_X7_refuse) (fun e_9 f_9 q_9 => ?_)
    have k_9 : ∀ a j, ¬ WM_X7_envies P a j → e_9.2 a j = M0 a j := fun a j h => (q_9 a j (by unfold WM_X7_refuse; unfold WM_X7_envies at h; omega))
    exact ⟨_, rfl, k_9⟩
  · refine vB (v_X7_isApplicant) (fun e_15 f_15 q_15 => ?_)
    have b_15 := q_15
    refine vIf (fun h_18 => ?_) (fun h_18 => ?_)
    · refine vB (v_X7_refuse) (fun e_23 f_23 q_23 => ?_)
      have k_23 : ∀ a j, ¬ WM_X7_envies P a j → e_23.2 a j = M0 a j := fun a j h => (q_23 a j (by unfold WM_X7_refuse; unfold WM_X7_envies at h; omega))
      exact ⟨_, rfl, k_23⟩
    · refine vB (v_X5_bySeed) (fun e_36 f_36 q_36 => ?_)
      have k_36 : ∀ a j, ¬ WM_X7_envies P a j → e_36 a j = M0 a j := fun a j h => (q_36 a j (by unfold WM_X5_bySeed; unfold WM_X7_envies at h; omega))
      exact T_44 _ _ _ _ k_36
def WM_X7_spoils (P : Nat) (a j : Nat) : Prop := (P + 105 ≤ a ∧ a < P + 112) ∨ (P + 159 ≤ a ∧ a < P + 166) ∨ (P + 167 ≤ a ∧ a < P + 179) ∨ (P + 180 ≤ a ∧ a < P + 187) ∨ (a = P ∧ (j = 0)) ∨ (a = P + 158 ∧ (j = 0 ∨ j = 1 ∨ j = 2 ∨ j = 3 ∨ j = 4 ∨ j = 5 ∨ j = 6)) ∨ (a = P + 166 ∧ (j = 0 ∨ j = 1 ∨ j = 2 ∨ j = 3))
set_option maxRecDepth 100000 in
set_option maxHeartbeats 4000000 in
theorem v_X7_spoils {P : Nat} {v0 : Int32} {v1 : Int32} {M0 : zMt}  : ∃ r, D_X7_spoils P v0 v1 M0 = some r ∧ ((∀ a j, ¬ WM_X7_spoils P a j → r.2 a j = M0 a j)) := by
  have TL_99 : ∀ u : Nat, ∀ (x2_99 : Int32) (x3_99 : Int32) (x4_99 : Int32) (M_99 : zMt), (∀ a j, ¬ WM_X7_spoils P a j → M_99 a j = M0 a j) → (2147483648 - Int32.toInt x4_99).toNat < u → ∃ r, D_X7_spoils_99 P u x2_99 x3_99 x4_99 M_99 = some r ∧ ((∀ a j, ¬ WM_X7_spoils P a j → r.2 a j = M0 a j)) := by
    intro u
    induction u with
    | zero => intro x2_99 x3_99 x4_99 M_99 k_99 hm_99; exact absurd hm_99 (Nat.not_lt_zero _)
    | succ u_99 ih_99 =>
      have T_153 : ∀ (x2_153 : Int32) (x3_153 : Int32) (x4_153 : Int32) (M_153 : zMt), (∀ a j, ¬ WM_X7_spoils P a j → M_153 a j = M0 a j) → ((2147483648 - Int32.toInt x4_153).toNat < u_99 + 1) → (Int32.toInt x4_153 < 2147483647) → ∃ r, D_X7_spoils_153 P (D_X7_spoils_99 P u_99) x2_153 x3_153 x4_153 M_153 = some r ∧ ((∀ a j, ¬ WM_X7_spoils P a j → r.2 a j = M0 a j)) := by
        intro x2_153 x3_153 x4_153 M_153 k_153 f0_153 f1_153
        unfold D_X7_spoils_153
        exact ih_99 _ _ _ _ k_153 (z_up1 f1_153 f0_153)
      intro x2_99 x3_99 x4_99 M_99 k_99 hm_99
      rw [D_X7_spoils_99]
      refine vIf (fun h_108 => ?_) (fun h_108 => ?_)
      · refine vB (v_X7_answer) (fun e_161 f_161 q_161 => ?_)
        have k_161 : ∀ a j, ¬ WM_X7_spoils P a j → e_161.2 a j = M0 a j := fun a j h => (q_161 a j (by unfold WM_X7_answer; unfold WM_X7_spoils at h; omega)).trans (k_99 a j h)
        exact ⟨_, rfl, k_161⟩
      · refine vIf (fun h_114 => ?_) (fun h_114 => ?_)
        · exact T_153 _ _ _ _ k_99 hm_99 (by first | assumption | exact z_lt (by assumption) | exact z_lt2 (by assumption) | exact z_lt3 (by assumption) (by first | assumption | decide))
        · refine vB (v_X5_rankHeld) (fun e_127 f_127 q_127 => ?_)
          refine vB (v_X5_rankHeld) (fun e_140 f_140 q_140 => ?_)
          refine vIf (fun h_143 => ?_) (fun h_143 => ?_)
          · exact T_153 _ _ _ _ k_99 hm_99 (by first | assumption | exact z_lt (by assumption) | exact z_lt2 (by assumption) | exact z_lt3 (by assumption) (by first | assumption | decide))
          · exact T_153 _ _ _ _ k_99 hm_99 (by first | assumption | exact z_lt (by assumption) | exact z_lt2 (by assumption) | exact z_lt3 (by assumption) (by first | assumption | decide))
  have T_99 : ∀ (x2_99 : Int32) (x3_99 : Int32) (x4_99 : Int32) (M_99 : zMt), (∀ a j, ¬ WM_X7_spoils P a j → M_99 a j = M0 a j) → ∃ r, D_X7_spoils_99 P zFu x2_99 x3_99 x4_99 M_99 = some r ∧ ((∀ a j, ¬ WM_X7_spoils P a j → r.2 a j = M0 a j)) := fun x2_99 x3_99 x4_99 M_99 k_99 => TL_99 zFu x2_99 x3_99 x4_99 M_99 k_99 (zFu_up _)
  unfold D_X7_spoils
  refine vB (v_X7_isSeed) (fun e_1 f_1 q_1 => ?_)
  have b_1 := q_1
  refine vIf (fun h_4 => ?_) (fun h_4 => ?_)
  · refine vB (v_X7_refuse) (fun e_9 f_9 q_9 => ?_)
    have k_9 : ∀ a j, ¬ WM_X7_spoils P a j → e_9.2 a j = M0 a j := fun a j h => (q_9 a j (by unfold WM_X7_refuse; unfold WM_X7_spoils at h; omega))
    exact ⟨_, rfl, k_9⟩
  · refine vB (v_X7_isApplicant) (fun e_15 f_15 q_15 => ?_)
    have b_15 := q_15
    refine vIf (fun h_18 => ?_) (fun h_18 => ?_)
    · refine vB (v_X7_refuse) (fun e_23 f_23 q_23 => ?_)
      have k_23 : ∀ a j, ¬ WM_X7_spoils P a j → e_23.2 a j = M0 a j := fun a j h => (q_23 a j (by unfold WM_X7_refuse; unfold WM_X7_spoils at h; omega))
      exact ⟨_, rfl, k_23⟩
    · refine vB (v_X5_bySeed) (fun e_36 f_36 q_36 => ?_)
      have k_36 : ∀ a j, ¬ WM_X7_spoils P a j → e_36 a j = M0 a j := fun a j h => (q_36 a j (by unfold WM_X5_bySeed; unfold WM_X7_spoils at h; omega))
      refine vB (v_X4_take) (fun e_47 f_47 q_47 => ?_)
      have k_47 : ∀ a j, ¬ WM_X7_spoils P a j → e_47 a j = M0 a j := fun a j h => (q_47 a j (by unfold WM_X4_take; unfold WM_X7_spoils at h; omega)).trans (k_36 a j h)
      refine vB (v_X4_wishFor) (fun e_68 f_68 q_68 => ?_)
      have k_68 : ∀ a j, ¬ WM_X7_spoils P a j → e_68 a j = M0 a j := fun a j h => (q_68 a j (by unfold WM_X4_wishFor; unfold WM_X7_spoils at h; omega)).trans (k_47 a j h)
      refine vB (v_X2_gather) (fun e_79 f_79 q_79 => ?_)
      have k_79 : ∀ a j, ¬ WM_X7_spoils P a j → e_79 a j = M0 a j := fun a j h => (q_79 a j (by unfold WM_X2_gather; unfold WM_X7_spoils at h; omega)).trans (k_68 a j h)
      refine vB (v_X5_bySeed) (fun e_91 f_91 q_91 => ?_)
      have k_91 : ∀ a j, ¬ WM_X7_spoils P a j → e_91 a j = M0 a j := fun a j h => (q_91 a j (by unfold WM_X5_bySeed; unfold WM_X7_spoils at h; omega)).trans (k_79 a j h)
      exact T_99 _ _ _ _ k_91
def WM_X7_behind (P : Nat) (a j : Nat) : Prop := (P + 105 ≤ a ∧ a < P + 112) ∨ (a = P ∧ (j = 0))
set_option maxRecDepth 100000 in
set_option maxHeartbeats 4000000 in
theorem v_X7_behind {P : Nat} {v0 : Int32} {v1 : Int32} {M0 : zMt}  : ∃ r, D_X7_behind P v0 v1 M0 = some r ∧ ((∀ a j, ¬ WM_X7_behind P a j → r.2 a j = M0 a j)) := by
  unfold D_X7_behind
  refine vB (v_X7_isSeed) (fun e_1 f_1 q_1 => ?_)
  have b_1 := q_1
  refine vIf (fun h_4 => ?_) (fun h_4 => ?_)
  · refine vB (v_X7_refuse) (fun e_9 f_9 q_9 => ?_)
    have k_9 : ∀ a j, ¬ WM_X7_behind P a j → e_9.2 a j = M0 a j := fun a j h => (q_9 a j (by unfold WM_X7_refuse; unfold WM_X7_behind at h; omega))
    exact ⟨_, rfl, k_9⟩
  · refine vB (v_X7_isHunter) (fun e_15 f_15 q_15 => ?_)
    have b_15 := q_15
    refine vIf (fun h_18 => ?_) (fun h_18 => ?_)
    · refine vB (v_X7_refuse) (fun e_23 f_23 q_23 => ?_)
      have k_23 : ∀ a j, ¬ WM_X7_behind P a j → e_23.2 a j = M0 a j := fun a j h => (q_23 a j (by unfold WM_X7_refuse; unfold WM_X7_behind at h; omega))
      exact ⟨_, rfl, k_23⟩
    · refine vB (v_X5_bySeed) (fun e_36 f_36 q_36 => ?_)
      have k_36 : ∀ a j, ¬ WM_X7_behind P a j → e_36 a j = M0 a j := fun a j h => (q_36 a j (by unfold WM_X5_bySeed; unfold WM_X7_behind at h; omega))
      refine vB (v_X5_scoreBehind) (fun e_70 f_70 q_70 => ?_)
      refine vB (v_X7_answer) (fun e_73 f_73 q_73 => ?_)
      have k_73 : ∀ a j, ¬ WM_X7_behind P a j → e_73.2 a j = M0 a j := fun a j h => (q_73 a j (by unfold WM_X7_answer; unfold WM_X7_behind at h; omega)).trans (k_36 a j h)
      exact ⟨_, rfl, k_73⟩
def WM_X7_lucky (P : Nat) (a j : Nat) : Prop := (P + 105 ≤ a ∧ a < P + 112) ∨ (a = P ∧ (j = 0))
set_option maxRecDepth 100000 in
set_option maxHeartbeats 4000000 in
theorem v_X7_lucky {P : Nat} {v0 : Int32} {v1 : Int32} {M0 : zMt}  : ∃ r, D_X7_lucky P v0 v1 M0 = some r ∧ ((∀ a j, ¬ WM_X7_lucky P a j → r.2 a j = M0 a j)) := by
  have TL_36 : ∀ u : Nat, ∀ (x1_36 : Int32) (x2_36 : Int32) (x3_36 : Int32) (M_36 : zMt), (∀ a j, ¬ WM_X7_lucky P a j → M_36 a j = M0 a j) → (2147483648 - Int32.toInt x3_36).toNat < u → ∃ r, D_X7_lucky_36 P u x1_36 x2_36 x3_36 M_36 = some r ∧ ((∀ a j, ¬ WM_X7_lucky P a j → r.2 a j = M0 a j)) := by
    intro u
    induction u with
    | zero => intro x1_36 x2_36 x3_36 M_36 k_36 hm_36; exact absurd hm_36 (Nat.not_lt_zero _)
    | succ u_36 ih_36 =>
      intro x1_36 x2_36 x3_36 M_36 k_36 hm_36
      rw [D_X7_lucky_36]
      refine vIf (fun h_39 => ?_) (fun h_39 => ?_)
      · refine vB (v_X7_refuse) (fun e_87 f_87 q_87 => ?_)
        have k_87 : ∀ a j, ¬ WM_X7_lucky P a j → e_87.2 a j = M0 a j := fun a j h => (q_87 a j (by unfold WM_X7_refuse; unfold WM_X7_lucky at h; omega)).trans (k_36 a j h)
        exact ⟨_, rfl, k_87⟩
      · refine vB (v_X5_bySeed) (fun e_53 f_53 q_53 => ?_)
        have k_53 : ∀ a j, ¬ WM_X7_lucky P a j → e_53 a j = M0 a j := fun a j h => (q_53 a j (by unfold WM_X5_bySeed; unfold WM_X7_lucky at h; omega)).trans (k_36 a j h)
        refine vB (v_X5_hasFirst) (fun e_65 f_65 q_65 => ?_)
        have b_65 := q_65
        refine vIf (fun h_68 => ?_) (fun h_68 => ?_)
        · exact ih_36 _ _ _ _ k_53 (z_up1 (by first | assumption | exact z_lt (by assumption) | exact z_lt2 (by assumption) | exact z_lt3 (by assumption) (by first | assumption | decide)) hm_36)
        · refine vB (v_X7_answer) (fun e_75 f_75 q_75 => ?_)
          have k_75 : ∀ a j, ¬ WM_X7_lucky P a j → e_75.2 a j = M0 a j := fun a j h => (q_75 a j (by unfold WM_X7_answer; unfold WM_X7_lucky at h; omega)).trans (k_53 a j h)
          exact ⟨_, rfl, k_75⟩
  have T_36 : ∀ (x1_36 : Int32) (x2_36 : Int32) (x3_36 : Int32) (M_36 : zMt), (∀ a j, ¬ WM_X7_lucky P a j → M_36 a j = M0 a j) → ∃ r, D_X7_lucky_36 P zFu x1_36 x2_36 x3_36 M_36 = some r ∧ ((∀ a j, ¬ WM_X7_lucky P a j → r.2 a j = M0 a j)) := fun x1_36 x2_36 x3_36 M_36 k_36 => TL_36 zFu x1_36 x2_36 x3_36 M_36 k_36 (zFu_up _)
  have T_14 : ∀ (M_14 : zMt), (∀ a j, ¬ WM_X7_lucky P a j → M_14 a j = M0 a j) → ∃ r, D_X7_lucky_14 P M_14 = some r ∧ ((∀ a j, ¬ WM_X7_lucky P a j → r.2 a j = M0 a j)) := by
    intro M_14 k_14
    unfold D_X7_lucky_14
    refine vB (v_X7_refuse) (fun e_16 f_16 q_16 => ?_)
    have k_16 : ∀ a j, ¬ WM_X7_lucky P a j → e_16.2 a j = M0 a j := fun a j h => (q_16 a j (by unfold WM_X7_refuse; unfold WM_X7_lucky at h; omega)).trans (k_14 a j h)
    exact ⟨_, rfl, k_16⟩
  unfold D_X7_lucky
  refine vB (v_X7_isSeed) (fun e_1 f_1 q_1 => ?_)
  have b_1 := q_1
  refine vIf (fun h_4 => ?_) (fun h_4 => ?_)
  · exact T_14 _ (fun _ _ _ => rfl)
  · refine vIf (fun h_11 => ?_) (fun h_11 => ?_)
    · refine vB (v_X7_isApplicant) (fun e_22 f_22 q_22 => ?_)
      have b_22 := q_22
      refine vIf (fun h_25 => ?_) (fun h_25 => ?_)
      · refine vB (v_X7_refuse) (fun e_30 f_30 q_30 => ?_)
        have k_30 : ∀ a j, ¬ WM_X7_lucky P a j → e_30.2 a j = M0 a j := fun a j h => (q_30 a j (by unfold WM_X7_refuse; unfold WM_X7_lucky at h; omega))
        exact ⟨_, rfl, k_30⟩
      · exact T_36 _ _ _ _ (fun _ _ _ => rfl)
    · exact T_14 _ (fun _ _ _ => rfl)
def WM_X7_reckon (P : Nat) (a j : Nat) : Prop := (P + 114 ≤ a ∧ a < P + 115) ∨ (P + 118 ≤ a ∧ a < P + 125) ∨ (a = P ∧ (j = 3))
def WN_X7_reckon (P : Nat) (a j : Nat) : Prop := (P + 113 ≤ a ∧ a < P + 114) ∨ (P + 115 ≤ a ∧ a < P + 117)
set_option maxRecDepth 100000 in
set_option maxHeartbeats 4000000 in
theorem v_X7_reckon {P : Nat}  {M0 : zMt} {N0 : zNt}  : ∃ r, D_X7_reckon P M0 N0 = some r ∧ ((∀ a j, ¬ WM_X7_reckon P a j → r.1 a j = M0 a j) ∧ (∀ a j, ¬ WN_X7_reckon P a j → r.2 a j = N0 a j)) := by
  have T_23 : ∀ (M_23 : zMt) (N_23 : zNt), (∀ a j, ¬ WM_X7_reckon P a j → M_23 a j = M0 a j) → (∀ a j, ¬ WN_X7_reckon P a j → N_23 a j = N0 a j) → ∃ r, D_X7_reckon_23 P M_23 N_23 = some r ∧ ((∀ a j, ¬ WM_X7_reckon P a j → r.1 a j = M0 a j) ∧ (∀ a j, ¬ WN_X7_reckon P a j → r.2 a j = N0 a j)) := by
    intro M_23 N_23 k_23 kn_23
    unfold D_X7_reckon_23
    exact ⟨_, rfl, k_23, kn_23⟩
  unfold D_X7_reckon
  refine vIf (fun h_4 => ?_) (fun h_4 => ?_)
  · refine vB (v_X0_reckon) (fun e_15 f_15 q_15 => ?_)
    have k_15 : ∀ a j, ¬ WM_X7_reckon P a j → e_15.1 a j = M0 a j := fun a j h => (q_15.1 a j (by unfold WM_X0_reckon; unfold WM_X7_reckon at h; omega))
    have kn_15 : ∀ a j, ¬ WN_X7_reckon P a j → e_15.2 a j = N0 a j := fun a j h => (q_15.2 a j (by unfold WN_X0_reckon; unfold WN_X7_reckon at h; omega))
    refine vLm (W := WM_X7_reckon P) (fun a j h => (zu_ne (by unfold WM_X7_reckon at h; omega)).trans (k_15 a j h)) (fun M_20 f_20 k_20 => ?_)
    exact T_23 _ _ k_20 kn_15
  · exact T_23 _ _ (fun _ _ _ => rfl) (fun _ _ _ => rfl)
def WM_X7_answerParts (P : Nat) (a j : Nat) : Prop := (a = P ∧ (j = 0))
set_option maxRecDepth 100000 in
set_option maxHeartbeats 4000000 in
theorem v_X7_answerParts {P : Nat} {v0 : Int64} {M0 : zMt}  : ∃ r, D_X7_answerParts P v0 M0 = some r ∧ ((∀ a j, ¬ WM_X7_answerParts P a j → r.2 a j = M0 a j)) := by
  unfold D_X7_answerParts
  refine vLm (W := WM_X7_answerParts P) (fun a j h => (zu_ne (by unfold WM_X7_answerParts at h; omega))) (fun M_2 f_2 k_2 => ?_)
  exact ⟨_, rfl, k_2⟩
def WM_X7_chance (P : Nat) (a j : Nat) : Prop := (P + 114 ≤ a ∧ a < P + 115) ∨ (P + 118 ≤ a ∧ a < P + 125) ∨ (a = P ∧ (j = 0 ∨ j = 3))
def WN_X7_chance (P : Nat) (a j : Nat) : Prop := (P + 113 ≤ a ∧ a < P + 114) ∨ (P + 115 ≤ a ∧ a < P + 117)
set_option maxRecDepth 100000 in
set_option maxHeartbeats 4000000 in
theorem v_X7_chance {P : Nat} {v0 : Int32} {v1 : Int32} {M0 : zMt} {N0 : zNt}  : ∃ r, D_X7_chance P v0 v1 M0 N0 = some r ∧ ((∀ a j, ¬ WM_X7_chance P a j → r.2.1 a j = M0 a j) ∧ (∀ a j, ¬ WN_X7_chance P a j → r.2.2 a j = N0 a j)) := by
  have T_129 : ∀ (y1_129 : Int64) (M_129 : zMt) (N_129 : zNt), (∀ a j, ¬ WM_X7_chance P a j → M_129 a j = M0 a j) → (∀ a j, ¬ WN_X7_chance P a j → N_129 a j = N0 a j) → ∃ r, D_X7_chance_129 P y1_129 M_129 N_129 = some r ∧ ((∀ a j, ¬ WM_X7_chance P a j → r.2.1 a j = M0 a j) ∧ (∀ a j, ¬ WN_X7_chance P a j → r.2.2 a j = N0 a j)) := by
    intro y1_129 M_129 N_129 k_129 kn_129
    unfold D_X7_chance_129
    refine vB (v_X7_answerParts) (fun e_129 f_129 q_129 => ?_)
    have k_129 : ∀ a j, ¬ WM_X7_chance P a j → e_129.2 a j = M0 a j := fun a j h => (q_129 a j (by unfold WM_X7_answerParts; unfold WM_X7_chance at h; omega)).trans (k_129 a j h)
    exact ⟨_, rfl, k_129, kn_129⟩
  have T_9 : ∀ (M_9 : zMt) (N_9 : zNt), (∀ a j, ¬ WM_X7_chance P a j → M_9 a j = M0 a j) → (∀ a j, ¬ WN_X7_chance P a j → N_9 a j = N0 a j) → ∃ r, D_X7_chance_9 P M_9 N_9 = some r ∧ ((∀ a j, ¬ WM_X7_chance P a j → r.2.1 a j = M0 a j) ∧ (∀ a j, ¬ WN_X7_chance P a j → r.2.2 a j = N0 a j)) := by
    intro M_9 N_9 k_9 kn_9
    unfold D_X7_chance_9
    refine vB (v_X7_refuse) (fun e_11 f_11 q_11 => ?_)
    have k_11 : ∀ a j, ¬ WM_X7_chance P a j → e_11.2 a j = M0 a j := fun a j h => (q_11 a j (by unfold WM_X7_refuse; unfold WM_X7_chance at h; omega)).trans (k_9 a j h)
    exact ⟨_, rfl, k_11, kn_9⟩
  unfold D_X7_chance
  refine vIf (fun h_1 => ?_) (fun h_1 => ?_)
  · exact T_9 _ _ (fun _ _ _ => rfl) (fun _ _ _ => rfl)
  · refine vIf (fun h_6 => ?_) (fun h_6 => ?_)
    · refine vB (v_X7_isApplicant) (fun e_18 f_18 q_18 => ?_)
      have b_18 := q_18
      refine vIf (fun h_21 => ?_) (fun h_21 => ?_)
      · refine vB (v_X7_refuse) (fun e_26 f_26 q_26 => ?_)
        have k_26 : ∀ a j, ¬ WM_X7_chance P a j → e_26.2 a j = M0 a j := fun a j h => (q_26 a j (by unfold WM_X7_refuse; unfold WM_X7_chance at h; omega))
        exact ⟨_, rfl, k_26, (fun _ _ _ => rfl)⟩
      · refine vIf (fun h_40 => ?_) (fun h_40 => ?_)
        · refine vB (v_X7_reckon) (fun e_51 f_51 q_51 => ?_)
          have k_51 : ∀ a j, ¬ WM_X7_chance P a j → e_51.1 a j = M0 a j := fun a j h => (q_51.1 a j (by unfold WM_X7_reckon; unfold WM_X7_chance at h; omega))
          have kn_51 : ∀ a j, ¬ WN_X7_chance P a j → e_51.2 a j = N0 a j := fun a j h => (q_51.2 a j (by unfold WN_X7_reckon; unfold WN_X7_chance at h; omega))
          refine vIf (fun h_55 => ?_) (fun h_55_0 => ?_)
          · skip
            refine vB (v_X0_anyUnit) (fun e_86 f_86 q_86 => ?_)
            refine vB (v_X7_answerParts) (fun e_89 f_89 q_89 => ?_)
            have k_89 : ∀ a j, ¬ WM_X7_chance P a j → e_89.2 a j = M0 a j := fun a j h => (q_89 a j (by unfold WM_X7_answerParts; unfold WM_X7_chance at h; omega)).trans (k_51 a j h)
            exact ⟨_, rfl, k_89, kn_51⟩
          refine vIf (fun h_55 => ?_) (fun h_55_1 => ?_)
          · skip
            refine vIf (fun h_105 => ?_) (fun h_105 => ?_)
            · exact T_129 _ _ _ k_51 kn_51
            · refine vB (v_X2_wish) (fun e_123 f_123 q_123 => ?_)
              refine vB (v_X0_certainUnit) (fun e_126 f_126 q_126 => ?_)
              exact T_129 _ _ _ k_51 kn_51
          refine vB (v_X7_answerParts) (fun e_145 f_145 q_145 => ?_)
          have k_145 : ∀ a j, ¬ WM_X7_chance P a j → e_145.2 a j = M0 a j := fun a j h => (q_145 a j (by unfold WM_X7_answerParts; unfold WM_X7_chance at h; omega)).trans (k_51 a j h)
          exact ⟨_, rfl, k_145, kn_51⟩
        · refine vB (v_X7_refuse) (fun e_45 f_45 q_45 => ?_)
          have k_45 : ∀ a j, ¬ WM_X7_chance P a j → e_45.2 a j = M0 a j := fun a j h => (q_45 a j (by unfold WM_X7_refuse; unfold WM_X7_chance at h; omega))
          exact ⟨_, rfl, k_45, (fun _ _ _ => rfl)⟩
    · exact T_9 _ _ (fun _ _ _ => rfl) (fun _ _ _ => rfl)
def WM_X7_at (P : Nat) (a j : Nat) : Prop := (P + 114 ≤ a ∧ a < P + 115) ∨ (P + 118 ≤ a ∧ a < P + 125) ∨ (a = P ∧ (j = 0 ∨ j = 3))
def WN_X7_at (P : Nat) (a j : Nat) : Prop := (P + 113 ≤ a ∧ a < P + 114) ∨ (P + 115 ≤ a ∧ a < P + 117)
set_option maxRecDepth 100000 in
set_option maxHeartbeats 4000000 in
theorem v_X7_at {P : Nat} {v0 : Int32} {v1 : Int32} {M0 : zMt} {N0 : zNt}  : ∃ r, D_X7_at P v0 v1 M0 N0 = some r ∧ ((∀ a j, ¬ WM_X7_at P a j → r.2.1 a j = M0 a j) ∧ (∀ a j, ¬ WN_X7_at P a j → r.2.2 a j = N0 a j)) := by
  have T_16 : ∀ (M_16 : zMt) (N_16 : zNt), (∀ a j, ¬ WM_X7_at P a j → M_16 a j = M0 a j) → (∀ a j, ¬ WN_X7_at P a j → N_16 a j = N0 a j) → ∃ r, D_X7_at_16 P M_16 N_16 = some r ∧ ((∀ a j, ¬ WM_X7_at P a j → r.2.1 a j = M0 a j) ∧ (∀ a j, ¬ WN_X7_at P a j → r.2.2 a j = N0 a j)) := by
    intro M_16 N_16 k_16 kn_16
    unfold D_X7_at_16
    refine vB (v_X7_refuse) (fun e_18 f_18 q_18 => ?_)
    have k_18 : ∀ a j, ¬ WM_X7_at P a j → e_18.2 a j = M0 a j := fun a j h => (q_18 a j (by unfold WM_X7_refuse; unfold WM_X7_at at h; omega)).trans (k_16 a j h)
    exact ⟨_, rfl, k_18, kn_16⟩
  unfold D_X7_at
  refine vB (v_X7_isApplicant) (fun e_2 f_2 q_2 => ?_)
  have b_2 := q_2
  refine vIf (fun h_5 => ?_) (fun h_5 => ?_)
  · exact T_16 _ _ (fun _ _ _ => rfl) (fun _ _ _ => rfl)
  · refine vB (v_X7_isUnit) (fun e_10 f_10 q_10 => ?_)
    have b_10 := q_10
    refine vIf (fun h_13 => ?_) (fun h_13 => ?_)
    · exact T_16 _ _ (fun _ _ _ => rfl) (fun _ _ _ => rfl)
    · refine vIf (fun h_32 => ?_) (fun h_32 => ?_)
      · refine vB (v_X7_reckon) (fun e_43 f_43 q_43 => ?_)
        have k_43 : ∀ a j, ¬ WM_X7_at P a j → e_43.1 a j = M0 a j := fun a j h => (q_43.1 a j (by unfold WM_X7_reckon; unfold WM_X7_at at h; omega))
        have kn_43 : ∀ a j, ¬ WN_X7_at P a j → e_43.2 a j = N0 a j := fun a j h => (q_43.2 a j (by unfold WN_X7_reckon; unfold WN_X7_at at h; omega))
        refine vB (v_X0_certainUnit) (fun e_53 f_53 q_53 => ?_)
        refine vB (v_X7_answerParts) (fun e_56 f_56 q_56 => ?_)
        have k_56 : ∀ a j, ¬ WM_X7_at P a j → e_56.2 a j = M0 a j := fun a j h => (q_56 a j (by unfold WM_X7_answerParts; unfold WM_X7_at at h; omega)).trans (k_43 a j h)
        exact ⟨_, rfl, k_56, kn_43⟩
      · refine vB (v_X7_refuse) (fun e_37 f_37 q_37 => ?_)
        have k_37 : ∀ a j, ¬ WM_X7_at P a j → e_37.2 a j = M0 a j := fun a j h => (q_37 a j (by unfold WM_X7_refuse; unfold WM_X7_at at h; omega))
        exact ⟨_, rfl, k_37, (fun _ _ _ => rfl)⟩
def WM_X7_both (P : Nat) (a j : Nat) : Prop := (P + 114 ≤ a ∧ a < P + 115) ∨ (P + 118 ≤ a ∧ a < P + 125) ∨ (a = P ∧ (j = 0 ∨ j = 3))
def WN_X7_both (P : Nat) (a j : Nat) : Prop := (P + 113 ≤ a ∧ a < P + 114) ∨ (P + 115 ≤ a ∧ a < P + 117)
set_option maxRecDepth 100000 in
set_option maxHeartbeats 4000000 in
theorem v_X7_both {P : Nat} {v0 : Int32} {v1 : Int32} {M0 : zMt} {N0 : zNt}  : ∃ r, D_X7_both P v0 v1 M0 N0 = some r ∧ ((∀ a j, ¬ WM_X7_both P a j → r.2.1 a j = M0 a j) ∧ (∀ a j, ¬ WN_X7_both P a j → r.2.2 a j = N0 a j)) := by
  have T_16 : ∀ (M_16 : zMt) (N_16 : zNt), (∀ a j, ¬ WM_X7_both P a j → M_16 a j = M0 a j) → (∀ a j, ¬ WN_X7_both P a j → N_16 a j = N0 a j) → ∃ r, D_X7_both_16 P M_16 N_16 = some r ∧ ((∀ a j, ¬ WM_X7_both P a j → r.2.1 a j = M0 a j) ∧ (∀ a j, ¬ WN_X7_both P a j → r.2.2 a j = N0 a j)) := by
    intro M_16 N_16 k_16 kn_16
    unfold D_X7_both_16
    refine vB (v_X7_refuse) (fun e_18 f_18 q_18 => ?_)
    have k_18 : ∀ a j, ¬ WM_X7_both P a j → e_18.2 a j = M0 a j := fun a j h => (q_18 a j (by unfold WM_X7_refuse; unfold WM_X7_both at h; omega)).trans (k_16 a j h)
    exact ⟨_, rfl, k_18, kn_16⟩
  unfold D_X7_both
  refine vB (v_X7_isApplicant) (fun e_2 f_2 q_2 => ?_)
  have b_2 := q_2
  refine vIf (fun h_5 => ?_) (fun h_5 => ?_)
  · exact T_16 _ _ (fun _ _ _ => rfl) (fun _ _ _ => rfl)
  · refine vB (v_X7_isApplicant) (fun e_10 f_10 q_10 => ?_)
    have b_10 := q_10
    refine vIf (fun h_13 => ?_) (fun h_13 => ?_)
    · exact T_16 _ _ (fun _ _ _ => rfl) (fun _ _ _ => rfl)
    · refine vIf (fun h_25 => ?_) (fun h_25 => ?_)
      · refine vB (v_X7_refuse) (fun e_30 f_30 q_30 => ?_)
        have k_30 : ∀ a j, ¬ WM_X7_both P a j → e_30.2 a j = M0 a j := fun a j h => (q_30 a j (by unfold WM_X7_refuse; unfold WM_X7_both at h; omega))
        exact ⟨_, rfl, k_30, (fun _ _ _ => rfl)⟩
      · refine vIf (fun h_44 => ?_) (fun h_44 => ?_)
        · refine vB (v_X7_reckon) (fun e_55 f_55 q_55 => ?_)
          have k_55 : ∀ a j, ¬ WM_X7_both P a j → e_55.1 a j = M0 a j := fun a j h => (q_55.1 a j (by unfold WM_X7_reckon; unfold WM_X7_both at h; omega))
          have kn_55 : ∀ a j, ¬ WN_X7_both P a j → e_55.2 a j = N0 a j := fun a j h => (q_55.2 a j (by unfold WN_X7_reckon; unfold WN_X7_both at h; omega))
          refine vB (v_X0_allOf) (fun e_70 f_70 q_70 => ?_)
          refine vB (v_X7_answerParts) (fun e_73 f_73 q_73 => ?_)
          have k_73 : ∀ a j, ¬ WM_X7_both P a j → e_73.2 a j = M0 a j := fun a j h => (q_73 a j (by unfold WM_X7_answerParts; unfold WM_X7_both at h; omega)).trans (k_55 a j h)
          exact ⟨_, rfl, k_73, kn_55⟩
        · refine vB (v_X7_refuse) (fun e_49 f_49 q_49 => ?_)
          have k_49 : ∀ a j, ¬ WM_X7_both P a j → e_49.2 a j = M0 a j := fun a j h => (q_49 a j (by unfold WM_X7_refuse; unfold WM_X7_both at h; omega))
          exact ⟨_, rfl, k_49, (fun _ _ _ => rfl)⟩
def WM_X7_sure (P : Nat) (a j : Nat) : Prop := (P + 114 ≤ a ∧ a < P + 115) ∨ (P + 118 ≤ a ∧ a < P + 125) ∨ (a = P ∧ (j = 0 ∨ j = 3))
def WN_X7_sure (P : Nat) (a j : Nat) : Prop := (P + 113 ≤ a ∧ a < P + 114) ∨ (P + 115 ≤ a ∧ a < P + 117)
set_option maxRecDepth 100000 in
set_option maxHeartbeats 4000000 in
theorem v_X7_sure {P : Nat} {v0 : Int32} {M0 : zMt} {N0 : zNt}  : ∃ r, D_X7_sure P v0 M0 N0 = some r ∧ ((∀ a j, ¬ WM_X7_sure P a j → r.2.1 a j = M0 a j) ∧ (∀ a j, ¬ WN_X7_sure P a j → r.2.2 a j = N0 a j)) := by
  have T_75 : ∀ (y1_75 : Int32) (M_75 : zMt) (N_75 : zNt), (∀ a j, ¬ WM_X7_sure P a j → M_75 a j = M0 a j) → (∀ a j, ¬ WN_X7_sure P a j → N_75 a j = N0 a j) → ∃ r, D_X7_sure_75 P y1_75 M_75 N_75 = some r ∧ ((∀ a j, ¬ WM_X7_sure P a j → r.2.1 a j = M0 a j) ∧ (∀ a j, ¬ WN_X7_sure P a j → r.2.2 a j = N0 a j)) := by
    intro y1_75 M_75 N_75 k_75 kn_75
    unfold D_X7_sure_75
    refine vB (v_X7_answer) (fun e_75 f_75 q_75 => ?_)
    have k_75 : ∀ a j, ¬ WM_X7_sure P a j → e_75.2 a j = M0 a j := fun a j h => (q_75 a j (by unfold WM_X7_answer; unfold WM_X7_sure at h; omega)).trans (k_75 a j h)
    exact ⟨_, rfl, k_75, kn_75⟩
  have T_9 : ∀ (M_9 : zMt) (N_9 : zNt), (∀ a j, ¬ WM_X7_sure P a j → M_9 a j = M0 a j) → (∀ a j, ¬ WN_X7_sure P a j → N_9 a j = N0 a j) → ∃ r, D_X7_sure_9 P M_9 N_9 = some r ∧ ((∀ a j, ¬ WM_X7_sure P a j → r.2.1 a j = M0 a j) ∧ (∀ a j, ¬ WN_X7_sure P a j → r.2.2 a j = N0 a j)) := by
    intro M_9 N_9 k_9 kn_9
    unfold D_X7_sure_9
    refine vB (v_X7_refuse) (fun e_11 f_11 q_11 => ?_)
    have k_11 : ∀ a j, ¬ WM_X7_sure P a j → e_11.2 a j = M0 a j := fun a j h => (q_11 a j (by unfold WM_X7_refuse; unfold WM_X7_sure at h; omega)).trans (k_9 a j h)
    exact ⟨_, rfl, k_11, kn_9⟩
  unfold D_X7_sure
  refine vIf (fun h_1 => ?_) (fun h_1 => ?_)
  · exact T_9 _ _ (fun _ _ _ => rfl) (fun _ _ _ => rfl)
  · refine vIf (fun h_6 => ?_) (fun h_6 => ?_)
    · refine vIf (fun h_24 => ?_) (fun h_24 => ?_)
      · refine vB (v_X7_reckon) (fun e_34 f_34 q_34 => ?_)
        have k_34 : ∀ a j, ¬ WM_X7_sure P a j → e_34.1 a j = M0 a j := fun a j h => (q_34.1 a j (by unfold WM_X7_reckon; unfold WM_X7_sure at h; omega))
        have kn_34 : ∀ a j, ¬ WN_X7_sure P a j → e_34.2 a j = N0 a j := fun a j h => (q_34.2 a j (by unfold WN_X7_reckon; unfold WN_X7_sure at h; omega))
        refine vIf (fun h_51 => ?_) (fun h_51 => ?_)
        · refine vB (v_X0_always) (fun e_58 f_58 q_58 => ?_)
          exact T_75 _ _ _ k_34 kn_34
        · refine vB (v_X0_ever) (fun e_69 f_69 q_69 => ?_)
          exact T_75 _ _ _ k_34 kn_34
      · refine vB (v_X7_refuse) (fun e_29 f_29 q_29 => ?_)
        have k_29 : ∀ a j, ¬ WM_X7_sure P a j → e_29.2 a j = M0 a j := fun a j h => (q_29 a j (by unfold WM_X7_refuse; unfold WM_X7_sure at h; omega))
        exact ⟨_, rfl, k_29, (fun _ _ _ => rfl)⟩
    · exact T_9 _ _ (fun _ _ _ => rfl) (fun _ _ _ => rfl)
def WM_X7_mean (P : Nat) (a j : Nat) : Prop := (P + 114 ≤ a ∧ a < P + 115) ∨ (P + 118 ≤ a ∧ a < P + 125) ∨ (a = P ∧ (j = 0 ∨ j = 3))
def WN_X7_mean (P : Nat) (a j : Nat) : Prop := (P + 113 ≤ a ∧ a < P + 114) ∨ (P + 115 ≤ a ∧ a < P + 117)
set_option maxRecDepth 100000 in
set_option maxHeartbeats 4000000 in
theorem v_X7_mean {P : Nat} {v0 : Int32} {M0 : zMt} {N0 : zNt}  : ∃ r, D_X7_mean P v0 M0 N0 = some r ∧ ((∀ a j, ¬ WM_X7_mean P a j → r.2.1 a j = M0 a j) ∧ (∀ a j, ¬ WN_X7_mean P a j → r.2.2 a j = N0 a j)) := by
  have TL_43 : ∀ u : Nat, ∀ (x1_43 : Int32) (x2_43 : Int64) (x4_43 : Int32) (M_43 : zMt) (N_43 : zNt), (∀ a j, ¬ WM_X7_mean P a j → M_43 a j = M0 a j) → (∀ a j, ¬ WN_X7_mean P a j → N_43 a j = N0 a j) → (2147483648 - Int32.toInt x4_43).toNat < u → ∃ r, D_X7_mean_43 P u x1_43 x2_43 x4_43 M_43 N_43 = some r ∧ ((∀ a j, ¬ WM_X7_mean P a j → r.2.1 a j = M0 a j) ∧ (∀ a j, ¬ WN_X7_mean P a j → r.2.2 a j = N0 a j)) := by
    intro u
    induction u with
    | zero => intro x1_43 x2_43 x4_43 M_43 N_43 k_43 kn_43 hm_43; exact absurd hm_43 (Nat.not_lt_zero _)
    | succ u_43 ih_43 =>
      intro x1_43 x2_43 x4_43 M_43 N_43 k_43 kn_43 hm_43
      rw [D_X7_mean_43]
      refine vIf (fun h_52 => ?_) (fun h_52 => ?_)
      · refine vB (v_X7_answerParts) (fun e_90 f_90 q_90 => ?_)
        have k_90 : ∀ a j, ¬ WM_X7_mean P a j → e_90.2 a j = M0 a j := fun a j h => (q_90 a j (by unfold WM_X7_answerParts; unfold WM_X7_mean at h; omega)).trans (k_43 a j h)
        exact ⟨_, rfl, k_90, kn_43⟩
      · refine vB (v_X0_certainUnit) (fun e_76 f_76 q_76 => ?_)
        exact ih_43 _ _ _ _ _ k_43 kn_43 (z_up1 (by first | assumption | exact z_lt (by assumption) | exact z_lt2 (by assumption) | exact z_lt3 (by assumption) (by first | assumption | decide)) hm_43)
  have T_43 : ∀ (x1_43 : Int32) (x2_43 : Int64) (x4_43 : Int32) (M_43 : zMt) (N_43 : zNt), (∀ a j, ¬ WM_X7_mean P a j → M_43 a j = M0 a j) → (∀ a j, ¬ WN_X7_mean P a j → N_43 a j = N0 a j) → ∃ r, D_X7_mean_43 P zFu x1_43 x2_43 x4_43 M_43 N_43 = some r ∧ ((∀ a j, ¬ WM_X7_mean P a j → r.2.1 a j = M0 a j) ∧ (∀ a j, ¬ WN_X7_mean P a j → r.2.2 a j = N0 a j)) := fun x1_43 x2_43 x4_43 M_43 N_43 k_43 kn_43 => TL_43 zFu x1_43 x2_43 x4_43 M_43 N_43 k_43 kn_43 (zFu_up _)
  unfold D_X7_mean
  refine vB (v_X7_isUnit) (fun e_2 f_2 q_2 => ?_)
  have b_2 := q_2
  refine vIf (fun h_5 => ?_) (fun h_5 => ?_)
  · refine vB (v_X7_refuse) (fun e_10 f_10 q_10 => ?_)
    have k_10 : ∀ a j, ¬ WM_X7_mean P a j → e_10.2 a j = M0 a j := fun a j h => (q_10 a j (by unfold WM_X7_refuse; unfold WM_X7_mean at h; omega))
    exact ⟨_, rfl, k_10, (fun _ _ _ => rfl)⟩
  · refine vIf (fun h_24 => ?_) (fun h_24 => ?_)
    · refine vB (v_X7_reckon) (fun e_35 f_35 q_35 => ?_)
      have k_35 : ∀ a j, ¬ WM_X7_mean P a j → e_35.1 a j = M0 a j := fun a j h => (q_35.1 a j (by unfold WM_X7_reckon; unfold WM_X7_mean at h; omega))
      have kn_35 : ∀ a j, ¬ WN_X7_mean P a j → e_35.2 a j = N0 a j := fun a j h => (q_35.2 a j (by unfold WN_X7_reckon; unfold WN_X7_mean at h; omega))
      exact T_43 _ _ _ _ _ k_35 kn_35
    · refine vB (v_X7_refuse) (fun e_29 f_29 q_29 => ?_)
      have k_29 : ∀ a j, ¬ WM_X7_mean P a j → e_29.2 a j = M0 a j := fun a j h => (q_29 a j (by unfold WM_X7_refuse; unfold WM_X7_mean at h; omega))
      exact ⟨_, rfl, k_29, (fun _ _ _ => rfl)⟩
def WM_X7_given (P : Nat) (a j : Nat) : Prop := (P + 114 ≤ a ∧ a < P + 115) ∨ (P + 118 ≤ a ∧ a < P + 125) ∨ (a = P ∧ (j = 0 ∨ j = 3))
def WN_X7_given (P : Nat) (a j : Nat) : Prop := (P + 113 ≤ a ∧ a < P + 114) ∨ (P + 115 ≤ a ∧ a < P + 117)
set_option maxRecDepth 100000 in
set_option maxHeartbeats 4000000 in
theorem v_X7_given {P : Nat} {v0 : Int32} {M0 : zMt} {N0 : zNt}  : ∃ r, D_X7_given P v0 M0 N0 = some r ∧ ((∀ a j, ¬ WM_X7_given P a j → r.2.1 a j = M0 a j) ∧ (∀ a j, ¬ WN_X7_given P a j → r.2.2 a j = N0 a j)) := by
  have T_67 : ∀ (y1_67 : Int32) (M_67 : zMt) (N_67 : zNt), (∀ a j, ¬ WM_X7_given P a j → M_67 a j = M0 a j) → (∀ a j, ¬ WN_X7_given P a j → N_67 a j = N0 a j) → ∃ r, D_X7_given_67 P y1_67 M_67 N_67 = some r ∧ ((∀ a j, ¬ WM_X7_given P a j → r.2.1 a j = M0 a j) ∧ (∀ a j, ¬ WN_X7_given P a j → r.2.2 a j = N0 a j)) := by
    intro y1_67 M_67 N_67 k_67 kn_67
    unfold D_X7_given_67
    refine vB (v_X7_answer) (fun e_67 f_67 q_67 => ?_)
    have k_67 : ∀ a j, ¬ WM_X7_given P a j → e_67.2 a j = M0 a j := fun a j h => (q_67 a j (by unfold WM_X7_answer; unfold WM_X7_given at h; omega)).trans (k_67 a j h)
    exact ⟨_, rfl, k_67, kn_67⟩
  have T_9 : ∀ (M_9 : zMt) (N_9 : zNt), (∀ a j, ¬ WM_X7_given P a j → M_9 a j = M0 a j) → (∀ a j, ¬ WN_X7_given P a j → N_9 a j = N0 a j) → ∃ r, D_X7_given_9 P M_9 N_9 = some r ∧ ((∀ a j, ¬ WM_X7_given P a j → r.2.1 a j = M0 a j) ∧ (∀ a j, ¬ WN_X7_given P a j → r.2.2 a j = N0 a j)) := by
    intro M_9 N_9 k_9 kn_9
    unfold D_X7_given_9
    refine vB (v_X7_refuse) (fun e_11 f_11 q_11 => ?_)
    have k_11 : ∀ a j, ¬ WM_X7_given P a j → e_11.2 a j = M0 a j := fun a j h => (q_11 a j (by unfold WM_X7_refuse; unfold WM_X7_given at h; omega)).trans (k_9 a j h)
    exact ⟨_, rfl, k_11, kn_9⟩
  unfold D_X7_given
  refine vIf (fun h_1 => ?_) (fun h_1 => ?_)
  · exact T_9 _ _ (fun _ _ _ => rfl) (fun _ _ _ => rfl)
  · refine vIf (fun h_6 => ?_) (fun h_6 => ?_)
    · refine vIf (fun h_24 => ?_) (fun h_24 => ?_)
      · refine vB (v_X7_reckon) (fun e_34 f_34 q_34 => ?_)
        have k_34 : ∀ a j, ¬ WM_X7_given P a j → e_34.1 a j = M0 a j := fun a j h => (q_34.1 a j (by unfold WM_X7_reckon; unfold WM_X7_given at h; omega))
        have kn_34 : ∀ a j, ¬ WN_X7_given P a j → e_34.2 a j = N0 a j := fun a j h => (q_34.2 a j (by unfold WN_X7_reckon; unfold WN_X7_given at h; omega))
        refine vIf (fun h_39 => ?_) (fun h_39 => ?_)
        · refine vB (v_X0_fewestTags) (fun e_50 f_50 q_50 => ?_)
          exact T_67 _ _ _ k_34 kn_34
        · refine vB (v_X0_mostTags) (fun e_64 f_64 q_64 => ?_)
          exact T_67 _ _ _ k_34 kn_34
      · refine vB (v_X7_refuse) (fun e_29 f_29 q_29 => ?_)
        have k_29 : ∀ a j, ¬ WM_X7_given P a j → e_29.2 a j = M0 a j := fun a j h => (q_29 a j (by unfold WM_X7_refuse; unfold WM_X7_given at h; omega))
        exact ⟨_, rfl, k_29, (fun _ _ _ => rfl)⟩
    · exact T_9 _ _ (fun _ _ _ => rfl) (fun _ _ _ => rfl)
def WM_X7_ends (P : Nat) (a j : Nat) : Prop := (P + 114 ≤ a ∧ a < P + 115) ∨ (P + 118 ≤ a ∧ a < P + 125) ∨ (a = P ∧ (j = 0 ∨ j = 3))
def WN_X7_ends (P : Nat) (a j : Nat) : Prop := (P + 113 ≤ a ∧ a < P + 114) ∨ (P + 115 ≤ a ∧ a < P + 117)
set_option maxRecDepth 100000 in
set_option maxHeartbeats 4000000 in
theorem v_X7_ends {P : Nat}  {M0 : zMt} {N0 : zNt}  : ∃ r, D_X7_ends P M0 N0 = some r ∧ ((∀ a j, ¬ WM_X7_ends P a j → r.2.1 a j = M0 a j) ∧ (∀ a j, ¬ WN_X7_ends P a j → r.2.2 a j = N0 a j)) := by
  unfold D_X7_ends
  refine vIf (fun h_9 => ?_) (fun h_9 => ?_)
  · refine vB (v_X7_reckon) (fun e_19 f_19 q_19 => ?_)
    have k_19 : ∀ a j, ¬ WM_X7_ends P a j → e_19.1 a j = M0 a j := fun a j h => (q_19.1 a j (by unfold WM_X7_reckon; unfold WM_X7_ends at h; omega))
    have kn_19 : ∀ a j, ¬ WN_X7_ends P a j → e_19.2 a j = N0 a j := fun a j h => (q_19.2 a j (by unfold WN_X7_reckon; unfold WN_X7_ends at h; omega))
    refine vB (v_X7_answer) (fun e_33 f_33 q_33 => ?_)
    have k_33 : ∀ a j, ¬ WM_X7_ends P a j → e_33.2 a j = M0 a j := fun a j h => (q_33 a j (by unfold WM_X7_answer; unfold WM_X7_ends at h; omega)).trans (k_19 a j h)
    exact ⟨_, rfl, k_33, kn_19⟩
  · refine vB (v_X7_refuse) (fun e_14 f_14 q_14 => ?_)
    have k_14 : ∀ a j, ¬ WM_X7_ends P a j → e_14.2 a j = M0 a j := fun a j h => (q_14 a j (by unfold WM_X7_refuse; unfold WM_X7_ends at h; omega))
    exact ⟨_, rfl, k_14, (fun _ _ _ => rfl)⟩
def WM_X7_need (P : Nat) (a j : Nat) : Prop := (P + 159 ≤ a ∧ a < P + 166) ∨ (P + 167 ≤ a ∧ a < P + 179) ∨ (P + 189 ≤ a ∧ a < P + 190) ∨ (P + 193 ≤ a ∧ a < P + 200) ∨ (a = P ∧ (j = 0)) ∨ (a = P + 158 ∧ (j = 0 ∨ j = 1 ∨ j = 2 ∨ j = 3 ∨ j = 4 ∨ j = 5 ∨ j = 6)) ∨ (a = P + 166 ∧ (j = 0 ∨ j = 1 ∨ j = 2 ∨ j = 3))
def WN_X7_need (P : Nat) (a j : Nat) : Prop := (P + 188 ≤ a ∧ a < P + 189) ∨ (P + 190 ≤ a ∧ a < P + 192)
set_option maxRecDepth 100000 in
set_option maxHeartbeats 4000000 in
theorem v_X7_need {P : Nat} {v0 : Int32} {v1 : Int32} {M0 : zMt} {N0 : zNt}  : ∃ r, D_X7_need P v0 v1 M0 N0 = some r ∧ ((∀ a j, ¬ WM_X7_need P a j → r.2.1 a j = M0 a j) ∧ (∀ a j, ¬ WN_X7_need P a j → r.2.2 a j = N0 a j)) := by
  have TL_97 : ∀ u : Nat, ∀ (x1_97 : Int32) (x2_97 : Int32) (x3_97 : Int32) (x4_97 : Int32) (M_97 : zMt) (N_97 : zNt), (∀ a j, ¬ WM_X7_need P a j → M_97 a j = M0 a j) → (∀ a j, ¬ WN_X7_need P a j → N_97 a j = N0 a j) → (2147483648 - Int32.toInt x4_97).toNat < u → ∃ r, D_X7_need_97 P u x1_97 x2_97 x3_97 x4_97 M_97 N_97 = some r ∧ ((∀ a j, ¬ WM_X7_need P a j → r.2.1 a j = M0 a j) ∧ (∀ a j, ¬ WN_X7_need P a j → r.2.2 a j = N0 a j)) := by
    intro u
    induction u with
    | zero => intro x1_97 x2_97 x3_97 x4_97 M_97 N_97 k_97 kn_97 hm_97; exact absurd hm_97 (Nat.not_lt_zero _)
    | succ u_97 ih_97 =>
      intro x1_97 x2_97 x3_97 x4_97 M_97 N_97 k_97 kn_97 hm_97
      rw [D_X7_need_97]
      refine vIf (fun h_101 => ?_) (fun h_101 => ?_)
      · refine vB (v_X7_refuse) (fun e_172 f_172 q_172 => ?_)
        have k_172 : ∀ a j, ¬ WM_X7_need P a j → e_172.2 a j = M0 a j := fun a j h => (q_172 a j (by unfold WM_X7_refuse; unfold WM_X7_need at h; omega)).trans (k_97 a j h)
        exact ⟨_, rfl, k_172, kn_97⟩
      · refine vLm (W := WM_X7_need P) (fun a j h => (congrFun (zwr_row (by unfold WM_X7_need at h; omega)) j).trans (k_97 a j h)) (fun M_114 f_114 k_114 => ?_)
        refine vB (v_X2_gather) (fun e_125 f_125 q_125 => ?_)
        have k_125 : ∀ a j, ¬ WM_X7_need P a j → e_125 a j = M0 a j := fun a j h => (q_125 a j (by unfold WM_X2_gather; unfold WM_X7_need at h; omega)).trans (k_114 a j h)
        refine vB (v_X0_reckon) (fun e_136 f_136 q_136 => ?_)
        have k_136 : ∀ a j, ¬ WM_X7_need P a j → e_136.1 a j = M0 a j := fun a j h => (q_136.1 a j (by unfold WM_X0_reckon; unfold WM_X7_need at h; omega)).trans (k_125 a j h)
        have kn_136 : ∀ a j, ¬ WN_X7_need P a j → e_136.2 a j = N0 a j := fun a j h => (q_136.2 a j (by unfold WN_X0_reckon; unfold WN_X7_need at h; omega)).trans (kn_97 a j h)
        refine vB (v_X0_anyUnit) (fun e_144 f_144 q_144 => ?_)
        refine vIf (fun h_154 => ?_) (fun h_154 => ?_)
        · exact ih_97 _ _ _ _ _ _ k_136 kn_136 (z_up1 (by first | assumption | exact z_lt (by assumption) | exact z_lt2 (by assumption) | exact z_lt3 (by assumption) (by first | assumption | decide)) hm_97)
        · refine vB (v_X7_answer) (fun e_160 f_160 q_160 => ?_)
          have k_160 : ∀ a j, ¬ WM_X7_need P a j → e_160.2 a j = M0 a j := fun a j h => (q_160 a j (by unfold WM_X7_answer; unfold WM_X7_need at h; omega)).trans (k_136 a j h)
          exact ⟨_, rfl, k_160, kn_136⟩
  have T_97 : ∀ (x1_97 : Int32) (x2_97 : Int32) (x3_97 : Int32) (x4_97 : Int32) (M_97 : zMt) (N_97 : zNt), (∀ a j, ¬ WM_X7_need P a j → M_97 a j = M0 a j) → (∀ a j, ¬ WN_X7_need P a j → N_97 a j = N0 a j) → ∃ r, D_X7_need_97 P zFu x1_97 x2_97 x3_97 x4_97 M_97 N_97 = some r ∧ ((∀ a j, ¬ WM_X7_need P a j → r.2.1 a j = M0 a j) ∧ (∀ a j, ¬ WN_X7_need P a j → r.2.2 a j = N0 a j)) := fun x1_97 x2_97 x3_97 x4_97 M_97 N_97 k_97 kn_97 => TL_97 zFu x1_97 x2_97 x3_97 x4_97 M_97 N_97 k_97 kn_97 (zFu_up _)
  have T_11 : ∀ (M_11 : zMt) (N_11 : zNt), (∀ a j, ¬ WM_X7_need P a j → M_11 a j = M0 a j) → (∀ a j, ¬ WN_X7_need P a j → N_11 a j = N0 a j) → ∃ r, D_X7_need_11 P M_11 N_11 = some r ∧ ((∀ a j, ¬ WM_X7_need P a j → r.2.1 a j = M0 a j) ∧ (∀ a j, ¬ WN_X7_need P a j → r.2.2 a j = N0 a j)) := by
    intro M_11 N_11 k_11 kn_11
    unfold D_X7_need_11
    refine vB (v_X7_refuse) (fun e_13 f_13 q_13 => ?_)
    have k_13 : ∀ a j, ¬ WM_X7_need P a j → e_13.2 a j = M0 a j := fun a j h => (q_13 a j (by unfold WM_X7_refuse; unfold WM_X7_need at h; omega)).trans (k_11 a j h)
    exact ⟨_, rfl, k_13, kn_11⟩
  unfold D_X7_need
  refine vIf (fun h_1 => ?_) (fun h_1 => ?_)
  · exact T_11 _ _ (fun _ _ _ => rfl) (fun _ _ _ => rfl)
  · refine vIf (fun h_8 => ?_) (fun h_8 => ?_)
    · refine vB (v_X7_isHunter) (fun e_19 f_19 q_19 => ?_)
      have b_19 := q_19
      refine vIf (fun h_22 => ?_) (fun h_22 => ?_)
      · refine vB (v_X7_refuse) (fun e_27 f_27 q_27 => ?_)
        have k_27 : ∀ a j, ¬ WM_X7_need P a j → e_27.2 a j = M0 a j := fun a j h => (q_27 a j (by unfold WM_X7_refuse; unfold WM_X7_need at h; omega))
        exact ⟨_, rfl, k_27, (fun _ _ _ => rfl)⟩
      · refine vIf (fun h_43 => ?_) (fun h_43 => ?_)
        · refine vIf (fun h_62 => ?_) (fun h_62 => ?_)
          · refine vB (v_X4_take) (fun e_91 f_91 q_91 => ?_)
            have k_91 : ∀ a j, ¬ WM_X7_need P a j → e_91 a j = M0 a j := fun a j h => (q_91 a j (by unfold WM_X4_take; unfold WM_X7_need at h; omega))
            exact T_97 _ _ _ _ _ _ k_91 (fun _ _ _ => rfl)
          · refine vB (v_X7_refuse) (fun e_67 f_67 q_67 => ?_)
            have k_67 : ∀ a j, ¬ WM_X7_need P a j → e_67.2 a j = M0 a j := fun a j h => (q_67 a j (by unfold WM_X7_refuse; unfold WM_X7_need at h; omega))
            exact ⟨_, rfl, k_67, (fun _ _ _ => rfl)⟩
        · refine vB (v_X7_refuse) (fun e_49 f_49 q_49 => ?_)
          have k_49 : ∀ a j, ¬ WM_X7_need P a j → e_49.2 a j = M0 a j := fun a j h => (q_49 a j (by unfold WM_X7_refuse; unfold WM_X7_need at h; omega))
          exact ⟨_, rfl, k_49, (fun _ _ _ => rfl)⟩
    · exact T_11 _ _ (fun _ _ _ => rfl) (fun _ _ _ => rfl)
set_option maxRecDepth 100000 in
set_option maxHeartbeats 4000000 in
theorem v_X7_whyNotWise {P : Nat} {M : zMt} {v0 : Int32}  : ∃ r, D_X7_whyNotWise P M v0 = some r ∧ (True) := by
  have T_39 : ∀ (y0_39 : Int32), ∃ r, D_X7_whyNotWise_39 P M y0_39 = some r ∧ (True) := by
    intro y0_39
    unfold D_X7_whyNotWise_39
    exact ⟨_, rfl, trivial⟩
  unfold D_X7_whyNotWise
  refine vB (v_X7_isApplicant) (fun e_2 f_2 q_2 => ?_)
  have b_2 := q_2
  refine vIf (fun h_5 => ?_) (fun h_5 => ?_)
  · exact ⟨_, rfl, trivial⟩
  · refine vIf (fun h_19 => ?_) (fun h_19 => ?_)
    · refine vIf (fun h_31 => ?_) (fun h_31 => ?_)
      · exact T_39 _
      · exact T_39 _
    · exact ⟨_, rfl, trivial⟩
def WM_X7_partsOfOnly (P : Nat) (a j : Nat) : Prop := (P + 159 ≤ a ∧ a < P + 166) ∨ (P + 167 ≤ a ∧ a < P + 179) ∨ (P + 189 ≤ a ∧ a < P + 190) ∨ (P + 193 ≤ a ∧ a < P + 200) ∨ (a = P + 158 ∧ (j = 0 ∨ j = 1 ∨ j = 2 ∨ j = 3 ∨ j = 4 ∨ j = 5 ∨ j = 6)) ∨ (a = P + 166 ∧ (j = 0 ∨ j = 1 ∨ j = 2 ∨ j = 3))
def WN_X7_partsOfOnly (P : Nat) (a j : Nat) : Prop := (P + 188 ≤ a ∧ a < P + 189) ∨ (P + 190 ≤ a ∧ a < P + 192)
set_option maxRecDepth 100000 in
set_option maxHeartbeats 4000000 in
theorem v_X7_partsOfOnly {P : Nat} {v0 : Int32} {v1 : Int32} {M0 : zMt} {N0 : zNt}  : ∃ r, D_X7_partsOfOnly P v0 v1 M0 N0 = some r ∧ ((∀ a j, ¬ WM_X7_partsOfOnly P a j → r.2.1 a j = M0 a j) ∧ (∀ a j, ¬ WN_X7_partsOfOnly P a j → r.2.2 a j = N0 a j)) := by
  unfold D_X7_partsOfOnly
  refine vB (v_X4_take) (fun e_8 f_8 q_8 => ?_)
  have k_8 : ∀ a j, ¬ WM_X7_partsOfOnly P a j → e_8 a j = M0 a j := fun a j h => (q_8 a j (by unfold WM_X4_take; unfold WM_X7_partsOfOnly at h; omega))
  refine vB (v_X4_wishFor) (fun e_29 f_29 q_29 => ?_)
  have k_29 : ∀ a j, ¬ WM_X7_partsOfOnly P a j → e_29 a j = M0 a j := fun a j h => (q_29 a j (by unfold WM_X4_wishFor; unfold WM_X7_partsOfOnly at h; omega)).trans (k_8 a j h)
  refine vB (v_X2_gather) (fun e_40 f_40 q_40 => ?_)
  have k_40 : ∀ a j, ¬ WM_X7_partsOfOnly P a j → e_40 a j = M0 a j := fun a j h => (q_40 a j (by unfold WM_X2_gather; unfold WM_X7_partsOfOnly at h; omega)).trans (k_29 a j h)
  refine vB (v_X0_reckon) (fun e_51 f_51 q_51 => ?_)
  have k_51 : ∀ a j, ¬ WM_X7_partsOfOnly P a j → e_51.1 a j = M0 a j := fun a j h => (q_51.1 a j (by unfold WM_X0_reckon; unfold WM_X7_partsOfOnly at h; omega)).trans (k_40 a j h)
  have kn_51 : ∀ a j, ¬ WN_X7_partsOfOnly P a j → e_51.2 a j = N0 a j := fun a j h => (q_51.2 a j (by unfold WN_X0_reckon; unfold WN_X7_partsOfOnly at h; omega))
  refine vB (v_X0_anyUnit) (fun e_59 f_59 q_59 => ?_)
  exact ⟨_, rfl, k_51, kn_51⟩
def WM_X7_wise (P : Nat) (a j : Nat) : Prop := (P + 159 ≤ a ∧ a < P + 166) ∨ (P + 167 ≤ a ∧ a < P + 179) ∨ (P + 189 ≤ a ∧ a < P + 190) ∨ (P + 193 ≤ a ∧ a < P + 200) ∨ (a = P ∧ (j = 0)) ∨ (a = P + 158 ∧ (j = 0 ∨ j = 1 ∨ j = 2 ∨ j = 3 ∨ j = 4 ∨ j = 5 ∨ j = 6)) ∨ (a = P + 166 ∧ (j = 0 ∨ j = 1 ∨ j = 2 ∨ j = 3))
def WN_X7_wise (P : Nat) (a j : Nat) : Prop := (P + 188 ≤ a ∧ a < P + 189) ∨ (P + 190 ≤ a ∧ a < P + 192)
set_option maxRecDepth 100000 in
set_option maxHeartbeats 4000000 in
theorem v_X7_wise {P : Nat} {v0 : Int32} {M0 : zMt} {N0 : zNt}  : ∃ r, D_X7_wise P v0 M0 N0 = some r ∧ ((∀ a j, ¬ WM_X7_wise P a j → r.2.1 a j = M0 a j) ∧ (∀ a j, ¬ WN_X7_wise P a j → r.2.2 a j = N0 a j)) := by
  have TL_26 : ∀ u : Nat, ∀ (x1_26 : Int32) (x3_26 : Int32) (x4_26 : Int64) (x6_26 : Int32) (M_26 : zMt) (N_26 : zNt), (∀ a j, ¬ WM_X7_wise P a j → M_26 a j = M0 a j) → (∀ a j, ¬ WN_X7_wise P a j → N_26 a j = N0 a j) → (2147483648 - Int32.toInt x6_26).toNat < u → ∃ r, D_X7_wise_26 P u x1_26 x3_26 x4_26 x6_26 M_26 N_26 = some r ∧ ((∀ a j, ¬ WM_X7_wise P a j → r.2.1 a j = M0 a j) ∧ (∀ a j, ¬ WN_X7_wise P a j → r.2.2 a j = N0 a j)) := by
    intro u
    induction u with
    | zero => intro x1_26 x3_26 x4_26 x6_26 M_26 N_26 k_26 kn_26 hm_26; exact absurd hm_26 (Nat.not_lt_zero _)
    | succ u_26 ih_26 =>
      have T_62 : ∀ (x1_62 : Int32) (x3_62 : Int32) (x4_62 : Int64) (x6_62 : Int32) (M_62 : zMt) (N_62 : zNt), (∀ a j, ¬ WM_X7_wise P a j → M_62 a j = M0 a j) → (∀ a j, ¬ WN_X7_wise P a j → N_62 a j = N0 a j) → ((2147483648 - Int32.toInt x6_62).toNat < u_26 + 1) → (Int32.toInt x6_62 < 2147483647) → ∃ r, D_X7_wise_62 P (D_X7_wise_26 P u_26) x1_62 x3_62 x4_62 x6_62 M_62 N_62 = some r ∧ ((∀ a j, ¬ WM_X7_wise P a j → r.2.1 a j = M0 a j) ∧ (∀ a j, ¬ WN_X7_wise P a j → r.2.2 a j = N0 a j)) := by
        intro x1_62 x3_62 x4_62 x6_62 M_62 N_62 k_62 kn_62 f0_62 f1_62
        unfold D_X7_wise_62
        exact ih_26 _ _ _ _ _ _ k_62 kn_62 (z_up1 f1_62 f0_62)
      intro x1_26 x3_26 x4_26 x6_26 M_26 N_26 k_26 kn_26 hm_26
      rw [D_X7_wise_26]
      refine vIf (fun h_35 => ?_) (fun h_35 => ?_)
      · refine vB (v_X7_answer) (fun e_70 f_70 q_70 => ?_)
        have k_70 : ∀ a j, ¬ WM_X7_wise P a j → e_70.2 a j = M0 a j := fun a j h => (q_70 a j (by unfold WM_X7_answer; unfold WM_X7_wise at h; omega)).trans (k_26 a j h)
        exact ⟨_, rfl, k_70, kn_26⟩
      · refine vB (v_X7_partsOfOnly) (fun e_42 f_42 q_42 => ?_)
        have k_42 : ∀ a j, ¬ WM_X7_wise P a j → e_42.2.1 a j = M0 a j := fun a j h => (q_42.1 a j (by unfold WM_X7_partsOfOnly; unfold WM_X7_wise at h; omega)).trans (k_26 a j h)
        have kn_42 : ∀ a j, ¬ WN_X7_wise P a j → e_42.2.2 a j = N0 a j := fun a j h => (q_42.2 a j (by unfold WN_X7_partsOfOnly; unfold WN_X7_wise at h; omega)).trans (kn_26 a j h)
        refine vIf (fun h_52 => ?_) (fun h_52 => ?_)
        · exact T_62 _ _ _ _ _ _ k_42 kn_42 hm_26 (by first | assumption | exact z_lt (by assumption) | exact z_lt2 (by assumption) | exact z_lt3 (by assumption) (by first | assumption | decide))
        · exact T_62 _ _ _ _ _ _ k_42 kn_42 hm_26 (by first | assumption | exact z_lt (by assumption) | exact z_lt2 (by assumption) | exact z_lt3 (by assumption) (by first | assumption | decide))
  have T_26 : ∀ (x1_26 : Int32) (x3_26 : Int32) (x4_26 : Int64) (x6_26 : Int32) (M_26 : zMt) (N_26 : zNt), (∀ a j, ¬ WM_X7_wise P a j → M_26 a j = M0 a j) → (∀ a j, ¬ WN_X7_wise P a j → N_26 a j = N0 a j) → ∃ r, D_X7_wise_26 P zFu x1_26 x3_26 x4_26 x6_26 M_26 N_26 = some r ∧ ((∀ a j, ¬ WM_X7_wise P a j → r.2.1 a j = M0 a j) ∧ (∀ a j, ¬ WN_X7_wise P a j → r.2.2 a j = N0 a j)) := fun x1_26 x3_26 x4_26 x6_26 M_26 N_26 k_26 kn_26 => TL_26 zFu x1_26 x3_26 x4_26 x6_26 M_26 N_26 k_26 kn_26 (zFu_up _)
  unfold D_X7_wise
  refine vB (v_X7_whyNotWise) (fun e_2 f_2 q_2 => ?_)
  refine vIf (fun h_7 => ?_) (fun h_7 => ?_)
  · exact T_26 _ _ _ _ _ _ (fun _ _ _ => rfl) (fun _ _ _ => rfl)
  · refine vB (v_X7_refuse) (fun e_12 f_12 q_12 => ?_)
    have k_12 : ∀ a j, ¬ WM_X7_wise P a j → e_12.2 a j = M0 a j := fun a j h => (q_12 a j (by unfold WM_X7_refuse; unfold WM_X7_wise at h; omega))
    exact ⟨_, rfl, k_12, (fun _ _ _ => rfl)⟩
def WM_X7_wiseChance (P : Nat) (a j : Nat) : Prop := (P + 159 ≤ a ∧ a < P + 166) ∨ (P + 167 ≤ a ∧ a < P + 179) ∨ (P + 189 ≤ a ∧ a < P + 190) ∨ (P + 193 ≤ a ∧ a < P + 200) ∨ (a = P ∧ (j = 0)) ∨ (a = P + 158 ∧ (j = 0 ∨ j = 1 ∨ j = 2 ∨ j = 3 ∨ j = 4 ∨ j = 5 ∨ j = 6)) ∨ (a = P + 166 ∧ (j = 0 ∨ j = 1 ∨ j = 2 ∨ j = 3))
def WN_X7_wiseChance (P : Nat) (a j : Nat) : Prop := (P + 188 ≤ a ∧ a < P + 189) ∨ (P + 190 ≤ a ∧ a < P + 192)
set_option maxRecDepth 100000 in
set_option maxHeartbeats 4000000 in
theorem v_X7_wiseChance {P : Nat} {v0 : Int32} {M0 : zMt} {N0 : zNt}  : ∃ r, D_X7_wiseChance P v0 M0 N0 = some r ∧ ((∀ a j, ¬ WM_X7_wiseChance P a j → r.2.1 a j = M0 a j) ∧ (∀ a j, ¬ WN_X7_wiseChance P a j → r.2.2 a j = N0 a j)) := by
  have TL_22 : ∀ u : Nat, ∀ (x1_22 : Int32) (x3_22 : Int64) (x5_22 : Int32) (M_22 : zMt) (N_22 : zNt), (∀ a j, ¬ WM_X7_wiseChance P a j → M_22 a j = M0 a j) → (∀ a j, ¬ WN_X7_wiseChance P a j → N_22 a j = N0 a j) → (2147483648 - Int32.toInt x5_22).toNat < u → ∃ r, D_X7_wiseChance_22 P u x1_22 x3_22 x5_22 M_22 N_22 = some r ∧ ((∀ a j, ¬ WM_X7_wiseChance P a j → r.2.1 a j = M0 a j) ∧ (∀ a j, ¬ WN_X7_wiseChance P a j → r.2.2 a j = N0 a j)) := by
    intro u
    induction u with
    | zero => intro x1_22 x3_22 x5_22 M_22 N_22 k_22 kn_22 hm_22; exact absurd hm_22 (Nat.not_lt_zero _)
    | succ u_22 ih_22 =>
      intro x1_22 x3_22 x5_22 M_22 N_22 k_22 kn_22 hm_22
      rw [D_X7_wiseChance_22]
      refine vIf (fun h_31 => ?_) (fun h_31 => ?_)
      · refine vB (v_X7_answerParts) (fun e_54 f_54 q_54 => ?_)
        have k_54 : ∀ a j, ¬ WM_X7_wiseChance P a j → e_54.2 a j = M0 a j := fun a j h => (q_54 a j (by unfold WM_X7_answerParts; unfold WM_X7_wiseChance at h; omega)).trans (k_22 a j h)
        exact ⟨_, rfl, k_54, kn_22⟩
      · refine vB (v_X7_partsOfOnly) (fun e_39 f_39 q_39 => ?_)
        have k_39 : ∀ a j, ¬ WM_X7_wiseChance P a j → e_39.2.1 a j = M0 a j := fun a j h => (q_39.1 a j (by unfold WM_X7_partsOfOnly; unfold WM_X7_wiseChance at h; omega)).trans (k_22 a j h)
        have kn_39 : ∀ a j, ¬ WN_X7_wiseChance P a j → e_39.2.2 a j = N0 a j := fun a j h => (q_39.2 a j (by unfold WN_X7_partsOfOnly; unfold WN_X7_wiseChance at h; omega)).trans (kn_22 a j h)
        exact ih_22 _ _ _ _ _ k_39 kn_39 (z_up1 (by first | assumption | exact z_lt (by assumption) | exact z_lt2 (by assumption) | exact z_lt3 (by assumption) (by first | assumption | decide)) hm_22)
  have T_22 : ∀ (x1_22 : Int32) (x3_22 : Int64) (x5_22 : Int32) (M_22 : zMt) (N_22 : zNt), (∀ a j, ¬ WM_X7_wiseChance P a j → M_22 a j = M0 a j) → (∀ a j, ¬ WN_X7_wiseChance P a j → N_22 a j = N0 a j) → ∃ r, D_X7_wiseChance_22 P zFu x1_22 x3_22 x5_22 M_22 N_22 = some r ∧ ((∀ a j, ¬ WM_X7_wiseChance P a j → r.2.1 a j = M0 a j) ∧ (∀ a j, ¬ WN_X7_wiseChance P a j → r.2.2 a j = N0 a j)) := fun x1_22 x3_22 x5_22 M_22 N_22 k_22 kn_22 => TL_22 zFu x1_22 x3_22 x5_22 M_22 N_22 k_22 kn_22 (zFu_up _)
  unfold D_X7_wiseChance
  refine vB (v_X7_whyNotWise) (fun e_2 f_2 q_2 => ?_)
  refine vIf (fun h_7 => ?_) (fun h_7 => ?_)
  · exact T_22 _ _ _ _ _ (fun _ _ _ => rfl) (fun _ _ _ => rfl)
  · refine vB (v_X7_refuse) (fun e_12 f_12 q_12 => ?_)
    have k_12 : ∀ a j, ¬ WM_X7_wiseChance P a j → e_12.2 a j = M0 a j := fun a j h => (q_12 a j (by unfold WM_X7_refuse; unfold WM_X7_wiseChance at h; omega))
    exact ⟨_, rfl, k_12, (fun _ _ _ => rfl)⟩
def WM_X7_together (P : Nat) (a j : Nat) : Prop := (P + 159 ≤ a ∧ a < P + 166) ∨ (P + 167 ≤ a ∧ a < P + 179) ∨ (P + 189 ≤ a ∧ a < P + 190) ∨ (P + 193 ≤ a ∧ a < P + 200) ∨ (a = P ∧ (j = 0)) ∨ (a = P + 158 ∧ (j = 0 ∨ j = 1 ∨ j = 2 ∨ j = 3 ∨ j = 4 ∨ j = 5 ∨ j = 6)) ∨ (a = P + 166 ∧ (j = 0 ∨ j = 1 ∨ j = 2 ∨ j = 3))
def WN_X7_together (P : Nat) (a j : Nat) : Prop := (P + 188 ≤ a ∧ a < P + 189) ∨ (P + 190 ≤ a ∧ a < P + 192)
set_option maxRecDepth 100000 in
set_option maxHeartbeats 4000000 in
theorem v_X7_together {P : Nat} {v0 : Int32} {v1 : Int32} {M0 : zMt} {N0 : zNt}  : ∃ r, D_X7_together P v0 v1 M0 N0 = some r ∧ ((∀ a j, ¬ WM_X7_together P a j → r.2.1 a j = M0 a j) ∧ (∀ a j, ¬ WN_X7_together P a j → r.2.2 a j = N0 a j)) := by
  have T_65 : ∀ (M_65 : zMt) (N_65 : zNt), (∀ a j, ¬ WM_X7_together P a j → M_65 a j = M0 a j) → (∀ a j, ¬ WN_X7_together P a j → N_65 a j = N0 a j) → ∃ r, D_X7_together_65 P M_65 N_65 = some r ∧ ((∀ a j, ¬ WM_X7_together P a j → r.2.1 a j = M0 a j) ∧ (∀ a j, ¬ WN_X7_together P a j → r.2.2 a j = N0 a j)) := by
    intro M_65 N_65 k_65 kn_65
    unfold D_X7_together_65
    refine vB (v_X7_refuse) (fun e_68 f_68 q_68 => ?_)
    have k_68 : ∀ a j, ¬ WM_X7_together P a j → e_68.2 a j = M0 a j := fun a j h => (q_68 a j (by unfold WM_X7_refuse; unfold WM_X7_together at h; omega)).trans (k_65 a j h)
    exact ⟨_, rfl, k_68, kn_65⟩
  have T_16 : ∀ (M_16 : zMt) (N_16 : zNt), (∀ a j, ¬ WM_X7_together P a j → M_16 a j = M0 a j) → (∀ a j, ¬ WN_X7_together P a j → N_16 a j = N0 a j) → ∃ r, D_X7_together_16 P M_16 N_16 = some r ∧ ((∀ a j, ¬ WM_X7_together P a j → r.2.1 a j = M0 a j) ∧ (∀ a j, ¬ WN_X7_together P a j → r.2.2 a j = N0 a j)) := by
    intro M_16 N_16 k_16 kn_16
    unfold D_X7_together_16
    refine vB (v_X7_refuse) (fun e_18 f_18 q_18 => ?_)
    have k_18 : ∀ a j, ¬ WM_X7_together P a j → e_18.2 a j = M0 a j := fun a j h => (q_18 a j (by unfold WM_X7_refuse; unfold WM_X7_together at h; omega)).trans (k_16 a j h)
    exact ⟨_, rfl, k_18, kn_16⟩
  unfold D_X7_together
  refine vB (v_X7_isHunter) (fun e_2 f_2 q_2 => ?_)
  have b_2 := q_2
  refine vIf (fun h_5 => ?_) (fun h_5 => ?_)
  · exact T_16 _ _ (fun _ _ _ => rfl) (fun _ _ _ => rfl)
  · refine vB (v_X7_isHunter) (fun e_10 f_10 q_10 => ?_)
    have b_10 := q_10
    refine vIf (fun h_13 => ?_) (fun h_13 => ?_)
    · exact T_16 _ _ (fun _ _ _ => rfl) (fun _ _ _ => rfl)
    · refine vIf (fun h_25 => ?_) (fun h_25 => ?_)
      · refine vB (v_X7_refuse) (fun e_30 f_30 q_30 => ?_)
        have k_30 : ∀ a j, ¬ WM_X7_together P a j → e_30.2 a j = M0 a j := fun a j h => (q_30 a j (by unfold WM_X7_refuse; unfold WM_X7_together at h; omega))
        exact ⟨_, rfl, k_30, (fun _ _ _ => rfl)⟩
      · refine vIf (fun h_47 => ?_) (fun h_47 => ?_)
        · refine vIf (fun h_62 => ?_) (fun h_62 => ?_)
          · refine vIf (fun h_82 => ?_) (fun h_82 => ?_)
            · refine vB (v_X4_take) (fun e_100 f_100 q_100 => ?_)
              have k_100 : ∀ a j, ¬ WM_X7_together P a j → e_100 a j = M0 a j := fun a j h => (q_100 a j (by unfold WM_X4_take; unfold WM_X7_together at h; omega))
              refine vB (v_X4_join) (fun e_109 f_109 q_109 => ?_)
              have k_109 : ∀ a j, ¬ WM_X7_together P a j → e_109 a j = M0 a j := fun a j h => (q_109 a j (by unfold WM_X4_join; unfold WM_X7_together at h; omega)).trans (k_100 a j h)
              refine vB (v_X2_gather) (fun e_120 f_120 q_120 => ?_)
              have k_120 : ∀ a j, ¬ WM_X7_together P a j → e_120 a j = M0 a j := fun a j h => (q_120 a j (by unfold WM_X2_gather; unfold WM_X7_together at h; omega)).trans (k_109 a j h)
              refine vB (v_X0_reckon) (fun e_131 f_131 q_131 => ?_)
              have k_131 : ∀ a j, ¬ WM_X7_together P a j → e_131.1 a j = M0 a j := fun a j h => (q_131.1 a j (by unfold WM_X0_reckon; unfold WM_X7_together at h; omega)).trans (k_120 a j h)
              have kn_131 : ∀ a j, ¬ WN_X7_together P a j → e_131.2 a j = N0 a j := fun a j h => (q_131.2 a j (by unfold WN_X0_reckon; unfold WN_X7_together at h; omega))
              refine vB (v_X0_anyUnit) (fun e_150 f_150 q_150 => ?_)
              refine vB (v_X7_answerParts) (fun e_153 f_153 q_153 => ?_)
              have k_153 : ∀ a j, ¬ WM_X7_together P a j → e_153.2 a j = M0 a j := fun a j h => (q_153 a j (by unfold WM_X7_answerParts; unfold WM_X7_together at h; omega)).trans (k_131 a j h)
              exact ⟨_, rfl, k_153, kn_131⟩
            · refine vB (v_X7_refuse) (fun e_87 f_87 q_87 => ?_)
              have k_87 : ∀ a j, ¬ WM_X7_together P a j → e_87.2 a j = M0 a j := fun a j h => (q_87 a j (by unfold WM_X7_refuse; unfold WM_X7_together at h; omega))
              exact ⟨_, rfl, k_87, (fun _ _ _ => rfl)⟩
          · exact T_65 _ _ (fun _ _ _ => rfl) (fun _ _ _ => rfl)
        · exact T_65 _ _ (fun _ _ _ => rfl) (fun _ _ _ => rfl)
set_option maxRecDepth 100000 in
set_option maxHeartbeats 4000000 in
theorem v_X7_isParty {P : Nat} {M : zMt} {v0 : Int32}  : ∃ r, D_X7_isParty P M v0 = some r ∧ ((r = 0 ∨ r = 1)) := by
  have T_20 : ∀ (y0_20 : Int32), (y0_20 = 0 ∨ y0_20 = 1) → ∃ r, D_X7_isParty_20 P M y0_20 = some r ∧ ((r = 0 ∨ r = 1)) := by
    intro y0_20 f0_20
    unfold D_X7_isParty_20
    exact ⟨_, rfl, (by first | exact Or.inl rfl | exact Or.inr rfl | assumption)⟩
  have T_19 : ∃ r, D_X7_isParty_19 P M = some r ∧ ((r = 0 ∨ r = 1)) := by
    unfold D_X7_isParty_19
    exact T_20 _ (by first | exact Or.inl rfl | exact Or.inr rfl | assumption)
  unfold D_X7_isParty
  refine vIf (fun h_1 => ?_) (fun h_1 => ?_)
  · exact T_19
  · refine vIf (fun h_12 => ?_) (fun h_12 => ?_)
    · exact T_19
    · exact T_20 _ (by first | exact Or.inl rfl | exact Or.inr rfl | assumption)
def WM_X7_apart (P : Nat) (a j : Nat) : Prop := (P + 159 ≤ a ∧ a < P + 166) ∨ (P + 167 ≤ a ∧ a < P + 179) ∨ (P + 189 ≤ a ∧ a < P + 190) ∨ (P + 193 ≤ a ∧ a < P + 200) ∨ (a = P ∧ (j = 0)) ∨ (a = P + 158 ∧ (j = 0 ∨ j = 1 ∨ j = 2 ∨ j = 3 ∨ j = 4 ∨ j = 5 ∨ j = 6)) ∨ (a = P + 166 ∧ (j = 0 ∨ j = 1 ∨ j = 2 ∨ j = 3))
def WN_X7_apart (P : Nat) (a j : Nat) : Prop := (P + 188 ≤ a ∧ a < P + 189) ∨ (P + 190 ≤ a ∧ a < P + 192)
set_option maxRecDepth 100000 in
set_option maxHeartbeats 4000000 in
theorem v_X7_apart {P : Nat} {v0 : Int32} {M0 : zMt} {N0 : zNt}  : ∃ r, D_X7_apart P v0 M0 N0 = some r ∧ ((∀ a j, ¬ WM_X7_apart P a j → r.2.1 a j = M0 a j) ∧ (∀ a j, ¬ WN_X7_apart P a j → r.2.2 a j = N0 a j)) := by
  have TL_79 : ∀ u : Nat, ∀ (x1_79 : Int32) (x2_79 : Int32) (x3_79 : Int32) (M_79 : zMt) (N_79 : zNt), (∀ a j, ¬ WM_X7_apart P a j → M_79 a j = M0 a j) → (∀ a j, ¬ WN_X7_apart P a j → N_79 a j = N0 a j) → (2147483648 - Int32.toInt x3_79).toNat < u → ∃ r, D_X7_apart_79 P u x1_79 x2_79 x3_79 M_79 N_79 = some r ∧ ((∀ a j, ¬ WM_X7_apart P a j → r.2.1 a j = M0 a j) ∧ (∀ a j, ¬ WN_X7_apart P a j → r.2.2 a j = N0 a j)) := by
    intro u
    induction u with
    | zero => intro x1_79 x2_79 x3_79 M_79 N_79 k_79 kn_79 hm_79; exact absurd hm_79 (Nat.not_lt_zero _)
    | succ u_79 ih_79 =>
      have T_121 : ∀ (x1_121 : Int32) (x2_121 : Int32) (x3_121 : Int32) (M_121 : zMt) (N_121 : zNt), (∀ a j, ¬ WM_X7_apart P a j → M_121 a j = M0 a j) → (∀ a j, ¬ WN_X7_apart P a j → N_121 a j = N0 a j) → ((2147483648 - Int32.toInt x3_121).toNat < u_79 + 1) → (Int32.toInt x3_121 < 2147483647) → ∃ r, D_X7_apart_121 P (D_X7_apart_79 P u_79) x1_121 x2_121 x3_121 M_121 N_121 = some r ∧ ((∀ a j, ¬ WM_X7_apart P a j → r.2.1 a j = M0 a j) ∧ (∀ a j, ¬ WN_X7_apart P a j → r.2.2 a j = N0 a j)) := by
        intro x1_121 x2_121 x3_121 M_121 N_121 k_121 kn_121 f0_121 f1_121
        unfold D_X7_apart_121
        exact ih_79 _ _ _ _ _ k_121 kn_121 (z_up1 f1_121 f0_121)
      intro x1_79 x2_79 x3_79 M_79 N_79 k_79 kn_79 hm_79
      rw [D_X7_apart_79]
      refine vIf (fun h_87 => ?_) (fun h_87 => ?_)
      · refine vB (v_X0_allOf) (fun e_133 f_133 q_133 => ?_)
        refine vB (v_X7_answerParts) (fun e_136 f_136 q_136 => ?_)
        have k_136 : ∀ a j, ¬ WM_X7_apart P a j → e_136.2 a j = M0 a j := fun a j h => (q_136 a j (by unfold WM_X7_answerParts; unfold WM_X7_apart at h; omega)).trans (k_79 a j h)
        exact ⟨_, rfl, k_136, kn_79⟩
      · refine vIf (fun h_102 => ?_) (fun h_102 => ?_)
        · exact T_121 _ _ _ _ _ k_79 kn_79 hm_79 (by first | assumption | exact z_lt (by assumption) | exact z_lt2 (by assumption) | exact z_lt3 (by assumption) (by first | assumption | decide))
        · exact T_121 _ _ _ _ _ k_79 kn_79 hm_79 (by first | assumption | exact z_lt (by assumption) | exact z_lt2 (by assumption) | exact z_lt3 (by assumption) (by first | assumption | decide))
  have T_79 : ∀ (x1_79 : Int32) (x2_79 : Int32) (x3_79 : Int32) (M_79 : zMt) (N_79 : zNt), (∀ a j, ¬ WM_X7_apart P a j → M_79 a j = M0 a j) → (∀ a j, ¬ WN_X7_apart P a j → N_79 a j = N0 a j) → ∃ r, D_X7_apart_79 P zFu x1_79 x2_79 x3_79 M_79 N_79 = some r ∧ ((∀ a j, ¬ WM_X7_apart P a j → r.2.1 a j = M0 a j) ∧ (∀ a j, ¬ WN_X7_apart P a j → r.2.2 a j = N0 a j)) := fun x1_79 x2_79 x3_79 M_79 N_79 k_79 kn_79 => TL_79 zFu x1_79 x2_79 x3_79 M_79 N_79 k_79 kn_79 (zFu_up _)
  unfold D_X7_apart
  refine vB (v_X7_isParty) (fun e_2 f_2 q_2 => ?_)
  have b_2 := q_2
  refine vIf (fun h_5 => ?_) (fun h_5 => ?_)
  · refine vB (v_X7_refuse) (fun e_10 f_10 q_10 => ?_)
    have k_10 : ∀ a j, ¬ WM_X7_apart P a j → e_10.2 a j = M0 a j := fun a j h => (q_10 a j (by unfold WM_X7_refuse; unfold WM_X7_apart at h; omega))
    exact ⟨_, rfl, k_10, (fun _ _ _ => rfl)⟩
  · refine vB (v_X4_take) (fun e_23 f_23 q_23 => ?_)
    have k_23 : ∀ a j, ¬ WM_X7_apart P a j → e_23 a j = M0 a j := fun a j h => (q_23 a j (by unfold WM_X4_take; unfold WM_X7_apart at h; omega))
    refine vB (v_X4_dissolve) (fun e_31 f_31 q_31 => ?_)
    have k_31 : ∀ a j, ¬ WM_X7_apart P a j → e_31 a j = M0 a j := fun a j h => (q_31 a j (by unfold WM_X4_dissolve; unfold WM_X7_apart at h; omega)).trans (k_23 a j h)
    refine vB (v_X2_gather) (fun e_42 f_42 q_42 => ?_)
    have k_42 : ∀ a j, ¬ WM_X7_apart P a j → e_42 a j = M0 a j := fun a j h => (q_42 a j (by unfold WM_X2_gather; unfold WM_X7_apart at h; omega)).trans (k_31 a j h)
    refine vIf (fun h_54 => ?_) (fun h_54 => ?_)
    · refine vB (v_X0_reckon) (fun e_72 f_72 q_72 => ?_)
      have k_72 : ∀ a j, ¬ WM_X7_apart P a j → e_72.1 a j = M0 a j := fun a j h => (q_72.1 a j (by unfold WM_X0_reckon; unfold WM_X7_apart at h; omega)).trans (k_42 a j h)
      have kn_72 : ∀ a j, ¬ WN_X7_apart P a j → e_72.2 a j = N0 a j := fun a j h => (q_72.2 a j (by unfold WN_X0_reckon; unfold WN_X7_apart at h; omega))
      exact T_79 _ _ _ _ _ k_72 kn_72
    · refine vB (v_X7_refuse) (fun e_59 f_59 q_59 => ?_)
      have k_59 : ∀ a j, ¬ WM_X7_apart P a j → e_59.2 a j = M0 a j := fun a j h => (q_59 a j (by unfold WM_X7_refuse; unfold WM_X7_apart at h; omega)).trans (k_42 a j h)
      exact ⟨_, rfl, k_59, (fun _ _ _ => rfl)⟩
def WM_X7_likes (P : Nat) (a j : Nat) : Prop := (P + 159 ≤ a ∧ a < P + 166) ∨ (P + 167 ≤ a ∧ a < P + 179) ∨ (P + 189 ≤ a ∧ a < P + 190) ∨ (P + 193 ≤ a ∧ a < P + 200) ∨ (a = P ∧ (j = 0)) ∨ (a = P + 158 ∧ (j = 0 ∨ j = 1 ∨ j = 2 ∨ j = 3 ∨ j = 4 ∨ j = 5 ∨ j = 6)) ∨ (a = P + 166 ∧ (j = 0 ∨ j = 1 ∨ j = 2 ∨ j = 3))
def WN_X7_likes (P : Nat) (a j : Nat) : Prop := (P + 188 ≤ a ∧ a < P + 189) ∨ (P + 190 ≤ a ∧ a < P + 192)
set_option maxRecDepth 100000 in
set_option maxHeartbeats 4000000 in
theorem v_X7_likes {P : Nat} {v0 : Int32} {M0 : zMt} {N0 : zNt}  : ∃ r, D_X7_likes P v0 M0 N0 = some r ∧ ((∀ a j, ¬ WM_X7_likes P a j → r.2.1 a j = M0 a j) ∧ (∀ a j, ¬ WN_X7_likes P a j → r.2.2 a j = N0 a j)) := by
  have TL_52 : ∀ u : Nat, ∀ (x1_52 : Int32) (x2_52 : Int32) (x3_52 : Int64) (x5_52 : Int32) (M_52 : zMt) (N_52 : zNt), (∀ a j, ¬ WM_X7_likes P a j → M_52 a j = M0 a j) → (∀ a j, ¬ WN_X7_likes P a j → N_52 a j = N0 a j) → (2147483648 - Int32.toInt x5_52).toNat < u → ∃ r, D_X7_likes_52 P u x1_52 x2_52 x3_52 x5_52 M_52 N_52 = some r ∧ ((∀ a j, ¬ WM_X7_likes P a j → r.2.1 a j = M0 a j) ∧ (∀ a j, ¬ WN_X7_likes P a j → r.2.2 a j = N0 a j)) := by
    intro u
    induction u with
    | zero => intro x1_52 x2_52 x3_52 x5_52 M_52 N_52 k_52 kn_52 hm_52; exact absurd hm_52 (Nat.not_lt_zero _)
    | succ u_52 ih_52 =>
      have T_112 : ∀ (x1_112 : Int32) (x2_112 : Int32) (x3_112 : Int64) (x5_112 : Int32) (M_112 : zMt) (N_112 : zNt), (∀ a j, ¬ WM_X7_likes P a j → M_112 a j = M0 a j) → (∀ a j, ¬ WN_X7_likes P a j → N_112 a j = N0 a j) → ((2147483648 - Int32.toInt x5_112).toNat < u_52 + 1) → (Int32.toInt x5_112 < 2147483647) → ∃ r, D_X7_likes_112 P (D_X7_likes_52 P u_52) x1_112 x2_112 x3_112 x5_112 M_112 N_112 = some r ∧ ((∀ a j, ¬ WM_X7_likes P a j → r.2.1 a j = M0 a j) ∧ (∀ a j, ¬ WN_X7_likes P a j → r.2.2 a j = N0 a j)) := by
        intro x1_112 x2_112 x3_112 x5_112 M_112 N_112 k_112 kn_112 f0_112 f1_112
        unfold D_X7_likes_112
        exact ih_52 _ _ _ _ _ _ k_112 kn_112 (z_up1 f1_112 f0_112)
      intro x1_52 x2_52 x3_52 x5_52 M_52 N_52 k_52 kn_52 hm_52
      rw [D_X7_likes_52]
      refine vIf (fun h_55 => ?_) (fun h_55 => ?_)
      · refine vB (v_X7_answer) (fun e_120 f_120 q_120 => ?_)
        have k_120 : ∀ a j, ¬ WM_X7_likes P a j → e_120.2 a j = M0 a j := fun a j h => (q_120 a j (by unfold WM_X7_answer; unfold WM_X7_likes at h; omega)).trans (k_52 a j h)
        exact ⟨_, rfl, k_120, kn_52⟩
      · refine vLm (W := WM_X7_likes P) (fun a j h => (zu_ne (by unfold WM_X7_likes at h; omega)).trans (k_52 a j h)) (fun M_64 f_64 k_64 => ?_)
        refine vB (v_X2_gather) (fun e_75 f_75 q_75 => ?_)
        have k_75 : ∀ a j, ¬ WM_X7_likes P a j → e_75 a j = M0 a j := fun a j h => (q_75 a j (by unfold WM_X2_gather; unfold WM_X7_likes at h; omega)).trans (k_64 a j h)
        refine vB (v_X0_reckon) (fun e_86 f_86 q_86 => ?_)
        have k_86 : ∀ a j, ¬ WM_X7_likes P a j → e_86.1 a j = M0 a j := fun a j h => (q_86.1 a j (by unfold WM_X0_reckon; unfold WM_X7_likes at h; omega)).trans (k_75 a j h)
        have kn_86 : ∀ a j, ¬ WN_X7_likes P a j → e_86.2 a j = N0 a j := fun a j h => (q_86.2 a j (by unfold WN_X0_reckon; unfold WN_X7_likes at h; omega)).trans (kn_52 a j h)
        refine vB (v_X0_anyUnit) (fun e_94 f_94 q_94 => ?_)
        refine vIf (fun h_103 => ?_) (fun h_103 => ?_)
        · exact T_112 _ _ _ _ _ _ k_86 kn_86 hm_52 (by first | assumption | exact z_lt (by assumption) | exact z_lt2 (by assumption) | exact z_lt3 (by assumption) (by first | assumption | decide))
        · exact T_112 _ _ _ _ _ _ k_86 kn_86 hm_52 (by first | assumption | exact z_lt (by assumption) | exact z_lt2 (by assumption) | exact z_lt3 (by assumption) (by first | assumption | decide))
  have T_52 : ∀ (x1_52 : Int32) (x2_52 : Int32) (x3_52 : Int64) (x5_52 : Int32) (M_52 : zMt) (N_52 : zNt), (∀ a j, ¬ WM_X7_likes P a j → M_52 a j = M0 a j) → (∀ a j, ¬ WN_X7_likes P a j → N_52 a j = N0 a j) → ∃ r, D_X7_likes_52 P zFu x1_52 x2_52 x3_52 x5_52 M_52 N_52 = some r ∧ ((∀ a j, ¬ WM_X7_likes P a j → r.2.1 a j = M0 a j) ∧ (∀ a j, ¬ WN_X7_likes P a j → r.2.2 a j = N0 a j)) := fun x1_52 x2_52 x3_52 x5_52 M_52 N_52 k_52 kn_52 => TL_52 zFu x1_52 x2_52 x3_52 x5_52 M_52 N_52 k_52 kn_52 (zFu_up _)
  unfold D_X7_likes
  refine vB (v_X7_isApplicant) (fun e_2 f_2 q_2 => ?_)
  have b_2 := q_2
  refine vIf (fun h_5 => ?_) (fun h_5 => ?_)
  · refine vB (v_X7_refuse) (fun e_10 f_10 q_10 => ?_)
    have k_10 : ∀ a j, ¬ WM_X7_likes P a j → e_10.2 a j = M0 a j := fun a j h => (q_10 a j (by unfold WM_X7_refuse; unfold WM_X7_likes at h; omega))
    exact ⟨_, rfl, k_10, (fun _ _ _ => rfl)⟩
  · refine vIf (fun h_23 => ?_) (fun h_23 => ?_)
    · refine vB (v_X4_take) (fun e_46 f_46 q_46 => ?_)
      have k_46 : ∀ a j, ¬ WM_X7_likes P a j → e_46 a j = M0 a j := fun a j h => (q_46 a j (by unfold WM_X4_take; unfold WM_X7_likes at h; omega))
      exact T_52 _ _ _ _ _ _ k_46 (fun _ _ _ => rfl)
    · refine vB (v_X7_refuse) (fun e_28 f_28 q_28 => ?_)
      have k_28 : ∀ a j, ¬ WM_X7_likes P a j → e_28.2 a j = M0 a j := fun a j h => (q_28 a j (by unfold WM_X7_refuse; unfold WM_X7_likes at h; omega))
      exact ⟨_, rfl, k_28, (fun _ _ _ => rfl)⟩
theorem v_X7_areYears {v0 v1 : Int32} : ∃ r, D_X7_areYears v0 v1 = some r ∧ ((r = 0 ∨ r = 1) ∧ (r = 0 ∨ Int32.toInt v1 < 2147483647)) := by
  unfold D_X7_areYears
  refine vB v_X7_isSeed (fun e _ _ => ?_)
  refine vIf (fun _ => ⟨_, rfl, Or.inl rfl, Or.inl rfl⟩) (fun _ => ?_)
  refine vIf (fun _ => ⟨_, rfl, Or.inl rfl, Or.inl rfl⟩) (fun _ => ?_)
  refine vIf (fun _ => ⟨_, rfl, Or.inl rfl, Or.inl rfl⟩) (fun h => ?_)
  refine vIf (fun _ => ⟨_, rfl, Or.inl rfl, Or.inl rfl⟩) (fun _ => ?_)
  exact ⟨_, rfl, Or.inr rfl, Or.inr (z_lt3 h (by decide))⟩
def WM_X7_years (P : Nat) (a j : Nat) : Prop := (P + 126 ≤ a ∧ a < P + 129) ∨ (P + 130 ≤ a ∧ a < P + 137) ∨ (P + 138 ≤ a ∧ a < P + 150) ∨ (P + 151 ≤ a ∧ a < P + 158) ∨ (a = P ∧ (j = 0)) ∨ (a = P + 125 ∧ (j = 0 ∨ j = 1)) ∨ (a = P + 129 ∧ (j = 0 ∨ j = 1 ∨ j = 2 ∨ j = 3 ∨ j = 4 ∨ j = 5 ∨ j = 6)) ∨ (a = P + 137 ∧ (j = 0 ∨ j = 1 ∨ j = 2 ∨ j = 3))
set_option maxRecDepth 100000 in
set_option maxHeartbeats 4000000 in
theorem v_X7_years {P : Nat} {v0 : Int32} {v1 : Int32} {v2 : Int32} {M0 : zMt}  : ∃ r, D_X7_years P v0 v1 v2 M0 = some r ∧ ((∀ a j, ¬ WM_X7_years P a j → r.2 a j = M0 a j)) := by
  have T_17 : ∀ (M_17 : zMt), (∀ a j, ¬ WM_X7_years P a j → M_17 a j = M0 a j) → ∃ r, D_X7_years_17 P M_17 = some r ∧ ((∀ a j, ¬ WM_X7_years P a j → r.2 a j = M0 a j)) := by
    intro M_17 k_17
    unfold D_X7_years_17
    refine vB (v_X7_refuse) (fun e_19 f_19 q_19 => ?_)
    have k_19 : ∀ a j, ¬ WM_X7_years P a j → e_19.2 a j = M0 a j := fun a j h => (q_19 a j (by unfold WM_X7_refuse; unfold WM_X7_years at h; omega)).trans (k_17 a j h)
    exact ⟨_, rfl, k_19⟩
  unfold D_X7_years
  refine vB (v_X7_areYears) (fun e_2 f_2 q_2 => ?_)
  have b_2 := q_2.1
  have t_2 := q_2.2
  refine vIf (fun h_5 => ?_) (fun h_5 => ?_)
  · exact T_17 _ (fun _ _ _ => rfl)
  · refine vIf (fun h_9 => ?_) (fun h_9 => ?_)
    · exact T_17 _ (fun _ _ _ => rfl)
    · refine vIf (fun h_14 => ?_) (fun h_14 => ?_)
      · refine vB (v_X6_pass (Or.resolve_left (by assumption) (by assumption))) (fun e_33 f_33 q_33 => ?_)
        have k_33 : ∀ a j, ¬ WM_X7_years P a j → e_33 a j = M0 a j := fun a j h => (q_33 a j (by unfold WM_X6_pass; unfold WM_X7_years at h; omega))
        refine vIf (fun h_37 => ?_) (fun h_37_0 => ?_)
        · skip
          refine vB (v_X7_answer) (fun e_72 f_72 q_72 => ?_)
          have k_72 : ∀ a j, ¬ WM_X7_years P a j → e_72.2 a j = M0 a j := fun a j h => (q_72 a j (by unfold WM_X7_answer; unfold WM_X7_years at h; omega)).trans (k_33 a j h)
          exact ⟨_, rfl, k_72⟩
        refine vIf (fun h_37 => ?_) (fun h_37_1 => ?_)
        · skip
          refine vB (v_X6_unserved) (fun e_88 f_88 q_88 => ?_)
          refine vB (v_X7_answer) (fun e_91 f_91 q_91 => ?_)
          have k_91 : ∀ a j, ¬ WM_X7_years P a j → e_91.2 a j = M0 a j := fun a j h => (q_91 a j (by unfold WM_X7_answer; unfold WM_X7_years at h; omega)).trans (k_33 a j h)
          exact ⟨_, rfl, k_91⟩
        refine vB (v_X7_answer) (fun e_103 f_103 q_103 => ?_)
        have k_103 : ∀ a j, ¬ WM_X7_years P a j → e_103.2 a j = M0 a j := fun a j h => (q_103 a j (by unfold WM_X7_answer; unfold WM_X7_years at h; omega)).trans (k_33 a j h)
        exact ⟨_, rfl, k_103⟩
      · exact T_17 _ (fun _ _ _ => rfl)
def WM_X7_often (P : Nat) (a j : Nat) : Prop := (P + 126 ≤ a ∧ a < P + 129) ∨ (P + 130 ≤ a ∧ a < P + 137) ∨ (P + 138 ≤ a ∧ a < P + 150) ∨ (P + 151 ≤ a ∧ a < P + 158) ∨ (a = P ∧ (j = 0)) ∨ (a = P + 125 ∧ (j = 0 ∨ j = 1)) ∨ (a = P + 129 ∧ (j = 0 ∨ j = 1 ∨ j = 2 ∨ j = 3 ∨ j = 4 ∨ j = 5 ∨ j = 6)) ∨ (a = P + 137 ∧ (j = 0 ∨ j = 1 ∨ j = 2 ∨ j = 3))
set_option maxRecDepth 100000 in
set_option maxHeartbeats 4000000 in
theorem v_X7_often {P : Nat} {v0 : Int32} {v1 : Int32} {v2 : Int32} {M0 : zMt}  : ∃ r, D_X7_often P v0 v1 v2 M0 = some r ∧ ((∀ a j, ¬ WM_X7_often P a j → r.2 a j = M0 a j)) := by
  unfold D_X7_often
  refine vB (v_X7_areYears) (fun e_2 f_2 q_2 => ?_)
  have b_2 := q_2.1
  have t_2 := q_2.2
  refine vIf (fun h_5 => ?_) (fun h_5 => ?_)
  · refine vB (v_X7_refuse) (fun e_10 f_10 q_10 => ?_)
    have k_10 : ∀ a j, ¬ WM_X7_often P a j → e_10.2 a j = M0 a j := fun a j h => (q_10 a j (by unfold WM_X7_refuse; unfold WM_X7_often at h; omega))
    exact ⟨_, rfl, k_10⟩
  · refine vB (v_X7_isHunter) (fun e_16 f_16 q_16 => ?_)
    have b_16 := q_16
    refine vIf (fun h_19 => ?_) (fun h_19 => ?_)
    · refine vB (v_X7_refuse) (fun e_24 f_24 q_24 => ?_)
      have k_24 : ∀ a j, ¬ WM_X7_often P a j → e_24.2 a j = M0 a j := fun a j h => (q_24 a j (by unfold WM_X7_refuse; unfold WM_X7_often at h; omega))
      exact ⟨_, rfl, k_24⟩
    · refine vB (v_X6_pass (Or.resolve_left (by assumption) (by assumption))) (fun e_38 f_38 q_38 => ?_)
      have k_38 : ∀ a j, ¬ WM_X7_often P a j → e_38 a j = M0 a j := fun a j h => (q_38 a j (by unfold WM_X6_pass; unfold WM_X7_often at h; omega))
      refine vB (v_X7_answer) (fun e_53 f_53 q_53 => ?_)
      have k_53 : ∀ a j, ¬ WM_X7_often P a j → e_53.2 a j = M0 a j := fun a j h => (q_53 a j (by unfold WM_X7_answer; unfold WM_X7_often at h; omega)).trans (k_38 a j h)
      exact ⟨_, rfl, k_53⟩
def WM_X7_soonest (P : Nat) (a j : Nat) : Prop := (P + 126 ≤ a ∧ a < P + 129) ∨ (P + 130 ≤ a ∧ a < P + 137) ∨ (P + 138 ≤ a ∧ a < P + 150) ∨ (P + 151 ≤ a ∧ a < P + 158) ∨ (a = P ∧ (j = 0)) ∨ (a = P + 125 ∧ (j = 0 ∨ j = 1)) ∨ (a = P + 129 ∧ (j = 0 ∨ j = 1 ∨ j = 2 ∨ j = 3 ∨ j = 4 ∨ j = 5 ∨ j = 6)) ∨ (a = P + 137 ∧ (j = 0 ∨ j = 1 ∨ j = 2 ∨ j = 3))
set_option maxRecDepth 100000 in
set_option maxHeartbeats 4000000 in
theorem v_X7_soonest {P : Nat} {v0 : Int32} {v1 : Int32} {v2 : Int32} {M0 : zMt}  : ∃ r, D_X7_soonest P v0 v1 v2 M0 = some r ∧ ((∀ a j, ¬ WM_X7_soonest P a j → r.2 a j = M0 a j)) := by
  have T_73 : ∀ (y0_73 : Int32) (M_73 : zMt), (∀ a j, ¬ WM_X7_soonest P a j → M_73 a j = M0 a j) → ∃ r, D_X7_soonest_73 P y0_73 M_73 = some r ∧ ((∀ a j, ¬ WM_X7_soonest P a j → r.2 a j = M0 a j)) := by
    intro y0_73 M_73 k_73
    unfold D_X7_soonest_73
    exact ⟨_, rfl, k_73⟩
  unfold D_X7_soonest
  refine vB (v_X7_areYears) (fun e_2 f_2 q_2 => ?_)
  have b_2 := q_2.1
  have t_2 := q_2.2
  refine vIf (fun h_5 => ?_) (fun h_5 => ?_)
  · refine vB (v_X7_refuse) (fun e_10 f_10 q_10 => ?_)
    have k_10 : ∀ a j, ¬ WM_X7_soonest P a j → e_10.2 a j = M0 a j := fun a j h => (q_10 a j (by unfold WM_X7_refuse; unfold WM_X7_soonest at h; omega))
    exact ⟨_, rfl, k_10⟩
  · refine vB (v_X7_isHunter) (fun e_16 f_16 q_16 => ?_)
    have b_16 := q_16
    refine vIf (fun h_19 => ?_) (fun h_19 => ?_)
    · refine vB (v_X7_refuse) (fun e_24 f_24 q_24 => ?_)
      have k_24 : ∀ a j, ¬ WM_X7_soonest P a j → e_24.2 a j = M0 a j := fun a j h => (q_24 a j (by unfold WM_X7_refuse; unfold WM_X7_soonest at h; omega))
      exact ⟨_, rfl, k_24⟩
    · refine vB (v_X6_pass (Or.resolve_left (by assumption) (by assumption))) (fun e_38 f_38 q_38 => ?_)
      have k_38 : ∀ a j, ¬ WM_X7_soonest P a j → e_38 a j = M0 a j := fun a j h => (q_38 a j (by unfold WM_X6_pass; unfold WM_X7_soonest at h; omega))
      refine vIf (fun h_56 => ?_) (fun h_56 => ?_)
      · refine vB (v_X7_refuse) (fun e_61 f_61 q_61 => ?_)
        have k_61 : ∀ a j, ¬ WM_X7_soonest P a j → e_61.2 a j = M0 a j := fun a j h => (q_61 a j (by unfold WM_X7_refuse; unfold WM_X7_soonest at h; omega)).trans (k_38 a j h)
        exact T_73 _ _ k_61
      · refine vB (v_X7_answer) (fun e_70 f_70 q_70 => ?_)
        have k_70 : ∀ a j, ¬ WM_X7_soonest P a j → e_70.2 a j = M0 a j := fun a j h => (q_70 a j (by unfold WM_X7_answer; unfold WM_X7_soonest at h; omega)).trans (k_38 a j h)
        exact T_73 _ _ k_70
def WM_X7_draw (P : Nat) (a j : Nat) : Prop := (P + 19 ≤ a ∧ a < P + 20) ∨ (P + 24 ≤ a ∧ a < P + 91) ∨ (P + 92 ≤ a ∧ a < P + 104) ∨ (P + 105 ≤ a ∧ a < P + 112) ∨ (a = P ∧ (j = 0 ∨ j = 3)) ∨ (a = P + 17 ∧ (j = 6)) ∨ (a = P + 91 ∧ (j = 0 ∨ j = 1 ∨ j = 2 ∨ j = 3))
set_option maxRecDepth 100000 in
set_option maxHeartbeats 4000000 in
theorem v_X7_draw {P : Nat} {v0 : Int32} {M0 : zMt}  (hvp : vp_in (M0 (P + 25) 1) 8) : ∃ r, D_X7_draw P v0 M0 = some r ∧ ((∀ a j, ¬ WM_X7_draw P a j → r.2 a j = M0 a j) ∧ (vp_in (r.2 (P + 25) 1) 8)) := by
  unfold D_X7_draw
  refine vB (v_X7_isSeed) (fun e_1 f_1 q_1 => ?_)
  have b_1 := q_1
  refine vIf (fun h_4 => ?_) (fun h_4 => ?_)
  · refine vB (v_X7_refuse) (fun e_9 f_9 q_9 => ?_)
    have k_9 : ∀ a j, ¬ WM_X7_draw P a j → e_9.2 a j = M0 a j := fun a j h => (q_9 a j (by unfold WM_X7_refuse; unfold WM_X7_draw at h; omega))
    have t_9 : vp_in (e_9.2 (P + 25) 1) 8 := by rw [q_9 (P + 25) 1 (by unfold WM_X7_refuse; omega)]; exact hvp
    exact ⟨_, rfl, k_9, t_9⟩
  · refine vB (v_X1_keep hvp) (fun e_21 f_21 q_21 => ?_)
    have k_21 : ∀ a j, ¬ WM_X7_draw P a j → e_21 a j = M0 a j := fun a j h => (q_21.1 a j (by unfold WM_X1_keep; unfold WM_X7_draw at h; omega))
    have t_21 := q_21.2
    refine vB (v_X5_bySeed) (fun e_33 f_33 q_33 => ?_)
    have k_33 : ∀ a j, ¬ WM_X7_draw P a j → e_33 a j = M0 a j := fun a j h => (q_33 a j (by unfold WM_X5_bySeed; unfold WM_X7_draw at h; omega)).trans (k_21 a j h)
    have t_33 : vp_in (e_33 (P + 25) 1) 8 := by rw [q_33 (P + 25) 1 (by unfold WM_X5_bySeed; omega)]; exact t_21
    refine vB (v_X4_live) (fun e_48 f_48 q_48 => ?_)
    have k_48 : ∀ a j, ¬ WM_X7_draw P a j → e_48 a j = M0 a j := fun a j h => (q_48 a j (by unfold WM_X4_live; unfold WM_X7_draw at h; omega)).trans (k_33 a j h)
    have t_48 : vp_in (e_48 (P + 25) 1) 8 := by rw [q_48 (P + 25) 1 (by unfold WM_X4_live; omega)]; exact t_33
    refine vLm (W := WM_X7_draw P) (fun a j h => (zu_ne (by unfold WM_X7_draw at h; omega)).trans (k_48 a j h)) (fun M_61 f_61 k_61 => ?_)
    have t_61 : vp_in (M_61 (P + 25) 1) 8 := by rw [(congrFun (congrFun f_61.symm (P + 25)) 1).trans (zu_ne (by omega))]; exact t_48
    refine vB (v_X5_tagsGiven) (fun e_73 f_73 q_73 => ?_)
    refine vB (v_X7_changed) (fun e_76 f_76 q_76 => ?_)
    have k_76 : ∀ a j, ¬ WM_X7_draw P a j → e_76.2 a j = M0 a j := fun a j h => (q_76 a j (by unfold WM_X7_changed; unfold WM_X7_draw at h; omega)).trans (k_61 a j h)
    have t_76 : vp_in (e_76.2 (P + 25) 1) 8 := by rw [q_76 (P + 25) 1 (by unfold WM_X7_changed; omega)]; exact t_61
    exact ⟨_, rfl, k_76, t_76⟩
def WM_X7_points (P : Nat) (a j : Nat) : Prop := (P + 19 ≤ a ∧ a < P + 20) ∨ (P + 25 ≤ a ∧ a < P + 91) ∨ (P + 92 ≤ a ∧ a < P + 104) ∨ (a = P ∧ (j = 0 ∨ j = 3)) ∨ (a = P + 91 ∧ (j = 0 ∨ j = 1 ∨ j = 2 ∨ j = 3))
set_option maxRecDepth 100000 in
set_option maxHeartbeats 4000000 in
theorem v_X7_points {P : Nat} {v0 : Int32} {v1 : Int32} {M0 : zMt}  (hvp : vp_in (M0 (P + 25) 1) 8) : ∃ r, D_X7_points P v0 v1 M0 = some r ∧ ((∀ a j, ¬ WM_X7_points P a j → r.2 a j = M0 a j) ∧ (vp_in (r.2 (P + 25) 1) 8)) := by
  have T_10 : ∀ (M_10 : zMt), (∀ a j, ¬ WM_X7_points P a j → M_10 a j = M0 a j) → (vp_in (M_10 (P + 25) 1) 8) → ∃ r, D_X7_points_10 P M_10 = some r ∧ ((∀ a j, ¬ WM_X7_points P a j → r.2 a j = M0 a j) ∧ (vp_in (r.2 (P + 25) 1) 8)) := by
    intro M_10 k_10 t_10
    unfold D_X7_points_10
    refine vB (v_X7_refuse) (fun e_12 f_12 q_12 => ?_)
    have k_12 : ∀ a j, ¬ WM_X7_points P a j → e_12.2 a j = M0 a j := fun a j h => (q_12 a j (by unfold WM_X7_refuse; unfold WM_X7_points at h; omega)).trans (k_10 a j h)
    have t_12 : vp_in (e_12.2 (P + 25) 1) 8 := by rw [q_12 (P + 25) 1 (by unfold WM_X7_refuse; omega)]; exact t_10
    exact ⟨_, rfl, k_12, t_12⟩
  unfold D_X7_points
  refine vIf (fun h_1 => ?_) (fun h_1 => ?_)
  · exact T_10 _ (fun _ _ _ => rfl) hvp
  · refine vIf (fun h_7 => ?_) (fun h_7 => ?_)
    · refine vB (v_X7_isHunter) (fun e_18 f_18 q_18 => ?_)
      have b_18 := q_18
      refine vIf (fun h_21 => ?_) (fun h_21 => ?_)
      · refine vB (v_X7_refuse) (fun e_26 f_26 q_26 => ?_)
        have k_26 : ∀ a j, ¬ WM_X7_points P a j → e_26.2 a j = M0 a j := fun a j h => (q_26 a j (by unfold WM_X7_refuse; unfold WM_X7_points at h; omega))
        have t_26 : vp_in (e_26.2 (P + 25) 1) 8 := by rw [q_26 (P + 25) 1 (by unfold WM_X7_refuse; omega)]; exact hvp
        exact ⟨_, rfl, k_26, t_26⟩
      · refine vIf (fun h_44 => ?_) (fun h_44 => ?_)
        · refine vB (v_X7_refuse) (fun e_49 f_49 q_49 => ?_)
          have k_49 : ∀ a j, ¬ WM_X7_points P a j → e_49.2 a j = M0 a j := fun a j h => (q_49 a j (by unfold WM_X7_refuse; unfold WM_X7_points at h; omega))
          have t_49 : vp_in (e_49.2 (P + 25) 1) 8 := by rw [q_49 (P + 25) 1 (by unfold WM_X7_refuse; omega)]; exact hvp
          exact ⟨_, rfl, k_49, t_49⟩
        · refine vB (v_X1_keep hvp) (fun e_61 f_61 q_61 => ?_)
          have k_61 : ∀ a j, ¬ WM_X7_points P a j → e_61 a j = M0 a j := fun a j h => (q_61.1 a j (by unfold WM_X1_keep; unfold WM_X7_points at h; omega))
          have t_61 := q_61.2
          refine vLm (W := WM_X7_points P) (fun a j h => (congrFun (zwr_row (by unfold WM_X7_points at h; omega)) j).trans (k_61 a j h)) (fun M_73 f_73 k_73 => ?_)
          have t_73 : vp_in (M_73 (P + 25) 1) 8 := by rw [(congrFun (congrFun f_73.symm (P + 25)) 1).trans (congrFun (zwr_row (by omega)) 1)]; exact t_61
          refine vB (v_X7_changed) (fun e_78 f_78 q_78 => ?_)
          have k_78 : ∀ a j, ¬ WM_X7_points P a j → e_78.2 a j = M0 a j := fun a j h => (q_78 a j (by unfold WM_X7_changed; unfold WM_X7_points at h; omega)).trans (k_73 a j h)
          have t_78 : vp_in (e_78.2 (P + 25) 1) 8 := by rw [q_78 (P + 25) 1 (by unfold WM_X7_changed; omega)]; exact t_73
          exact ⟨_, rfl, k_78, t_78⟩
    · exact T_10 _ (fun _ _ _ => rfl) hvp
def WM_X7_quota (P : Nat) (a j : Nat) : Prop := (P + 18 ≤ a ∧ a < P + 19) ∨ (P + 25 ≤ a ∧ a < P + 91) ∨ (P + 92 ≤ a ∧ a < P + 104) ∨ (a = P ∧ (j = 0 ∨ j = 3)) ∨ (a = P + 91 ∧ (j = 0 ∨ j = 1 ∨ j = 2 ∨ j = 3))
set_option maxRecDepth 100000 in
set_option maxHeartbeats 4000000 in
theorem v_X7_quota {P : Nat} {v0 : Int32} {v1 : Int32} {M0 : zMt}  (hvp : vp_in (M0 (P + 25) 1) 8) : ∃ r, D_X7_quota P v0 v1 M0 = some r ∧ ((∀ a j, ¬ WM_X7_quota P a j → r.2 a j = M0 a j) ∧ (vp_in (r.2 (P + 25) 1) 8)) := by
  have T_10 : ∀ (M_10 : zMt), (∀ a j, ¬ WM_X7_quota P a j → M_10 a j = M0 a j) → (vp_in (M_10 (P + 25) 1) 8) → ∃ r, D_X7_quota_10 P M_10 = some r ∧ ((∀ a j, ¬ WM_X7_quota P a j → r.2 a j = M0 a j) ∧ (vp_in (r.2 (P + 25) 1) 8)) := by
    intro M_10 k_10 t_10
    unfold D_X7_quota_10
    refine vB (v_X7_refuse) (fun e_12 f_12 q_12 => ?_)
    have k_12 : ∀ a j, ¬ WM_X7_quota P a j → e_12.2 a j = M0 a j := fun a j h => (q_12 a j (by unfold WM_X7_refuse; unfold WM_X7_quota at h; omega)).trans (k_10 a j h)
    have t_12 : vp_in (e_12.2 (P + 25) 1) 8 := by rw [q_12 (P + 25) 1 (by unfold WM_X7_refuse; omega)]; exact t_10
    exact ⟨_, rfl, k_12, t_12⟩
  unfold D_X7_quota
  refine vIf (fun h_1 => ?_) (fun h_1 => ?_)
  · exact T_10 _ (fun _ _ _ => rfl) hvp
  · refine vIf (fun h_7 => ?_) (fun h_7 => ?_)
    · refine vB (v_X7_isUnit) (fun e_18 f_18 q_18 => ?_)
      have b_18 := q_18
      refine vIf (fun h_21 => ?_) (fun h_21 => ?_)
      · refine vB (v_X7_refuse) (fun e_26 f_26 q_26 => ?_)
        have k_26 : ∀ a j, ¬ WM_X7_quota P a j → e_26.2 a j = M0 a j := fun a j h => (q_26 a j (by unfold WM_X7_refuse; unfold WM_X7_quota at h; omega))
        have t_26 : vp_in (e_26.2 (P + 25) 1) 8 := by rw [q_26 (P + 25) 1 (by unfold WM_X7_refuse; omega)]; exact hvp
        exact ⟨_, rfl, k_26, t_26⟩
      · refine vIf (fun h_44 => ?_) (fun h_44 => ?_)
        · refine vB (v_X7_refuse) (fun e_49 f_49 q_49 => ?_)
          have k_49 : ∀ a j, ¬ WM_X7_quota P a j → e_49.2 a j = M0 a j := fun a j h => (q_49 a j (by unfold WM_X7_refuse; unfold WM_X7_quota at h; omega))
          have t_49 : vp_in (e_49.2 (P + 25) 1) 8 := by rw [q_49 (P + 25) 1 (by unfold WM_X7_refuse; omega)]; exact hvp
          exact ⟨_, rfl, k_49, t_49⟩
        · refine vB (v_X1_keep hvp) (fun e_61 f_61 q_61 => ?_)
          have k_61 : ∀ a j, ¬ WM_X7_quota P a j → e_61 a j = M0 a j := fun a j h => (q_61.1 a j (by unfold WM_X1_keep; unfold WM_X7_quota at h; omega))
          have t_61 := q_61.2
          refine vLm (W := WM_X7_quota P) (fun a j h => (congrFun (zwr_row (by unfold WM_X7_quota at h; omega)) j).trans (k_61 a j h)) (fun M_73 f_73 k_73 => ?_)
          have t_73 : vp_in (M_73 (P + 25) 1) 8 := by rw [(congrFun (congrFun f_73.symm (P + 25)) 1).trans (congrFun (zwr_row (by omega)) 1)]; exact t_61
          refine vB (v_X7_changed) (fun e_78 f_78 q_78 => ?_)
          have k_78 : ∀ a j, ¬ WM_X7_quota P a j → e_78.2 a j = M0 a j := fun a j h => (q_78 a j (by unfold WM_X7_changed; unfold WM_X7_quota at h; omega)).trans (k_73 a j h)
          have t_78 : vp_in (e_78.2 (P + 25) 1) 8 := by rw [q_78 (P + 25) 1 (by unfold WM_X7_changed; omega)]; exact t_73
          exact ⟨_, rfl, k_78, t_78⟩
    · exact T_10 _ (fun _ _ _ => rfl) hvp
set_option maxRecDepth 100000 in
set_option maxHeartbeats 4000000 in
theorem v_X7_isUnitOrNone {P : Nat} {M : zMt} {v0 : Int32}  : ∃ r, D_X7_isUnitOrNone P M v0 = some r ∧ ((r = 0 ∨ r = 1)) := by
  have T_18 : ∀ (y0_18 : Int32), (y0_18 = 0 ∨ y0_18 = 1) → ∃ r, D_X7_isUnitOrNone_18 P M y0_18 = some r ∧ ((r = 0 ∨ r = 1)) := by
    intro y0_18 f0_18
    unfold D_X7_isUnitOrNone_18
    exact ⟨_, rfl, (by first | exact Or.inl rfl | exact Or.inr rfl | assumption)⟩
  have T_13 : ∃ r, D_X7_isUnitOrNone_13 P M = some r ∧ ((r = 0 ∨ r = 1)) := by
    unfold D_X7_isUnitOrNone_13
    exact T_18 _ (by first | exact Or.inl rfl | exact Or.inr rfl | assumption)
  unfold D_X7_isUnitOrNone
  refine vIf (fun h_2 => ?_) (fun h_2 => ?_)
  · exact T_13
  · refine vB (v_X7_isUnit) (fun e_7 f_7 q_7 => ?_)
    have b_7 := q_7
    refine vIf (fun h_10 => ?_) (fun h_10 => ?_)
    · exact T_18 _ (by first | exact Or.inl rfl | exact Or.inr rfl | assumption)
    · exact T_13
def WM_X7_choose (P : Nat) (a j : Nat) : Prop := (P + 22 ≤ a ∧ a < P + 24) ∨ (P + 25 ≤ a ∧ a < P + 91) ∨ (P + 92 ≤ a ∧ a < P + 104) ∨ (a = P ∧ (j = 0 ∨ j = 3)) ∨ (a = P + 91 ∧ (j = 0 ∨ j = 1 ∨ j = 2 ∨ j = 3))
set_option maxRecDepth 100000 in
set_option maxHeartbeats 4000000 in
theorem v_X7_choose {P : Nat} {v0 : Int32} {v1 : Int32} {v2 : Int32} {v3 : Int32} {M0 : zMt}  (hvp : vp_in (M0 (P + 25) 1) 8) : ∃ r, D_X7_choose P v0 v1 v2 v3 M0 = some r ∧ ((∀ a j, ¬ WM_X7_choose P a j → r.2 a j = M0 a j) ∧ (vp_in (r.2 (P + 25) 1) 8)) := by
  have T_145 : ∀ (x1_145 : Int32) (x2_145 : Int32) (x3_145 : Int32) (x4_145 : Int32) (M_145 : zMt), (∀ a j, ¬ WM_X7_choose P a j → M_145 a j = M0 a j) → (vp_in (M_145 (P + 25) 1) 8) → ∃ r, D_X7_choose_145 P x1_145 x2_145 x3_145 x4_145 M_145 = some r ∧ ((∀ a j, ¬ WM_X7_choose P a j → r.2 a j = M0 a j) ∧ (vp_in (r.2 (P + 25) 1) 8)) := by
    intro x1_145 x2_145 x3_145 x4_145 M_145 k_145 t_145
    unfold D_X7_choose_145
    refine vB (v_X1_keep t_145) (fun e_166 f_166 q_166 => ?_)
    have k_166 : ∀ a j, ¬ WM_X7_choose P a j → e_166 a j = M0 a j := fun a j h => (q_166.1 a j (by unfold WM_X1_keep; unfold WM_X7_choose at h; omega)).trans (k_145 a j h)
    have t_166 := q_166.2
    refine vB (v_X4_wishFor) (fun e_188 f_188 q_188 => ?_)
    have k_188 : ∀ a j, ¬ WM_X7_choose P a j → e_188 a j = M0 a j := fun a j h => (q_188 a j (by unfold WM_X4_wishFor; unfold WM_X7_choose at h; omega)).trans (k_166 a j h)
    have t_188 : vp_in (e_188 (P + 25) 1) 8 := by rw [q_188 (P + 25) 1 (by unfold WM_X4_wishFor; omega)]; exact t_166
    refine vB (v_X7_changed) (fun e_194 f_194 q_194 => ?_)
    have k_194 : ∀ a j, ¬ WM_X7_choose P a j → e_194.2 a j = M0 a j := fun a j h => (q_194 a j (by unfold WM_X7_changed; unfold WM_X7_choose at h; omega)).trans (k_188 a j h)
    have t_194 : vp_in (e_194.2 (P + 25) 1) 8 := by rw [q_194 (P + 25) 1 (by unfold WM_X7_changed; omega)]; exact t_188
    exact ⟨_, rfl, k_194, t_194⟩
  have T_93 : ∀ (M_93 : zMt), (∀ a j, ¬ WM_X7_choose P a j → M_93 a j = M0 a j) → (vp_in (M_93 (P + 25) 1) 8) → ∃ r, D_X7_choose_93 P M_93 = some r ∧ ((∀ a j, ¬ WM_X7_choose P a j → r.2 a j = M0 a j) ∧ (vp_in (r.2 (P + 25) 1) 8)) := by
    intro M_93 k_93 t_93
    unfold D_X7_choose_93
    refine vB (v_X7_refuse) (fun e_95 f_95 q_95 => ?_)
    have k_95 : ∀ a j, ¬ WM_X7_choose P a j → e_95.2 a j = M0 a j := fun a j h => (q_95 a j (by unfold WM_X7_refuse; unfold WM_X7_choose at h; omega)).trans (k_93 a j h)
    have t_95 : vp_in (e_95.2 (P + 25) 1) 8 := by rw [q_95 (P + 25) 1 (by unfold WM_X7_refuse; omega)]; exact t_93
    exact ⟨_, rfl, k_95, t_95⟩
  have T_60 : ∀ (x1_60 : Int32) (x2_60 : Int32) (x3_60 : Int32) (x4_60 : Int32) (M_60 : zMt), (∀ a j, ¬ WM_X7_choose P a j → M_60 a j = M0 a j) → (vp_in (M_60 (P + 25) 1) 8) → ∃ r, D_X7_choose_60 P x1_60 x2_60 x3_60 x4_60 M_60 = some r ∧ ((∀ a j, ¬ WM_X7_choose P a j → r.2 a j = M0 a j) ∧ (vp_in (r.2 (P + 25) 1) 8)) := by
    intro x1_60 x2_60 x3_60 x4_60 M_60 k_60 t_60
    unfold D_X7_choose_60
    refine vB (v_X7_isApplicant) (fun e_62 f_62 q_62 => ?_)
    have b_62 := q_62
    refine vIf (fun h_65 => ?_) (fun h_65 => ?_)
    · exact T_93 _ k_60 t_60
    · refine vB (v_X7_isUnitOrNone) (fun e_70 f_70 q_70 => ?_)
      have b_70 := q_70
      refine vIf (fun h_73 => ?_) (fun h_73 => ?_)
      · exact T_93 _ k_60 t_60
      · refine vB (v_X7_isUnitOrNone) (fun e_78 f_78 q_78 => ?_)
        have b_78 := q_78
        refine vIf (fun h_81 => ?_) (fun h_81 => ?_)
        · exact T_93 _ k_60 t_60
        · refine vB (v_X7_isUnitOrNone) (fun e_87 f_87 q_87 => ?_)
          have b_87 := q_87
          refine vIf (fun h_90 => ?_) (fun h_90 => ?_)
          · exact T_93 _ k_60 t_60
          · refine vB (v_X2_wish) (fun e_105 f_105 q_105 => ?_)
            refine vIf (fun h_109 => ?_) (fun h_109 => ?_)
            · refine vB (v_X2_wish) (fun e_118 f_118 q_118 => ?_)
              refine vIf (fun h_122 => ?_) (fun h_122 => ?_)
              · refine vB (v_X2_wish) (fun e_131 f_131 q_131 => ?_)
                refine vIf (fun h_136 => ?_) (fun h_136 => ?_)
                · refine vB (v_X7_refuse) (fun e_141 f_141 q_141 => ?_)
                  have k_141 : ∀ a j, ¬ WM_X7_choose P a j → e_141.2 a j = M0 a j := fun a j h => (q_141 a j (by unfold WM_X7_refuse; unfold WM_X7_choose at h; omega)).trans (k_60 a j h)
                  have t_141 : vp_in (e_141.2 (P + 25) 1) 8 := by rw [q_141 (P + 25) 1 (by unfold WM_X7_refuse; omega)]; exact t_60
                  exact ⟨_, rfl, k_141, t_141⟩
                · exact T_145 _ _ _ _ _ k_60 t_60
              · exact T_145 _ _ _ _ _ k_60 t_60
            · exact T_145 _ _ _ _ _ k_60 t_60
  have T_54 : ∀ (M_54 : zMt), (∀ a j, ¬ WM_X7_choose P a j → M_54 a j = M0 a j) → (vp_in (M_54 (P + 25) 1) 8) → ∃ r, D_X7_choose_54 P M_54 = some r ∧ ((∀ a j, ¬ WM_X7_choose P a j → r.2 a j = M0 a j) ∧ (vp_in (r.2 (P + 25) 1) 8)) := by
    intro M_54 k_54 t_54
    unfold D_X7_choose_54
    refine vB (v_X7_refuse) (fun e_56 f_56 q_56 => ?_)
    have k_56 : ∀ a j, ¬ WM_X7_choose P a j → e_56.2 a j = M0 a j := fun a j h => (q_56 a j (by unfold WM_X7_refuse; unfold WM_X7_choose at h; omega)).trans (k_54 a j h)
    have t_56 : vp_in (e_56.2 (P + 25) 1) 8 := by rw [q_56 (P + 25) 1 (by unfold WM_X7_refuse; omega)]; exact t_54
    exact ⟨_, rfl, k_56, t_56⟩
  have T_43 : ∀ (x1_43 : Int32) (x2_43 : Int32) (x3_43 : Int32) (x4_43 : Int32) (M_43 : zMt), (∀ a j, ¬ WM_X7_choose P a j → M_43 a j = M0 a j) → (vp_in (M_43 (P + 25) 1) 8) → ∃ r, D_X7_choose_43 P x1_43 x2_43 x3_43 x4_43 M_43 = some r ∧ ((∀ a j, ¬ WM_X7_choose P a j → r.2 a j = M0 a j) ∧ (vp_in (r.2 (P + 25) 1) 8)) := by
    intro x1_43 x2_43 x3_43 x4_43 M_43 k_43 t_43
    unfold D_X7_choose_43
    refine vIf (fun h_45 => ?_) (fun h_45 => ?_)
    · exact T_60 _ _ _ _ _ k_43 t_43
    · refine vIf (fun h_51 => ?_) (fun h_51 => ?_)
      · exact T_54 _ k_43 t_43
      · exact T_60 _ _ _ _ _ k_43 t_43
  have T_27 : ∀ (x1_27 : Int32) (x2_27 : Int32) (x3_27 : Int32) (x4_27 : Int32) (M_27 : zMt), (∀ a j, ¬ WM_X7_choose P a j → M_27 a j = M0 a j) → (vp_in (M_27 (P + 25) 1) 8) → ∃ r, D_X7_choose_27 P x1_27 x2_27 x3_27 x4_27 M_27 = some r ∧ ((∀ a j, ¬ WM_X7_choose P a j → r.2 a j = M0 a j) ∧ (vp_in (r.2 (P + 25) 1) 8)) := by
    intro x1_27 x2_27 x3_27 x4_27 M_27 k_27 t_27
    unfold D_X7_choose_27
    refine vIf (fun h_29 => ?_) (fun h_29 => ?_)
    · exact T_43 _ _ _ _ _ k_27 t_27
    · refine vIf (fun h_34 => ?_) (fun h_34 => ?_)
      · exact T_54 _ k_27 t_27
      · refine vIf (fun h_40 => ?_) (fun h_40 => ?_)
        · exact T_54 _ k_27 t_27
        · exact T_43 _ _ _ _ _ k_27 t_27
  have T_21 : ∀ (M_21 : zMt), (∀ a j, ¬ WM_X7_choose P a j → M_21 a j = M0 a j) → (vp_in (M_21 (P + 25) 1) 8) → ∃ r, D_X7_choose_21 P M_21 = some r ∧ ((∀ a j, ¬ WM_X7_choose P a j → r.2 a j = M0 a j) ∧ (vp_in (r.2 (P + 25) 1) 8)) := by
    intro M_21 k_21 t_21
    unfold D_X7_choose_21
    refine vB (v_X7_refuse) (fun e_23 f_23 q_23 => ?_)
    have k_23 : ∀ a j, ¬ WM_X7_choose P a j → e_23.2 a j = M0 a j := fun a j h => (q_23 a j (by unfold WM_X7_refuse; unfold WM_X7_choose at h; omega)).trans (k_21 a j h)
    have t_23 : vp_in (e_23.2 (P + 25) 1) 8 := by rw [q_23 (P + 25) 1 (by unfold WM_X7_refuse; omega)]; exact t_21
    exact ⟨_, rfl, k_23, t_23⟩
  have T_10 : ∀ (x1_10 : Int32) (x2_10 : Int32) (x3_10 : Int32) (x4_10 : Int32) (M_10 : zMt), (∀ a j, ¬ WM_X7_choose P a j → M_10 a j = M0 a j) → (vp_in (M_10 (P + 25) 1) 8) → ∃ r, D_X7_choose_10 P x1_10 x2_10 x3_10 x4_10 M_10 = some r ∧ ((∀ a j, ¬ WM_X7_choose P a j → r.2 a j = M0 a j) ∧ (vp_in (r.2 (P + 25) 1) 8)) := by
    intro x1_10 x2_10 x3_10 x4_10 M_10 k_10 t_10
    unfold D_X7_choose_10
    refine vIf (fun h_12 => ?_) (fun h_12 => ?_)
    · refine vIf (fun h_18 => ?_) (fun h_18 => ?_)
      · exact T_27 _ _ _ _ _ k_10 t_10
      · exact T_21 _ k_10 t_10
    · exact T_27 _ _ _ _ _ k_10 t_10
  unfold D_X7_choose
  refine vIf (fun h_2 => ?_) (fun h_2 => ?_)
  · refine vIf (fun h_7 => ?_) (fun h_7 => ?_)
    · exact T_10 _ _ _ _ _ (fun _ _ _ => rfl) hvp
    · exact T_21 _ (fun _ _ _ => rfl) hvp
  · exact T_10 _ _ _ _ _ (fun _ _ _ => rfl) hvp
def WM_X7_law (P : Nat) (a j : Nat) : Prop := (P + 25 ≤ a ∧ a < P + 91) ∨ (P + 92 ≤ a ∧ a < P + 104) ∨ (a = P ∧ (j = 0 ∨ j = 3)) ∨ (a = P + 17 ∧ (j = 3)) ∨ (a = P + 91 ∧ (j = 0 ∨ j = 1 ∨ j = 2 ∨ j = 3))
set_option maxRecDepth 100000 in
set_option maxHeartbeats 4000000 in
theorem v_X7_law {P : Nat} {v0 : Int32} {M0 : zMt}  (hvp : vp_in (M0 (P + 25) 1) 8) : ∃ r, D_X7_law P v0 M0 = some r ∧ ((∀ a j, ¬ WM_X7_law P a j → r.2 a j = M0 a j) ∧ (vp_in (r.2 (P + 25) 1) 8)) := by
  have T_9 : ∀ (M_9 : zMt), (∀ a j, ¬ WM_X7_law P a j → M_9 a j = M0 a j) → (vp_in (M_9 (P + 25) 1) 8) → ∃ r, D_X7_law_9 P M_9 = some r ∧ ((∀ a j, ¬ WM_X7_law P a j → r.2 a j = M0 a j) ∧ (vp_in (r.2 (P + 25) 1) 8)) := by
    intro M_9 k_9 t_9
    unfold D_X7_law_9
    refine vB (v_X7_refuse) (fun e_11 f_11 q_11 => ?_)
    have k_11 : ∀ a j, ¬ WM_X7_law P a j → e_11.2 a j = M0 a j := fun a j h => (q_11 a j (by unfold WM_X7_refuse; unfold WM_X7_law at h; omega)).trans (k_9 a j h)
    have t_11 : vp_in (e_11.2 (P + 25) 1) 8 := by rw [q_11 (P + 25) 1 (by unfold WM_X7_refuse; omega)]; exact t_9
    exact ⟨_, rfl, k_11, t_11⟩
  unfold D_X7_law
  refine vIf (fun h_1 => ?_) (fun h_1 => ?_)
  · exact T_9 _ (fun _ _ _ => rfl) hvp
  · refine vIf (fun h_6 => ?_) (fun h_6 => ?_)
    · refine vIf (fun h_25 => ?_) (fun h_25 => ?_)
      · refine vB (v_X7_refuse) (fun e_30 f_30 q_30 => ?_)
        have k_30 : ∀ a j, ¬ WM_X7_law P a j → e_30.2 a j = M0 a j := fun a j h => (q_30 a j (by unfold WM_X7_refuse; unfold WM_X7_law at h; omega))
        have t_30 : vp_in (e_30.2 (P + 25) 1) 8 := by rw [q_30 (P + 25) 1 (by unfold WM_X7_refuse; omega)]; exact hvp
        exact ⟨_, rfl, k_30, t_30⟩
      · refine vB (v_X1_keep hvp) (fun e_42 f_42 q_42 => ?_)
        have k_42 : ∀ a j, ¬ WM_X7_law P a j → e_42 a j = M0 a j := fun a j h => (q_42.1 a j (by unfold WM_X1_keep; unfold WM_X7_law at h; omega))
        have t_42 := q_42.2
        refine vLm (W := WM_X7_law P) (fun a j h => (zu_ne (by unfold WM_X7_law at h; omega)).trans (k_42 a j h)) (fun M_50 f_50 k_50 => ?_)
        have t_50 : vp_in (M_50 (P + 25) 1) 8 := by rw [(congrFun (congrFun f_50.symm (P + 25)) 1).trans (zu_ne (by omega))]; exact t_42
        refine vB (v_X7_changed) (fun e_55 f_55 q_55 => ?_)
        have k_55 : ∀ a j, ¬ WM_X7_law P a j → e_55.2 a j = M0 a j := fun a j h => (q_55 a j (by unfold WM_X7_changed; unfold WM_X7_law at h; omega)).trans (k_50 a j h)
        have t_55 : vp_in (e_55.2 (P + 25) 1) 8 := by rw [q_55 (P + 25) 1 (by unfold WM_X7_changed; omega)]; exact t_50
        exact ⟨_, rfl, k_55, t_55⟩
    · exact T_9 _ (fun _ _ _ => rfl) hvp
def WM_X7_prefer (P : Nat) (a j : Nat) : Prop := (P + 25 ≤ a ∧ a < P + 91) ∨ (P + 92 ≤ a ∧ a < P + 104) ∨ (a = P ∧ (j = 0 ∨ j = 3)) ∨ (a = P + 17 ∧ (j = 4)) ∨ (a = P + 91 ∧ (j = 0 ∨ j = 1 ∨ j = 2 ∨ j = 3))
set_option maxRecDepth 100000 in
set_option maxHeartbeats 4000000 in
theorem v_X7_prefer {P : Nat} {v0 : Int32} {M0 : zMt}  (hvp : vp_in (M0 (P + 25) 1) 8) : ∃ r, D_X7_prefer P v0 M0 = some r ∧ ((∀ a j, ¬ WM_X7_prefer P a j → r.2 a j = M0 a j) ∧ (vp_in (r.2 (P + 25) 1) 8)) := by
  have T_10 : ∀ (M_10 : zMt), (∀ a j, ¬ WM_X7_prefer P a j → M_10 a j = M0 a j) → (vp_in (M_10 (P + 25) 1) 8) → ∃ r, D_X7_prefer_10 P M_10 = some r ∧ ((∀ a j, ¬ WM_X7_prefer P a j → r.2 a j = M0 a j) ∧ (vp_in (r.2 (P + 25) 1) 8)) := by
    intro M_10 k_10 t_10
    unfold D_X7_prefer_10
    refine vB (v_X7_refuse) (fun e_12 f_12 q_12 => ?_)
    have k_12 : ∀ a j, ¬ WM_X7_prefer P a j → e_12.2 a j = M0 a j := fun a j h => (q_12 a j (by unfold WM_X7_refuse; unfold WM_X7_prefer at h; omega)).trans (k_10 a j h)
    have t_12 : vp_in (e_12.2 (P + 25) 1) 8 := by rw [q_12 (P + 25) 1 (by unfold WM_X7_refuse; omega)]; exact t_10
    exact ⟨_, rfl, k_12, t_12⟩
  unfold D_X7_prefer
  refine vIf (fun h_1 => ?_) (fun h_1 => ?_)
  · exact T_10 _ (fun _ _ _ => rfl) hvp
  · refine vIf (fun h_7 => ?_) (fun h_7 => ?_)
    · refine vIf (fun h_26 => ?_) (fun h_26 => ?_)
      · refine vB (v_X7_refuse) (fun e_31 f_31 q_31 => ?_)
        have k_31 : ∀ a j, ¬ WM_X7_prefer P a j → e_31.2 a j = M0 a j := fun a j h => (q_31 a j (by unfold WM_X7_refuse; unfold WM_X7_prefer at h; omega))
        have t_31 : vp_in (e_31.2 (P + 25) 1) 8 := by rw [q_31 (P + 25) 1 (by unfold WM_X7_refuse; omega)]; exact hvp
        exact ⟨_, rfl, k_31, t_31⟩
      · refine vB (v_X1_keep hvp) (fun e_43 f_43 q_43 => ?_)
        have k_43 : ∀ a j, ¬ WM_X7_prefer P a j → e_43 a j = M0 a j := fun a j h => (q_43.1 a j (by unfold WM_X1_keep; unfold WM_X7_prefer at h; omega))
        have t_43 := q_43.2
        refine vLm (W := WM_X7_prefer P) (fun a j h => (zu_ne (by unfold WM_X7_prefer at h; omega)).trans (k_43 a j h)) (fun M_51 f_51 k_51 => ?_)
        have t_51 : vp_in (M_51 (P + 25) 1) 8 := by rw [(congrFun (congrFun f_51.symm (P + 25)) 1).trans (zu_ne (by omega))]; exact t_43
        refine vB (v_X7_changed) (fun e_56 f_56 q_56 => ?_)
        have k_56 : ∀ a j, ¬ WM_X7_prefer P a j → e_56.2 a j = M0 a j := fun a j h => (q_56 a j (by unfold WM_X7_changed; unfold WM_X7_prefer at h; omega)).trans (k_51 a j h)
        have t_56 : vp_in (e_56.2 (P + 25) 1) 8 := by rw [q_56 (P + 25) 1 (by unfold WM_X7_changed; omega)]; exact t_51
        exact ⟨_, rfl, k_56, t_56⟩
    · exact T_10 _ (fun _ _ _ => rfl) hvp
def WM_X7_guests (P : Nat) (a j : Nat) : Prop := (P + 25 ≤ a ∧ a < P + 91) ∨ (P + 92 ≤ a ∧ a < P + 104) ∨ (a = P ∧ (j = 0 ∨ j = 3)) ∨ (a = P + 17 ∧ (j = 5)) ∨ (a = P + 91 ∧ (j = 0 ∨ j = 1 ∨ j = 2 ∨ j = 3))
set_option maxRecDepth 100000 in
set_option maxHeartbeats 4000000 in
theorem v_X7_guests {P : Nat} {v0 : Int32} {M0 : zMt}  (hvp : vp_in (M0 (P + 25) 1) 8) : ∃ r, D_X7_guests P v0 M0 = some r ∧ ((∀ a j, ¬ WM_X7_guests P a j → r.2 a j = M0 a j) ∧ (vp_in (r.2 (P + 25) 1) 8)) := by
  have T_10 : ∀ (M_10 : zMt), (∀ a j, ¬ WM_X7_guests P a j → M_10 a j = M0 a j) → (vp_in (M_10 (P + 25) 1) 8) → ∃ r, D_X7_guests_10 P M_10 = some r ∧ ((∀ a j, ¬ WM_X7_guests P a j → r.2 a j = M0 a j) ∧ (vp_in (r.2 (P + 25) 1) 8)) := by
    intro M_10 k_10 t_10
    unfold D_X7_guests_10
    refine vB (v_X7_refuse) (fun e_12 f_12 q_12 => ?_)
    have k_12 : ∀ a j, ¬ WM_X7_guests P a j → e_12.2 a j = M0 a j := fun a j h => (q_12 a j (by unfold WM_X7_refuse; unfold WM_X7_guests at h; omega)).trans (k_10 a j h)
    have t_12 : vp_in (e_12.2 (P + 25) 1) 8 := by rw [q_12 (P + 25) 1 (by unfold WM_X7_refuse; omega)]; exact t_10
    exact ⟨_, rfl, k_12, t_12⟩
  unfold D_X7_guests
  refine vIf (fun h_1 => ?_) (fun h_1 => ?_)
  · exact T_10 _ (fun _ _ _ => rfl) hvp
  · refine vIf (fun h_7 => ?_) (fun h_7 => ?_)
    · refine vIf (fun h_26 => ?_) (fun h_26 => ?_)
      · refine vB (v_X7_refuse) (fun e_31 f_31 q_31 => ?_)
        have k_31 : ∀ a j, ¬ WM_X7_guests P a j → e_31.2 a j = M0 a j := fun a j h => (q_31 a j (by unfold WM_X7_refuse; unfold WM_X7_guests at h; omega))
        have t_31 : vp_in (e_31.2 (P + 25) 1) 8 := by rw [q_31 (P + 25) 1 (by unfold WM_X7_refuse; omega)]; exact hvp
        exact ⟨_, rfl, k_31, t_31⟩
      · refine vB (v_X1_keep hvp) (fun e_43 f_43 q_43 => ?_)
        have k_43 : ∀ a j, ¬ WM_X7_guests P a j → e_43 a j = M0 a j := fun a j h => (q_43.1 a j (by unfold WM_X1_keep; unfold WM_X7_guests at h; omega))
        have t_43 := q_43.2
        refine vLm (W := WM_X7_guests P) (fun a j h => (zu_ne (by unfold WM_X7_guests at h; omega)).trans (k_43 a j h)) (fun M_51 f_51 k_51 => ?_)
        have t_51 : vp_in (M_51 (P + 25) 1) 8 := by rw [(congrFun (congrFun f_51.symm (P + 25)) 1).trans (zu_ne (by omega))]; exact t_43
        refine vB (v_X7_changed) (fun e_56 f_56 q_56 => ?_)
        have k_56 : ∀ a j, ¬ WM_X7_guests P a j → e_56.2 a j = M0 a j := fun a j h => (q_56 a j (by unfold WM_X7_changed; unfold WM_X7_guests at h; omega)).trans (k_51 a j h)
        have t_56 : vp_in (e_56.2 (P + 25) 1) 8 := by rw [q_56 (P + 25) 1 (by unfold WM_X7_changed; omega)]; exact t_51
        exact ⟨_, rfl, k_56, t_56⟩
    · exact T_10 _ (fun _ _ _ => rfl) hvp
def WM_X7_split (P : Nat) (a j : Nat) : Prop := (P + 21 ≤ a ∧ a < P + 22) ∨ (P + 25 ≤ a ∧ a < P + 91) ∨ (P + 92 ≤ a ∧ a < P + 104) ∨ (a = P ∧ (j = 0 ∨ j = 3)) ∨ (a = P + 17 ∧ (j = 2)) ∨ (a = P + 91 ∧ (j = 0 ∨ j = 1 ∨ j = 2 ∨ j = 3))
set_option maxRecDepth 100000 in
set_option maxHeartbeats 4000000 in
theorem v_X7_split {P : Nat} {v0 : Int32} {M0 : zMt}  (hvp : vp_in (M0 (P + 25) 1) 8) : ∃ r, D_X7_split P v0 M0 = some r ∧ ((∀ a j, ¬ WM_X7_split P a j → r.2 a j = M0 a j) ∧ (vp_in (r.2 (P + 25) 1) 8)) := by
  unfold D_X7_split
  refine vB (v_X7_isParty) (fun e_2 f_2 q_2 => ?_)
  have b_2 := q_2
  refine vIf (fun h_5 => ?_) (fun h_5 => ?_)
  · refine vB (v_X7_refuse) (fun e_10 f_10 q_10 => ?_)
    have k_10 : ∀ a j, ¬ WM_X7_split P a j → e_10.2 a j = M0 a j := fun a j h => (q_10 a j (by unfold WM_X7_refuse; unfold WM_X7_split at h; omega))
    have t_10 : vp_in (e_10.2 (P + 25) 1) 8 := by rw [q_10 (P + 25) 1 (by unfold WM_X7_refuse; omega)]; exact hvp
    exact ⟨_, rfl, k_10, t_10⟩
  · refine vB (v_X1_keep hvp) (fun e_22 f_22 q_22 => ?_)
    have k_22 : ∀ a j, ¬ WM_X7_split P a j → e_22 a j = M0 a j := fun a j h => (q_22.1 a j (by unfold WM_X1_keep; unfold WM_X7_split at h; omega))
    have t_22 := q_22.2
    refine vB (v_X4_dissolve) (fun e_30 f_30 q_30 => ?_)
    have k_30 : ∀ a j, ¬ WM_X7_split P a j → e_30 a j = M0 a j := fun a j h => (q_30 a j (by unfold WM_X4_dissolve; unfold WM_X7_split at h; omega)).trans (k_22 a j h)
    have t_30 : vp_in (e_30 (P + 25) 1) 8 := by rw [q_30 (P + 25) 1 (by unfold WM_X4_dissolve; omega)]; exact t_22
    refine vB (v_X7_changed) (fun e_35 f_35 q_35 => ?_)
    have k_35 : ∀ a j, ¬ WM_X7_split P a j → e_35.2 a j = M0 a j := fun a j h => (q_35 a j (by unfold WM_X7_changed; unfold WM_X7_split at h; omega)).trans (k_30 a j h)
    have t_35 : vp_in (e_35.2 (P + 25) 1) 8 := by rw [q_35 (P + 25) 1 (by unfold WM_X7_changed; omega)]; exact t_30
    refine vB (v_X7_answer) (fun e_47 f_47 q_47 => ?_)
    have k_47 : ∀ a j, ¬ WM_X7_split P a j → e_47.2 a j = M0 a j := fun a j h => (q_47 a j (by unfold WM_X7_answer; unfold WM_X7_split at h; omega)).trans (k_35 a j h)
    have t_47 : vp_in (e_47.2 (P + 25) 1) 8 := by rw [q_47 (P + 25) 1 (by unfold WM_X7_answer; omega)]; exact t_35
    exact ⟨_, rfl, k_47, t_47⟩
def WM_X7_undo (P : Nat) (a j : Nat) : Prop := (P + 17 ≤ a ∧ a < P + 25) ∨ (P + 92 ≤ a ∧ a < P + 104) ∨ (a = P ∧ (j = 0 ∨ j = 3)) ∨ (a = P + 25 ∧ (j = 0 ∨ j = 1)) ∨ (a = P + 91 ∧ (j = 0 ∨ j = 1 ∨ j = 2 ∨ j = 3))
set_option maxRecDepth 100000 in
set_option maxHeartbeats 4000000 in
theorem v_X7_undo {P : Nat}  {M0 : zMt}  (hvp : vp_in (M0 (P + 25) 1) 8) : ∃ r, D_X7_undo P M0 = some r ∧ ((∀ a j, ¬ WM_X7_undo P a j → r.2 a j = M0 a j) ∧ (vp_in (r.2 (P + 25) 1) 8)) := by
  unfold D_X7_undo
  refine vB (v_X1_giveBack (by omega) hvp) (fun e_8 f_8 q_8 => ?_)
  have k_8 : ∀ a j, ¬ WM_X7_undo P a j → e_8.2 a j = M0 a j := fun a j h => (q_8.1 a j (by unfold WM_X1_giveBack; unfold WM_X7_undo at h; omega))
  have b_8 := q_8.2.1
  have t_8 := q_8.2.2
  refine vIf (fun h_11 => ?_) (fun h_11 => ?_)
  · refine vB (v_X7_refuse) (fun e_16 f_16 q_16 => ?_)
    have k_16 : ∀ a j, ¬ WM_X7_undo P a j → e_16.2 a j = M0 a j := fun a j h => (q_16 a j (by unfold WM_X7_refuse; unfold WM_X7_undo at h; omega)).trans (k_8 a j h)
    have t_16 : vp_in (e_16.2 (P + 25) 1) 8 := by rw [q_16 (P + 25) 1 (by unfold WM_X7_refuse; omega)]; exact t_8
    exact ⟨_, rfl, k_16, t_16⟩
  · refine vB (v_X7_changed) (fun e_28 f_28 q_28 => ?_)
    have k_28 : ∀ a j, ¬ WM_X7_undo P a j → e_28.2 a j = M0 a j := fun a j h => (q_28 a j (by unfold WM_X7_changed; unfold WM_X7_undo at h; omega)).trans (k_8 a j h)
    have t_28 : vp_in (e_28.2 (P + 25) 1) 8 := by rw [q_28 (P + 25) 1 (by unfold WM_X7_changed; omega)]; exact t_8
    exact ⟨_, rfl, k_28, t_28⟩
