def WM_X5_rank (Q A : Nat) (a j : Nat) : Prop := (Q + 7 ≤ a ∧ a < Q + 8)
set_option maxRecDepth 100000 in
set_option maxHeartbeats 4000000 in
theorem v_X5_rank {Q : Nat} {A : Nat}  {M0 : zMt}  : ∃ r, D_X5_rank Q A M0 = some r ∧ ((∀ a j, ¬ WM_X5_rank Q A a j → r a j = M0 a j)) := by
  have TL_2 : ∀ u : Nat, ∀ (x2_2 : Int32) (M_2 : zMt), (∀ a j, ¬ WM_X5_rank Q A a j → M_2 a j = M0 a j) → (2147483648 - Int32.toInt x2_2).toNat < u → ∃ r, D_X5_rank_2 Q A u x2_2 M_2 = some r ∧ ((∀ a j, ¬ WM_X5_rank Q A a j → r a j = M0 a j)) := by
    intro u
    induction u with
    | zero => intro x2_2 M_2 k_2 hm_2; exact absurd hm_2 (Nat.not_lt_zero _)
    | succ u_2 ih_2 =>
      have T_86 : ∀ (x2_86 : Int32) (x3_86 : Int32) (x5_86 : Int32) (M_86 : zMt), (∀ a j, ¬ WM_X5_rank Q A a j → M_86 a j = M0 a j) → ((2147483648 - Int32.toInt x2_86).toNat < u_2 + 1) → (Int32.toInt x2_86 < 2147483647) → ∃ r, D_X5_rank_86 Q A (D_X5_rank_2 Q A u_2) x2_86 x3_86 x5_86 M_86 = some r ∧ ((∀ a j, ¬ WM_X5_rank Q A a j → r a j = M0 a j)) := by
        intro x2_86 x3_86 x5_86 M_86 k_86 f0_86 f1_86
        unfold D_X5_rank_86
        refine vLm (W := WM_X5_rank Q A) (fun a j h => (congrFun (zwr_row (by unfold WM_X5_rank at h; omega)) j).trans (k_86 a j h)) (fun M_93 f_93 k_93 => ?_)
        exact ih_2 _ _ k_93 (z_up1 f1_86 f0_86)
      have TL_32 : ∀ u : Nat, ∀ (x2_32 : Int32) (x3_32 : Int32) (x4_32 : Int32) (x5_32 : Int32) (M_32 : zMt), (∀ a j, ¬ WM_X5_rank Q A a j → M_32 a j = M0 a j) → ((2147483648 - Int32.toInt x2_32).toNat < u_2 + 1) → (Int32.toInt x2_32 < 2147483647) → (Int32.toInt x5_32).toNat < u → ∃ r, D_X5_rank_32 Q A (D_X5_rank_2 Q A u_2) u x2_32 x3_32 x4_32 x5_32 M_32 = some r ∧ ((∀ a j, ¬ WM_X5_rank Q A a j → r a j = M0 a j)) := by
        intro u
        induction u with
        | zero => intro x2_32 x3_32 x4_32 x5_32 M_32 k_32 f0_32 f1_32 hm_32; exact absurd hm_32 (Nat.not_lt_zero _)
        | succ u_32 ih_32 =>
          intro x2_32 x3_32 x4_32 x5_32 M_32 k_32 f0_32 f1_32 hm_32
          rw [D_X5_rank_32]
          refine vIf (fun h_34 => ?_) (fun h_34 => ?_)
          · exact T_86 _ _ _ _ k_32 f0_32 f1_32
          · refine vIf (fun h_57 => ?_) (fun h_57 => ?_)
            · exact T_86 _ _ _ _ k_32 f0_32 f1_32
            · refine vLm (W := WM_X5_rank Q A) (fun a j h => (congrFun (zwr_row (by unfold WM_X5_rank at h; omega)) j).trans (k_32 a j h)) (fun M_77 f_77 k_77 => ?_)
              exact ih_32 _ _ _ _ _ k_77 f0_32 f1_32 (z_dn1 (by first | assumption | exact z_gt (by assumption)) hm_32)
      have T_32 : ∀ (x2_32 : Int32) (x3_32 : Int32) (x4_32 : Int32) (x5_32 : Int32) (M_32 : zMt), (∀ a j, ¬ WM_X5_rank Q A a j → M_32 a j = M0 a j) → ((2147483648 - Int32.toInt x2_32).toNat < u_2 + 1) → (Int32.toInt x2_32 < 2147483647) → ∃ r, D_X5_rank_32 Q A (D_X5_rank_2 Q A u_2) zFu x2_32 x3_32 x4_32 x5_32 M_32 = some r ∧ ((∀ a j, ¬ WM_X5_rank Q A a j → r a j = M0 a j)) := fun x2_32 x3_32 x4_32 x5_32 M_32 k_32 f0_32 f1_32 => TL_32 zFu x2_32 x3_32 x4_32 x5_32 M_32 k_32 f0_32 f1_32 (zFu_dn _)
      intro x2_2 M_2 k_2 hm_2
      rw [D_X5_rank_2]
      refine vIf (fun h_7 => ?_) (fun h_7 => ?_)
      · exact ⟨_, rfl, k_2⟩
      · exact T_32 _ _ _ _ _ k_2 hm_2 (by first | assumption | exact z_lt (by assumption) | exact z_lt2 (by assumption) | exact z_lt3 (by assumption) (by first | assumption | decide))
  have T_2 : ∀ (x2_2 : Int32) (M_2 : zMt), (∀ a j, ¬ WM_X5_rank Q A a j → M_2 a j = M0 a j) → ∃ r, D_X5_rank_2 Q A zFu x2_2 M_2 = some r ∧ ((∀ a j, ¬ WM_X5_rank Q A a j → r a j = M0 a j)) := fun x2_2 M_2 k_2 => TL_2 zFu x2_2 M_2 k_2 (zFu_up _)
  unfold D_X5_rank
  exact T_2 _ _ (fun _ _ _ => rfl)
set_option maxRecDepth 100000 in
set_option maxHeartbeats 4000000 in
theorem v_X2_wish {Q : Nat} {M : zMt} {v0 : Int32} {v1 : Int32}  : ∃ r, D_X2_wish Q M v0 v1 = some r ∧ (True) := by
  unfold D_X2_wish
  exact ⟨_, rfl, trivial⟩
set_option maxRecDepth 100000 in
set_option maxHeartbeats 4000000 in
theorem v_X2_fits {Q : Nat} {M : zMt} {v0 : Int32} {v1 : Int32} {v2 : Int32}  : ∃ r, D_X2_fits Q M v0 v1 v2 = some r ∧ ((r = 0 ∨ r = 1)) := by
  have T_29 : ∀ (y0_29 : Int32), (y0_29 = 0 ∨ y0_29 = 1) → ∃ r, D_X2_fits_29 Q M y0_29 = some r ∧ ((r = 0 ∨ r = 1)) := by
    intro y0_29 f0_29
    unfold D_X2_fits_29
    exact ⟨_, rfl, (by first | exact Or.inl rfl | exact Or.inr rfl | assumption)⟩
  have T_28 : ∃ r, D_X2_fits_28 Q M = some r ∧ ((r = 0 ∨ r = 1)) := by
    unfold D_X2_fits_28
    exact T_29 _ (by first | exact Or.inl rfl | exact Or.inr rfl | assumption)
  unfold D_X2_fits
  refine vIf (fun h_9 => ?_) (fun h_9 => ?_)
  · exact T_28
  · refine vIf (fun h_21 => ?_) (fun h_21 => ?_)
    · exact T_28
    · exact T_29 _ (by first | exact Or.inl rfl | exact Or.inr rfl | assumption)
def WM_X5_hold (Q A : Nat) (a j : Nat) : Prop := (Q + 2 ≤ a ∧ a < Q + 6)
set_option maxRecDepth 100000 in
set_option maxHeartbeats 4000000 in
theorem v_X5_hold {Q : Nat} {A : Nat} {v0 : Int32} {v1 : Int32} {v2 : Int32} {M0 : zMt}  : ∃ r, D_X5_hold Q A v0 v1 v2 M0 = some r ∧ ((∀ a j, ¬ WM_X5_hold Q A a j → r a j = M0 a j)) := by
  unfold D_X5_hold
  refine vLm (W := WM_X5_hold Q A) (fun a j h => (congrFun (zwr_row (by unfold WM_X5_hold at h; omega)) j)) (fun M_6 f_6 k_6 => ?_)
  refine vLm (W := WM_X5_hold Q A) (fun a j h => (congrFun (zwr_row (by unfold WM_X5_hold at h; omega)) j).trans (k_6 a j h)) (fun M_16 f_16 k_16 => ?_)
  refine vLm (W := WM_X5_hold Q A) (fun a j h => (congrFun (zwr_row (by unfold WM_X5_hold at h; omega)) j).trans (k_16 a j h)) (fun M_33 f_33 k_33 => ?_)
  refine vLm (W := WM_X5_hold Q A) (fun a j h => (congrFun (zwr_row (by unfold WM_X5_hold at h; omega)) j).trans (k_33 a j h)) (fun M_50 f_50 k_50 => ?_)
  exact ⟨_, rfl, k_50⟩
def WM_X5_firstRound (Q A : Nat) (a j : Nat) : Prop := (Q + 2 ≤ a ∧ a < Q + 8)
set_option maxRecDepth 100000 in
set_option maxHeartbeats 4000000 in
theorem v_X5_firstRound {Q : Nat} {A : Nat}  {M0 : zMt}  : ∃ r, D_X5_firstRound Q A M0 = some r ∧ ((∀ a j, ¬ WM_X5_firstRound Q A a j → r a j = M0 a j)) := by
  have TL_7 : ∀ u : Nat, ∀ (x2_7 : Int32) (M_7 : zMt), (∀ a j, ¬ WM_X5_firstRound Q A a j → M_7 a j = M0 a j) → (2147483648 - Int32.toInt x2_7).toNat < u → ∃ r, D_X5_firstRound_7 Q A u x2_7 M_7 = some r ∧ ((∀ a j, ¬ WM_X5_firstRound Q A a j → r a j = M0 a j)) := by
    intro u
    induction u with
    | zero => intro x2_7 M_7 k_7 hm_7; exact absurd hm_7 (Nat.not_lt_zero _)
    | succ u_7 ih_7 =>
      have T_91 : ∀ (x2_91 : Int32) (M_91 : zMt), (∀ a j, ¬ WM_X5_firstRound Q A a j → M_91 a j = M0 a j) → ((2147483648 - Int32.toInt x2_91).toNat < u_7 + 1) → (Int32.toInt x2_91 < 2147483647) → ∃ r, D_X5_firstRound_91 Q A (D_X5_firstRound_7 Q A u_7) x2_91 M_91 = some r ∧ ((∀ a j, ¬ WM_X5_firstRound Q A a j → r a j = M0 a j)) := by
        intro x2_91 M_91 k_91 f0_91 f1_91
        unfold D_X5_firstRound_91
        exact ih_7 _ _ k_91 (z_up1 f1_91 f0_91)
      intro x2_7 M_7 k_7 hm_7
      rw [D_X5_firstRound_7]
      refine vIf (fun h_12 => ?_) (fun h_12 => ?_)
      · exact ⟨_, rfl, k_7⟩
      · refine vB (v_X2_wish) (fun e_27 f_27 q_27 => ?_)
        refine vIf (fun h_35 => ?_) (fun h_35 => ?_)
        · exact T_91 _ _ k_7 hm_7 (by first | assumption | exact z_lt (by assumption) | exact z_lt2 (by assumption) | exact z_lt3 (by assumption) (by first | assumption | decide))
        · refine vB (v_X2_fits) (fun e_58 f_58 q_58 => ?_)
          have b_58 := q_58
          refine vIf (fun h_61 => ?_) (fun h_61 => ?_)
          · exact T_91 _ _ k_7 hm_7 (by first | assumption | exact z_lt (by assumption) | exact z_lt2 (by assumption) | exact z_lt3 (by assumption) (by first | assumption | decide))
          · refine vLm (W := WM_X5_firstRound Q A) (fun a j h => (congrFun (zwr_row (by unfold WM_X5_firstRound at h; omega)) j).trans (k_7 a j h)) (fun M_79 f_79 k_79 => ?_)
            refine vB (v_X5_hold) (fun e_88 f_88 q_88 => ?_)
            have k_88 : ∀ a j, ¬ WM_X5_firstRound Q A a j → e_88 a j = M0 a j := fun a j h => (q_88 a j (by unfold WM_X5_hold; unfold WM_X5_firstRound at h; omega)).trans (k_79 a j h)
            exact T_91 _ _ k_88 hm_7 (by first | assumption | exact z_lt (by assumption) | exact z_lt2 (by assumption) | exact z_lt3 (by assumption) (by first | assumption | decide))
  have T_7 : ∀ (x2_7 : Int32) (M_7 : zMt), (∀ a j, ¬ WM_X5_firstRound Q A a j → M_7 a j = M0 a j) → ∃ r, D_X5_firstRound_7 Q A zFu x2_7 M_7 = some r ∧ ((∀ a j, ¬ WM_X5_firstRound Q A a j → r a j = M0 a j)) := fun x2_7 M_7 k_7 => TL_7 zFu x2_7 M_7 k_7 (zFu_up _)
  unfold D_X5_firstRound
  refine vB (v_X5_rank) (fun e_2 f_2 q_2 => ?_)
  have k_2 : ∀ a j, ¬ WM_X5_firstRound Q A a j → e_2 a j = M0 a j := fun a j h => (q_2 a j (by unfold WM_X5_rank; unfold WM_X5_firstRound at h; omega))
  exact T_7 _ _ k_2
def WM_X5_secondRound (Q A : Nat) (a j : Nat) : Prop := (Q + 2 ≤ a ∧ a < Q + 6)
set_option maxRecDepth 100000 in
set_option maxHeartbeats 4000000 in
theorem v_X5_secondRound {Q : Nat} {A : Nat}  {M0 : zMt}  : ∃ r, D_X5_secondRound Q A M0 = some r ∧ ((∀ a j, ¬ WM_X5_secondRound Q A a j → r a j = M0 a j)) := by
  have TL_2 : ∀ u : Nat, ∀ (x2_2 : Int32) (M_2 : zMt), (∀ a j, ¬ WM_X5_secondRound Q A a j → M_2 a j = M0 a j) → (2147483648 - Int32.toInt x2_2).toNat < u → ∃ r, D_X5_secondRound_2 Q A u x2_2 M_2 = some r ∧ ((∀ a j, ¬ WM_X5_secondRound Q A a j → r a j = M0 a j)) := by
    intro u
    induction u with
    | zero => intro x2_2 M_2 k_2 hm_2; exact absurd hm_2 (Nat.not_lt_zero _)
    | succ u_2 ih_2 =>
      have T_108 : ∀ (x2_108 : Int32) (M_108 : zMt), (∀ a j, ¬ WM_X5_secondRound Q A a j → M_108 a j = M0 a j) → ((2147483648 - Int32.toInt x2_108).toNat < u_2 + 1) → (Int32.toInt x2_108 < 2147483647) → ∃ r, D_X5_secondRound_108 Q A (D_X5_secondRound_2 Q A u_2) x2_108 M_108 = some r ∧ ((∀ a j, ¬ WM_X5_secondRound Q A a j → r a j = M0 a j)) := by
        intro x2_108 M_108 k_108 f0_108 f1_108
        unfold D_X5_secondRound_108
        exact ih_2 _ _ k_108 (z_up1 f1_108 f0_108)
      have TL_48 : ∀ u : Nat, ∀ (x2_48 : Int32) (x3_48 : Int32) (x4_48 : Int32) (x5_48 : Int32) (M_48 : zMt), (∀ a j, ¬ WM_X5_secondRound Q A a j → M_48 a j = M0 a j) → ((2147483648 - Int32.toInt x2_48).toNat < u_2 + 1) → (Int32.toInt x2_48 < 2147483647) → (2147483648 - Int32.toInt x5_48).toNat < u → ∃ r, D_X5_secondRound_48 Q A (D_X5_secondRound_2 Q A u_2) u x2_48 x3_48 x4_48 x5_48 M_48 = some r ∧ ((∀ a j, ¬ WM_X5_secondRound Q A a j → r a j = M0 a j)) := by
        intro u
        induction u with
        | zero => intro x2_48 x3_48 x4_48 x5_48 M_48 k_48 f0_48 f1_48 hm_48; exact absurd hm_48 (Nat.not_lt_zero _)
        | succ u_48 ih_48 =>
          intro x2_48 x3_48 x4_48 x5_48 M_48 k_48 f0_48 f1_48 hm_48
          rw [D_X5_secondRound_48]
          refine vIf (fun h_52 => ?_) (fun h_52 => ?_)
          · exact T_108 _ _ k_48 f0_48 f1_48
          · refine vB (v_X2_wish) (fun e_59 f_59 q_59 => ?_)
            refine vB (v_X2_fits) (fun e_84 f_84 q_84 => ?_)
            have b_84 := q_84
            refine vIf (fun h_87 => ?_) (fun h_87 => ?_)
            · exact ih_48 _ _ _ _ _ k_48 f0_48 f1_48 (z_up1 (by first | assumption | exact z_lt (by assumption) | exact z_lt2 (by assumption) | exact z_lt3 (by assumption) (by first | assumption | decide)) hm_48)
            · refine vB (v_X5_hold) (fun e_96 f_96 q_96 => ?_)
              have k_96 : ∀ a j, ¬ WM_X5_secondRound Q A a j → e_96 a j = M0 a j := fun a j h => (q_96 a j (by unfold WM_X5_hold; unfold WM_X5_secondRound at h; omega)).trans (k_48 a j h)
              exact T_108 _ _ k_96 f0_48 f1_48
      have T_48 : ∀ (x2_48 : Int32) (x3_48 : Int32) (x4_48 : Int32) (x5_48 : Int32) (M_48 : zMt), (∀ a j, ¬ WM_X5_secondRound Q A a j → M_48 a j = M0 a j) → ((2147483648 - Int32.toInt x2_48).toNat < u_2 + 1) → (Int32.toInt x2_48 < 2147483647) → ∃ r, D_X5_secondRound_48 Q A (D_X5_secondRound_2 Q A u_2) zFu x2_48 x3_48 x4_48 x5_48 M_48 = some r ∧ ((∀ a j, ¬ WM_X5_secondRound Q A a j → r a j = M0 a j)) := fun x2_48 x3_48 x4_48 x5_48 M_48 k_48 f0_48 f1_48 => TL_48 zFu x2_48 x3_48 x4_48 x5_48 M_48 k_48 f0_48 f1_48 (zFu_up _)
      have T_43 : ∀ (x2_43 : Int32) (x3_43 : Int32) (y0_43 : Int32) (M_43 : zMt), (∀ a j, ¬ WM_X5_secondRound Q A a j → M_43 a j = M0 a j) → ((2147483648 - Int32.toInt x2_43).toNat < u_2 + 1) → (Int32.toInt x2_43 < 2147483647) → ∃ r, D_X5_secondRound_43 Q A (D_X5_secondRound_2 Q A u_2) x2_43 x3_43 y0_43 M_43 = some r ∧ ((∀ a j, ¬ WM_X5_secondRound Q A a j → r a j = M0 a j)) := by
        intro x2_43 x3_43 y0_43 M_43 k_43 f0_43 f1_43
        unfold D_X5_secondRound_43
        exact T_48 _ _ _ _ _ k_43 f0_43 f1_43
      intro x2_2 M_2 k_2 hm_2
      rw [D_X5_secondRound_2]
      refine vIf (fun h_7 => ?_) (fun h_7 => ?_)
      · exact ⟨_, rfl, k_2⟩
      · refine vIf (fun h_28 => ?_) (fun h_28 => ?_)
        · exact T_43 _ _ _ _ k_2 hm_2 (by first | assumption | exact z_lt (by assumption) | exact z_lt2 (by assumption) | exact z_lt3 (by assumption) (by first | assumption | decide))
        · exact T_43 _ _ _ _ k_2 hm_2 (by first | assumption | exact z_lt (by assumption) | exact z_lt2 (by assumption) | exact z_lt3 (by assumption) (by first | assumption | decide))
  have T_2 : ∀ (x2_2 : Int32) (M_2 : zMt), (∀ a j, ¬ WM_X5_secondRound Q A a j → M_2 a j = M0 a j) → ∃ r, D_X5_secondRound_2 Q A zFu x2_2 M_2 = some r ∧ ((∀ a j, ¬ WM_X5_secondRound Q A a j → r a j = M0 a j)) := fun x2_2 M_2 k_2 => TL_2 zFu x2_2 M_2 k_2 (zFu_up _)
  unfold D_X5_secondRound
  exact T_2 _ _ (fun _ _ _ => rfl)
def WM_X5_settle (Q A : Nat) (a j : Nat) : Prop := (Q + 2 ≤ a ∧ a < Q + 8)
set_option maxRecDepth 100000 in
set_option maxHeartbeats 4000000 in
theorem v_X5_settle {Q : Nat} {A : Nat}  {M0 : zMt}  : ∃ r, D_X5_settle Q A M0 = some r ∧ ((∀ a j, ¬ WM_X5_settle Q A a j → r a j = M0 a j)) := by
  have T_110 : ∀ (M_110 : zMt), (∀ a j, ¬ WM_X5_settle Q A a j → M_110 a j = M0 a j) → ∃ r, D_X5_settle_110 Q A M_110 = some r ∧ ((∀ a j, ¬ WM_X5_settle Q A a j → r a j = M0 a j)) := by
    intro M_110 k_110
    unfold D_X5_settle_110
    refine vB (v_X5_secondRound) (fun e_112 f_112 q_112 => ?_)
    have k_112 : ∀ a j, ¬ WM_X5_settle Q A a j → e_112 a j = M0 a j := fun a j h => (q_112 a j (by unfold WM_X5_secondRound; unfold WM_X5_settle at h; omega)).trans (k_110 a j h)
    exact ⟨_, rfl, k_112⟩
  have TL_36 : ∀ u : Nat, ∀ (x2_36 : Int32) (M_36 : zMt), (∀ a j, ¬ WM_X5_settle Q A a j → M_36 a j = M0 a j) → (2147483648 - Int32.toInt x2_36).toNat < u → ∃ r, D_X5_settle_36 Q A u x2_36 M_36 = some r ∧ ((∀ a j, ¬ WM_X5_settle Q A a j → r a j = M0 a j)) := by
    intro u
    induction u with
    | zero => intro x2_36 M_36 k_36 hm_36; exact absurd hm_36 (Nat.not_lt_zero _)
    | succ u_36 ih_36 =>
      intro x2_36 M_36 k_36 hm_36
      rw [D_X5_settle_36]
      refine vIf (fun h_41 => ?_) (fun h_41 => ?_)
      · refine vIf (fun h_102 => ?_) (fun h_102 => ?_)
        · exact T_110 _ k_36
        · refine vB (v_X5_firstRound) (fun e_107 f_107 q_107 => ?_)
          have k_107 : ∀ a j, ¬ WM_X5_settle Q A a j → e_107 a j = M0 a j := fun a j h => (q_107 a j (by unfold WM_X5_firstRound; unfold WM_X5_settle at h; omega)).trans (k_36 a j h)
          exact T_110 _ k_107
      · refine vLm (W := WM_X5_settle Q A) (fun a j h => (congrFun (zwr_row (by unfold WM_X5_settle at h; omega)) j).trans (k_36 a j h)) (fun M_57 f_57 k_57 => ?_)
        refine vLm (W := WM_X5_settle Q A) (fun a j h => (congrFun (zwr_row (by unfold WM_X5_settle at h; omega)) j).trans (k_57 a j h)) (fun M_73 f_73 k_73 => ?_)
        refine vLm (W := WM_X5_settle Q A) (fun a j h => (congrFun (zwr_row (by unfold WM_X5_settle at h; omega)) j).trans (k_73 a j h)) (fun M_89 f_89 k_89 => ?_)
        exact ih_36 _ _ k_89 (z_up1 (by first | assumption | exact z_lt (by assumption) | exact z_lt2 (by assumption) | exact z_lt3 (by assumption) (by first | assumption | decide)) hm_36)
  have T_36 : ∀ (x2_36 : Int32) (M_36 : zMt), (∀ a j, ¬ WM_X5_settle Q A a j → M_36 a j = M0 a j) → ∃ r, D_X5_settle_36 Q A zFu x2_36 M_36 = some r ∧ ((∀ a j, ¬ WM_X5_settle Q A a j → r a j = M0 a j)) := fun x2_36 M_36 k_36 => TL_36 zFu x2_36 M_36 k_36 (zFu_up _)
  have TL_2 : ∀ u : Nat, ∀ (x2_2 : Int32) (M_2 : zMt), (∀ a j, ¬ WM_X5_settle Q A a j → M_2 a j = M0 a j) → (2147483648 - Int32.toInt x2_2).toNat < u → ∃ r, D_X5_settle_2 Q A u x2_2 M_2 = some r ∧ ((∀ a j, ¬ WM_X5_settle Q A a j → r a j = M0 a j)) := by
    intro u
    induction u with
    | zero => intro x2_2 M_2 k_2 hm_2; exact absurd hm_2 (Nat.not_lt_zero _)
    | succ u_2 ih_2 =>
      intro x2_2 M_2 k_2 hm_2
      rw [D_X5_settle_2]
      refine vIf (fun h_7 => ?_) (fun h_7 => ?_)
      · exact T_36 _ _ k_2
      · refine vLm (W := WM_X5_settle Q A) (fun a j h => (congrFun (zwr_row (by unfold WM_X5_settle at h; omega)) j).trans (k_2 a j h)) (fun M_16 f_16 k_16 => ?_)
        refine vLm (W := WM_X5_settle Q A) (fun a j h => (congrFun (zwr_row (by unfold WM_X5_settle at h; omega)) j).trans (k_16 a j h)) (fun M_25 f_25 k_25 => ?_)
        exact ih_2 _ _ k_25 (z_up1 (by first | assumption | exact z_lt (by assumption) | exact z_lt2 (by assumption) | exact z_lt3 (by assumption) (by first | assumption | decide)) hm_2)
  have T_2 : ∀ (x2_2 : Int32) (M_2 : zMt), (∀ a j, ¬ WM_X5_settle Q A a j → M_2 a j = M0 a j) → ∃ r, D_X5_settle_2 Q A zFu x2_2 M_2 = some r ∧ ((∀ a j, ¬ WM_X5_settle Q A a j → r a j = M0 a j)) := fun x2_2 M_2 k_2 => TL_2 zFu x2_2 M_2 k_2 (zFu_up _)
  unfold D_X5_settle
  exact T_2 _ _ (fun _ _ _ => rfl)
def WM_X0_record (Q A : Nat) (a j : Nat) : Prop := (Q + 2 ≤ a ∧ a < Q + 3)
def WN_X0_record (Q A : Nat) (a j : Nat) : Prop := (Q + 1 ≤ a ∧ a < Q + 2) ∨ (Q + 3 ≤ a ∧ a < Q + 5)
set_option maxRecDepth 100000 in
set_option maxHeartbeats 4000000 in
theorem v_X0_record {Q : Nat} {A : Nat} {v0 : Int64} {M0 : zMt} {N0 : zNt}  : ∃ r, D_X0_record Q A v0 M0 N0 = some r ∧ ((∀ a j, ¬ WM_X0_record Q A a j → r.1 a j = M0 a j) ∧ (∀ a j, ¬ WN_X0_record Q A a j → r.2 a j = N0 a j)) := by
  have TL_6 : ∀ u : Nat, ∀ (x2_6 : Int64) (x4_6 : Int32) (x5_6 : Int32) (M_6 : zMt) (N_6 : zNt), (∀ a j, ¬ WM_X0_record Q A a j → M_6 a j = M0 a j) → (∀ a j, ¬ WN_X0_record Q A a j → N_6 a j = N0 a j) → (2147483648 - Int32.toInt x5_6).toNat < u → ∃ r, D_X0_record_6 Q A u x2_6 x4_6 x5_6 M_6 N_6 = some r ∧ ((∀ a j, ¬ WM_X0_record Q A a j → r.1 a j = M0 a j) ∧ (∀ a j, ¬ WN_X0_record Q A a j → r.2 a j = N0 a j)) := by
    intro u
    induction u with
    | zero => intro x2_6 x4_6 x5_6 M_6 N_6 k_6 kn_6 hm_6; exact absurd hm_6 (Nat.not_lt_zero _)
    | succ u_6 ih_6 =>
      have T_88 : ∀ (x2_88 : Int64) (x4_88 : Int32) (x5_88 : Int32) (M_88 : zMt) (N_88 : zNt), (∀ a j, ¬ WM_X0_record Q A a j → M_88 a j = M0 a j) → (∀ a j, ¬ WN_X0_record Q A a j → N_88 a j = N0 a j) → ((2147483648 - Int32.toInt x5_88).toNat < u_6 + 1) → (Int32.toInt x5_88 < 2147483647) → ∃ r, D_X0_record_88 Q A (D_X0_record_6 Q A u_6) x2_88 x4_88 x5_88 M_88 N_88 = some r ∧ ((∀ a j, ¬ WM_X0_record Q A a j → r.1 a j = M0 a j) ∧ (∀ a j, ¬ WN_X0_record Q A a j → r.2 a j = N0 a j)) := by
        intro x2_88 x4_88 x5_88 M_88 N_88 k_88 kn_88 f0_88 f1_88
        unfold D_X0_record_88
        exact ih_6 _ _ _ _ _ k_88 kn_88 (z_up1 f1_88 f0_88)
      intro x2_6 x4_6 x5_6 M_6 N_6 k_6 kn_6 hm_6
      rw [D_X0_record_6]
      refine vIf (fun h_12 => ?_) (fun h_12 => ?_)
      · refine vLn (W := WN_X0_record Q A) (fun a j h => (congrFun (zwr_row (by unfold WN_X0_record at h; omega)) j).trans (kn_6 a j h)) (fun N_101 f_101 kn_101 => ?_)
        refine vLm (W := WM_X0_record Q A) (fun a j h => (congrFun (zwr_row (by unfold WM_X0_record at h; omega)) j).trans (k_6 a j h)) (fun M_111 f_111 k_111 => ?_)
        exact ⟨_, rfl, k_111, kn_101⟩
      · refine vIf (fun h_32 => ?_) (fun h_32 => ?_)
        · exact T_88 _ _ _ _ _ k_6 kn_6 hm_6 (by first | assumption | exact z_lt (by assumption) | exact z_lt2 (by assumption) | exact z_lt3 (by assumption) (by first | assumption | decide))
        · refine vLn (W := WN_X0_record Q A) (fun a j h => (congrFun (zwr_row (by unfold WN_X0_record at h; omega)) j).trans (kn_6 a j h)) (fun N_59 f_59 kn_59 => ?_)
          refine vIf (fun h_75 => ?_) (fun h_75 => ?_)
          · refine vLn (W := WN_X0_record Q A) (fun a j h => (congrFun (zwr_row (by unfold WN_X0_record at h; omega)) j).trans (kn_59 a j h)) (fun N_85 f_85 kn_85 => ?_)
            exact T_88 _ _ _ _ _ k_6 kn_85 hm_6 (by first | assumption | exact z_lt (by assumption) | exact z_lt2 (by assumption) | exact z_lt3 (by assumption) (by first | assumption | decide))
          · exact T_88 _ _ _ _ _ k_6 kn_59 hm_6 (by first | assumption | exact z_lt (by assumption) | exact z_lt2 (by assumption) | exact z_lt3 (by assumption) (by first | assumption | decide))
  have T_6 : ∀ (x2_6 : Int64) (x4_6 : Int32) (x5_6 : Int32) (M_6 : zMt) (N_6 : zNt), (∀ a j, ¬ WM_X0_record Q A a j → M_6 a j = M0 a j) → (∀ a j, ¬ WN_X0_record Q A a j → N_6 a j = N0 a j) → ∃ r, D_X0_record_6 Q A zFu x2_6 x4_6 x5_6 M_6 N_6 = some r ∧ ((∀ a j, ¬ WM_X0_record Q A a j → r.1 a j = M0 a j) ∧ (∀ a j, ¬ WN_X0_record Q A a j → r.2 a j = N0 a j)) := fun x2_6 x4_6 x5_6 M_6 N_6 k_6 kn_6 => TL_6 zFu x2_6 x4_6 x5_6 M_6 N_6 k_6 kn_6 (zFu_up _)
  unfold D_X0_record
  exact T_6 _ _ _ _ _ (fun _ _ _ => rfl) (fun _ _ _ => rfl)
def WM_X0_walk (Q A : Nat) (a j : Nat) : Prop := (Q + 2 ≤ a ∧ a < Q + 3) ∨ (Q + 6 ≤ a ∧ a < Q + 13)
def WN_X0_walk (Q A : Nat) (a j : Nat) : Prop := (Q + 1 ≤ a ∧ a < Q + 2) ∨ (Q + 3 ≤ a ∧ a < Q + 5)
set_option maxRecDepth 100000 in
set_option maxHeartbeats 4000000 in
theorem v_X0_walk_w {Q : Nat} {A : Nat} {M0 : zMt} {N0 : zNt}  : ∀ (w : Nat) (v0 : Int32) (v1 : Int32) (v2 : Int32) (v3 : Int64)(M : zMt) (N : zNt), (∀ a j, ¬ WM_X0_walk Q A a j → M a j = M0 a j) → (∀ a j, ¬ WN_X0_walk Q A a j → N a j = N0 a j) → (7 - Int32.toInt v0).toNat < w → ∃ r, D_X0_walk Q A w v0 v1 v2 v3 M N = some r ∧ ((∀ a j, ¬ WM_X0_walk Q A a j → r.1 a j = M0 a j) ∧ (∀ a j, ¬ WN_X0_walk Q A a j → r.2 a j = N0 a j)) := by
  intro w
  induction w with
  | zero => intro v0 v1 v2 v3 M N k0 kn0 hm; exact absurd hm (Nat.not_lt_zero _)
  | succ w ihw =>
    have TL_35 : ∀ u : Nat, ∀ (x2_35 : Int32) (x3_35 : Int32) (x4_35 : Int32) (x5_35 : Int64) (x7_35 : Int32) (M_35 : zMt) (N_35 : zNt), (∀ a j, ¬ WM_X0_walk Q A a j → M_35 a j = M0 a j) → (∀ a j, ¬ WN_X0_walk Q A a j → N_35 a j = N0 a j) → ((7 - Int32.toInt x2_35).toNat < w + 1) → (¬ 7 ≤ x2_35) → (¬ x4_35 ≤ 0) → (2147483648 - Int32.toInt x7_35).toNat < u → ∃ r, D_X0_walk_35 Q A (D_X0_walk Q A w) u x2_35 x3_35 x4_35 x5_35 x7_35 M_35 N_35 = some r ∧ ((∀ a j, ¬ WM_X0_walk Q A a j → r.1 a j = M0 a j) ∧ (∀ a j, ¬ WN_X0_walk Q A a j → r.2 a j = N0 a j)) := by
      intro u
      induction u with
      | zero => intro x2_35 x3_35 x4_35 x5_35 x7_35 M_35 N_35 k_35 kn_35 f0_35 f1_35 f2_35 hm_35; exact absurd hm_35 (Nat.not_lt_zero _)
      | succ u_35 ih_35 =>
        have T_109 : ∀ (x2_109 : Int32) (x3_109 : Int32) (x4_109 : Int32) (x5_109 : Int64) (x7_109 : Int32) (M_109 : zMt) (N_109 : zNt), (∀ a j, ¬ WM_X0_walk Q A a j → M_109 a j = M0 a j) → (∀ a j, ¬ WN_X0_walk Q A a j → N_109 a j = N0 a j) → ((2147483648 - Int32.toInt x7_109).toNat < u_35 + 1) → (Int32.toInt x7_109 < 2147483647) → ((7 - Int32.toInt x2_109).toNat < w + 1) → (¬ 7 ≤ x2_109) → (¬ x4_109 ≤ 0) → ∃ r, D_X0_walk_109 Q A (D_X0_walk Q A w) (D_X0_walk_35 Q A (D_X0_walk Q A w) u_35) x2_109 x3_109 x4_109 x5_109 x7_109 M_109 N_109 = some r ∧ ((∀ a j, ¬ WM_X0_walk Q A a j → r.1 a j = M0 a j) ∧ (∀ a j, ¬ WN_X0_walk Q A a j → r.2 a j = N0 a j)) := by
          intro x2_109 x3_109 x4_109 x5_109 x7_109 M_109 N_109 k_109 kn_109 f0_109 f1_109 f2_109 f3_109 f4_109
          unfold D_X0_walk_109
          exact ih_35 _ _ _ _ _ _ _ k_109 kn_109 (by assumption) (by assumption) (by first | assumption | exact Int32.not_le.mpr (by assumption)) (z_up1 f1_109 f0_109)
        intro x2_35 x3_35 x4_35 x5_35 x7_35 M_35 N_35 k_35 kn_35 f0_35 f1_35 f2_35 hm_35
        rw [D_X0_walk_35]
        refine vIf (fun h_41 => ?_) (fun h_41 => ?_)
        · exact ⟨_, rfl, k_35, kn_35⟩
        · refine vIf (fun h_51 => ?_) (fun h_51 => ?_)
          · refine vLm (W := WM_X0_walk Q A) (fun a j h => (congrFun (zwr_row (by unfold WM_X0_walk at h; omega)) j).trans (k_35 a j h)) (fun M_75 f_75 k_75 => ?_)
            refine vZl (by first | assumption | exact z_nzl (by assumption)) ?_
            refine vB (ihw _ _ _ _ _ _ k_75 kn_35 (by first | assumption | exact z_dep (by assumption) (by assumption))) (fun e_106 f_106 q_106 => ?_)
            have k_106 := q_106.1
            have kn_106 := q_106.2
            exact T_109 _ _ _ _ _ _ _ k_106 kn_106 hm_35 (by first | assumption | exact z_lt (by assumption) | exact z_lt2 (by assumption) | exact z_lt3 (by assumption) (by first | assumption | decide)) (by assumption) (by assumption) (by first | assumption | exact Int32.not_le.mpr (by assumption))
          · exact T_109 _ _ _ _ _ _ _ k_35 kn_35 hm_35 (by first | assumption | exact z_lt (by assumption) | exact z_lt2 (by assumption) | exact z_lt3 (by assumption) (by first | assumption | decide)) (by assumption) (by assumption) (by first | assumption | exact Int32.not_le.mpr (by assumption))
    have T_35 : ∀ (x2_35 : Int32) (x3_35 : Int32) (x4_35 : Int32) (x5_35 : Int64) (x7_35 : Int32) (M_35 : zMt) (N_35 : zNt), (∀ a j, ¬ WM_X0_walk Q A a j → M_35 a j = M0 a j) → (∀ a j, ¬ WN_X0_walk Q A a j → N_35 a j = N0 a j) → ((7 - Int32.toInt x2_35).toNat < w + 1) → (¬ 7 ≤ x2_35) → (¬ x4_35 ≤ 0) → ∃ r, D_X0_walk_35 Q A (D_X0_walk Q A w) zFu x2_35 x3_35 x4_35 x5_35 x7_35 M_35 N_35 = some r ∧ ((∀ a j, ¬ WM_X0_walk Q A a j → r.1 a j = M0 a j) ∧ (∀ a j, ¬ WN_X0_walk Q A a j → r.2 a j = N0 a j)) := fun x2_35 x3_35 x4_35 x5_35 x7_35 M_35 N_35 k_35 kn_35 f0_35 f1_35 f2_35 => TL_35 zFu x2_35 x3_35 x4_35 x5_35 x7_35 M_35 N_35 k_35 kn_35 f0_35 f1_35 f2_35 (zFu_up _)
    have T_31 : ∀ (M_31 : zMt) (N_31 : zNt), (∀ a j, ¬ WM_X0_walk Q A a j → M_31 a j = M0 a j) → (∀ a j, ¬ WN_X0_walk Q A a j → N_31 a j = N0 a j) → ∃ r, D_X0_walk_31 Q A (D_X0_walk Q A w) M_31 N_31 = some r ∧ ((∀ a j, ¬ WM_X0_walk Q A a j → r.1 a j = M0 a j) ∧ (∀ a j, ¬ WN_X0_walk Q A a j → r.2 a j = N0 a j)) := by
      intro M_31 N_31 k_31 kn_31
      unfold D_X0_walk_31
      exact ⟨_, rfl, k_31, kn_31⟩
    intro v0 v1 v2 v3 M N k0 kn0 hm
    rw [D_X0_walk]
    refine vIf (fun h_1 => ?_) (fun h_1 => ?_)
    · refine vB (v_X5_settle) (fun e_9 f_9 q_9 => ?_)
      have k_9 : ∀ a j, ¬ WM_X0_walk Q A a j → e_9 a j = M0 a j := fun a j h => (q_9 a j (by unfold WM_X5_settle; unfold WM_X0_walk at h; omega)).trans (k0 a j h)
      refine vB (v_X0_record) (fun e_16 f_16 q_16 => ?_)
      have k_16 : ∀ a j, ¬ WM_X0_walk Q A a j → e_16.1 a j = M0 a j := fun a j h => (q_16.1 a j (by unfold WM_X0_record; unfold WM_X0_walk at h; omega)).trans (k_9 a j h)
      have kn_16 : ∀ a j, ¬ WN_X0_walk Q A a j → e_16.2 a j = N0 a j := fun a j h => (q_16.2 a j (by unfold WN_X0_record; unfold WN_X0_walk at h; omega)).trans (kn0 a j h)
      exact ⟨_, rfl, k_16, kn_16⟩
    · refine vIf (fun h_23 => ?_) (fun h_23 => ?_)
      · exact T_31 _ _ k0 kn0
      · refine vIf (fun h_28 => ?_) (fun h_28 => ?_)
        · exact T_35 _ _ _ _ _ _ _ k0 kn0 (by assumption) (by assumption) (by first | assumption | exact Int32.not_le.mpr (by assumption))
        · exact T_31 _ _ k0 kn0
theorem v_X0_walk {Q : Nat} {A : Nat} {v0 : Int32} {v1 : Int32} {v2 : Int32} {v3 : Int64} {M0 : zMt} {N0 : zNt} (hm : (7 - Int32.toInt v0).toNat < zRec) : ∃ r, D_X0_walk Q A zRec v0 v1 v2 v3 M0 N0 = some r ∧ ((∀ a j, ¬ WM_X0_walk Q A a j → r.1 a j = M0 a j) ∧ (∀ a j, ¬ WN_X0_walk Q A a j → r.2 a j = N0 a j)) := v_X0_walk_w zRec _ _ _ _ _ _ (fun _ _ _ => rfl) (fun _ _ _ => rfl) hm
def WM_X0_reckon (Q A : Nat) (a j : Nat) : Prop := (Q + 2 ≤ a ∧ a < Q + 3) ∨ (Q + 6 ≤ a ∧ a < Q + 13)
def WN_X0_reckon (Q A : Nat) (a j : Nat) : Prop := (Q + 1 ≤ a ∧ a < Q + 2) ∨ (Q + 3 ≤ a ∧ a < Q + 5)
set_option maxRecDepth 100000 in
set_option maxHeartbeats 4000000 in
theorem v_X0_reckon {Q : Nat} {A : Nat}  {M0 : zMt} {N0 : zNt}  : ∃ r, D_X0_reckon Q A M0 N0 = some r ∧ ((∀ a j, ¬ WM_X0_reckon Q A a j → r.1 a j = M0 a j) ∧ (∀ a j, ¬ WN_X0_reckon Q A a j → r.2 a j = N0 a j)) := by
  have T_62 : ∀ (M_62 : zMt) (N_62 : zNt), (∀ a j, ¬ WM_X0_reckon Q A a j → M_62 a j = M0 a j) → (∀ a j, ¬ WN_X0_reckon Q A a j → N_62 a j = N0 a j) → ∃ r, D_X0_reckon_62 Q A M_62 N_62 = some r ∧ ((∀ a j, ¬ WM_X0_reckon Q A a j → r.1 a j = M0 a j) ∧ (∀ a j, ¬ WN_X0_reckon Q A a j → r.2 a j = N0 a j)) := by
    intro M_62 N_62 k_62 kn_62
    unfold D_X0_reckon_62
    exact ⟨_, rfl, k_62, kn_62⟩
  unfold D_X0_reckon
  refine vLn (W := WN_X0_reckon Q A) (fun a j h => (congrFun (zfil_row (by unfold WN_X0_reckon at h; omega)) j)) (fun N_5 f_5 kn_5 => ?_)
  refine vLm (W := WM_X0_reckon Q A) (fun a j h => (congrFun (zfil_row (by unfold WM_X0_reckon at h; omega)) j)) (fun M_13 f_13 k_13 => ?_)
  refine vLn (W := WN_X0_reckon Q A) (fun a j h => (congrFun (zfil_row (by unfold WN_X0_reckon at h; omega)) j).trans (kn_5 a j h)) (fun N_21 f_21 kn_21 => ?_)
  refine vLn (W := WN_X0_reckon Q A) (fun a j h => (congrFun (zfil_row (by unfold WN_X0_reckon at h; omega)) j).trans (kn_21 a j h)) (fun N_29 f_29 kn_29 => ?_)
  refine vIf (fun h_38 => ?_) (fun h_38 => ?_)
  · exact T_62 _ _ k_13 kn_29
  · refine vB (v_X0_walk (by decide)) (fun e_59 f_59 q_59 => ?_)
    have k_59 : ∀ a j, ¬ WM_X0_reckon Q A a j → e_59.1 a j = M0 a j := fun a j h => (q_59.1 a j (by unfold WM_X0_walk; unfold WM_X0_reckon at h; omega)).trans (k_13 a j h)
    have kn_59 : ∀ a j, ¬ WN_X0_reckon Q A a j → e_59.2 a j = N0 a j := fun a j h => (q_59.2 a j (by unfold WN_X0_walk; unfold WN_X0_reckon at h; omega)).trans (kn_29 a j h)
    exact T_62 _ _ k_59 kn_59
set_option maxRecDepth 100000 in
set_option maxHeartbeats 4000000 in
theorem v_X0_certainUnit {Q : Nat} {N : zNt} {v0 : Int32} {v1 : Int32}  : ∃ r, D_X0_certainUnit Q N v0 v1 = some r ∧ (True) := by
  unfold D_X0_certainUnit
  exact ⟨_, rfl, trivial⟩
set_option maxRecDepth 100000 in
set_option maxHeartbeats 4000000 in
theorem v_X0_allOf {Q : Nat} {N : zNt} {v0 : Int32}  : ∃ r, D_X0_allOf Q N v0 = some r ∧ (True) := by
  have TL_5 : ∀ u : Nat, ∀ (x1_5 : Int32) (x2_5 : Int64) (x4_5 : Int32), (2147483648 - Int32.toInt x4_5).toNat < u → ∃ r, D_X0_allOf_5 Q N u x1_5 x2_5 x4_5 = some r ∧ (True) := by
    intro u
    induction u with
    | zero => intro x1_5 x2_5 x4_5 hm_5; exact absurd hm_5 (Nat.not_lt_zero _)
    | succ u_5 ih_5 =>
      have T_33 : ∀ (x1_33 : Int32) (x2_33 : Int64) (x4_33 : Int32), ((2147483648 - Int32.toInt x4_33).toNat < u_5 + 1) → (Int32.toInt x4_33 < 2147483647) → ∃ r, D_X0_allOf_33 Q N (D_X0_allOf_5 Q N u_5) x1_33 x2_33 x4_33 = some r ∧ (True) := by
        intro x1_33 x2_33 x4_33 f0_33 f1_33
        unfold D_X0_allOf_33
        exact ih_5 _ _ _ (z_up1 f1_33 f0_33)
      intro x1_5 x2_5 x4_5 hm_5
      rw [D_X0_allOf_5]
      refine vIf (fun h_10 => ?_) (fun h_10 => ?_)
      · exact ⟨_, rfl, trivial⟩
      · refine vIf (fun h_18 => ?_) (fun h_18 => ?_)
        · exact T_33 _ _ _ hm_5 (by first | assumption | exact z_lt (by assumption) | exact z_lt2 (by assumption) | exact z_lt3 (by assumption) (by first | assumption | decide))
        · exact T_33 _ _ _ hm_5 (by first | assumption | exact z_lt (by assumption) | exact z_lt2 (by assumption) | exact z_lt3 (by assumption) (by first | assumption | decide))
  have T_5 : ∀ (x1_5 : Int32) (x2_5 : Int64) (x4_5 : Int32), ∃ r, D_X0_allOf_5 Q N zFu x1_5 x2_5 x4_5 = some r ∧ (True) := fun x1_5 x2_5 x4_5 => TL_5 zFu x1_5 x2_5 x4_5 (zFu_up _)
  unfold D_X0_allOf
  exact T_5 _ _ _
set_option maxRecDepth 100000 in
set_option maxHeartbeats 4000000 in
theorem v_X0_anyUnit {Q : Nat} {N : zNt} {v0 : Int32}  : ∃ r, D_X0_anyUnit Q N v0 = some r ∧ (True) := by
  unfold D_X0_anyUnit
  refine vB (v_X0_allOf) (fun e_4 f_4 q_4 => ?_)
  exact ⟨_, rfl, trivial⟩
set_option maxRecDepth 100000 in
set_option maxHeartbeats 4000000 in
theorem v_X0_always {Q : Nat} {M : zMt}   : ∃ r, D_X0_always Q M = some r ∧ (True) := by
  have TL_5 : ∀ u : Nat, ∀ (x1_5 : Int32) (x2_5 : Int32), (2147483648 - Int32.toInt x2_5).toNat < u → ∃ r, D_X0_always_5 Q M u x1_5 x2_5 = some r ∧ (True) := by
    intro u
    induction u with
    | zero => intro x1_5 x2_5 hm_5; exact absurd hm_5 (Nat.not_lt_zero _)
    | succ u_5 ih_5 =>
      have T_28 : ∀ (x1_28 : Int32) (x2_28 : Int32), ((2147483648 - Int32.toInt x2_28).toNat < u_5 + 1) → (Int32.toInt x2_28 < 2147483647) → ∃ r, D_X0_always_28 Q M (D_X0_always_5 Q M u_5) x1_28 x2_28 = some r ∧ (True) := by
        intro x1_28 x2_28 f0_28 f1_28
        unfold D_X0_always_28
        exact ih_5 _ _ (z_up1 f1_28 f0_28)
      intro x1_5 x2_5 hm_5
      rw [D_X0_always_5]
      refine vIf (fun h_9 => ?_) (fun h_9 => ?_)
      · exact ⟨_, rfl, trivial⟩
      · refine vIf (fun h_21 => ?_) (fun h_21 => ?_)
        · exact T_28 _ _ hm_5 (by first | assumption | exact z_lt (by assumption) | exact z_lt2 (by assumption) | exact z_lt3 (by assumption) (by first | assumption | decide))
        · exact T_28 _ _ hm_5 (by first | assumption | exact z_lt (by assumption) | exact z_lt2 (by assumption) | exact z_lt3 (by assumption) (by first | assumption | decide))
  have T_5 : ∀ (x1_5 : Int32) (x2_5 : Int32), ∃ r, D_X0_always_5 Q M zFu x1_5 x2_5 = some r ∧ (True) := fun x1_5 x2_5 => TL_5 zFu x1_5 x2_5 (zFu_up _)
  unfold D_X0_always
  exact T_5 _ _
set_option maxRecDepth 100000 in
set_option maxHeartbeats 4000000 in
theorem v_X0_ever {Q : Nat} {M : zMt}   : ∃ r, D_X0_ever Q M = some r ∧ (True) := by
  have TL_4 : ∀ u : Nat, ∀ (x1_4 : Int32) (x2_4 : Int32), (2147483648 - Int32.toInt x2_4).toNat < u → ∃ r, D_X0_ever_4 Q M u x1_4 x2_4 = some r ∧ (True) := by
    intro u
    induction u with
    | zero => intro x1_4 x2_4 hm_4; exact absurd hm_4 (Nat.not_lt_zero _)
    | succ u_4 ih_4 =>
      have T_27 : ∀ (x1_27 : Int32) (x2_27 : Int32), ((2147483648 - Int32.toInt x2_27).toNat < u_4 + 1) → (Int32.toInt x2_27 < 2147483647) → ∃ r, D_X0_ever_27 Q M (D_X0_ever_4 Q M u_4) x1_27 x2_27 = some r ∧ (True) := by
        intro x1_27 x2_27 f0_27 f1_27
        unfold D_X0_ever_27
        exact ih_4 _ _ (z_up1 f1_27 f0_27)
      intro x1_4 x2_4 hm_4
      rw [D_X0_ever_4]
      refine vIf (fun h_8 => ?_) (fun h_8 => ?_)
      · exact ⟨_, rfl, trivial⟩
      · refine vIf (fun h_20 => ?_) (fun h_20 => ?_)
        · exact T_27 _ _ hm_4 (by first | assumption | exact z_lt (by assumption) | exact z_lt2 (by assumption) | exact z_lt3 (by assumption) (by first | assumption | decide))
        · exact T_27 _ _ hm_4 (by first | assumption | exact z_lt (by assumption) | exact z_lt2 (by assumption) | exact z_lt3 (by assumption) (by first | assumption | decide))
  have T_4 : ∀ (x1_4 : Int32) (x2_4 : Int32), ∃ r, D_X0_ever_4 Q M zFu x1_4 x2_4 = some r ∧ (True) := fun x1_4 x2_4 => TL_4 zFu x1_4 x2_4 (zFu_up _)
  unfold D_X0_ever
  exact T_4 _ _
set_option maxRecDepth 100000 in
set_option maxHeartbeats 4000000 in
theorem v_X0_tagsOf {Q : Nat} {M : zMt} {v0 : Int32}  : ∃ r, D_X0_tagsOf Q M v0 = some r ∧ (True) := by
  have TL_4 : ∀ u : Nat, ∀ (x1_4 : Int32) (x2_4 : Int32) (x3_4 : Int32), (2147483648 - Int32.toInt x3_4).toNat < u → ∃ r, D_X0_tagsOf_4 Q M u x1_4 x2_4 x3_4 = some r ∧ (True) := by
    intro u
    induction u with
    | zero => intro x1_4 x2_4 x3_4 hm_4; exact absurd hm_4 (Nat.not_lt_zero _)
    | succ u_4 ih_4 =>
      have T_34 : ∀ (x1_34 : Int32) (x3_34 : Int32) (y0_34 : Int32) (y1_34 : Int32), ((2147483648 - Int32.toInt x3_34).toNat < u_4 + 1) → (Int32.toInt x3_34 < 2147483647) → ∃ r, D_X0_tagsOf_34 Q M (D_X0_tagsOf_4 Q M u_4) x1_34 x3_34 y0_34 y1_34 = some r ∧ (True) := by
        intro x1_34 x3_34 y0_34 y1_34 f0_34 f1_34
        unfold D_X0_tagsOf_34
        exact ih_4 _ _ _ (z_up1 f1_34 f0_34)
      intro x1_4 x2_4 x3_4 hm_4
      rw [D_X0_tagsOf_4]
      refine vIf (fun h_9 => ?_) (fun h_9 => ?_)
      · exact ⟨_, rfl, trivial⟩
      · refine vIf (fun h_19 => ?_) (fun h_19 => ?_)
        · exact T_34 _ _ _ _ hm_4 (by first | assumption | exact z_lt (by assumption) | exact z_lt2 (by assumption) | exact z_lt3 (by assumption) (by first | assumption | decide))
        · exact T_34 _ _ _ _ hm_4 (by first | assumption | exact z_lt (by assumption) | exact z_lt2 (by assumption) | exact z_lt3 (by assumption) (by first | assumption | decide))
  have T_4 : ∀ (x1_4 : Int32) (x2_4 : Int32) (x3_4 : Int32), ∃ r, D_X0_tagsOf_4 Q M zFu x1_4 x2_4 x3_4 = some r ∧ (True) := fun x1_4 x2_4 x3_4 => TL_4 zFu x1_4 x2_4 x3_4 (zFu_up _)
  unfold D_X0_tagsOf
  exact T_4 _ _ _
set_option maxRecDepth 100000 in
set_option maxHeartbeats 4000000 in
theorem v_X0_fewestTags {Q : Nat} {A : Nat} {M : zMt}   : ∃ r, D_X0_fewestTags Q A M = some r ∧ (True) := by
  have TL_5 : ∀ u : Nat, ∀ (x2_5 : Int32) (x3_5 : Int32), (2147483648 - Int32.toInt x3_5).toNat < u → ∃ r, D_X0_fewestTags_5 Q A M u x2_5 x3_5 = some r ∧ (True) := by
    intro u
    induction u with
    | zero => intro x2_5 x3_5 hm_5; exact absurd hm_5 (Nat.not_lt_zero _)
    | succ u_5 ih_5 =>
      have T_34 : ∀ (x2_34 : Int32) (x3_34 : Int32), ((2147483648 - Int32.toInt x3_34).toNat < u_5 + 1) → (Int32.toInt x3_34 < 2147483647) → ∃ r, D_X0_fewestTags_34 Q A M (D_X0_fewestTags_5 Q A M u_5) x2_34 x3_34 = some r ∧ (True) := by
        intro x2_34 x3_34 f0_34 f1_34
        unfold D_X0_fewestTags_34
        exact ih_5 _ _ (z_up1 f1_34 f0_34)
      intro x2_5 x3_5 hm_5
      rw [D_X0_fewestTags_5]
      refine vIf (fun h_9 => ?_) (fun h_9 => ?_)
      · exact ⟨_, rfl, trivial⟩
      · refine vIf (fun h_21 => ?_) (fun h_21 => ?_)
        · refine vB (v_X0_tagsOf) (fun e_27 f_27 q_27 => ?_)
          exact T_34 _ _ hm_5 (by first | assumption | exact z_lt (by assumption) | exact z_lt2 (by assumption) | exact z_lt3 (by assumption) (by first | assumption | decide))
        · exact T_34 _ _ hm_5 (by first | assumption | exact z_lt (by assumption) | exact z_lt2 (by assumption) | exact z_lt3 (by assumption) (by first | assumption | decide))
  have T_5 : ∀ (x2_5 : Int32) (x3_5 : Int32), ∃ r, D_X0_fewestTags_5 Q A M zFu x2_5 x3_5 = some r ∧ (True) := fun x2_5 x3_5 => TL_5 zFu x2_5 x3_5 (zFu_up _)
  unfold D_X0_fewestTags
  exact T_5 _ _
set_option maxRecDepth 100000 in
set_option maxHeartbeats 4000000 in
theorem v_X0_mostTags {Q : Nat} {A : Nat} {M : zMt}   : ∃ r, D_X0_mostTags Q A M = some r ∧ (True) := by
  have TL_4 : ∀ u : Nat, ∀ (x2_4 : Int32) (x3_4 : Int32), (2147483648 - Int32.toInt x3_4).toNat < u → ∃ r, D_X0_mostTags_4 Q A M u x2_4 x3_4 = some r ∧ (True) := by
    intro u
    induction u with
    | zero => intro x2_4 x3_4 hm_4; exact absurd hm_4 (Nat.not_lt_zero _)
    | succ u_4 ih_4 =>
      have T_33 : ∀ (x2_33 : Int32) (x3_33 : Int32), ((2147483648 - Int32.toInt x3_33).toNat < u_4 + 1) → (Int32.toInt x3_33 < 2147483647) → ∃ r, D_X0_mostTags_33 Q A M (D_X0_mostTags_4 Q A M u_4) x2_33 x3_33 = some r ∧ (True) := by
        intro x2_33 x3_33 f0_33 f1_33
        unfold D_X0_mostTags_33
        exact ih_4 _ _ (z_up1 f1_33 f0_33)
      intro x2_4 x3_4 hm_4
      rw [D_X0_mostTags_4]
      refine vIf (fun h_8 => ?_) (fun h_8 => ?_)
      · exact ⟨_, rfl, trivial⟩
      · refine vIf (fun h_20 => ?_) (fun h_20 => ?_)
        · refine vB (v_X0_tagsOf) (fun e_26 f_26 q_26 => ?_)
          exact T_33 _ _ hm_4 (by first | assumption | exact z_lt (by assumption) | exact z_lt2 (by assumption) | exact z_lt3 (by assumption) (by first | assumption | decide))
        · exact T_33 _ _ hm_4 (by first | assumption | exact z_lt (by assumption) | exact z_lt2 (by assumption) | exact z_lt3 (by assumption) (by first | assumption | decide))
  have T_4 : ∀ (x2_4 : Int32) (x3_4 : Int32), ∃ r, D_X0_mostTags_4 Q A M zFu x2_4 x3_4 = some r ∧ (True) := fun x2_4 x3_4 => TL_4 zFu x2_4 x3_4 (zFu_up _)
  unfold D_X0_mostTags
  exact T_4 _ _
def WM_X1_forget (Q : Nat) (a j : Nat) : Prop := (a = Q ∧ (j = 0))
set_option maxRecDepth 100000 in
set_option maxHeartbeats 4000000 in
theorem v_X1_forget {Q : Nat}  {M0 : zMt}  : ∃ r, D_X1_forget Q M0 = some r ∧ ((∀ a j, ¬ WM_X1_forget Q a j → r a j = M0 a j)) := by
  unfold D_X1_forget
  refine vLm (W := WM_X1_forget Q) (fun a j h => (zu_ne (by unfold WM_X1_forget at h; omega))) (fun M_2 f_2 k_2 => ?_)
  exact ⟨_, rfl, k_2⟩
def WM_X2_gatherUnits (Q A : Nat) (a j : Nat) : Prop := (Q + 1 ≤ a ∧ a < Q + 4) ∨ (a = Q ∧ (j = 0 ∨ j = 3))
set_option maxRecDepth 100000 in
set_option maxHeartbeats 4000000 in
theorem v_X2_gatherUnits {Q : Nat} {A : Nat}  {M0 : zMt}  : ∃ r, D_X2_gatherUnits Q A M0 = some r ∧ ((∀ a j, ¬ WM_X2_gatherUnits Q A a j → r a j = M0 a j)) := by
  have TL_15 : ∀ u : Nat, ∀ (x2_15 : Int32) (M_15 : zMt), (∀ a j, ¬ WM_X2_gatherUnits Q A a j → M_15 a j = M0 a j) → (M_15 Q 3 = 0 ∨ M_15 Q 3 = 1) → (2147483648 - Int32.toInt x2_15).toNat < u → ∃ r, D_X2_gatherUnits_15 Q A u x2_15 M_15 = some r ∧ ((∀ a j, ¬ WM_X2_gatherUnits Q A a j → r a j = M0 a j)) := by
    intro u
    induction u with
    | zero => intro x2_15 M_15 k_15 f0_15 hm_15; exact absurd hm_15 (Nat.not_lt_zero _)
    | succ u_15 ih_15 =>
      have T_96 : ∀ (x2_96 : Int32) (y1_96 : Int32) (y2_96 : Int32) (M_96 : zMt), (∀ a j, ¬ WM_X2_gatherUnits Q A a j → M_96 a j = M0 a j) → (y2_96 = 0 ∨ y2_96 = 1) → ((2147483648 - Int32.toInt x2_96).toNat < u_15 + 1) → (Int32.toInt x2_96 < 2147483647) → (y1_96 = 0 ∨ y1_96 = 1) → ∃ r, D_X2_gatherUnits_96 Q A (D_X2_gatherUnits_15 Q A u_15) x2_96 y1_96 y2_96 M_96 = some r ∧ ((∀ a j, ¬ WM_X2_gatherUnits Q A a j → r a j = M0 a j)) := by
        intro x2_96 y1_96 y2_96 M_96 k_96 f0_96 f1_96 f2_96 f3_96
        unfold D_X2_gatherUnits_96
        refine vO (z_or01 (by assumption) (by assumption)) ?_
        refine vLm (W := WM_X2_gatherUnits Q A) (fun a j h => (zu_ne (by unfold WM_X2_gatherUnits at h; omega)).trans (k_96 a j h)) (fun M_97 f_97 k_97 => ?_)
        exact ih_15 _ _ k_97 (by first | (rw [← f_10]; exact Or.inl zu_eq) | (rw [← f_97, zu_eq]; exact z_or01 (by assumption) (by assumption))) (z_up1 f2_96 f1_96)
      intro x2_15 M_15 k_15 f0_15 hm_15
      rw [D_X2_gatherUnits_15]
      refine vIf (fun h_20 => ?_) (fun h_20 => ?_)
      · exact ⟨_, rfl, k_15⟩
      · refine vLm (W := WM_X2_gatherUnits Q A) (fun a j h => (congrFun (zwr_row (by unfold WM_X2_gatherUnits at h; omega)) j).trans (k_15 a j h)) (fun M_38 f_38 k_38 => ?_)
        refine vLm (W := WM_X2_gatherUnits Q A) (fun a j h => (congrFun (zwr_row (by unfold WM_X2_gatherUnits at h; omega)) j).trans (k_38 a j h)) (fun M_55 f_55 k_55 => ?_)
        refine vLm (W := WM_X2_gatherUnits Q A) (fun a j h => (congrFun (zwr_row (by unfold WM_X2_gatherUnits at h; omega)) j).trans (k_55 a j h)) (fun M_72 f_72 k_72 => ?_)
        refine vIf (fun h_88 => ?_) (fun h_88 => ?_)
        · exact T_96 _ _ _ _ k_72 (by first | exact Or.inl rfl | exact Or.inr rfl | assumption) hm_15 (by first | assumption | exact z_lt (by assumption) | exact z_lt2 (by assumption) | exact z_lt3 (by assumption) (by first | assumption | decide)) (by rw [← f_72, congrFun (zwr_row (show Q ≠ Q + 3 by omega)) 3, ← f_55, congrFun (zwr_row (show Q ≠ Q + 2 by omega)) 3, ← f_38, congrFun (zwr_row (show Q ≠ Q + 1 by omega)) 3]; assumption)
        · exact T_96 _ _ _ _ k_72 (by first | exact Or.inl rfl | exact Or.inr rfl | assumption) hm_15 (by first | assumption | exact z_lt (by assumption) | exact z_lt2 (by assumption) | exact z_lt3 (by assumption) (by first | assumption | decide)) (by rw [← f_72, congrFun (zwr_row (show Q ≠ Q + 3 by omega)) 3, ← f_55, congrFun (zwr_row (show Q ≠ Q + 2 by omega)) 3, ← f_38, congrFun (zwr_row (show Q ≠ Q + 1 by omega)) 3]; assumption)
  have T_15 : ∀ (x2_15 : Int32) (M_15 : zMt), (∀ a j, ¬ WM_X2_gatherUnits Q A a j → M_15 a j = M0 a j) → (M_15 Q 3 = 0 ∨ M_15 Q 3 = 1) → ∃ r, D_X2_gatherUnits_15 Q A zFu x2_15 M_15 = some r ∧ ((∀ a j, ¬ WM_X2_gatherUnits Q A a j → r a j = M0 a j)) := fun x2_15 M_15 k_15 f0_15 => TL_15 zFu x2_15 M_15 k_15 f0_15 (zFu_up _)
  unfold D_X2_gatherUnits
  refine vLm (W := WM_X2_gatherUnits Q A) (fun a j h => (zu_ne (by unfold WM_X2_gatherUnits at h; omega))) (fun M_5 f_5 k_5 => ?_)
  refine vLm (W := WM_X2_gatherUnits Q A) (fun a j h => (zu_ne (by unfold WM_X2_gatherUnits at h; omega)).trans (k_5 a j h)) (fun M_10 f_10 k_10 => ?_)
  exact T_15 _ _ k_10 (by first | (rw [← f_10]; exact Or.inl zu_eq) | (rw [← f_97, zu_eq]; exact z_or01 (by assumption) (by assumption)))
def WM_X2_open (Q : Nat) (a j : Nat) : Prop := (Q + 5 ≤ a ∧ a < Q + 8) ∨ (Q + 9 ≤ a ∧ a < Q + 11) ∨ (a = Q ∧ (j = 1))
set_option maxRecDepth 100000 in
set_option maxHeartbeats 4000000 in
theorem v_X2_open {Q : Nat} {v0 : Int32} {M0 : zMt}  : ∃ r, D_X2_open Q v0 M0 = some r ∧ ((∀ a j, ¬ WM_X2_open Q a j → r a j = M0 a j)) := by
  unfold D_X2_open
  refine vLm (W := WM_X2_open Q) (fun a j h => (congrFun (zwr_row (by unfold WM_X2_open at h; omega)) j)) (fun M_9 f_9 k_9 => ?_)
  refine vLm (W := WM_X2_open Q) (fun a j h => (congrFun (zwr_row (by unfold WM_X2_open at h; omega)) j).trans (k_9 a j h)) (fun M_21 f_21 k_21 => ?_)
  refine vLm (W := WM_X2_open Q) (fun a j h => (congrFun (zwr_row (by unfold WM_X2_open at h; omega)) j).trans (k_21 a j h)) (fun M_33 f_33 k_33 => ?_)
  refine vLm (W := WM_X2_open Q) (fun a j h => (congrFun (zwr_row (by unfold WM_X2_open at h; omega)) j).trans (k_33 a j h)) (fun M_45 f_45 k_45 => ?_)
  refine vLm (W := WM_X2_open Q) (fun a j h => (congrFun (zwr_row (by unfold WM_X2_open at h; omega)) j).trans (k_45 a j h)) (fun M_57 f_57 k_57 => ?_)
  refine vLm (W := WM_X2_open Q) (fun a j h => (zu_ne (by unfold WM_X2_open at h; omega)).trans (k_57 a j h)) (fun M_67 f_67 k_67 => ?_)
  exact ⟨_, rfl, k_67⟩
def WM_X2_join (Q A : Nat) (a j : Nat) : Prop := (Q + 4 ≤ a ∧ a < Q + 8) ∨ (Q + 9 ≤ a ∧ a < Q + 10) ∨ (Q + 11 ≤ a ∧ a < Q + 13)
set_option maxRecDepth 100000 in
set_option maxHeartbeats 4000000 in
theorem v_X2_join {Q : Nat} {A : Nat} {v0 : Int32} {M0 : zMt}  : ∃ r, D_X2_join Q A v0 M0 = some r ∧ ((∀ a j, ¬ WM_X2_join Q A a j → r a j = M0 a j)) := by
  have TL_87 : ∀ u : Nat, ∀ (x2_87 : Int32) (x3_87 : Int32) (x4_87 : Int32) (M_87 : zMt), (∀ a j, ¬ WM_X2_join Q A a j → M_87 a j = M0 a j) → (2147483648 - Int32.toInt x4_87).toNat < u → ∃ r, D_X2_join_87 Q A u x2_87 x3_87 x4_87 M_87 = some r ∧ ((∀ a j, ¬ WM_X2_join Q A a j → r a j = M0 a j)) := by
    intro u
    induction u with
    | zero => intro x2_87 x3_87 x4_87 M_87 k_87 hm_87; exact absurd hm_87 (Nat.not_lt_zero _)
    | succ u_87 ih_87 =>
      intro x2_87 x3_87 x4_87 M_87 k_87 hm_87
      rw [D_X2_join_87]
      refine vIf (fun h_90 => ?_) (fun h_90 => ?_)
      · exact ⟨_, rfl, k_87⟩
      · refine vLm (W := WM_X2_join Q A) (fun a j h => (congrFun (zwr_row (by unfold WM_X2_join at h; omega)) j).trans (k_87 a j h)) (fun M_116 f_116 k_116 => ?_)
        exact ih_87 _ _ _ _ k_116 (z_up1 (by first | assumption | exact z_lt (by assumption) | exact z_lt2 (by assumption) | exact z_lt3 (by assumption) (by first | assumption | decide)) hm_87)
  have T_87 : ∀ (x2_87 : Int32) (x3_87 : Int32) (x4_87 : Int32) (M_87 : zMt), (∀ a j, ¬ WM_X2_join Q A a j → M_87 a j = M0 a j) → ∃ r, D_X2_join_87 Q A zFu x2_87 x3_87 x4_87 M_87 = some r ∧ ((∀ a j, ¬ WM_X2_join Q A a j → r a j = M0 a j)) := fun x2_87 x3_87 x4_87 M_87 k_87 => TL_87 zFu x2_87 x3_87 x4_87 M_87 k_87 (zFu_up _)
  unfold D_X2_join
  refine vLm (W := WM_X2_join Q A) (fun a j h => (congrFun (zwr_row (by unfold WM_X2_join at h; omega)) j)) (fun M_13 f_13 k_13 => ?_)
  refine vLm (W := WM_X2_join Q A) (fun a j h => (congrFun (zwr_row (by unfold WM_X2_join at h; omega)) j).trans (k_13 a j h)) (fun M_22 f_22 k_22 => ?_)
  refine vLm (W := WM_X2_join Q A) (fun a j h => (congrFun (zwr_row (by unfold WM_X2_join at h; omega)) j).trans (k_22 a j h)) (fun M_38 f_38 k_38 => ?_)
  refine vLm (W := WM_X2_join Q A) (fun a j h => (congrFun (zwr_row (by unfold WM_X2_join at h; omega)) j).trans (k_38 a j h)) (fun M_54 f_54 k_54 => ?_)
  refine vLm (W := WM_X2_join Q A) (fun a j h => (congrFun (zwr_row (by unfold WM_X2_join at h; omega)) j).trans (k_54 a j h)) (fun M_65 f_65 k_65 => ?_)
  refine vLm (W := WM_X2_join Q A) (fun a j h => (congrFun (zwr_row (by unfold WM_X2_join at h; omega)) j).trans (k_65 a j h)) (fun M_81 f_81 k_81 => ?_)
  exact T_87 _ _ _ _ k_81
def WM_X2_close (Q : Nat) (a j : Nat) : Prop := (Q + 7 ≤ a ∧ a < Q + 9)
set_option maxRecDepth 100000 in
set_option maxHeartbeats 4000000 in
theorem v_X2_close {Q : Nat} {v0 : Int32} {v1 : Int32} {M0 : zMt}  : ∃ r, D_X2_close Q v0 v1 M0 = some r ∧ ((∀ a j, ¬ WM_X2_close Q a j → r a j = M0 a j)) := by
  have T_72 : ∀ (y1_72 : Int32) (y2_72 : Int32) (M_72 : zMt), (∀ a j, ¬ WM_X2_close Q a j → M_72 a j = M0 a j) → ∃ r, D_X2_close_72 Q y1_72 y2_72 M_72 = some r ∧ ((∀ a j, ¬ WM_X2_close Q a j → r a j = M0 a j)) := by
    intro y1_72 y2_72 M_72 k_72
    unfold D_X2_close_72
    refine vLm (W := WM_X2_close Q) (fun a j h => (congrFun (zwr_row (by unfold WM_X2_close at h; omega)) j).trans (k_72 a j h)) (fun M_72 f_72 k_72 => ?_)
    exact ⟨_, rfl, k_72⟩
  have T_27 : ∀ (x1_27 : Int32) (x2_27 : Int32) (y0_27 : Int32) (M_27 : zMt), (∀ a j, ¬ WM_X2_close Q a j → M_27 a j = M0 a j) → ∃ r, D_X2_close_27 Q x1_27 x2_27 y0_27 M_27 = some r ∧ ((∀ a j, ¬ WM_X2_close Q a j → r a j = M0 a j)) := by
    intro x1_27 x2_27 y0_27 M_27 k_27
    unfold D_X2_close_27
    refine vLm (W := WM_X2_close Q) (fun a j h => (congrFun (zwr_row (by unfold WM_X2_close at h; omega)) j).trans (k_27 a j h)) (fun M_36 f_36 k_36 => ?_)
    refine vIf (fun h_46 => ?_) (fun h_46 => ?_)
    · exact T_72 _ _ _ k_36
    · refine vIf (fun h_61 => ?_) (fun h_61 => ?_)
      · exact T_72 _ _ _ k_36
      · exact T_72 _ _ _ k_36
  unfold D_X2_close
  refine vIf (fun h_10 => ?_) (fun h_10 => ?_)
  · exact T_27 _ _ _ _ (fun _ _ _ => rfl)
  · refine vZ (by first | assumption | exact z_nzl (by assumption)) ?_
    exact T_27 _ _ _ _ (fun _ _ _ => rfl)
def WM_X2_gather (Q A : Nat) (a j : Nat) : Prop := (Q + 1 ≤ a ∧ a < Q + 13) ∨ (a = Q ∧ (j = 0 ∨ j = 1 ∨ j = 2 ∨ j = 3))
set_option maxRecDepth 100000 in
set_option maxHeartbeats 4000000 in
theorem v_X2_gather {Q : Nat} {A : Nat}  {M0 : zMt}  : ∃ r, D_X2_gather Q A M0 = some r ∧ ((∀ a j, ¬ WM_X2_gather Q A a j → r a j = M0 a j)) := by
  have TL_111 : ∀ u : Nat, ∀ (x2_111 : Int32) (M_111 : zMt), (∀ a j, ¬ WM_X2_gather Q A a j → M_111 a j = M0 a j) → (2147483648 - Int32.toInt x2_111).toNat < u → ∃ r, D_X2_gather_111 Q A u x2_111 M_111 = some r ∧ ((∀ a j, ¬ WM_X2_gather Q A a j → r a j = M0 a j)) := by
    intro u
    induction u with
    | zero => intro x2_111 M_111 k_111 hm_111; exact absurd hm_111 (Nat.not_lt_zero _)
    | succ u_111 ih_111 =>
      intro x2_111 M_111 k_111 hm_111
      rw [D_X2_gather_111]
      refine vIf (fun h_116 => ?_) (fun h_116 => ?_)
      · exact ⟨_, rfl, k_111⟩
      · refine vB (v_X2_close) (fun e_125 f_125 q_125 => ?_)
        have k_125 : ∀ a j, ¬ WM_X2_gather Q A a j → e_125 a j = M0 a j := fun a j h => (q_125 a j (by unfold WM_X2_close; unfold WM_X2_gather at h; omega)).trans (k_111 a j h)
        refine vLm (W := WM_X2_gather Q A) (fun a j h => (zu_ne (by unfold WM_X2_gather at h; omega)).trans (k_125 a j h)) (fun M_142 f_142 k_142 => ?_)
        exact ih_111 _ _ k_142 (z_up1 (by first | assumption | exact z_lt (by assumption) | exact z_lt2 (by assumption) | exact z_lt3 (by assumption) (by first | assumption | decide)) hm_111)
  have T_111 : ∀ (x2_111 : Int32) (M_111 : zMt), (∀ a j, ¬ WM_X2_gather Q A a j → M_111 a j = M0 a j) → ∃ r, D_X2_gather_111 Q A zFu x2_111 M_111 = some r ∧ ((∀ a j, ¬ WM_X2_gather Q A a j → r a j = M0 a j)) := fun x2_111 M_111 k_111 => TL_111 zFu x2_111 M_111 k_111 (zFu_up _)
  have TL_51 : ∀ u : Nat, ∀ (x2_51 : Int32) (M_51 : zMt), (∀ a j, ¬ WM_X2_gather Q A a j → M_51 a j = M0 a j) → (2147483648 - Int32.toInt x2_51).toNat < u → ∃ r, D_X2_gather_51 Q A u x2_51 M_51 = some r ∧ ((∀ a j, ¬ WM_X2_gather Q A a j → r a j = M0 a j)) := by
    intro u
    induction u with
    | zero => intro x2_51 M_51 k_51 hm_51; exact absurd hm_51 (Nat.not_lt_zero _)
    | succ u_51 ih_51 =>
      have TL_66 : ∀ u : Nat, ∀ (x2_66 : Int32) (x3_66 : Int32) (M_66 : zMt), (∀ a j, ¬ WM_X2_gather Q A a j → M_66 a j = M0 a j) → ((2147483648 - Int32.toInt x2_66).toNat < u_51 + 1) → (Int32.toInt x2_66 < 2147483647) → (2147483648 - Int32.toInt x3_66).toNat < u → ∃ r, D_X2_gather_66 Q A (D_X2_gather_51 Q A u_51) u x2_66 x3_66 M_66 = some r ∧ ((∀ a j, ¬ WM_X2_gather Q A a j → r a j = M0 a j)) := by
        intro u
        induction u with
        | zero => intro x2_66 x3_66 M_66 k_66 f0_66 f1_66 hm_66; exact absurd hm_66 (Nat.not_lt_zero _)
        | succ u_66 ih_66 =>
          have T_92 : ∀ (x2_92 : Int32) (x3_92 : Int32) (M_92 : zMt), (∀ a j, ¬ WM_X2_gather Q A a j → M_92 a j = M0 a j) → ((2147483648 - Int32.toInt x2_92).toNat < u_51 + 1) → (Int32.toInt x2_92 < 2147483647) → ((2147483648 - Int32.toInt x3_92).toNat < u_66 + 1) → (Int32.toInt x3_92 < 2147483647) → ∃ r, D_X2_gather_92 Q A (D_X2_gather_51 Q A u_51) (D_X2_gather_66 Q A (D_X2_gather_51 Q A u_51) u_66) x2_92 x3_92 M_92 = some r ∧ ((∀ a j, ¬ WM_X2_gather Q A a j → r a j = M0 a j)) := by
            intro x2_92 x3_92 M_92 k_92 f0_92 f1_92 f2_92 f3_92
            unfold D_X2_gather_92
            exact ih_66 _ _ _ k_92 f0_92 f1_92 (z_up1 f3_92 f2_92)
          intro x2_66 x3_66 M_66 k_66 f0_66 f1_66 hm_66
          rw [D_X2_gather_66]
          refine vIf (fun h_71 => ?_) (fun h_71 => ?_)
          · exact ih_51 _ _ k_66 (z_up1 f1_66 f0_66)
          · refine vIf (fun h_83 => ?_) (fun h_83 => ?_)
            · refine vB (v_X2_join) (fun e_89 f_89 q_89 => ?_)
              have k_89 : ∀ a j, ¬ WM_X2_gather Q A a j → e_89 a j = M0 a j := fun a j h => (q_89 a j (by unfold WM_X2_join; unfold WM_X2_gather at h; omega)).trans (k_66 a j h)
              exact T_92 _ _ _ k_89 f0_66 f1_66 hm_66 (by first | assumption | exact z_lt (by assumption) | exact z_lt2 (by assumption) | exact z_lt3 (by assumption) (by first | assumption | decide))
            · exact T_92 _ _ _ k_66 f0_66 f1_66 hm_66 (by first | assumption | exact z_lt (by assumption) | exact z_lt2 (by assumption) | exact z_lt3 (by assumption) (by first | assumption | decide))
      have T_66 : ∀ (x2_66 : Int32) (x3_66 : Int32) (M_66 : zMt), (∀ a j, ¬ WM_X2_gather Q A a j → M_66 a j = M0 a j) → ((2147483648 - Int32.toInt x2_66).toNat < u_51 + 1) → (Int32.toInt x2_66 < 2147483647) → ∃ r, D_X2_gather_66 Q A (D_X2_gather_51 Q A u_51) zFu x2_66 x3_66 M_66 = some r ∧ ((∀ a j, ¬ WM_X2_gather Q A a j → r a j = M0 a j)) := fun x2_66 x3_66 M_66 k_66 f0_66 f1_66 => TL_66 zFu x2_66 x3_66 M_66 k_66 f0_66 f1_66 (zFu_up _)
      intro x2_51 M_51 k_51 hm_51
      rw [D_X2_gather_51]
      refine vIf (fun h_56 => ?_) (fun h_56 => ?_)
      · refine vLm (W := WM_X2_gather Q A) (fun a j h => (zu_ne (by unfold WM_X2_gather at h; omega)).trans (k_51 a j h)) (fun M_106 f_106 k_106 => ?_)
        exact T_111 _ _ k_106
      · refine vB (v_X2_open) (fun e_61 f_61 q_61 => ?_)
        have k_61 : ∀ a j, ¬ WM_X2_gather Q A a j → e_61 a j = M0 a j := fun a j h => (q_61 a j (by unfold WM_X2_open; unfold WM_X2_gather at h; omega)).trans (k_51 a j h)
        exact T_66 _ _ _ k_61 hm_51 (by first | assumption | exact z_lt (by assumption) | exact z_lt2 (by assumption) | exact z_lt3 (by assumption) (by first | assumption | decide))
  have T_51 : ∀ (x2_51 : Int32) (M_51 : zMt), (∀ a j, ¬ WM_X2_gather Q A a j → M_51 a j = M0 a j) → ∃ r, D_X2_gather_51 Q A zFu x2_51 M_51 = some r ∧ ((∀ a j, ¬ WM_X2_gather Q A a j → r a j = M0 a j)) := fun x2_51 M_51 k_51 => TL_51 zFu x2_51 M_51 k_51 (zFu_up _)
  have TL_12 : ∀ u : Nat, ∀ (x2_12 : Int32) (M_12 : zMt), (∀ a j, ¬ WM_X2_gather Q A a j → M_12 a j = M0 a j) → (2147483648 - Int32.toInt x2_12).toNat < u → ∃ r, D_X2_gather_12 Q A u x2_12 M_12 = some r ∧ ((∀ a j, ¬ WM_X2_gather Q A a j → r a j = M0 a j)) := by
    intro u
    induction u with
    | zero => intro x2_12 M_12 k_12 hm_12; exact absurd hm_12 (Nat.not_lt_zero _)
    | succ u_12 ih_12 =>
      have T_43 : ∀ (x2_43 : Int32) (M_43 : zMt), (∀ a j, ¬ WM_X2_gather Q A a j → M_43 a j = M0 a j) → ((2147483648 - Int32.toInt x2_43).toNat < u_12 + 1) → (Int32.toInt x2_43 < 2147483647) → ∃ r, D_X2_gather_43 Q A (D_X2_gather_12 Q A u_12) x2_43 M_43 = some r ∧ ((∀ a j, ¬ WM_X2_gather Q A a j → r a j = M0 a j)) := by
        intro x2_43 M_43 k_43 f0_43 f1_43
        unfold D_X2_gather_43
        exact ih_12 _ _ k_43 (z_up1 f1_43 f0_43)
      intro x2_12 M_12 k_12 hm_12
      rw [D_X2_gather_12]
      refine vIf (fun h_17 => ?_) (fun h_17 => ?_)
      · exact T_51 _ _ k_12
      · refine vIf (fun h_29 => ?_) (fun h_29 => ?_)
        · refine vB (v_X2_open) (fun e_34 f_34 q_34 => ?_)
          have k_34 : ∀ a j, ¬ WM_X2_gather Q A a j → e_34 a j = M0 a j := fun a j h => (q_34 a j (by unfold WM_X2_open; unfold WM_X2_gather at h; omega)).trans (k_12 a j h)
          refine vB (v_X2_join) (fun e_40 f_40 q_40 => ?_)
          have k_40 : ∀ a j, ¬ WM_X2_gather Q A a j → e_40 a j = M0 a j := fun a j h => (q_40 a j (by unfold WM_X2_join; unfold WM_X2_gather at h; omega)).trans (k_34 a j h)
          exact T_43 _ _ k_40 hm_12 (by first | assumption | exact z_lt (by assumption) | exact z_lt2 (by assumption) | exact z_lt3 (by assumption) (by first | assumption | decide))
        · exact T_43 _ _ k_12 hm_12 (by first | assumption | exact z_lt (by assumption) | exact z_lt2 (by assumption) | exact z_lt3 (by assumption) (by first | assumption | decide))
  have T_12 : ∀ (x2_12 : Int32) (M_12 : zMt), (∀ a j, ¬ WM_X2_gather Q A a j → M_12 a j = M0 a j) → ∃ r, D_X2_gather_12 Q A zFu x2_12 M_12 = some r ∧ ((∀ a j, ¬ WM_X2_gather Q A a j → r a j = M0 a j)) := fun x2_12 M_12 k_12 => TL_12 zFu x2_12 M_12 k_12 (zFu_up _)
  unfold D_X2_gather
  refine vB (v_X2_gatherUnits) (fun e_2 f_2 q_2 => ?_)
  have k_2 : ∀ a j, ¬ WM_X2_gather Q A a j → e_2 a j = M0 a j := fun a j h => (q_2 a j (by unfold WM_X2_gatherUnits; unfold WM_X2_gather at h; omega))
  refine vLm (W := WM_X2_gather Q A) (fun a j h => (zu_ne (by unfold WM_X2_gather at h; omega)).trans (k_2 a j h)) (fun M_7 f_7 k_7 => ?_)
  exact T_12 _ _ k_7
set_option maxRecDepth 100000 in
set_option maxHeartbeats 4000000 in
theorem v_X2_rankOf {Q : Nat} {M : zMt} {v0 : Int32} {v1 : Int32}  : ∃ r, D_X2_rankOf Q M v0 v1 = some r ∧ (True) := by
  have TL_2 : ∀ u : Nat, ∀ (x1_2 : Int32) (x2_2 : Int32) (x3_2 : Int32), (2147483648 - Int32.toInt x3_2).toNat < u → ∃ r, D_X2_rankOf_2 Q M u x1_2 x2_2 x3_2 = some r ∧ (True) := by
    intro u
    induction u with
    | zero => intro x1_2 x2_2 x3_2 hm_2; exact absurd hm_2 (Nat.not_lt_zero _)
    | succ u_2 ih_2 =>
      intro x1_2 x2_2 x3_2 hm_2
      rw [D_X2_rankOf_2]
      refine vIf (fun h_11 => ?_) (fun h_11 => ?_)
      · exact ⟨_, rfl, trivial⟩
      · refine vB (v_X2_wish) (fun e_17 f_17 q_17 => ?_)
        refine vIf (fun h_21 => ?_) (fun h_21 => ?_)
        · exact ⟨_, rfl, trivial⟩
        · exact ih_2 _ _ _ (z_up1 (by first | assumption | exact z_lt (by assumption) | exact z_lt2 (by assumption) | exact z_lt3 (by assumption) (by first | assumption | decide)) hm_2)
  have T_2 : ∀ (x1_2 : Int32) (x2_2 : Int32) (x3_2 : Int32), ∃ r, D_X2_rankOf_2 Q M zFu x1_2 x2_2 x3_2 = some r ∧ (True) := fun x1_2 x2_2 x3_2 => TL_2 zFu x1_2 x2_2 x3_2 (zFu_up _)
  unfold D_X2_rankOf
  exact T_2 _ _ _
set_option maxRecDepth 100000 in
set_option maxHeartbeats 4000000 in
theorem v_X2_firstApplicants {Q : Nat} {M : zMt} {v0 : Int32}  : ∃ r, D_X2_firstApplicants Q M v0 = some r ∧ (True) := by
  have TL_4 : ∀ u : Nat, ∀ (x1_4 : Int32) (x2_4 : Int32) (x3_4 : Int32), (2147483648 - Int32.toInt x3_4).toNat < u → ∃ r, D_X2_firstApplicants_4 Q M u x1_4 x2_4 x3_4 = some r ∧ (True) := by
    intro u
    induction u with
    | zero => intro x1_4 x2_4 x3_4 hm_4; exact absurd hm_4 (Nat.not_lt_zero _)
    | succ u_4 ih_4 =>
      have T_27 : ∀ (x1_27 : Int32) (x3_27 : Int32) (y0_27 : Int32) (y1_27 : Int32), (y1_27 = 0 ∨ y1_27 = 1) → ((2147483648 - Int32.toInt x3_27).toNat < u_4 + 1) → (Int32.toInt x3_27 < 2147483647) → ∃ r, D_X2_firstApplicants_27 Q M (D_X2_firstApplicants_4 Q M u_4) x1_27 x3_27 y0_27 y1_27 = some r ∧ (True) := by
        intro x1_27 x3_27 y0_27 y1_27 f0_27 f1_27 f2_27
        unfold D_X2_firstApplicants_27
        exact ih_4 _ _ _ (z_up1 f2_27 f1_27)
      intro x1_4 x2_4 x3_4 hm_4
      rw [D_X2_firstApplicants_4]
      refine vIf (fun h_9 => ?_) (fun h_9 => ?_)
      · exact ⟨_, rfl, trivial⟩
      · refine vB (v_X2_rankOf) (fun e_16 f_16 q_16 => ?_)
        refine vIf (fun h_19 => ?_) (fun h_19 => ?_)
        · exact T_27 _ _ _ _ (by first | exact Or.inl rfl | exact Or.inr rfl | assumption) hm_4 (by first | assumption | exact z_lt (by assumption) | exact z_lt2 (by assumption) | exact z_lt3 (by assumption) (by first | assumption | decide))
        · exact T_27 _ _ _ _ (by first | exact Or.inl rfl | exact Or.inr rfl | assumption) hm_4 (by first | assumption | exact z_lt (by assumption) | exact z_lt2 (by assumption) | exact z_lt3 (by assumption) (by first | assumption | decide))
  have T_4 : ∀ (x1_4 : Int32) (x2_4 : Int32) (x3_4 : Int32), ∃ r, D_X2_firstApplicants_4 Q M zFu x1_4 x2_4 x3_4 = some r ∧ (True) := fun x1_4 x2_4 x3_4 => TL_4 zFu x1_4 x2_4 x3_4 (zFu_up _)
  unfold D_X2_firstApplicants
  exact T_4 _ _ _
set_option maxRecDepth 100000 in
set_option maxHeartbeats 4000000 in
theorem v_X2_firstHunters {Q : Nat} {M : zMt} {v0 : Int32}  : ∃ r, D_X2_firstHunters Q M v0 = some r ∧ (True) := by
  have TL_4 : ∀ u : Nat, ∀ (x1_4 : Int32) (x2_4 : Int32) (x3_4 : Int32), (2147483648 - Int32.toInt x3_4).toNat < u → ∃ r, D_X2_firstHunters_4 Q M u x1_4 x2_4 x3_4 = some r ∧ (True) := by
    intro u
    induction u with
    | zero => intro x1_4 x2_4 x3_4 hm_4; exact absurd hm_4 (Nat.not_lt_zero _)
    | succ u_4 ih_4 =>
      have T_34 : ∀ (x1_34 : Int32) (x3_34 : Int32) (y0_34 : Int32) (y1_34 : Int32), ((2147483648 - Int32.toInt x3_34).toNat < u_4 + 1) → (Int32.toInt x3_34 < 2147483647) → ∃ r, D_X2_firstHunters_34 Q M (D_X2_firstHunters_4 Q M u_4) x1_34 x3_34 y0_34 y1_34 = some r ∧ (True) := by
        intro x1_34 x3_34 y0_34 y1_34 f0_34 f1_34
        unfold D_X2_firstHunters_34
        exact ih_4 _ _ _ (z_up1 f1_34 f0_34)
      intro x1_4 x2_4 x3_4 hm_4
      rw [D_X2_firstHunters_4]
      refine vIf (fun h_9 => ?_) (fun h_9 => ?_)
      · exact ⟨_, rfl, trivial⟩
      · refine vB (v_X2_rankOf) (fun e_16 f_16 q_16 => ?_)
        refine vIf (fun h_19 => ?_) (fun h_19 => ?_)
        · exact T_34 _ _ _ _ hm_4 (by first | assumption | exact z_lt (by assumption) | exact z_lt2 (by assumption) | exact z_lt3 (by assumption) (by first | assumption | decide))
        · exact T_34 _ _ _ _ hm_4 (by first | assumption | exact z_lt (by assumption) | exact z_lt2 (by assumption) | exact z_lt3 (by assumption) (by first | assumption | decide))
  have T_4 : ∀ (x1_4 : Int32) (x2_4 : Int32) (x3_4 : Int32), ∃ r, D_X2_firstHunters_4 Q M zFu x1_4 x2_4 x3_4 = some r ∧ (True) := fun x1_4 x2_4 x3_4 => TL_4 zFu x1_4 x2_4 x3_4 (zFu_up _)
  unfold D_X2_firstHunters
  exact T_4 _ _ _
set_option maxRecDepth 100000 in
set_option maxHeartbeats 4000000 in
theorem v_X2_askers {Q : Nat} {M : zMt} {v0 : Int32}  : ∃ r, D_X2_askers Q M v0 = some r ∧ (True) := by
  have TL_4 : ∀ u : Nat, ∀ (x1_4 : Int32) (x2_4 : Int32) (x3_4 : Int32), (2147483648 - Int32.toInt x3_4).toNat < u → ∃ r, D_X2_askers_4 Q M u x1_4 x2_4 x3_4 = some r ∧ (True) := by
    intro u
    induction u with
    | zero => intro x1_4 x2_4 x3_4 hm_4; exact absurd hm_4 (Nat.not_lt_zero _)
    | succ u_4 ih_4 =>
      have T_28 : ∀ (x1_28 : Int32) (x3_28 : Int32) (y0_28 : Int32) (y1_28 : Int32), (y1_28 = 0 ∨ y1_28 = 1) → ((2147483648 - Int32.toInt x3_28).toNat < u_4 + 1) → (Int32.toInt x3_28 < 2147483647) → ∃ r, D_X2_askers_28 Q M (D_X2_askers_4 Q M u_4) x1_28 x3_28 y0_28 y1_28 = some r ∧ (True) := by
        intro x1_28 x3_28 y0_28 y1_28 f0_28 f1_28 f2_28
        unfold D_X2_askers_28
        exact ih_4 _ _ _ (z_up1 f2_28 f1_28)
      intro x1_4 x2_4 x3_4 hm_4
      rw [D_X2_askers_4]
      refine vIf (fun h_9 => ?_) (fun h_9 => ?_)
      · exact ⟨_, rfl, trivial⟩
      · refine vB (v_X2_rankOf) (fun e_16 f_16 q_16 => ?_)
        refine vIf (fun h_20 => ?_) (fun h_20 => ?_)
        · exact T_28 _ _ _ _ (by first | exact Or.inl rfl | exact Or.inr rfl | assumption) hm_4 (by first | assumption | exact z_lt (by assumption) | exact z_lt2 (by assumption) | exact z_lt3 (by assumption) (by first | assumption | decide))
        · exact T_28 _ _ _ _ (by first | exact Or.inl rfl | exact Or.inr rfl | assumption) hm_4 (by first | assumption | exact z_lt (by assumption) | exact z_lt2 (by assumption) | exact z_lt3 (by assumption) (by first | assumption | decide))
  have T_4 : ∀ (x1_4 : Int32) (x2_4 : Int32) (x3_4 : Int32), ∃ r, D_X2_askers_4 Q M zFu x1_4 x2_4 x3_4 = some r ∧ (True) := fun x1_4 x2_4 x3_4 => TL_4 zFu x1_4 x2_4 x3_4 (zFu_up _)
  unfold D_X2_askers
  exact T_4 _ _ _
def WM_X4_clear (Q : Nat) (a j : Nat) : Prop := (Q + 1 ≤ a ∧ a < Q + 8) ∨ (a = Q ∧ (j = 0 ∨ j = 1 ∨ j = 2 ∨ j = 3 ∨ j = 4 ∨ j = 5 ∨ j = 6))
set_option maxRecDepth 100000 in
set_option maxHeartbeats 4000000 in
theorem v_X4_clear {Q : Nat}  {M0 : zMt}  : ∃ r, D_X4_clear Q M0 = some r ∧ ((∀ a j, ¬ WM_X4_clear Q a j → r a j = M0 a j)) := by
  unfold D_X4_clear
  refine vLm (W := WM_X4_clear Q) (fun a j h => (zu_ne (by unfold WM_X4_clear at h; omega))) (fun M_2 f_2 k_2 => ?_)
  refine vLm (W := WM_X4_clear Q) (fun a j h => (zu_ne (by unfold WM_X4_clear at h; omega)).trans (k_2 a j h)) (fun M_7 f_7 k_7 => ?_)
  refine vLm (W := WM_X4_clear Q) (fun a j h => (zu_ne (by unfold WM_X4_clear at h; omega)).trans (k_7 a j h)) (fun M_12 f_12 k_12 => ?_)
  refine vLm (W := WM_X4_clear Q) (fun a j h => (zu_ne (by unfold WM_X4_clear at h; omega)).trans (k_12 a j h)) (fun M_17 f_17 k_17 => ?_)
  refine vLm (W := WM_X4_clear Q) (fun a j h => (zu_ne (by unfold WM_X4_clear at h; omega)).trans (k_17 a j h)) (fun M_22 f_22 k_22 => ?_)
  refine vLm (W := WM_X4_clear Q) (fun a j h => (zu_ne (by unfold WM_X4_clear at h; omega)).trans (k_22 a j h)) (fun M_28 f_28 k_28 => ?_)
  refine vLm (W := WM_X4_clear Q) (fun a j h => (zu_ne (by unfold WM_X4_clear at h; omega)).trans (k_28 a j h)) (fun M_33 f_33 k_33 => ?_)
  refine vLm (W := WM_X4_clear Q) (fun a j h => (congrFun (zfil_row (by unfold WM_X4_clear at h; omega)) j).trans (k_33 a j h)) (fun M_41 f_41 k_41 => ?_)
  refine vLm (W := WM_X4_clear Q) (fun a j h => (congrFun (zfil_row (by unfold WM_X4_clear at h; omega)) j).trans (k_41 a j h)) (fun M_49 f_49 k_49 => ?_)
  refine vLm (W := WM_X4_clear Q) (fun a j h => (congrFun (zfil_row (by unfold WM_X4_clear at h; omega)) j).trans (k_49 a j h)) (fun M_57 f_57 k_57 => ?_)
  refine vLm (W := WM_X4_clear Q) (fun a j h => (congrFun (zfil_row (by unfold WM_X4_clear at h; omega)) j).trans (k_57 a j h)) (fun M_65 f_65 k_65 => ?_)
  refine vLm (W := WM_X4_clear Q) (fun a j h => (congrFun (zfil_row (by unfold WM_X4_clear at h; omega)) j).trans (k_65 a j h)) (fun M_73 f_73 k_73 => ?_)
  refine vLm (W := WM_X4_clear Q) (fun a j h => (congrFun (zfil_row (by unfold WM_X4_clear at h; omega)) j).trans (k_73 a j h)) (fun M_81 f_81 k_81 => ?_)
  refine vLm (W := WM_X4_clear Q) (fun a j h => (congrFun (zfil_row (by unfold WM_X4_clear at h; omega)) j).trans (k_81 a j h)) (fun M_89 f_89 k_89 => ?_)
  exact ⟨_, rfl, k_89⟩
set_option maxRecDepth 100000 in
set_option maxHeartbeats 4000000 in
theorem v_X3_isBlank  {v0 : Int32}  : ∃ r, D_X3_isBlank v0 = some r ∧ ((r = 0 ∨ r = 1)) := by
  have T_17 : ∀ (y0_17 : Int32), (y0_17 = 0 ∨ y0_17 = 1) → ∃ r, D_X3_isBlank_17 y0_17 = some r ∧ ((r = 0 ∨ r = 1)) := by
    intro y0_17 f0_17
    unfold D_X3_isBlank_17
    exact ⟨_, rfl, (by first | exact Or.inl rfl | exact Or.inr rfl | assumption)⟩
  have T_12 : ∃ r, D_X3_isBlank_12 = some r ∧ ((r = 0 ∨ r = 1)) := by
    unfold D_X3_isBlank_12
    exact T_17 _ (by first | exact Or.inl rfl | exact Or.inr rfl | assumption)
  unfold D_X3_isBlank
  refine vIf (fun h_3 => ?_) (fun h_3 => ?_)
  · exact T_12
  · refine vIf (fun h_9 => ?_) (fun h_9 => ?_)
    · exact T_12
    · exact T_17 _ (by first | exact Or.inl rfl | exact Or.inr rfl | assumption)
set_option maxRecDepth 100000 in
set_option maxHeartbeats 4000000 in
theorem v_X3_isLetter  {v0 : Int32}  : ∃ r, D_X3_isLetter v0 = some r ∧ ((r = 0 ∨ r = 1)) := by
  have T_17 : ∀ (y0_17 : Int32), (y0_17 = 0 ∨ y0_17 = 1) → ∃ r, D_X3_isLetter_17 y0_17 = some r ∧ ((r = 0 ∨ r = 1)) := by
    intro y0_17 f0_17
    unfold D_X3_isLetter_17
    exact ⟨_, rfl, (by first | exact Or.inl rfl | exact Or.inr rfl | assumption)⟩
  have T_16 : ∃ r, D_X3_isLetter_16 = some r ∧ ((r = 0 ∨ r = 1)) := by
    unfold D_X3_isLetter_16
    exact T_17 _ (by first | exact Or.inl rfl | exact Or.inr rfl | assumption)
  unfold D_X3_isLetter
  refine vIf (fun h_3 => ?_) (fun h_3 => ?_)
  · exact T_16
  · refine vIf (fun h_9 => ?_) (fun h_9 => ?_)
    · exact T_16
    · exact T_17 _ (by first | exact Or.inl rfl | exact Or.inr rfl | assumption)
def WM_X3_stepWord (Q : Nat) (a j : Nat) : Prop := (a = Q ∧ (j = 5 ∨ j = 6))
def WN_X3_stepWord (Q : Nat) (a j : Nat) : Prop := (a = Q ∧ (j = 8))
set_option maxRecDepth 100000 in
set_option maxHeartbeats 4000000 in
theorem v_X3_stepWord {Q : Nat}  {M0 : zMt} {N0 : zNt}  : ∃ r, D_X3_stepWord Q M0 N0 = some r ∧ ((∀ a j, ¬ WM_X3_stepWord Q a j → r.1 a j = M0 a j) ∧ (∀ a j, ¬ WN_X3_stepWord Q a j → r.2 a j = N0 a j)) := by
  have T_96 : ∀ (y1_96 : Int32) (M_96 : zMt) (N_96 : zNt), (∀ a j, ¬ WM_X3_stepWord Q a j → M_96 a j = M0 a j) → (∀ a j, ¬ WN_X3_stepWord Q a j → N_96 a j = N0 a j) → ∃ r, D_X3_stepWord_96 Q y1_96 M_96 N_96 = some r ∧ ((∀ a j, ¬ WM_X3_stepWord Q a j → r.1 a j = M0 a j) ∧ (∀ a j, ¬ WN_X3_stepWord Q a j → r.2 a j = N0 a j)) := by
    intro y1_96 M_96 N_96 k_96 kn_96
    unfold D_X3_stepWord_96
    refine vLm (W := WM_X3_stepWord Q) (fun a j h => (zu_ne (by unfold WM_X3_stepWord at h; omega)).trans (k_96 a j h)) (fun M_96 f_96 k_96 => ?_)
    exact ⟨_, rfl, k_96, kn_96⟩
  have T_76 : ∀ (M_76 : zMt) (N_76 : zNt), (∀ a j, ¬ WM_X3_stepWord Q a j → M_76 a j = M0 a j) → (∀ a j, ¬ WN_X3_stepWord Q a j → N_76 a j = N0 a j) → ∃ r, D_X3_stepWord_76 Q M_76 N_76 = some r ∧ ((∀ a j, ¬ WM_X3_stepWord Q a j → r.1 a j = M0 a j) ∧ (∀ a j, ¬ WN_X3_stepWord Q a j → r.2 a j = N0 a j)) := by
    intro M_76 N_76 k_76 kn_76
    unfold D_X3_stepWord_76
    refine vIf (fun h_88 => ?_) (fun h_88 => ?_)
    · exact T_96 _ _ _ k_76 kn_76
    · exact T_96 _ _ _ k_76 kn_76
  have TL_5 : ∀ u : Nat, ∀ (M_5 : zMt) (N_5 : zNt), (∀ a j, ¬ WM_X3_stepWord Q a j → M_5 a j = M0 a j) → (∀ a j, ¬ WN_X3_stepWord Q a j → N_5 a j = N0 a j) → (2147483648 - Int32.toInt (M_5 Q 5)).toNat < u → ∃ r, D_X3_stepWord_5 Q u M_5 N_5 = some r ∧ ((∀ a j, ¬ WM_X3_stepWord Q a j → r.1 a j = M0 a j) ∧ (∀ a j, ¬ WN_X3_stepWord Q a j → r.2 a j = N0 a j)) := by
    intro u
    induction u with
    | zero => intro M_5 N_5 k_5 kn_5 hm_5; exact absurd hm_5 (Nat.not_lt_zero _)
    | succ u_5 ih_5 =>
      intro M_5 N_5 k_5 kn_5 hm_5
      rw [D_X3_stepWord_5]
      refine vIf (fun h_13 => ?_) (fun h_13 => ?_)
      · exact T_76 _ _ k_5 kn_5
      · refine vB (v_X3_isLetter) (fun e_27 f_27 q_27 => ?_)
        have b_27 := q_27
        refine vIf (fun h_30 => ?_) (fun h_30 => ?_)
        · exact T_76 _ _ k_5 kn_5
        · refine vLn (W := WN_X3_stepWord Q) (fun a j h => (zu_ne (by unfold WN_X3_stepWord at h; omega)).trans (kn_5 a j h)) (fun N_60 f_60 kn_60 => ?_)
          refine vLm (W := WM_X3_stepWord Q) (fun a j h => (zu_ne (by unfold WM_X3_stepWord at h; omega)).trans (k_5 a j h)) (fun M_70 f_70 k_70 => ?_)
          exact ih_5 _ _ k_70 kn_60 (by rw [← f_70, zu_eq]; exact z_up1 (z_lt (by assumption)) hm_5)
  have T_5 : ∀ (M_5 : zMt) (N_5 : zNt), (∀ a j, ¬ WM_X3_stepWord Q a j → M_5 a j = M0 a j) → (∀ a j, ¬ WN_X3_stepWord Q a j → N_5 a j = N0 a j) → ∃ r, D_X3_stepWord_5 Q zFu M_5 N_5 = some r ∧ ((∀ a j, ¬ WM_X3_stepWord Q a j → r.1 a j = M0 a j) ∧ (∀ a j, ¬ WN_X3_stepWord Q a j → r.2 a j = N0 a j)) := fun M_5 N_5 k_5 kn_5 => TL_5 zFu M_5 N_5 k_5 kn_5 (zFu_up _)
  unfold D_X3_stepWord
  refine vLn (W := WN_X3_stepWord Q) (fun a j h => (zu_ne (by unfold WN_X3_stepWord at h; omega))) (fun N_2 f_2 kn_2 => ?_)
  exact T_5 _ _ (fun _ _ _ => rfl) kn_2
set_option maxRecDepth 100000 in
set_option maxHeartbeats 4000000 in
theorem v_X3_isDigit  {v0 : Int32}  : ∃ r, D_X3_isDigit v0 = some r ∧ ((r = 0 ∨ r = 1)) := by
  have T_17 : ∀ (y0_17 : Int32), (y0_17 = 0 ∨ y0_17 = 1) → ∃ r, D_X3_isDigit_17 y0_17 = some r ∧ ((r = 0 ∨ r = 1)) := by
    intro y0_17 f0_17
    unfold D_X3_isDigit_17
    exact ⟨_, rfl, (by first | exact Or.inl rfl | exact Or.inr rfl | assumption)⟩
  have T_16 : ∃ r, D_X3_isDigit_16 = some r ∧ ((r = 0 ∨ r = 1)) := by
    unfold D_X3_isDigit_16
    exact T_17 _ (by first | exact Or.inl rfl | exact Or.inr rfl | assumption)
  unfold D_X3_isDigit
  refine vIf (fun h_3 => ?_) (fun h_3 => ?_)
  · exact T_16
  · refine vIf (fun h_9 => ?_) (fun h_9 => ?_)
    · exact T_16
    · exact T_17 _ (by first | exact Or.inl rfl | exact Or.inr rfl | assumption)
def WM_X3_stepNumber (Q : Nat) (a j : Nat) : Prop := (a = Q ∧ (j = 5 ∨ j = 6 ∨ j = 9))
set_option maxRecDepth 100000 in
set_option maxHeartbeats 4000000 in
theorem v_X3_stepNumber {Q : Nat}  {M0 : zMt}  : ∃ r, D_X3_stepNumber Q M0 = some r ∧ ((∀ a j, ¬ WM_X3_stepNumber Q a j → r a j = M0 a j)) := by
  have T_91 : ∀ (y1_91 : Int32) (M_91 : zMt), (∀ a j, ¬ WM_X3_stepNumber Q a j → M_91 a j = M0 a j) → ∃ r, D_X3_stepNumber_91 Q y1_91 M_91 = some r ∧ ((∀ a j, ¬ WM_X3_stepNumber Q a j → r a j = M0 a j)) := by
    intro y1_91 M_91 k_91
    unfold D_X3_stepNumber_91
    refine vLm (W := WM_X3_stepNumber Q) (fun a j h => (zu_ne (by unfold WM_X3_stepNumber at h; omega)).trans (k_91 a j h)) (fun M_91 f_91 k_91 => ?_)
    exact ⟨_, rfl, k_91⟩
  have T_72 : ∀ (M_72 : zMt), (∀ a j, ¬ WM_X3_stepNumber Q a j → M_72 a j = M0 a j) → ∃ r, D_X3_stepNumber_72 Q M_72 = some r ∧ ((∀ a j, ¬ WM_X3_stepNumber Q a j → r a j = M0 a j)) := by
    intro M_72 k_72
    unfold D_X3_stepNumber_72
    refine vIf (fun h_83 => ?_) (fun h_83 => ?_)
    · exact T_91 _ _ k_72
    · exact T_91 _ _ k_72
  have TL_5 : ∀ u : Nat, ∀ (M_5 : zMt), (∀ a j, ¬ WM_X3_stepNumber Q a j → M_5 a j = M0 a j) → (2147483648 - Int32.toInt (M_5 Q 5)).toNat < u → ∃ r, D_X3_stepNumber_5 Q u M_5 = some r ∧ ((∀ a j, ¬ WM_X3_stepNumber Q a j → r a j = M0 a j)) := by
    intro u
    induction u with
    | zero => intro M_5 k_5 hm_5; exact absurd hm_5 (Nat.not_lt_zero _)
    | succ u_5 ih_5 =>
      intro M_5 k_5 hm_5
      rw [D_X3_stepNumber_5]
      refine vIf (fun h_13 => ?_) (fun h_13 => ?_)
      · exact T_72 _ k_5
      · refine vB (v_X3_isDigit) (fun e_27 f_27 q_27 => ?_)
        have b_27 := q_27
        refine vIf (fun h_30 => ?_) (fun h_30 => ?_)
        · exact T_72 _ k_5
        · refine vLm (W := WM_X3_stepNumber Q) (fun a j h => (zu_ne (by unfold WM_X3_stepNumber at h; omega)).trans (k_5 a j h)) (fun M_56 f_56 k_56 => ?_)
          refine vLm (W := WM_X3_stepNumber Q) (fun a j h => (zu_ne (by unfold WM_X3_stepNumber at h; omega)).trans (k_56 a j h)) (fun M_66 f_66 k_66 => ?_)
          exact ih_5 _ k_66 (by rw [← f_66, zu_eq, ← f_56, zu_ne (show ¬ (Q = Q ∧ (5 : Nat) = 9) by omega)]; exact z_up1 (z_lt (by assumption)) hm_5)
  have T_5 : ∀ (M_5 : zMt), (∀ a j, ¬ WM_X3_stepNumber Q a j → M_5 a j = M0 a j) → ∃ r, D_X3_stepNumber_5 Q zFu M_5 = some r ∧ ((∀ a j, ¬ WM_X3_stepNumber Q a j → r a j = M0 a j)) := fun M_5 k_5 => TL_5 zFu M_5 k_5 (zFu_up _)
  unfold D_X3_stepNumber
  refine vLm (W := WM_X3_stepNumber Q) (fun a j h => (zu_ne (by unfold WM_X3_stepNumber at h; omega))) (fun M_2 f_2 k_2 => ?_)
  exact T_5 _ k_2
def WM_X3_step (Q : Nat) (a j : Nat) : Prop := (a = Q ∧ (j = 5 ∨ j = 6 ∨ j = 7 ∨ j = 9))
def WN_X3_step (Q : Nat) (a j : Nat) : Prop := (a = Q ∧ (j = 8))
set_option maxRecDepth 100000 in
set_option maxHeartbeats 4000000 in
theorem v_X3_step {Q : Nat}  {M0 : zMt} {N0 : zNt}  : ∃ r, D_X3_step Q M0 N0 = some r ∧ ((∀ a j, ¬ WM_X3_step Q a j → r.1 a j = M0 a j) ∧ (∀ a j, ¬ WN_X3_step Q a j → r.2 a j = N0 a j)) := by
  have T_137 : ∀ (M_137 : zMt) (N_137 : zNt), (∀ a j, ¬ WM_X3_step Q a j → M_137 a j = M0 a j) → (∀ a j, ¬ WN_X3_step Q a j → N_137 a j = N0 a j) → ∃ r, D_X3_step_137 Q M_137 N_137 = some r ∧ ((∀ a j, ¬ WM_X3_step Q a j → r.1 a j = M0 a j) ∧ (∀ a j, ¬ WN_X3_step Q a j → r.2 a j = N0 a j)) := by
    intro M_137 N_137 k_137 kn_137
    unfold D_X3_step_137
    exact ⟨_, rfl, k_137, kn_137⟩
  have T_41 : ∀ (M_41 : zMt) (N_41 : zNt), (∀ a j, ¬ WM_X3_step Q a j → M_41 a j = M0 a j) → (∀ a j, ¬ WN_X3_step Q a j → N_41 a j = N0 a j) → ∃ r, D_X3_step_41 Q M_41 N_41 = some r ∧ ((∀ a j, ¬ WM_X3_step Q a j → r.1 a j = M0 a j) ∧ (∀ a j, ¬ WN_X3_step Q a j → r.2 a j = N0 a j)) := by
    intro M_41 N_41 k_41 kn_41
    unfold D_X3_step_41
    refine vLm (W := WM_X3_step Q) (fun a j h => (zu_ne (by unfold WM_X3_step at h; omega)).trans (k_41 a j h)) (fun M_46 f_46 k_46 => ?_)
    refine vIf (fun h_69 => ?_) (fun h_69 => ?_)
    · refine vB (v_X3_isLetter) (fun e_81 f_81 q_81 => ?_)
      have b_81 := q_81
      refine vIf (fun h_84 => ?_) (fun h_84 => ?_)
      · refine vB (v_X3_isDigit) (fun e_95 f_95 q_95 => ?_)
        have b_95 := q_95
        refine vIf (fun h_98 => ?_) (fun h_98 => ?_)
        · refine vIf (fun h_111 => ?_) (fun h_111 => ?_)
          · refine vLm (W := WM_X3_step Q) (fun a j h => (zu_ne (by unfold WM_X3_step at h; omega)).trans (k_46 a j h)) (fun M_116 f_116 k_116 => ?_)
            refine vLm (W := WM_X3_step Q) (fun a j h => (zu_ne (by unfold WM_X3_step at h; omega)).trans (k_116 a j h)) (fun M_126 f_126 k_126 => ?_)
            exact T_137 _ _ k_126 kn_41
          · refine vLm (W := WM_X3_step Q) (fun a j h => (zu_ne (by unfold WM_X3_step at h; omega)).trans (k_46 a j h)) (fun M_134 f_134 k_134 => ?_)
            exact T_137 _ _ k_134 kn_41
        · refine vB (v_X3_stepNumber) (fun e_102 f_102 q_102 => ?_)
          have k_102 : ∀ a j, ¬ WM_X3_step Q a j → e_102 a j = M0 a j := fun a j h => (q_102 a j (by unfold WM_X3_stepNumber; unfold WM_X3_step at h; omega)).trans (k_46 a j h)
          exact T_137 _ _ k_102 kn_41
      · refine vB (v_X3_stepWord) (fun e_88 f_88 q_88 => ?_)
        have k_88 : ∀ a j, ¬ WM_X3_step Q a j → e_88.1 a j = M0 a j := fun a j h => (q_88.1 a j (by unfold WM_X3_stepWord; unfold WM_X3_step at h; omega)).trans (k_46 a j h)
        have kn_88 : ∀ a j, ¬ WN_X3_step Q a j → e_88.2 a j = N0 a j := fun a j h => (q_88.2 a j (by unfold WN_X3_stepWord; unfold WN_X3_step at h; omega)).trans (kn_41 a j h)
        exact T_137 _ _ k_88 kn_88
    · refine vLm (W := WM_X3_step Q) (fun a j h => (zu_ne (by unfold WM_X3_step at h; omega)).trans (k_46 a j h)) (fun M_74 f_74 k_74 => ?_)
      exact T_137 _ _ k_74 kn_41
  have TL_0 : ∀ u : Nat, ∀ (M_0 : zMt) (N_0 : zNt), (∀ a j, ¬ WM_X3_step Q a j → M_0 a j = M0 a j) → (∀ a j, ¬ WN_X3_step Q a j → N_0 a j = N0 a j) → (2147483648 - Int32.toInt (M_0 Q 5)).toNat < u → ∃ r, D_X3_step_0 Q u M_0 N_0 = some r ∧ ((∀ a j, ¬ WM_X3_step Q a j → r.1 a j = M0 a j) ∧ (∀ a j, ¬ WN_X3_step Q a j → r.2 a j = N0 a j)) := by
    intro u
    induction u with
    | zero => intro M_0 N_0 k_0 kn_0 hm_0; exact absurd hm_0 (Nat.not_lt_zero _)
    | succ u_0 ih_0 =>
      intro M_0 N_0 k_0 kn_0 hm_0
      rw [D_X3_step_0]
      refine vIf (fun h_8 => ?_) (fun h_8 => ?_)
      · exact T_41 _ _ k_0 kn_0
      · refine vB (v_X3_isBlank) (fun e_22 f_22 q_22 => ?_)
        have b_22 := q_22
        refine vIf (fun h_25 => ?_) (fun h_25 => ?_)
        · exact T_41 _ _ k_0 kn_0
        · refine vLm (W := WM_X3_step Q) (fun a j h => (zu_ne (by unfold WM_X3_step at h; omega)).trans (k_0 a j h)) (fun M_35 f_35 k_35 => ?_)
          exact ih_0 _ _ k_35 kn_0 (by rw [← f_35, zu_eq]; exact z_up1 (z_lt (by assumption)) hm_0)
  have T_0 : ∀ (M_0 : zMt) (N_0 : zNt), (∀ a j, ¬ WM_X3_step Q a j → M_0 a j = M0 a j) → (∀ a j, ¬ WN_X3_step Q a j → N_0 a j = N0 a j) → ∃ r, D_X3_step_0 Q zFu M_0 N_0 = some r ∧ ((∀ a j, ¬ WM_X3_step Q a j → r.1 a j = M0 a j) ∧ (∀ a j, ¬ WN_X3_step Q a j → r.2 a j = N0 a j)) := fun M_0 N_0 k_0 kn_0 => TL_0 zFu M_0 N_0 k_0 kn_0 (zFu_up _)
  unfold D_X3_step
  exact T_0 _ _ (fun _ _ _ => rfl) (fun _ _ _ => rfl)
set_option maxRecDepth 100000 in
set_option maxHeartbeats 4000000 in
theorem v_X3_says {Q : Nat} {w0 : Nat} {M : zMt}  (hw0 : w0 < zLit.length) : ∃ r, D_X3_says Q w0 M = some r ∧ ((r = 0 ∨ r = 1)) := by
  have TL_28 : ∀ u : Nat, ∀ (x2_28 : Int32), (0 ≤ Int32.toInt x2_28) → (2147483648 - Int32.toInt x2_28).toNat < u → ∃ r, D_X3_says_28 Q w0 M u x2_28 = some r ∧ ((r = 0 ∨ r = 1)) := by
    intro u
    induction u with
    | zero => intro x2_28 f0_28 hm_28; exact absurd hm_28 (Nat.not_lt_zero _)
    | succ u_28 ih_28 =>
      intro x2_28 f0_28 hm_28
      rw [D_X3_says_28]
      refine vIf (fun h_33 => ?_) (fun h_33 => ?_)
      · exact ⟨_, rfl, (by first | exact Or.inl rfl | exact Or.inr rfl | assumption)⟩
      · refine vI (z_in (by have := (zCh_ok w0 (by assumption)).1; omega) (z_nlt (by assumption)) (by assumption)) ?_
        refine vIf (fun h_54 => ?_) (fun h_54 => ?_)
        · exact ih_28 _ (by first | decide | exact z_nn (by assumption) (by assumption)) (z_up1 (by first | assumption | exact z_lt (by assumption) | exact z_lt2 (by assumption) | exact z_lt3 (by assumption) (by first | assumption | decide)) hm_28)
        · exact ⟨_, rfl, (by first | exact Or.inl rfl | exact Or.inr rfl | assumption)⟩
  have T_28 : ∀ (x2_28 : Int32), (0 ≤ Int32.toInt x2_28) → ∃ r, D_X3_says_28 Q w0 M zFu x2_28 = some r ∧ ((r = 0 ∨ r = 1)) := fun x2_28 f0_28 => TL_28 zFu x2_28 f0_28 (zFu_up _)
  have T_24 : ∃ r, D_X3_says_24 Q w0 M = some r ∧ ((r = 0 ∨ r = 1)) := by
    unfold D_X3_says_24
    exact ⟨_, rfl, (by first | exact Or.inl rfl | exact Or.inr rfl | assumption)⟩
  unfold D_X3_says
  refine vIf (fun h_5 => ?_) (fun h_5 => ?_)
  · refine vIf (fun h_21 => ?_) (fun h_21 => ?_)
    · exact T_28 _ (by first | decide | exact z_nn (by assumption) (by assumption))
    · exact T_24
  · exact T_24
set_option maxRecDepth 100000 in
set_option maxHeartbeats 4000000 in
theorem v_X3_isName {Q : Nat} {M : zMt}   : ∃ r, D_X3_isName Q M = some r ∧ ((r = 0 ∨ r = 1)) := by
  have T_85 : ∀ (y0_85 : Int32), (y0_85 = 0 ∨ y0_85 = 1) → ∃ r, D_X3_isName_85 Q M y0_85 = some r ∧ ((r = 0 ∨ r = 1)) := by
    intro y0_85 f0_85
    unfold D_X3_isName_85
    exact ⟨_, rfl, (by first | exact Or.inl rfl | exact Or.inr rfl | assumption)⟩
  have T_84 : ∃ r, D_X3_isName_84 Q M = some r ∧ ((r = 0 ∨ r = 1)) := by
    unfold D_X3_isName_84
    exact T_85 _ (by first | exact Or.inl rfl | exact Or.inr rfl | assumption)
  unfold D_X3_isName
  refine vIf (fun h_5 => ?_) (fun h_5 => ?_)
  · refine vB (v_X3_says (by first | assumption | decide)) (fun e_11 f_11 q_11 => ?_)
    have b_11 := q_11
    refine vIf (fun h_14 => ?_) (fun h_14 => ?_)
    · refine vB (v_X3_says (by first | assumption | decide)) (fun e_20 f_20 q_20 => ?_)
      have b_20 := q_20
      refine vIf (fun h_23 => ?_) (fun h_23 => ?_)
      · refine vB (v_X3_says (by first | assumption | decide)) (fun e_29 f_29 q_29 => ?_)
        have b_29 := q_29
        refine vIf (fun h_32 => ?_) (fun h_32 => ?_)
        · refine vB (v_X3_says (by first | assumption | decide)) (fun e_38 f_38 q_38 => ?_)
          have b_38 := q_38
          refine vIf (fun h_41 => ?_) (fun h_41 => ?_)
          · refine vB (v_X3_says (by first | assumption | decide)) (fun e_47 f_47 q_47 => ?_)
            have b_47 := q_47
            refine vIf (fun h_50 => ?_) (fun h_50 => ?_)
            · refine vB (v_X3_says (by first | assumption | decide)) (fun e_56 f_56 q_56 => ?_)
              have b_56 := q_56
              refine vIf (fun h_59 => ?_) (fun h_59 => ?_)
              · refine vB (v_X3_says (by first | assumption | decide)) (fun e_65 f_65 q_65 => ?_)
                have b_65 := q_65
                refine vIf (fun h_68 => ?_) (fun h_68 => ?_)
                · refine vB (v_X3_says (by first | assumption | decide)) (fun e_74 f_74 q_74 => ?_)
                  have b_74 := q_74
                  refine vIf (fun h_77 => ?_) (fun h_77 => ?_)
                  · exact T_85 _ (by first | exact Or.inl rfl | exact Or.inr rfl | assumption)
                  · exact T_84
                · exact T_84
              · exact T_84
            · exact T_84
          · exact T_84
        · exact T_84
      · exact T_84
    · exact T_84
  · exact T_84
def WM_X3_fail (Q : Nat) (a j : Nat) : Prop := (a = Q ∧ (j = 1 ∨ j = 2))
set_option maxRecDepth 100000 in
set_option maxHeartbeats 4000000 in
theorem v_X3_fail {Q : Nat} {v0 : Int32} {M0 : zMt}  : ∃ r, D_X3_fail Q v0 M0 = some r ∧ ((∀ a j, ¬ WM_X3_fail Q a j → r.2 a j = M0 a j) ∧ (r.1 = 0 ∨ r.1 = 1)) := by
  have T_14 : ∀ (y1_14 : Int32) (M_14 : zMt), (∀ a j, ¬ WM_X3_fail Q a j → M_14 a j = M0 a j) → ∃ r, D_X3_fail_14 Q y1_14 M_14 = some r ∧ ((∀ a j, ¬ WM_X3_fail Q a j → r.2 a j = M0 a j) ∧ (r.1 = 0 ∨ r.1 = 1)) := by
    intro y1_14 M_14 k_14
    unfold D_X3_fail_14
    refine vLm (W := WM_X3_fail Q) (fun a j h => (zu_ne (by unfold WM_X3_fail at h; omega)).trans (k_14 a j h)) (fun M_14 f_14 k_14 => ?_)
    refine vLm (W := WM_X3_fail Q) (fun a j h => (zu_ne (by unfold WM_X3_fail at h; omega)).trans (k_14 a j h)) (fun M_22 f_22 k_22 => ?_)
    exact ⟨_, rfl, k_22, (by first | exact Or.inl rfl | exact Or.inr rfl | assumption)⟩
  unfold D_X3_fail
  refine vIf (fun h_6 => ?_) (fun h_6 => ?_)
  · exact T_14 _ _ (fun _ _ _ => rfl)
  · exact T_14 _ _ (fun _ _ _ => rfl)
set_option maxRecDepth 100000 in
set_option maxHeartbeats 4000000 in
theorem v_X3_find {Q : Nat} {nQ : Nat} {N : zNt} {v0 : Int32} {v1 : Int64}  : ∃ r, D_X3_find Q nQ N v0 v1 = some r ∧ (True) := by
  have TL_3 : ∀ u : Nat, ∀ (x1_3 : Int32) (x2_3 : Int64) (x4_3 : Int32), (2147483648 - Int32.toInt x4_3).toNat < u → ∃ r, D_X3_find_3 Q nQ N u x1_3 x2_3 x4_3 = some r ∧ (True) := by
    intro u
    induction u with
    | zero => intro x1_3 x2_3 x4_3 hm_3; exact absurd hm_3 (Nat.not_lt_zero _)
    | succ u_3 ih_3 =>
      intro x1_3 x2_3 x4_3 hm_3
      rw [D_X3_find_3]
      refine vIf (fun h_6 => ?_) (fun h_6 => ?_)
      · exact ⟨_, rfl, trivial⟩
      · refine vIf (fun h_17 => ?_) (fun h_17 => ?_)
        · exact ⟨_, rfl, trivial⟩
        · exact ih_3 _ _ _ (z_up1 (by first | assumption | exact z_lt (by assumption) | exact z_lt2 (by assumption) | exact z_lt3 (by assumption) (by first | assumption | decide)) hm_3)
  have T_3 : ∀ (x1_3 : Int32) (x2_3 : Int64) (x4_3 : Int32), ∃ r, D_X3_find_3 Q nQ N zFu x1_3 x2_3 x4_3 = some r ∧ (True) := fun x1_3 x2_3 x4_3 => TL_3 zFu x1_3 x2_3 x4_3 (zFu_up _)
  unfold D_X3_find
  exact T_3 _ _ _
set_option maxRecDepth 100000 in
set_option maxHeartbeats 4000000 in
theorem v_X3_isTaken {Q : Nat} {M : zMt} {N : zNt} {v0 : Int64}  : ∃ r, D_X3_isTaken Q M N v0 = some r ∧ ((r = 0 ∨ r = 1)) := by
  have T_62 : ∀ (y0_62 : Int32), (y0_62 = 0 ∨ y0_62 = 1) → ∃ r, D_X3_isTaken_62 Q M N y0_62 = some r ∧ ((r = 0 ∨ r = 1)) := by
    intro y0_62 f0_62
    unfold D_X3_isTaken_62
    exact ⟨_, rfl, (by first | exact Or.inl rfl | exact Or.inr rfl | assumption)⟩
  have T_57 : ∃ r, D_X3_isTaken_57 Q M N = some r ∧ ((r = 0 ∨ r = 1)) := by
    unfold D_X3_isTaken_57
    exact T_62 _ (by first | exact Or.inl rfl | exact Or.inr rfl | assumption)
  unfold D_X3_isTaken
  refine vB (v_X3_find) (fun e_12 f_12 q_12 => ?_)
  refine vIf (fun h_16 => ?_) (fun h_16 => ?_)
  · refine vB (v_X3_find) (fun e_31 f_31 q_31 => ?_)
    refine vIf (fun h_35 => ?_) (fun h_35 => ?_)
    · refine vB (v_X3_find) (fun e_50 f_50 q_50 => ?_)
      refine vIf (fun h_54 => ?_) (fun h_54 => ?_)
      · exact T_62 _ (by first | exact Or.inl rfl | exact Or.inr rfl | assumption)
      · exact T_57
    · exact T_57
  · exact T_57
def WM_X3_readNewName (Q : Nat) (a j : Nat) : Prop := (a = Q ∧ (j = 1 ∨ j = 2 ∨ j = 5 ∨ j = 6 ∨ j = 7 ∨ j = 9))
def WN_X3_readNewName (Q : Nat) (a j : Nat) : Prop := (a = Q ∧ (j = 8 ∨ j = 10))
set_option maxRecDepth 100000 in
set_option maxHeartbeats 4000000 in
theorem v_X3_readNewName {Q : Nat}  {M0 : zMt} {N0 : zNt}  : ∃ r, D_X3_readNewName Q M0 N0 = some r ∧ ((∀ a j, ¬ WM_X3_readNewName Q a j → r.2.1 a j = M0 a j) ∧ (∀ a j, ¬ WN_X3_readNewName Q a j → r.2.2 a j = N0 a j) ∧ (r.1 = 0 ∨ r.1 = 1)) := by
  unfold D_X3_readNewName
  refine vB (v_X3_isName) (fun e_1 f_1 q_1 => ?_)
  have b_1 := q_1
  refine vIf (fun h_4 => ?_) (fun h_4 => ?_)
  · refine vB (v_X3_fail) (fun e_9 f_9 q_9 => ?_)
    have k_9 : ∀ a j, ¬ WM_X3_readNewName Q a j → e_9.2 a j = M0 a j := fun a j h => (q_9.1 a j (by unfold WM_X3_fail; unfold WM_X3_readNewName at h; omega))
    have b_9 := q_9.2
    exact ⟨_, rfl, k_9, (fun _ _ _ => rfl), (by first | exact Or.inl rfl | exact Or.inr rfl | assumption)⟩
  · refine vB (v_X3_isTaken) (fun e_18 f_18 q_18 => ?_)
    have b_18 := q_18
    refine vIf (fun h_21 => ?_) (fun h_21 => ?_)
    · refine vLn (W := WN_X3_readNewName Q) (fun a j h => (zu_ne (by unfold WN_X3_readNewName at h; omega))) (fun N_35 f_35 kn_35 => ?_)
      refine vB (v_X3_step) (fun e_39 f_39 q_39 => ?_)
      have k_39 : ∀ a j, ¬ WM_X3_readNewName Q a j → e_39.1 a j = M0 a j := fun a j h => (q_39.1 a j (by unfold WM_X3_step; unfold WM_X3_readNewName at h; omega))
      have kn_39 : ∀ a j, ¬ WN_X3_readNewName Q a j → e_39.2 a j = N0 a j := fun a j h => (q_39.2 a j (by unfold WN_X3_step; unfold WN_X3_readNewName at h; omega)).trans (kn_35 a j h)
      exact ⟨_, rfl, k_39, kn_39, (by first | exact Or.inl rfl | exact Or.inr rfl | assumption)⟩
    · refine vB (v_X3_fail) (fun e_26 f_26 q_26 => ?_)
      have k_26 : ∀ a j, ¬ WM_X3_readNewName Q a j → e_26.2 a j = M0 a j := fun a j h => (q_26.1 a j (by unfold WM_X3_fail; unfold WM_X3_readNewName at h; omega))
      have b_26 := q_26.2
      exact ⟨_, rfl, k_26, (fun _ _ _ => rfl), (by first | exact Or.inl rfl | exact Or.inr rfl | assumption)⟩
def WM_X3_numberUpTo (Q : Nat) (a j : Nat) : Prop := (a = Q ∧ (j = 1 ∨ j = 2 ∨ j = 5 ∨ j = 6 ∨ j = 7 ∨ j = 9))
def WN_X3_numberUpTo (Q : Nat) (a j : Nat) : Prop := (a = Q ∧ (j = 8))
set_option maxRecDepth 100000 in
set_option maxHeartbeats 4000000 in
theorem v_X3_numberUpTo {Q : Nat} {v0 : Int32} {M0 : zMt} {N0 : zNt}  : ∃ r, D_X3_numberUpTo Q v0 M0 N0 = some r ∧ ((∀ a j, ¬ WM_X3_numberUpTo Q a j → r.2.1 a j = M0 a j) ∧ (∀ a j, ¬ WN_X3_numberUpTo Q a j → r.2.2 a j = N0 a j) ∧ (r.1 = 0 ∨ r.1 = 1)) := by
  unfold D_X3_numberUpTo
  refine vIf (fun h_5 => ?_) (fun h_5 => ?_)
  · refine vIf (fun h_19 => ?_) (fun h_19 => ?_)
    · refine vB (v_X3_step) (fun e_29 f_29 q_29 => ?_)
      have k_29 : ∀ a j, ¬ WM_X3_numberUpTo Q a j → e_29.1 a j = M0 a j := fun a j h => (q_29.1 a j (by unfold WM_X3_step; unfold WM_X3_numberUpTo at h; omega))
      have kn_29 : ∀ a j, ¬ WN_X3_numberUpTo Q a j → e_29.2 a j = N0 a j := fun a j h => (q_29.2 a j (by unfold WN_X3_step; unfold WN_X3_numberUpTo at h; omega))
      exact ⟨_, rfl, k_29, kn_29, (by first | exact Or.inl rfl | exact Or.inr rfl | assumption)⟩
    · refine vB (v_X3_fail) (fun e_24 f_24 q_24 => ?_)
      have k_24 : ∀ a j, ¬ WM_X3_numberUpTo Q a j → e_24.2 a j = M0 a j := fun a j h => (q_24.1 a j (by unfold WM_X3_fail; unfold WM_X3_numberUpTo at h; omega))
      have b_24 := q_24.2
      exact ⟨_, rfl, k_24, (fun _ _ _ => rfl), (by first | exact Or.inl rfl | exact Or.inr rfl | assumption)⟩
  · refine vB (v_X3_fail) (fun e_10 f_10 q_10 => ?_)
    have k_10 : ∀ a j, ¬ WM_X3_numberUpTo Q a j → e_10.2 a j = M0 a j := fun a j h => (q_10.1 a j (by unfold WM_X3_fail; unfold WM_X3_numberUpTo at h; omega))
    have b_10 := q_10.2
    exact ⟨_, rfl, k_10, (fun _ _ _ => rfl), (by first | exact Or.inl rfl | exact Or.inr rfl | assumption)⟩
