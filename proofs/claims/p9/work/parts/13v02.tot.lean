def WM_X6_pass (Q A : Nat) (a j : Nat) : Prop := (Q + 1 ≤ a ∧ a < Q + 4) ∨ (Q + 5 ≤ a ∧ a < Q + 12) ∨ (Q + 13 ≤ a ∧ a < Q + 25) ∨ (Q + 26 ≤ a ∧ a < Q + 33) ∨ (a = Q ∧ (j = 0 ∨ j = 1)) ∨ (a = Q + 4 ∧ (j = 0 ∨ j = 1 ∨ j = 2 ∨ j = 3 ∨ j = 4 ∨ j = 5 ∨ j = 6)) ∨ (a = Q + 12 ∧ (j = 0 ∨ j = 1 ∨ j = 2 ∨ j = 3))
set_option maxRecDepth 100000 in
set_option maxHeartbeats 4000000 in
theorem v_X6_pass {Q : Nat} {A : Nat} {v0 : Int32} {v1 : Int32} {M0 : zMt}  (hn : Int32.toInt v1 < 2147483647) : ∃ r, D_X6_pass Q A v0 v1 M0 = some r ∧ ((∀ a j, ¬ WM_X6_pass Q A a j → r a j = M0 a j)) := by
  have TL_45 : ∀ u : Nat, ∀ (x2_45 : Int32) (x3_45 : Int32) (x4_45 : Int32) (M_45 : zMt), (∀ a j, ¬ WM_X6_pass Q A a j → M_45 a j = M0 a j) → (Int32.toInt x3_45 < 2147483647) → (2147483648 - Int32.toInt x4_45).toNat < u → ∃ r, D_X6_pass_45 Q A u x2_45 x3_45 x4_45 M_45 = some r ∧ ((∀ a j, ¬ WM_X6_pass Q A a j → r a j = M0 a j)) := by
    intro u
    induction u with
    | zero => intro x2_45 x3_45 x4_45 M_45 k_45 f0_45 hm_45; exact absurd hm_45 (Nat.not_lt_zero _)
    | succ u_45 ih_45 =>
      have TL_102 : ∀ u : Nat, ∀ (x2_102 : Int32) (x3_102 : Int32) (x4_102 : Int32) (x5_102 : Int32) (M_102 : zMt), (∀ a j, ¬ WM_X6_pass Q A a j → M_102 a j = M0 a j) → ((2147483648 - Int32.toInt x4_102).toNat < u_45 + 1) → (Int32.toInt x4_102 < 2147483647) → (Int32.toInt x3_102 < 2147483647) → (2147483648 - Int32.toInt x5_102).toNat < u → ∃ r, D_X6_pass_102 Q A (D_X6_pass_45 Q A u_45) u x2_102 x3_102 x4_102 x5_102 M_102 = some r ∧ ((∀ a j, ¬ WM_X6_pass Q A a j → r a j = M0 a j)) := by
        intro u
        induction u with
        | zero => intro x2_102 x3_102 x4_102 x5_102 M_102 k_102 f0_102 f1_102 f2_102 hm_102; exact absurd hm_102 (Nat.not_lt_zero _)
        | succ u_102 ih_102 =>
          intro x2_102 x3_102 x4_102 x5_102 M_102 k_102 f0_102 f1_102 f2_102 hm_102
          rw [D_X6_pass_102]
          refine vIf (fun h_111 => ?_) (fun h_111 => ?_)
          · refine vB (v_X4_live) (fun e_140 f_140 q_140 => ?_)
            have k_140 : ∀ a j, ¬ WM_X6_pass Q A a j → e_140 a j = M0 a j := fun a j h => (q_140 a j (by unfold WM_X4_live; unfold WM_X6_pass at h; omega)).trans (k_102 a j h)
            exact ih_45 _ _ _ _ k_140 (by assumption) (z_up1 f1_102 f0_102)
          · refine vB (v_X6_note) (fun e_119 f_119 q_119 => ?_)
            have k_119 : ∀ a j, ¬ WM_X6_pass Q A a j → e_119 a j = M0 a j := fun a j h => (q_119 a j (by unfold WM_X6_note; unfold WM_X6_pass at h; omega)).trans (k_102 a j h)
            exact ih_102 _ _ _ _ _ k_119 f0_102 f1_102 (by assumption) (z_up1 (by first | assumption | exact z_lt (by assumption) | exact z_lt2 (by assumption) | exact z_lt3 (by assumption) (by first | assumption | decide)) hm_102)
      have T_102 : ∀ (x2_102 : Int32) (x3_102 : Int32) (x4_102 : Int32) (x5_102 : Int32) (M_102 : zMt), (∀ a j, ¬ WM_X6_pass Q A a j → M_102 a j = M0 a j) → ((2147483648 - Int32.toInt x4_102).toNat < u_45 + 1) → (Int32.toInt x4_102 < 2147483647) → (Int32.toInt x3_102 < 2147483647) → ∃ r, D_X6_pass_102 Q A (D_X6_pass_45 Q A u_45) zFu x2_102 x3_102 x4_102 x5_102 M_102 = some r ∧ ((∀ a j, ¬ WM_X6_pass Q A a j → r a j = M0 a j)) := fun x2_102 x3_102 x4_102 x5_102 M_102 k_102 f0_102 f1_102 f2_102 => TL_102 zFu x2_102 x3_102 x4_102 x5_102 M_102 k_102 f0_102 f1_102 f2_102 (zFu_up _)
      intro x2_45 x3_45 x4_45 M_45 k_45 f0_45 hm_45
      rw [D_X6_pass_45]
      refine vIf (fun h_48 => ?_) (fun h_48 => ?_)
      · exact ⟨_, rfl, k_45⟩
      · refine vB (v_X2_gather) (fun e_59 f_59 q_59 => ?_)
        have k_59 : ∀ a j, ¬ WM_X6_pass Q A a j → e_59 a j = M0 a j := fun a j h => (q_59 a j (by unfold WM_X2_gather; unfold WM_X6_pass at h; omega)).trans (k_45 a j h)
        refine vB (v_X5_bySeed) (fun e_76 f_76 q_76 => ?_)
        have k_76 : ∀ a j, ¬ WM_X6_pass Q A a j → e_76 a j = M0 a j := fun a j h => (q_76 a j (by unfold WM_X5_bySeed; unfold WM_X6_pass at h; omega)).trans (k_59 a j h)
        refine vB (v_X5_tagsGiven) (fun e_92 f_92 q_92 => ?_)
        refine vLm (W := WM_X6_pass Q A) (fun a j h => (zu_ne (by unfold WM_X6_pass at h; omega)).trans (k_76 a j h)) (fun M_96 f_96 k_96 => ?_)
        exact T_102 _ _ _ _ _ k_96 hm_45 (by first | assumption | exact z_lt (by assumption) | exact z_lt2 (by assumption) | exact z_lt3 (by assumption) (by first | assumption | decide)) (by assumption)
  have T_45 : ∀ (x2_45 : Int32) (x3_45 : Int32) (x4_45 : Int32) (M_45 : zMt), (∀ a j, ¬ WM_X6_pass Q A a j → M_45 a j = M0 a j) → (Int32.toInt x3_45 < 2147483647) → ∃ r, D_X6_pass_45 Q A zFu x2_45 x3_45 x4_45 M_45 = some r ∧ ((∀ a j, ¬ WM_X6_pass Q A a j → r a j = M0 a j)) := fun x2_45 x3_45 x4_45 M_45 k_45 f0_45 => TL_45 zFu x2_45 x3_45 x4_45 M_45 k_45 f0_45 (zFu_up _)
  unfold D_X6_pass
  refine vLm (W := WM_X6_pass Q A) (fun a j h => (zu_ne (by unfold WM_X6_pass at h; omega))) (fun M_2 f_2 k_2 => ?_)
  refine vLm (W := WM_X6_pass Q A) (fun a j h => (zu_ne (by unfold WM_X6_pass at h; omega)).trans (k_2 a j h)) (fun M_7 f_7 k_7 => ?_)
  refine vLm (W := WM_X6_pass Q A) (fun a j h => (congrFun (zfil_row (by unfold WM_X6_pass at h; omega)) j).trans (k_7 a j h)) (fun M_15 f_15 k_15 => ?_)
  refine vLm (W := WM_X6_pass Q A) (fun a j h => (congrFun (zfil_row (by unfold WM_X6_pass at h; omega)) j).trans (k_15 a j h)) (fun M_23 f_23 k_23 => ?_)
  refine vLm (W := WM_X6_pass Q A) (fun a j h => (congrFun (zfil_row (by unfold WM_X6_pass at h; omega)) j).trans (k_23 a j h)) (fun M_31 f_31 k_31 => ?_)
  refine vB (v_X4_take) (fun e_39 f_39 q_39 => ?_)
  have k_39 : ∀ a j, ¬ WM_X6_pass Q A a j → e_39 a j = M0 a j := fun a j h => (q_39 a j (by unfold WM_X4_take; unfold WM_X6_pass at h; omega)).trans (k_31 a j h)
  exact T_45 _ _ _ _ k_39 (by assumption)
set_option maxRecDepth 100000 in
set_option maxHeartbeats 4000000 in
theorem v_X6_unserved {Q : Nat} {M : zMt} {v0 : Int32}  : ∃ r, D_X6_unserved Q M v0 = some r ∧ (True) := by
  have TL_4 : ∀ u : Nat, ∀ (x1_4 : Int32) (x2_4 : Int32) (x3_4 : Int32), (2147483648 - Int32.toInt x3_4).toNat < u → ∃ r, D_X6_unserved_4 Q M u x1_4 x2_4 x3_4 = some r ∧ (True) := by
    intro u
    induction u with
    | zero => intro x1_4 x2_4 x3_4 hm_4; exact absurd hm_4 (Nat.not_lt_zero _)
    | succ u_4 ih_4 =>
      have T_28 : ∀ (x1_28 : Int32) (x3_28 : Int32) (y0_28 : Int32) (y1_28 : Int32), ((2147483648 - Int32.toInt x3_28).toNat < u_4 + 1) → (Int32.toInt x3_28 < 2147483647) → ∃ r, D_X6_unserved_28 Q M (D_X6_unserved_4 Q M u_4) x1_28 x3_28 y0_28 y1_28 = some r ∧ (True) := by
        intro x1_28 x3_28 y0_28 y1_28 f0_28 f1_28
        unfold D_X6_unserved_28
        exact ih_4 _ _ _ (z_up1 f1_28 f0_28)
      intro x1_4 x2_4 x3_4 hm_4
      rw [D_X6_unserved_4]
      refine vIf (fun h_6 => ?_) (fun h_6 => ?_)
      · exact ⟨_, rfl, trivial⟩
      · refine vIf (fun h_18 => ?_) (fun h_18 => ?_)
        · exact T_28 _ _ _ _ hm_4 (by first | assumption | exact z_lt (by assumption) | exact z_lt2 (by assumption) | exact z_lt3 (by assumption) (by first | assumption | decide))
        · exact T_28 _ _ _ _ hm_4 (by first | assumption | exact z_lt (by assumption) | exact z_lt2 (by assumption) | exact z_lt3 (by assumption) (by first | assumption | decide))
  have T_4 : ∀ (x1_4 : Int32) (x2_4 : Int32) (x3_4 : Int32), ∃ r, D_X6_unserved_4 Q M zFu x1_4 x2_4 x3_4 = some r ∧ (True) := fun x1_4 x2_4 x3_4 => TL_4 zFu x1_4 x2_4 x3_4 (zFu_up _)
  unfold D_X6_unserved
  exact T_4 _ _ _
set_option maxRecDepth 100000 in
set_option maxHeartbeats 4000000 in
theorem v_X7_status {P : Nat} {M : zMt}   : ∃ r, D_X7_status P M = some r ∧ (True) := by
  unfold D_X7_status
  exact ⟨_, rfl, trivial⟩
def WM_X7_append (P : Nat) (a j : Nat) : Prop := (P + 1 ≤ a ∧ a < P + 2) ∨ (a = P ∧ (j = 1))
theorem v_X7_append_s {P n : Nat} {v x : Int32} {M : zMt} (h : ¬ x < 0) : ∃ M', D_X7_append_3 P (n + 1) v x M = D_X7_append_3 P n v (x + (-8)) M' ∧ (∀ a j, ¬ WM_X7_append P a j → M' a j = M a j) ∧ M' P 1 = M P 1 + 1 := by
  refine ⟨zu (zwr M (P + 1) 700 (M P 1) ((Int32.toUInt32 v >>> (Int32.toUInt32 x &&& Int32.toUInt32 31)).toInt32 &&& (255 : Int32))) P 1 (zwr M (P + 1) 700 (M P 1) ((Int32.toUInt32 v >>> (Int32.toUInt32 x &&& Int32.toUInt32 31)).toInt32 &&& (255 : Int32)) P 1 + 1), ?_, fun a j h => (zu_ne (by unfold WM_X7_append at h; omega)).trans (congrFun (zwr_row (by unfold WM_X7_append at h; omega)) j), ?_⟩
  · rw [D_X7_append_3, if_neg h]; rfl
  · rw [zu_eq, congrFun (zwr_row (show P ≠ P + 1 by omega)) 1]
theorem v_X7_append {P : Nat} {v0 : Int32} {M0 : zMt} : ∃ r, D_X7_append P v0 M0 = some r ∧ ((∀ a j, ¬ WM_X7_append P a j → r a j = M0 a j) ∧ (r P 1 = M0 P 1 + 1 + 1 + 1 + 1)) := by
  unfold D_X7_append
  rw [show zFu = 4294967292 + 1 + 1 + 1 + 1 + 1 from rfl]
  obtain ⟨M1, e1, k1, t1⟩ := v_X7_append_s (P := P) (n := 4294967292 + 1 + 1 + 1 + 1) (v := v0) (x := 24) (M := M0) (by decide)
  obtain ⟨M2, e2, k2, t2⟩ := v_X7_append_s (P := P) (n := 4294967292 + 1 + 1 + 1) (v := v0) (x := 24 + (-8)) (M := M1) (by decide)
  obtain ⟨M3, e3, k3, t3⟩ := v_X7_append_s (P := P) (n := 4294967292 + 1 + 1) (v := v0) (x := 24 + (-8) + (-8)) (M := M2) (by decide)
  obtain ⟨M4, e4, k4, t4⟩ := v_X7_append_s (P := P) (n := 4294967292 + 1) (v := v0) (x := 24 + (-8) + (-8) + (-8)) (M := M3) (by decide)
  rw [e1, e2, e3, e4, D_X7_append_3, if_pos (by decide)]
  exact ⟨_, rfl, fun a j h => (k4 a j h).trans ((k3 a j h).trans ((k2 a j h).trans (k1 a j h))), by rw [t4, t3, t2, t1]⟩
def WM_X7_feed (P : Nat) (a j : Nat) : Prop := (P + 1 ≤ a ∧ a < P + 2) ∨ (a = P ∧ (j = 1))
theorem z_20 {x y z u w : Int32} {a : Int32} (h1 : x = a + 1 + 1 + 1 + 1) (h2 : y = x + 1 + 1 + 1 + 1) (h3 : z = y + 1 + 1 + 1 + 1) (h4 : u = z + 1 + 1 + 1 + 1) (h5 : w = u + 1 + 1 + 1 + 1) : w = a + 20 := by
  subst h1 h2 h3 h4 h5
  simp only [Int32.add_assoc]
  rfl
theorem v_X7_feed {P : Nat} {v0 v1 v2 v3 v4 : Int32} {M0 : zMt} : ∃ r, D_X7_feed P v0 v1 v2 v3 v4 M0 = some r ∧ ((∀ a j, ¬ WM_X7_feed P a j → r.2 a j = M0 a j) ∧ ((M0 P 1 + 20 ≤ 700 ∧ r.1 = M0 P 1 + 20 ∧ r.2 P 1 = M0 P 1 + 20) ∨ (¬ M0 P 1 + 20 ≤ 700 ∧ r.1 = -1 ∧ r.2 P 1 = M0 P 1))) := by
  unfold D_X7_feed
  refine vIf (fun hc => ?_) (fun hc => ⟨_, rfl, fun _ _ _ => rfl, Or.inr ⟨hc, rfl, rfl⟩⟩)
  refine vB v_X7_append (fun e1 f1 q1 => vB v_X7_append (fun e2 f2 q2 => vB v_X7_append (fun e3 f3 q3 => vB v_X7_append (fun e4 f4 q4 => vB v_X7_append (fun e5 f5 q5 => ?_)))))
  have t := z_20 q1.2 q2.2 q3.2 q4.2 q5.2
  have hw : ∀ a j, ¬ WM_X7_feed P a j → ¬ WM_X7_append P a j := fun a j h => by unfold WM_X7_append; unfold WM_X7_feed at h; omega
  exact ⟨_, rfl, fun a j h => (q5.1 a j (hw a j h)).trans ((q4.1 a j (hw a j h)).trans ((q3.1 a j (hw a j h)).trans ((q2.1 a j (hw a j h)).trans (q1.1 a j (hw a j h))))), Or.inl ⟨hc, t, t⟩⟩
def WM_X7_refuse (P : Nat) (a j : Nat) : Prop := (a = P ∧ (j = 0))
set_option maxRecDepth 100000 in
set_option maxHeartbeats 4000000 in
theorem v_X7_refuse {P : Nat} {v0 : Int32} {M0 : zMt}  : ∃ r, D_X7_refuse P v0 M0 = some r ∧ ((∀ a j, ¬ WM_X7_refuse P a j → r.2 a j = M0 a j)) := by
  unfold D_X7_refuse
  refine vLm (W := WM_X7_refuse P) (fun a j h => (zu_ne (by unfold WM_X7_refuse at h; omega))) (fun M_2 f_2 k_2 => ?_)
  exact ⟨_, rfl, k_2⟩
def WM_X7_answer (P : Nat) (a j : Nat) : Prop := (a = P ∧ (j = 0))
set_option maxRecDepth 100000 in
set_option maxHeartbeats 4000000 in
theorem v_X7_answer {P : Nat} {v0 : Int32} {M0 : zMt}  : ∃ r, D_X7_answer P v0 M0 = some r ∧ ((∀ a j, ¬ WM_X7_answer P a j → r.2 a j = M0 a j)) := by
  unfold D_X7_answer
  refine vLm (W := WM_X7_answer P) (fun a j h => (zu_ne (by unfold WM_X7_answer at h; omega))) (fun M_2 f_2 k_2 => ?_)
  exact ⟨_, rfl, k_2⟩
def WM_X7_changed (P : Nat) (a j : Nat) : Prop := (P + 92 ≤ a ∧ a < P + 104) ∨ (a = P ∧ (j = 0 ∨ j = 3)) ∨ (a = P + 91 ∧ (j = 0 ∨ j = 1 ∨ j = 2 ∨ j = 3))
set_option maxRecDepth 100000 in
set_option maxHeartbeats 4000000 in
theorem v_X7_changed {P : Nat} {v0 : Int32} {M0 : zMt}  : ∃ r, D_X7_changed P v0 M0 = some r ∧ ((∀ a j, ¬ WM_X7_changed P a j → r.2 a j = M0 a j)) := by
  unfold D_X7_changed
  refine vB (v_X2_gather) (fun e_8 f_8 q_8 => ?_)
  have k_8 : ∀ a j, ¬ WM_X7_changed P a j → e_8 a j = M0 a j := fun a j h => (q_8 a j (by unfold WM_X2_gather; unfold WM_X7_changed at h; omega))
  refine vLm (W := WM_X7_changed P) (fun a j h => (zu_ne (by unfold WM_X7_changed at h; omega)).trans (k_8 a j h)) (fun M_13 f_13 k_13 => ?_)
  refine vB (v_X7_answer) (fun e_18 f_18 q_18 => ?_)
  have k_18 : ∀ a j, ¬ WM_X7_changed P a j → e_18.2 a j = M0 a j := fun a j h => (q_18 a j (by unfold WM_X7_answer; unfold WM_X7_changed at h; omega)).trans (k_13 a j h)
  exact ⟨_, rfl, k_18⟩
def WM_X7_load (P : Nat) (a j : Nat) : Prop := (P + 5 ≤ a ∧ a < P + 13) ∨ (P + 16 ≤ a ∧ a < P + 17) ∨ (P + 18 ≤ a ∧ a < P + 25) ∨ (P + 92 ≤ a ∧ a < P + 104) ∨ (a = P ∧ (j = 0 ∨ j = 1 ∨ j = 3)) ∨ (a = P + 3 ∧ (j = 1 ∨ j = 2 ∨ j = 4 ∨ j = 5 ∨ j = 6 ∨ j = 7 ∨ j = 9 ∨ j = 11 ∨ j = 12 ∨ j = 13)) ∨ (a = P + 4 ∧ (j = 0 ∨ j = 1 ∨ j = 2 ∨ j = 3 ∨ j = 4 ∨ j = 5 ∨ j = 6)) ∨ (a = P + 17 ∧ (j = 0 ∨ j = 1 ∨ j = 2 ∨ j = 3 ∨ j = 4 ∨ j = 5 ∨ j = 6)) ∨ (a = P + 25 ∧ (j = 0)) ∨ (a = P + 91 ∧ (j = 0 ∨ j = 1 ∨ j = 2 ∨ j = 3))
def WN_X7_load (P : Nat) (a j : Nat) : Prop := (P + 13 ≤ a ∧ a < P + 16) ∨ (a = P + 3 ∧ (j = 8 ∨ j = 10))
set_option maxRecDepth 100000 in
set_option maxHeartbeats 4000000 in
theorem v_X7_load {P : Nat} {v0 : Int32} {M0 : zMt} {N0 : zNt}  : ∃ r, D_X7_load P v0 M0 N0 = some r ∧ ((∀ a j, ¬ WM_X7_load P a j → r.2.1 a j = M0 a j) ∧ (∀ a j, ¬ WN_X7_load P a j → r.2.2 a j = N0 a j)) := by
  have T_12 : ∀ (M_12 : zMt) (N_12 : zNt), (∀ a j, ¬ WM_X7_load P a j → M_12 a j = M0 a j) → (∀ a j, ¬ WN_X7_load P a j → N_12 a j = N0 a j) → ∃ r, D_X7_load_12 P M_12 N_12 = some r ∧ ((∀ a j, ¬ WM_X7_load P a j → r.2.1 a j = M0 a j) ∧ (∀ a j, ¬ WN_X7_load P a j → r.2.2 a j = N0 a j)) := by
    intro M_12 N_12 k_12 kn_12
    unfold D_X7_load_12
    refine vB (v_X7_refuse) (fun e_14 f_14 q_14 => ?_)
    have k_14 : ∀ a j, ¬ WM_X7_load P a j → e_14.2 a j = M0 a j := fun a j h => (q_14 a j (by unfold WM_X7_refuse; unfold WM_X7_load at h; omega)).trans (k_12 a j h)
    exact ⟨_, rfl, k_14, kn_12⟩
  unfold D_X7_load
  refine vIf (fun h_1 => ?_) (fun h_1 => ?_)
  · exact T_12 _ _ (fun _ _ _ => rfl) (fun _ _ _ => rfl)
  · refine vIf (fun h_9 => ?_) (fun h_9 => ?_)
    · refine vB (v_X3_read) (fun e_27 f_27 q_27 => ?_)
      have k_27 : ∀ a j, ¬ WM_X7_load P a j → e_27.2.1 a j = M0 a j := fun a j h => (q_27.1 a j (by unfold WM_X3_read; unfold WM_X7_load at h; omega))
      have kn_27 : ∀ a j, ¬ WN_X7_load P a j → e_27.2.2 a j = N0 a j := fun a j h => (q_27.2.1 a j (by unfold WN_X3_read; unfold WN_X7_load at h; omega))
      have b_27 := q_27.2.2
      refine vLm (W := WM_X7_load P) (fun a j h => (zu_ne (by unfold WM_X7_load at h; omega)).trans (k_27 a j h)) (fun M_33 f_33 k_33 => ?_)
      refine vIf (fun h_37 => ?_) (fun h_37 => ?_)
      · refine vB (v_X7_refuse) (fun e_43 f_43 q_43 => ?_)
        have k_43 : ∀ a j, ¬ WM_X7_load P a j → e_43.2 a j = M0 a j := fun a j h => (q_43 a j (by unfold WM_X7_refuse; unfold WM_X7_load at h; omega)).trans (k_33 a j h)
        exact ⟨_, rfl, k_43, kn_27⟩
      · refine vB (v_X4_take) (fun e_58 f_58 q_58 => ?_)
        have k_58 : ∀ a j, ¬ WM_X7_load P a j → e_58 a j = M0 a j := fun a j h => (q_58 a j (by unfold WM_X4_take; unfold WM_X7_load at h; omega)).trans (k_33 a j h)
        refine vB (v_X1_forget) (fun e_65 f_65 q_65 => ?_)
        have k_65 : ∀ a j, ¬ WM_X7_load P a j → e_65 a j = M0 a j := fun a j h => (q_65 a j (by unfold WM_X1_forget; unfold WM_X7_load at h; omega)).trans (k_58 a j h)
        refine vB (v_X7_changed) (fun e_76 f_76 q_76 => ?_)
        have k_76 : ∀ a j, ¬ WM_X7_load P a j → e_76.2 a j = M0 a j := fun a j h => (q_76 a j (by unfold WM_X7_changed; unfold WM_X7_load at h; omega)).trans (k_65 a j h)
        exact ⟨_, rfl, k_76, kn_27⟩
    · exact T_12 _ _ (fun _ _ _ => rfl) (fun _ _ _ => rfl)
set_option maxRecDepth 100000 in
set_option maxHeartbeats 4000000 in
theorem v_X7_fault {P : Nat} {M : zMt} {v0 : Int32}  : ∃ r, D_X7_fault P M v0 = some r ∧ (True) := by
  have T_28 : ∀ (y0_28 : Int32), ∃ r, D_X7_fault_28 P M y0_28 = some r ∧ (True) := by
    intro y0_28
    unfold D_X7_fault_28
    exact ⟨_, rfl, trivial⟩
  unfold D_X7_fault
  refine vIf (fun h_1 => ?_) (fun h_1 => ?_)
  · exact ⟨_, rfl, trivial⟩
  · refine vIf (fun h_14 => ?_) (fun h_14 => ?_)
    · exact T_28 _
    · exact T_28 _
def WM_X7_many (P : Nat) (a j : Nat) : Prop := (a = P ∧ (j = 0))
set_option maxRecDepth 100000 in
set_option maxHeartbeats 4000000 in
theorem v_X7_many {P : Nat} {v0 : Int32} {M0 : zMt}  : ∃ r, D_X7_many P v0 M0 = some r ∧ ((∀ a j, ¬ WM_X7_many P a j → r.2 a j = M0 a j)) := by
  unfold D_X7_many
  refine vIf (fun h_1 => ?_) (fun h_1_0 => ?_)
  · skip
    refine vB (v_X7_answer) (fun e_68 f_68 q_68 => ?_)
    have k_68 : ∀ a j, ¬ WM_X7_many P a j → e_68.2 a j = M0 a j := fun a j h => (q_68 a j (by unfold WM_X7_answer; unfold WM_X7_many at h; omega))
    exact ⟨_, rfl, k_68⟩
  refine vIf (fun h_1 => ?_) (fun h_1_1 => ?_)
  · skip
    refine vB (v_X7_answer) (fun e_80 f_80 q_80 => ?_)
    have k_80 : ∀ a j, ¬ WM_X7_many P a j → e_80.2 a j = M0 a j := fun a j h => (q_80 a j (by unfold WM_X7_answer; unfold WM_X7_many at h; omega))
    exact ⟨_, rfl, k_80⟩
  refine vIf (fun h_1 => ?_) (fun h_1_2 => ?_)
  · skip
    refine vB (v_X7_answer) (fun e_92 f_92 q_92 => ?_)
    have k_92 : ∀ a j, ¬ WM_X7_many P a j → e_92.2 a j = M0 a j := fun a j h => (q_92 a j (by unfold WM_X7_answer; unfold WM_X7_many at h; omega))
    exact ⟨_, rfl, k_92⟩
  refine vIf (fun h_1 => ?_) (fun h_1_3 => ?_)
  · skip
    refine vB (v_X7_answer) (fun e_104 f_104 q_104 => ?_)
    have k_104 : ∀ a j, ¬ WM_X7_many P a j → e_104.2 a j = M0 a j := fun a j h => (q_104 a j (by unfold WM_X7_answer; unfold WM_X7_many at h; omega))
    exact ⟨_, rfl, k_104⟩
  refine vIf (fun h_1 => ?_) (fun h_1_4 => ?_)
  · skip
    refine vB (v_X7_answer) (fun e_116 f_116 q_116 => ?_)
    have k_116 : ∀ a j, ¬ WM_X7_many P a j → e_116.2 a j = M0 a j := fun a j h => (q_116 a j (by unfold WM_X7_answer; unfold WM_X7_many at h; omega))
    exact ⟨_, rfl, k_116⟩
  refine vIf (fun h_1 => ?_) (fun h_1_5 => ?_)
  · skip
    refine vB (v_X7_answer) (fun e_128 f_128 q_128 => ?_)
    have k_128 : ∀ a j, ¬ WM_X7_many P a j → e_128.2 a j = M0 a j := fun a j h => (q_128 a j (by unfold WM_X7_answer; unfold WM_X7_many at h; omega))
    exact ⟨_, rfl, k_128⟩
  refine vIf (fun h_1 => ?_) (fun h_1_6 => ?_)
  · skip
    refine vB (v_X7_answer) (fun e_140 f_140 q_140 => ?_)
    have k_140 : ∀ a j, ¬ WM_X7_many P a j → e_140.2 a j = M0 a j := fun a j h => (q_140 a j (by unfold WM_X7_answer; unfold WM_X7_many at h; omega))
    exact ⟨_, rfl, k_140⟩
  refine vIf (fun h_1 => ?_) (fun h_1_7 => ?_)
  · skip
    refine vB (v_X7_answer) (fun e_152 f_152 q_152 => ?_)
    have k_152 : ∀ a j, ¬ WM_X7_many P a j → e_152.2 a j = M0 a j := fun a j h => (q_152 a j (by unfold WM_X7_answer; unfold WM_X7_many at h; omega))
    exact ⟨_, rfl, k_152⟩
  refine vIf (fun h_1 => ?_) (fun h_1_8 => ?_)
  · skip
    refine vB (v_X7_answer) (fun e_164 f_164 q_164 => ?_)
    have k_164 : ∀ a j, ¬ WM_X7_many P a j → e_164.2 a j = M0 a j := fun a j h => (q_164 a j (by unfold WM_X7_answer; unfold WM_X7_many at h; omega))
    exact ⟨_, rfl, k_164⟩
  refine vIf (fun h_1 => ?_) (fun h_1_9 => ?_)
  · skip
    refine vB (v_X7_answer) (fun e_179 f_179 q_179 => ?_)
    have k_179 : ∀ a j, ¬ WM_X7_many P a j → e_179.2 a j = M0 a j := fun a j h => (q_179 a j (by unfold WM_X7_answer; unfold WM_X7_many at h; omega))
    exact ⟨_, rfl, k_179⟩
  refine vIf (fun h_1 => ?_) (fun h_1_10 => ?_)
  · skip
    refine vB (v_X7_answer) (fun e_194 f_194 q_194 => ?_)
    have k_194 : ∀ a j, ¬ WM_X7_many P a j → e_194.2 a j = M0 a j := fun a j h => (q_194 a j (by unfold WM_X7_answer; unfold WM_X7_many at h; omega))
    exact ⟨_, rfl, k_194⟩
  refine vB (v_X7_refuse) (fun e_200 f_200 q_200 => ?_)
  have k_200 : ∀ a j, ¬ WM_X7_many P a j → e_200.2 a j = M0 a j := fun a j h => (q_200 a j (by unfold WM_X7_refuse; unfold WM_X7_many at h; omega))
  exact ⟨_, rfl, k_200⟩
set_option maxRecDepth 100000 in
set_option maxHeartbeats 4000000 in
theorem v_X7_isHunter {P : Nat} {M : zMt} {v0 : Int32}  : ∃ r, D_X7_isHunter P M v0 = some r ∧ ((r = 0 ∨ r = 1)) := by
  have T_20 : ∀ (y0_20 : Int32), (y0_20 = 0 ∨ y0_20 = 1) → ∃ r, D_X7_isHunter_20 P M y0_20 = some r ∧ ((r = 0 ∨ r = 1)) := by
    intro y0_20 f0_20
    unfold D_X7_isHunter_20
    exact ⟨_, rfl, (by first | exact Or.inl rfl | exact Or.inr rfl | assumption)⟩
  have T_19 : ∃ r, D_X7_isHunter_19 P M = some r ∧ ((r = 0 ∨ r = 1)) := by
    unfold D_X7_isHunter_19
    exact T_20 _ (by first | exact Or.inl rfl | exact Or.inr rfl | assumption)
  unfold D_X7_isHunter
  refine vIf (fun h_1 => ?_) (fun h_1 => ?_)
  · exact T_19
  · refine vIf (fun h_12 => ?_) (fun h_12 => ?_)
    · exact T_19
    · exact T_20 _ (by first | exact Or.inl rfl | exact Or.inr rfl | assumption)
def WM_X7_hunter (P : Nat) (a j : Nat) : Prop := (a = P ∧ (j = 0))
set_option maxRecDepth 100000 in
set_option maxHeartbeats 4000000 in
theorem v_X7_hunter {P : Nat} {v0 : Int32} {v1 : Int32} {M0 : zMt}  : ∃ r, D_X7_hunter P v0 v1 M0 = some r ∧ ((∀ a j, ¬ WM_X7_hunter P a j → r.2 a j = M0 a j)) := by
  have T_9 : ∀ (M_9 : zMt), (∀ a j, ¬ WM_X7_hunter P a j → M_9 a j = M0 a j) → ∃ r, D_X7_hunter_9 P M_9 = some r ∧ ((∀ a j, ¬ WM_X7_hunter P a j → r.2 a j = M0 a j)) := by
    intro M_9 k_9
    unfold D_X7_hunter_9
    refine vB (v_X7_refuse) (fun e_11 f_11 q_11 => ?_)
    have k_11 : ∀ a j, ¬ WM_X7_hunter P a j → e_11.2 a j = M0 a j := fun a j h => (q_11 a j (by unfold WM_X7_refuse; unfold WM_X7_hunter at h; omega)).trans (k_9 a j h)
    exact ⟨_, rfl, k_11⟩
  unfold D_X7_hunter
  refine vIf (fun h_1 => ?_) (fun h_1 => ?_)
  · exact T_9 _ (fun _ _ _ => rfl)
  · refine vIf (fun h_6 => ?_) (fun h_6 => ?_)
    · refine vB (v_X7_isHunter) (fun e_17 f_17 q_17 => ?_)
      have b_17 := q_17
      refine vIf (fun h_20 => ?_) (fun h_20 => ?_)
      · refine vB (v_X7_refuse) (fun e_25 f_25 q_25 => ?_)
        have k_25 : ∀ a j, ¬ WM_X7_hunter P a j → e_25.2 a j = M0 a j := fun a j h => (q_25 a j (by unfold WM_X7_refuse; unfold WM_X7_hunter at h; omega))
        exact ⟨_, rfl, k_25⟩
      · refine vIf (fun h_30 => ?_) (fun h_30_0 => ?_)
        · skip
          refine vB (v_X7_answer) (fun e_72 f_72 q_72 => ?_)
          have k_72 : ∀ a j, ¬ WM_X7_hunter P a j → e_72.2 a j = M0 a j := fun a j h => (q_72 a j (by unfold WM_X7_answer; unfold WM_X7_hunter at h; omega))
          exact ⟨_, rfl, k_72⟩
        refine vIf (fun h_30 => ?_) (fun h_30_1 => ?_)
        · skip
          refine vB (v_X7_answer) (fun e_88 f_88 q_88 => ?_)
          have k_88 : ∀ a j, ¬ WM_X7_hunter P a j → e_88.2 a j = M0 a j := fun a j h => (q_88 a j (by unfold WM_X7_answer; unfold WM_X7_hunter at h; omega))
          exact ⟨_, rfl, k_88⟩
        refine vIf (fun h_30 => ?_) (fun h_30_2 => ?_)
        · skip
          refine vB (v_X7_answer) (fun e_104 f_104 q_104 => ?_)
          have k_104 : ∀ a j, ¬ WM_X7_hunter P a j → e_104.2 a j = M0 a j := fun a j h => (q_104 a j (by unfold WM_X7_answer; unfold WM_X7_hunter at h; omega))
          exact ⟨_, rfl, k_104⟩
        refine vIf (fun h_30 => ?_) (fun h_30_3 => ?_)
        · skip
          refine vB (v_X7_answer) (fun e_120 f_120 q_120 => ?_)
          have k_120 : ∀ a j, ¬ WM_X7_hunter P a j → e_120.2 a j = M0 a j := fun a j h => (q_120 a j (by unfold WM_X7_answer; unfold WM_X7_hunter at h; omega))
          exact ⟨_, rfl, k_120⟩
        refine vB (v_X7_answer) (fun e_136 f_136 q_136 => ?_)
        have k_136 : ∀ a j, ¬ WM_X7_hunter P a j → e_136.2 a j = M0 a j := fun a j h => (q_136 a j (by unfold WM_X7_answer; unfold WM_X7_hunter at h; omega))
        exact ⟨_, rfl, k_136⟩
    · exact T_9 _ (fun _ _ _ => rfl)
set_option maxRecDepth 100000 in
set_option maxHeartbeats 4000000 in
theorem v_X7_isUnit {P : Nat} {M : zMt} {v0 : Int32}  : ∃ r, D_X7_isUnit P M v0 = some r ∧ ((r = 0 ∨ r = 1)) := by
  have T_20 : ∀ (y0_20 : Int32), (y0_20 = 0 ∨ y0_20 = 1) → ∃ r, D_X7_isUnit_20 P M y0_20 = some r ∧ ((r = 0 ∨ r = 1)) := by
    intro y0_20 f0_20
    unfold D_X7_isUnit_20
    exact ⟨_, rfl, (by first | exact Or.inl rfl | exact Or.inr rfl | assumption)⟩
  have T_19 : ∃ r, D_X7_isUnit_19 P M = some r ∧ ((r = 0 ∨ r = 1)) := by
    unfold D_X7_isUnit_19
    exact T_20 _ (by first | exact Or.inl rfl | exact Or.inr rfl | assumption)
  unfold D_X7_isUnit
  refine vIf (fun h_1 => ?_) (fun h_1 => ?_)
  · exact T_19
  · refine vIf (fun h_12 => ?_) (fun h_12 => ?_)
    · exact T_19
    · exact T_20 _ (by first | exact Or.inl rfl | exact Or.inr rfl | assumption)
def WM_X7_unit (P : Nat) (a j : Nat) : Prop := (a = P ∧ (j = 0))
set_option maxRecDepth 100000 in
set_option maxHeartbeats 4000000 in
theorem v_X7_unit {P : Nat} {v0 : Int32} {v1 : Int32} {M0 : zMt}  : ∃ r, D_X7_unit P v0 v1 M0 = some r ∧ ((∀ a j, ¬ WM_X7_unit P a j → r.2 a j = M0 a j)) := by
  have T_9 : ∀ (M_9 : zMt), (∀ a j, ¬ WM_X7_unit P a j → M_9 a j = M0 a j) → ∃ r, D_X7_unit_9 P M_9 = some r ∧ ((∀ a j, ¬ WM_X7_unit P a j → r.2 a j = M0 a j)) := by
    intro M_9 k_9
    unfold D_X7_unit_9
    refine vB (v_X7_refuse) (fun e_11 f_11 q_11 => ?_)
    have k_11 : ∀ a j, ¬ WM_X7_unit P a j → e_11.2 a j = M0 a j := fun a j h => (q_11 a j (by unfold WM_X7_refuse; unfold WM_X7_unit at h; omega)).trans (k_9 a j h)
    exact ⟨_, rfl, k_11⟩
  unfold D_X7_unit
  refine vIf (fun h_1 => ?_) (fun h_1 => ?_)
  · exact T_9 _ (fun _ _ _ => rfl)
  · refine vIf (fun h_6 => ?_) (fun h_6 => ?_)
    · refine vB (v_X7_isUnit) (fun e_17 f_17 q_17 => ?_)
      have b_17 := q_17
      refine vIf (fun h_20 => ?_) (fun h_20 => ?_)
      · refine vB (v_X7_refuse) (fun e_25 f_25 q_25 => ?_)
        have k_25 : ∀ a j, ¬ WM_X7_unit P a j → e_25.2 a j = M0 a j := fun a j h => (q_25 a j (by unfold WM_X7_refuse; unfold WM_X7_unit at h; omega))
        exact ⟨_, rfl, k_25⟩
      · refine vIf (fun h_30 => ?_) (fun h_30_0 => ?_)
        · skip
          refine vB (v_X7_answer) (fun e_76 f_76 q_76 => ?_)
          have k_76 : ∀ a j, ¬ WM_X7_unit P a j → e_76.2 a j = M0 a j := fun a j h => (q_76 a j (by unfold WM_X7_answer; unfold WM_X7_unit at h; omega))
          exact ⟨_, rfl, k_76⟩
        refine vIf (fun h_30 => ?_) (fun h_30_1 => ?_)
        · skip
          refine vB (v_X7_answer) (fun e_92 f_92 q_92 => ?_)
          have k_92 : ∀ a j, ¬ WM_X7_unit P a j → e_92.2 a j = M0 a j := fun a j h => (q_92 a j (by unfold WM_X7_answer; unfold WM_X7_unit at h; omega))
          exact ⟨_, rfl, k_92⟩
        refine vIf (fun h_30 => ?_) (fun h_30_2 => ?_)
        · skip
          refine vB (v_X7_answer) (fun e_108 f_108 q_108 => ?_)
          have k_108 : ∀ a j, ¬ WM_X7_unit P a j → e_108.2 a j = M0 a j := fun a j h => (q_108 a j (by unfold WM_X7_answer; unfold WM_X7_unit at h; omega))
          exact ⟨_, rfl, k_108⟩
        refine vIf (fun h_30 => ?_) (fun h_30_3 => ?_)
        · skip
          refine vB (v_X2_firstApplicants) (fun e_118 f_118 q_118 => ?_)
          refine vB (v_X7_answer) (fun e_121 f_121 q_121 => ?_)
          have k_121 : ∀ a j, ¬ WM_X7_unit P a j → e_121.2 a j = M0 a j := fun a j h => (q_121 a j (by unfold WM_X7_answer; unfold WM_X7_unit at h; omega))
          exact ⟨_, rfl, k_121⟩
        refine vIf (fun h_30 => ?_) (fun h_30_4 => ?_)
        · skip
          refine vB (v_X2_firstHunters) (fun e_131 f_131 q_131 => ?_)
          refine vB (v_X7_answer) (fun e_134 f_134 q_134 => ?_)
          have k_134 : ∀ a j, ¬ WM_X7_unit P a j → e_134.2 a j = M0 a j := fun a j h => (q_134 a j (by unfold WM_X7_answer; unfold WM_X7_unit at h; omega))
          exact ⟨_, rfl, k_134⟩
        refine vB (v_X2_askers) (fun e_144 f_144 q_144 => ?_)
        refine vB (v_X7_answer) (fun e_147 f_147 q_147 => ?_)
        have k_147 : ∀ a j, ¬ WM_X7_unit P a j → e_147.2 a j = M0 a j := fun a j h => (q_147 a j (by unfold WM_X7_answer; unfold WM_X7_unit at h; omega))
        exact ⟨_, rfl, k_147⟩
    · exact T_9 _ (fun _ _ _ => rfl)
set_option maxRecDepth 100000 in
set_option maxHeartbeats 4000000 in
theorem v_X7_isApplicant {P : Nat} {M : zMt} {v0 : Int32}  : ∃ r, D_X7_isApplicant P M v0 = some r ∧ ((r = 0 ∨ r = 1)) := by
  have T_20 : ∀ (y0_20 : Int32), (y0_20 = 0 ∨ y0_20 = 1) → ∃ r, D_X7_isApplicant_20 P M y0_20 = some r ∧ ((r = 0 ∨ r = 1)) := by
    intro y0_20 f0_20
    unfold D_X7_isApplicant_20
    exact ⟨_, rfl, (by first | exact Or.inl rfl | exact Or.inr rfl | assumption)⟩
  have T_19 : ∃ r, D_X7_isApplicant_19 P M = some r ∧ ((r = 0 ∨ r = 1)) := by
    unfold D_X7_isApplicant_19
    exact T_20 _ (by first | exact Or.inl rfl | exact Or.inr rfl | assumption)
  unfold D_X7_isApplicant
  refine vIf (fun h_1 => ?_) (fun h_1 => ?_)
  · exact T_19
  · refine vIf (fun h_12 => ?_) (fun h_12 => ?_)
    · exact T_19
    · exact T_20 _ (by first | exact Or.inl rfl | exact Or.inr rfl | assumption)
def WM_X7_applicant (P : Nat) (a j : Nat) : Prop := (a = P ∧ (j = 0))
set_option maxRecDepth 100000 in
set_option maxHeartbeats 4000000 in
theorem v_X7_applicant {P : Nat} {v0 : Int32} {v1 : Int32} {M0 : zMt}  : ∃ r, D_X7_applicant P v0 v1 M0 = some r ∧ ((∀ a j, ¬ WM_X7_applicant P a j → r.2 a j = M0 a j)) := by
  have T_10 : ∀ (M_10 : zMt), (∀ a j, ¬ WM_X7_applicant P a j → M_10 a j = M0 a j) → ∃ r, D_X7_applicant_10 P M_10 = some r ∧ ((∀ a j, ¬ WM_X7_applicant P a j → r.2 a j = M0 a j)) := by
    intro M_10 k_10
    unfold D_X7_applicant_10
    refine vB (v_X7_refuse) (fun e_12 f_12 q_12 => ?_)
    have k_12 : ∀ a j, ¬ WM_X7_applicant P a j → e_12.2 a j = M0 a j := fun a j h => (q_12 a j (by unfold WM_X7_refuse; unfold WM_X7_applicant at h; omega)).trans (k_10 a j h)
    exact ⟨_, rfl, k_12⟩
  unfold D_X7_applicant
  refine vIf (fun h_1 => ?_) (fun h_1 => ?_)
  · exact T_10 _ (fun _ _ _ => rfl)
  · refine vIf (fun h_7 => ?_) (fun h_7 => ?_)
    · refine vB (v_X7_isApplicant) (fun e_18 f_18 q_18 => ?_)
      have b_18 := q_18
      refine vIf (fun h_21 => ?_) (fun h_21 => ?_)
      · refine vB (v_X7_refuse) (fun e_26 f_26 q_26 => ?_)
        have k_26 : ∀ a j, ¬ WM_X7_applicant P a j → e_26.2 a j = M0 a j := fun a j h => (q_26 a j (by unfold WM_X7_refuse; unfold WM_X7_applicant at h; omega))
        exact ⟨_, rfl, k_26⟩
      · refine vIf (fun h_31 => ?_) (fun h_31_0 => ?_)
        · skip
          refine vB (v_X7_answer) (fun e_80 f_80 q_80 => ?_)
          have k_80 : ∀ a j, ¬ WM_X7_applicant P a j → e_80.2 a j = M0 a j := fun a j h => (q_80 a j (by unfold WM_X7_answer; unfold WM_X7_applicant at h; omega))
          exact ⟨_, rfl, k_80⟩
        refine vIf (fun h_31 => ?_) (fun h_31_1 => ?_)
        · skip
          refine vB (v_X7_answer) (fun e_96 f_96 q_96 => ?_)
          have k_96 : ∀ a j, ¬ WM_X7_applicant P a j → e_96.2 a j = M0 a j := fun a j h => (q_96 a j (by unfold WM_X7_answer; unfold WM_X7_applicant at h; omega))
          exact ⟨_, rfl, k_96⟩
        refine vIf (fun h_31 => ?_) (fun h_31_2 => ?_)
        · skip
          refine vB (v_X7_answer) (fun e_112 f_112 q_112 => ?_)
          have k_112 : ∀ a j, ¬ WM_X7_applicant P a j → e_112.2 a j = M0 a j := fun a j h => (q_112 a j (by unfold WM_X7_answer; unfold WM_X7_applicant at h; omega))
          exact ⟨_, rfl, k_112⟩
        refine vIf (fun h_31 => ?_) (fun h_31_3 => ?_)
        · skip
          refine vB (v_X7_answer) (fun e_128 f_128 q_128 => ?_)
          have k_128 : ∀ a j, ¬ WM_X7_applicant P a j → e_128.2 a j = M0 a j := fun a j h => (q_128 a j (by unfold WM_X7_answer; unfold WM_X7_applicant at h; omega))
          exact ⟨_, rfl, k_128⟩
        refine vIf (fun h_31 => ?_) (fun h_31_4 => ?_)
        · skip
          refine vB (v_X7_answer) (fun e_144 f_144 q_144 => ?_)
          have k_144 : ∀ a j, ¬ WM_X7_applicant P a j → e_144.2 a j = M0 a j := fun a j h => (q_144 a j (by unfold WM_X7_answer; unfold WM_X7_applicant at h; omega))
          exact ⟨_, rfl, k_144⟩
        refine vIf (fun h_31 => ?_) (fun h_31_5 => ?_)
        · skip
          refine vB (v_X7_answer) (fun e_160 f_160 q_160 => ?_)
          have k_160 : ∀ a j, ¬ WM_X7_applicant P a j → e_160.2 a j = M0 a j := fun a j h => (q_160 a j (by unfold WM_X7_answer; unfold WM_X7_applicant at h; omega))
          exact ⟨_, rfl, k_160⟩
        refine vB (v_X7_answer) (fun e_176 f_176 q_176 => ?_)
        have k_176 : ∀ a j, ¬ WM_X7_applicant P a j → e_176.2 a j = M0 a j := fun a j h => (q_176 a j (by unfold WM_X7_answer; unfold WM_X7_applicant at h; omega))
        exact ⟨_, rfl, k_176⟩
    · exact T_10 _ (fun _ _ _ => rfl)
def WM_X7_choice (P : Nat) (a j : Nat) : Prop := (a = P ∧ (j = 0))
set_option maxRecDepth 100000 in
set_option maxHeartbeats 4000000 in
theorem v_X7_choice {P : Nat} {v0 : Int32} {v1 : Int32} {M0 : zMt}  : ∃ r, D_X7_choice P v0 v1 M0 = some r ∧ ((∀ a j, ¬ WM_X7_choice P a j → r.2 a j = M0 a j)) := by
  unfold D_X7_choice
  refine vIf (fun h_1 => ?_) (fun h_1 => ?_)
  · refine vB (v_X7_isApplicant) (fun e_12 f_12 q_12 => ?_)
    have b_12 := q_12
    refine vIf (fun h_15 => ?_) (fun h_15 => ?_)
    · refine vB (v_X7_refuse) (fun e_20 f_20 q_20 => ?_)
      have k_20 : ∀ a j, ¬ WM_X7_choice P a j → e_20.2 a j = M0 a j := fun a j h => (q_20 a j (by unfold WM_X7_refuse; unfold WM_X7_choice at h; omega))
      exact ⟨_, rfl, k_20⟩
    · refine vIf (fun h_36 => ?_) (fun h_36 => ?_)
      · refine vB (v_X2_wish) (fun e_52 f_52 q_52 => ?_)
        refine vB (v_X7_answer) (fun e_55 f_55 q_55 => ?_)
        have k_55 : ∀ a j, ¬ WM_X7_choice P a j → e_55.2 a j = M0 a j := fun a j h => (q_55 a j (by unfold WM_X7_answer; unfold WM_X7_choice at h; omega))
        exact ⟨_, rfl, k_55⟩
      · refine vB (v_X7_refuse) (fun e_41 f_41 q_41 => ?_)
        have k_41 : ∀ a j, ¬ WM_X7_choice P a j → e_41.2 a j = M0 a j := fun a j h => (q_41 a j (by unfold WM_X7_refuse; unfold WM_X7_choice at h; omega))
        exact ⟨_, rfl, k_41⟩
  · refine vB (v_X7_refuse) (fun e_6 f_6 q_6 => ?_)
    have k_6 : ∀ a j, ¬ WM_X7_choice P a j → e_6.2 a j = M0 a j := fun a j h => (q_6 a j (by unfold WM_X7_refuse; unfold WM_X7_choice at h; omega))
    exact ⟨_, rfl, k_6⟩
set_option maxRecDepth 100000 in
set_option maxHeartbeats 4000000 in
theorem v_X7_commonDivisor  {v0 : Int32} {v1 : Int32}  : ∃ r, D_X7_commonDivisor v0 v1 = some r ∧ (True) := by
  have T_34 : ∀ (x2_34 : Int32), ∃ r, D_X7_commonDivisor_34 x2_34 = some r ∧ (True) := by
    intro x2_34
    unfold D_X7_commonDivisor_34
    exact ⟨_, rfl, trivial⟩
  have TL_7 : ∀ u : Nat, ∀ (x2_7 : Int32) (x3_7 : Int32) (x4_7 : Int32), (2147483648 - Int32.toInt x4_7).toNat < u → ∃ r, D_X7_commonDivisor_7 u x2_7 x3_7 x4_7 = some r ∧ (True) := by
    intro u
    induction u with
    | zero => intro x2_7 x3_7 x4_7 hm_7; exact absurd hm_7 (Nat.not_lt_zero _)
    | succ u_7 ih_7 =>
      intro x2_7 x3_7 x4_7 hm_7
      rw [D_X7_commonDivisor_7]
      refine vIf (fun h_11 => ?_) (fun h_11 => ?_)
      · exact T_34 _
      · refine vIf (fun h_15 => ?_) (fun h_15 => ?_)
        · exact T_34 _
        · refine vZ (by first | assumption | exact z_nzl (by assumption)) ?_
          exact ih_7 _ _ _ (z_up1 (by first | assumption | exact z_lt (by assumption) | exact z_lt2 (by assumption) | exact z_lt3 (by assumption) (by first | assumption | decide)) hm_7)
  have T_7 : ∀ (x2_7 : Int32) (x3_7 : Int32) (x4_7 : Int32), ∃ r, D_X7_commonDivisor_7 zFu x2_7 x3_7 x4_7 = some r ∧ (True) := fun x2_7 x3_7 x4_7 => TL_7 zFu x2_7 x3_7 x4_7 (zFu_up _)
  unfold D_X7_commonDivisor
  exact T_7 _ _ _
set_option maxRecDepth 100000 in
set_option maxHeartbeats 4000000 in
theorem v_X7_lowest  {v0 : Int32} {v1 : Int32} {v2 : Int32}  : ∃ r, D_X7_lowest v0 v1 v2 = some r ∧ (True) := by
  have T_30 : ∀ (y0_30 : Int32), ∃ r, D_X7_lowest_30 y0_30 = some r ∧ (True) := by
    intro y0_30
    unfold D_X7_lowest_30
    exact ⟨_, rfl, trivial⟩
  have T_15 : ∀ (x3_15 : Int32) (y0_15 : Int32), ∃ r, D_X7_lowest_15 x3_15 y0_15 = some r ∧ (True) := by
    intro x3_15 y0_15
    unfold D_X7_lowest_15
    refine vIf (fun h_18 => ?_) (fun h_18 => ?_)
    · exact T_30 _
    · refine vZ (by first | assumption | exact z_nzl (by assumption)) ?_
      exact T_30 _
  unfold D_X7_lowest
  refine vB (v_X7_commonDivisor) (fun e_2 f_2 q_2 => ?_)
  refine vIf (fun h_7 => ?_) (fun h_7 => ?_)
  · exact T_15 _ _
  · exact T_15 _ _
def WM_X7_demand (P : Nat) (a j : Nat) : Prop := (a = P ∧ (j = 0))
set_option maxRecDepth 100000 in
set_option maxHeartbeats 4000000 in
theorem v_X7_demand {P : Nat} {v0 : Int32} {v1 : Int32} {M0 : zMt}  : ∃ r, D_X7_demand P v0 v1 M0 = some r ∧ ((∀ a j, ¬ WM_X7_demand P a j → r.2 a j = M0 a j)) := by
  have T_9 : ∀ (M_9 : zMt), (∀ a j, ¬ WM_X7_demand P a j → M_9 a j = M0 a j) → ∃ r, D_X7_demand_9 P M_9 = some r ∧ ((∀ a j, ¬ WM_X7_demand P a j → r.2 a j = M0 a j)) := by
    intro M_9 k_9
    unfold D_X7_demand_9
    refine vB (v_X7_refuse) (fun e_11 f_11 q_11 => ?_)
    have k_11 : ∀ a j, ¬ WM_X7_demand P a j → e_11.2 a j = M0 a j := fun a j h => (q_11 a j (by unfold WM_X7_refuse; unfold WM_X7_demand at h; omega)).trans (k_9 a j h)
    exact ⟨_, rfl, k_11⟩
  unfold D_X7_demand
  refine vIf (fun h_1 => ?_) (fun h_1 => ?_)
  · exact T_9 _ (fun _ _ _ => rfl)
  · refine vIf (fun h_6 => ?_) (fun h_6 => ?_)
    · refine vB (v_X7_isUnit) (fun e_17 f_17 q_17 => ?_)
      have b_17 := q_17
      refine vIf (fun h_20 => ?_) (fun h_20 => ?_)
      · refine vB (v_X7_refuse) (fun e_25 f_25 q_25 => ?_)
        have k_25 : ∀ a j, ¬ WM_X7_demand P a j → e_25.2 a j = M0 a j := fun a j h => (q_25 a j (by unfold WM_X7_refuse; unfold WM_X7_demand at h; omega))
        exact ⟨_, rfl, k_25⟩
      · refine vIf (fun h_40 => ?_) (fun h_40 => ?_)
        · refine vB (v_X7_refuse) (fun e_45 f_45 q_45 => ?_)
          have k_45 : ∀ a j, ¬ WM_X7_demand P a j → e_45.2 a j = M0 a j := fun a j h => (q_45 a j (by unfold WM_X7_refuse; unfold WM_X7_demand at h; omega))
          exact ⟨_, rfl, k_45⟩
        · refine vB (v_X2_firstHunters) (fun e_55 f_55 q_55 => ?_)
          refine vB (v_X7_lowest) (fun e_70 f_70 q_70 => ?_)
          refine vB (v_X7_answer) (fun e_73 f_73 q_73 => ?_)
          have k_73 : ∀ a j, ¬ WM_X7_demand P a j → e_73.2 a j = M0 a j := fun a j h => (q_73 a j (by unfold WM_X7_answer; unfold WM_X7_demand at h; omega))
          exact ⟨_, rfl, k_73⟩
    · exact T_9 _ (fun _ _ _ => rfl)
def WM_X7_share (P : Nat) (a j : Nat) : Prop := (a = P ∧ (j = 0))
set_option maxRecDepth 100000 in
set_option maxHeartbeats 4000000 in
theorem v_X7_share {P : Nat} {v0 : Int32} {v1 : Int32} {M0 : zMt}  : ∃ r, D_X7_share P v0 v1 M0 = some r ∧ ((∀ a j, ¬ WM_X7_share P a j → r.2 a j = M0 a j)) := by
  have T_9 : ∀ (M_9 : zMt), (∀ a j, ¬ WM_X7_share P a j → M_9 a j = M0 a j) → ∃ r, D_X7_share_9 P M_9 = some r ∧ ((∀ a j, ¬ WM_X7_share P a j → r.2 a j = M0 a j)) := by
    intro M_9 k_9
    unfold D_X7_share_9
    refine vB (v_X7_refuse) (fun e_11 f_11 q_11 => ?_)
    have k_11 : ∀ a j, ¬ WM_X7_share P a j → e_11.2 a j = M0 a j := fun a j h => (q_11 a j (by unfold WM_X7_refuse; unfold WM_X7_share at h; omega)).trans (k_9 a j h)
    exact ⟨_, rfl, k_11⟩
  unfold D_X7_share
  refine vIf (fun h_1 => ?_) (fun h_1 => ?_)
  · exact T_9 _ (fun _ _ _ => rfl)
  · refine vIf (fun h_6 => ?_) (fun h_6 => ?_)
    · refine vB (v_X7_isApplicant) (fun e_17 f_17 q_17 => ?_)
      have b_17 := q_17
      refine vIf (fun h_20 => ?_) (fun h_20 => ?_)
      · refine vB (v_X7_refuse) (fun e_25 f_25 q_25 => ?_)
        have k_25 : ∀ a j, ¬ WM_X7_share P a j → e_25.2 a j = M0 a j := fun a j h => (q_25 a j (by unfold WM_X7_refuse; unfold WM_X7_share at h; omega))
        exact ⟨_, rfl, k_25⟩
      · refine vB (v_X7_lowest) (fun e_49 f_49 q_49 => ?_)
        refine vB (v_X7_answer) (fun e_52 f_52 q_52 => ?_)
        have k_52 : ∀ a j, ¬ WM_X7_share P a j → e_52.2 a j = M0 a j := fun a j h => (q_52 a j (by unfold WM_X7_answer; unfold WM_X7_share at h; omega))
        exact ⟨_, rfl, k_52⟩
    · exact T_9 _ (fun _ _ _ => rfl)
set_option maxRecDepth 100000 in
set_option maxHeartbeats 4000000 in
theorem v_X7_isSeed  {v0 : Int32}  : ∃ r, D_X7_isSeed v0 = some r ∧ ((r = 0 ∨ r = 1)) := by
  have T_16 : ∀ (y0_16 : Int32), (y0_16 = 0 ∨ y0_16 = 1) → ∃ r, D_X7_isSeed_16 y0_16 = some r ∧ ((r = 0 ∨ r = 1)) := by
    intro y0_16 f0_16
    unfold D_X7_isSeed_16
    exact ⟨_, rfl, (by first | exact Or.inl rfl | exact Or.inr rfl | assumption)⟩
  have T_15 : ∃ r, D_X7_isSeed_15 = some r ∧ ((r = 0 ∨ r = 1)) := by
    unfold D_X7_isSeed_15
    exact T_16 _ (by first | exact Or.inl rfl | exact Or.inr rfl | assumption)
  unfold D_X7_isSeed
  refine vIf (fun h_1 => ?_) (fun h_1 => ?_)
  · exact T_15
  · refine vIf (fun h_8 => ?_) (fun h_8 => ?_)
    · exact T_15
    · exact T_16 _ (by first | exact Or.inl rfl | exact Or.inr rfl | assumption)
def WM_X7_order (P : Nat) (a j : Nat) : Prop := (P + 105 ≤ a ∧ a < P + 106) ∨ (a = P ∧ (j = 0))
set_option maxRecDepth 100000 in
set_option maxHeartbeats 4000000 in
theorem v_X7_order {P : Nat} {v0 : Int32} {v1 : Int32} {M0 : zMt}  : ∃ r, D_X7_order P v0 v1 M0 = some r ∧ ((∀ a j, ¬ WM_X7_order P a j → r.2 a j = M0 a j)) := by
  have T_11 : ∀ (M_11 : zMt), (∀ a j, ¬ WM_X7_order P a j → M_11 a j = M0 a j) → ∃ r, D_X7_order_11 P M_11 = some r ∧ ((∀ a j, ¬ WM_X7_order P a j → r.2 a j = M0 a j)) := by
    intro M_11 k_11
    unfold D_X7_order_11
    refine vB (v_X7_refuse) (fun e_13 f_13 q_13 => ?_)
    have k_13 : ∀ a j, ¬ WM_X7_order P a j → e_13.2 a j = M0 a j := fun a j h => (q_13 a j (by unfold WM_X7_refuse; unfold WM_X7_order at h; omega)).trans (k_11 a j h)
    exact ⟨_, rfl, k_13⟩
  unfold D_X7_order
  refine vB (v_X7_isSeed) (fun e_1 f_1 q_1 => ?_)
  have b_1 := q_1
  refine vIf (fun h_4 => ?_) (fun h_4 => ?_)
  · exact T_11 _ (fun _ _ _ => rfl)
  · refine vIf (fun h_8 => ?_) (fun h_8 => ?_)
    · refine vIf (fun h_25 => ?_) (fun h_25 => ?_)
      · refine vB (v_X5_lineUp) (fun e_43 f_43 q_43 => ?_)
        have k_43 : ∀ a j, ¬ WM_X7_order P a j → e_43 a j = M0 a j := fun a j h => (q_43 a j (by unfold WM_X5_lineUp; unfold WM_X7_order at h; omega))
        refine vB (v_X7_answer) (fun e_58 f_58 q_58 => ?_)
        have k_58 : ∀ a j, ¬ WM_X7_order P a j → e_58.2 a j = M0 a j := fun a j h => (q_58 a j (by unfold WM_X7_answer; unfold WM_X7_order at h; omega)).trans (k_43 a j h)
        exact ⟨_, rfl, k_58⟩
      · refine vB (v_X7_refuse) (fun e_30 f_30 q_30 => ?_)
        have k_30 : ∀ a j, ¬ WM_X7_order P a j → e_30.2 a j = M0 a j := fun a j h => (q_30 a j (by unfold WM_X7_refuse; unfold WM_X7_order at h; omega))
        exact ⟨_, rfl, k_30⟩
    · exact T_11 _ (fun _ _ _ => rfl)
def WM_X7_drawn (P : Nat) (a j : Nat) : Prop := (P + 105 ≤ a ∧ a < P + 112) ∨ (a = P ∧ (j = 0))
set_option maxRecDepth 100000 in
set_option maxHeartbeats 4000000 in
theorem v_X7_drawn {P : Nat} {v0 : Int32} {v1 : Int32} {M0 : zMt}  : ∃ r, D_X7_drawn P v0 v1 M0 = some r ∧ ((∀ a j, ¬ WM_X7_drawn P a j → r.2 a j = M0 a j)) := by
  have T_69 : ∀ (y0_69 : Int32) (M_69 : zMt), (∀ a j, ¬ WM_X7_drawn P a j → M_69 a j = M0 a j) → ∃ r, D_X7_drawn_69 P y0_69 M_69 = some r ∧ ((∀ a j, ¬ WM_X7_drawn P a j → r.2 a j = M0 a j)) := by
    intro y0_69 M_69 k_69
    unfold D_X7_drawn_69
    exact ⟨_, rfl, k_69⟩
  unfold D_X7_drawn
  refine vB (v_X7_isSeed) (fun e_1 f_1 q_1 => ?_)
  have b_1 := q_1
  refine vIf (fun h_4 => ?_) (fun h_4 => ?_)
  · refine vB (v_X7_refuse) (fun e_9 f_9 q_9 => ?_)
    have k_9 : ∀ a j, ¬ WM_X7_drawn P a j → e_9.2 a j = M0 a j := fun a j h => (q_9 a j (by unfold WM_X7_refuse; unfold WM_X7_drawn at h; omega))
    exact ⟨_, rfl, k_9⟩
  · refine vB (v_X7_isApplicant) (fun e_15 f_15 q_15 => ?_)
    have b_15 := q_15
    refine vIf (fun h_18 => ?_) (fun h_18 => ?_)
    · refine vB (v_X7_refuse) (fun e_23 f_23 q_23 => ?_)
      have k_23 : ∀ a j, ¬ WM_X7_drawn P a j → e_23.2 a j = M0 a j := fun a j h => (q_23 a j (by unfold WM_X7_refuse; unfold WM_X7_drawn at h; omega))
      exact ⟨_, rfl, k_23⟩
    · refine vB (v_X5_bySeed) (fun e_36 f_36 q_36 => ?_)
      have k_36 : ∀ a j, ¬ WM_X7_drawn P a j → e_36 a j = M0 a j := fun a j h => (q_36 a j (by unfold WM_X5_bySeed; unfold WM_X7_drawn at h; omega))
      refine vIf (fun h_53 => ?_) (fun h_53 => ?_)
      · refine vB (v_X7_refuse) (fun e_58 f_58 q_58 => ?_)
        have k_58 : ∀ a j, ¬ WM_X7_drawn P a j → e_58.2 a j = M0 a j := fun a j h => (q_58 a j (by unfold WM_X7_refuse; unfold WM_X7_drawn at h; omega)).trans (k_36 a j h)
        exact T_69 _ _ k_58
      · refine vB (v_X7_answer) (fun e_66 f_66 q_66 => ?_)
        have k_66 : ∀ a j, ¬ WM_X7_drawn P a j → e_66.2 a j = M0 a j := fun a j h => (q_66 a j (by unfold WM_X7_answer; unfold WM_X7_drawn at h; omega)).trans (k_36 a j h)
        exact T_69 _ _ k_66
def WM_X7_round (P : Nat) (a j : Nat) : Prop := (P + 105 ≤ a ∧ a < P + 112) ∨ (a = P ∧ (j = 0))
set_option maxRecDepth 100000 in
set_option maxHeartbeats 4000000 in
theorem v_X7_round {P : Nat} {v0 : Int32} {v1 : Int32} {M0 : zMt}  : ∃ r, D_X7_round P v0 v1 M0 = some r ∧ ((∀ a j, ¬ WM_X7_round P a j → r.2 a j = M0 a j)) := by
  have T_77 : ∀ (y0_77 : Int32) (M_77 : zMt), (∀ a j, ¬ WM_X7_round P a j → M_77 a j = M0 a j) → ∃ r, D_X7_round_77 P y0_77 M_77 = some r ∧ ((∀ a j, ¬ WM_X7_round P a j → r.2 a j = M0 a j)) := by
    intro y0_77 M_77 k_77
    unfold D_X7_round_77
    exact ⟨_, rfl, k_77⟩
  unfold D_X7_round
  refine vB (v_X7_isSeed) (fun e_1 f_1 q_1 => ?_)
  have b_1 := q_1
  refine vIf (fun h_4 => ?_) (fun h_4 => ?_)
  · refine vB (v_X7_refuse) (fun e_9 f_9 q_9 => ?_)
    have k_9 : ∀ a j, ¬ WM_X7_round P a j → e_9.2 a j = M0 a j := fun a j h => (q_9 a j (by unfold WM_X7_refuse; unfold WM_X7_round at h; omega))
    exact ⟨_, rfl, k_9⟩
  · refine vB (v_X7_isApplicant) (fun e_15 f_15 q_15 => ?_)
    have b_15 := q_15
    refine vIf (fun h_18 => ?_) (fun h_18 => ?_)
    · refine vB (v_X7_refuse) (fun e_23 f_23 q_23 => ?_)
      have k_23 : ∀ a j, ¬ WM_X7_round P a j → e_23.2 a j = M0 a j := fun a j h => (q_23 a j (by unfold WM_X7_refuse; unfold WM_X7_round at h; omega))
      exact ⟨_, rfl, k_23⟩
    · refine vB (v_X5_bySeed) (fun e_36 f_36 q_36 => ?_)
      have k_36 : ∀ a j, ¬ WM_X7_round P a j → e_36 a j = M0 a j := fun a j h => (q_36 a j (by unfold WM_X5_bySeed; unfold WM_X7_round at h; omega))
      refine vIf (fun h_51 => ?_) (fun h_51 => ?_)
      · refine vB (v_X7_refuse) (fun e_56 f_56 q_56 => ?_)
        have k_56 : ∀ a j, ¬ WM_X7_round P a j → e_56.2 a j = M0 a j := fun a j h => (q_56 a j (by unfold WM_X7_refuse; unfold WM_X7_round at h; omega)).trans (k_36 a j h)
        exact T_77 _ _ k_56
      · refine vB (v_X7_answer) (fun e_74 f_74 q_74 => ?_)
        have k_74 : ∀ a j, ¬ WM_X7_round P a j → e_74.2 a j = M0 a j := fun a j h => (q_74 a j (by unfold WM_X7_answer; unfold WM_X7_round at h; omega)).trans (k_36 a j h)
        exact T_77 _ _ k_74
def WM_X7_left (P : Nat) (a j : Nat) : Prop := (P + 105 ≤ a ∧ a < P + 112) ∨ (a = P ∧ (j = 0))
set_option maxRecDepth 100000 in
set_option maxHeartbeats 4000000 in
theorem v_X7_left {P : Nat} {v0 : Int32} {v1 : Int32} {v2 : Int32} {M0 : zMt}  : ∃ r, D_X7_left P v0 v1 v2 M0 = some r ∧ ((∀ a j, ¬ WM_X7_left P a j → r.2 a j = M0 a j)) := by
  have T_159 : ∀ (y0_159 : Int32) (M_159 : zMt), (∀ a j, ¬ WM_X7_left P a j → M_159 a j = M0 a j) → ∃ r, D_X7_left_159 P y0_159 M_159 = some r ∧ ((∀ a j, ¬ WM_X7_left P a j → r.2 a j = M0 a j)) := by
    intro y0_159 M_159 k_159
    unfold D_X7_left_159
    exact ⟨_, rfl, k_159⟩
  have T_16 : ∀ (M_16 : zMt), (∀ a j, ¬ WM_X7_left P a j → M_16 a j = M0 a j) → ∃ r, D_X7_left_16 P M_16 = some r ∧ ((∀ a j, ¬ WM_X7_left P a j → r.2 a j = M0 a j)) := by
    intro M_16 k_16
    unfold D_X7_left_16
    refine vB (v_X7_refuse) (fun e_18 f_18 q_18 => ?_)
    have k_18 : ∀ a j, ¬ WM_X7_left P a j → e_18.2 a j = M0 a j := fun a j h => (q_18 a j (by unfold WM_X7_refuse; unfold WM_X7_left at h; omega)).trans (k_16 a j h)
    exact ⟨_, rfl, k_18⟩
  unfold D_X7_left
  refine vB (v_X7_isSeed) (fun e_1 f_1 q_1 => ?_)
  have b_1 := q_1
  refine vIf (fun h_4 => ?_) (fun h_4 => ?_)
  · exact T_16 _ (fun _ _ _ => rfl)
  · refine vIf (fun h_8 => ?_) (fun h_8 => ?_)
    · exact T_16 _ (fun _ _ _ => rfl)
    · refine vIf (fun h_13 => ?_) (fun h_13 => ?_)
      · refine vB (v_X7_isUnit) (fun e_24 f_24 q_24 => ?_)
        have b_24 := q_24
        refine vIf (fun h_27 => ?_) (fun h_27 => ?_)
        · refine vB (v_X7_refuse) (fun e_32 f_32 q_32 => ?_)
          have k_32 : ∀ a j, ¬ WM_X7_left P a j → e_32.2 a j = M0 a j := fun a j h => (q_32 a j (by unfold WM_X7_refuse; unfold WM_X7_left at h; omega))
          exact ⟨_, rfl, k_32⟩
        · refine vB (v_X5_bySeed) (fun e_45 f_45 q_45 => ?_)
          have k_45 : ∀ a j, ¬ WM_X7_left P a j → e_45 a j = M0 a j := fun a j h => (q_45 a j (by unfold WM_X5_bySeed; unfold WM_X7_left at h; omega))
          refine vIf (fun h_49 => ?_) (fun h_49_0 => ?_)
          · skip
            refine vB (v_X7_answer) (fun e_88 f_88 q_88 => ?_)
            have k_88 : ∀ a j, ¬ WM_X7_left P a j → e_88.2 a j = M0 a j := fun a j h => (q_88 a j (by unfold WM_X7_answer; unfold WM_X7_left at h; omega)).trans (k_45 a j h)
            exact ⟨_, rfl, k_88⟩
          refine vIf (fun h_49 => ?_) (fun h_49_1 => ?_)
          · skip
            refine vB (v_X7_answer) (fun e_104 f_104 q_104 => ?_)
            have k_104 : ∀ a j, ¬ WM_X7_left P a j → e_104.2 a j = M0 a j := fun a j h => (q_104 a j (by unfold WM_X7_answer; unfold WM_X7_left at h; omega)).trans (k_45 a j h)
            exact ⟨_, rfl, k_104⟩
          refine vIf (fun h_49 => ?_) (fun h_49_2 => ?_)
          · skip
            refine vB (v_X5_holders) (fun e_118 f_118 q_118 => ?_)
            refine vB (v_X7_answer) (fun e_121 f_121 q_121 => ?_)
            have k_121 : ∀ a j, ¬ WM_X7_left P a j → e_121.2 a j = M0 a j := fun a j h => (q_121 a j (by unfold WM_X7_answer; unfold WM_X7_left at h; omega)).trans (k_45 a j h)
            exact ⟨_, rfl, k_121⟩
          refine vB (v_X5_fewestPoints) (fun e_134 f_134 q_134 => ?_)
          refine vIf (fun h_142 => ?_) (fun h_142 => ?_)
          · refine vB (v_X7_refuse) (fun e_147 f_147 q_147 => ?_)
            have k_147 : ∀ a j, ¬ WM_X7_left P a j → e_147.2 a j = M0 a j := fun a j h => (q_147 a j (by unfold WM_X7_refuse; unfold WM_X7_left at h; omega)).trans (k_45 a j h)
            exact T_159 _ _ k_147
          · refine vB (v_X7_answer) (fun e_156 f_156 q_156 => ?_)
            have k_156 : ∀ a j, ¬ WM_X7_left P a j → e_156.2 a j = M0 a j := fun a j h => (q_156 a j (by unfold WM_X7_answer; unfold WM_X7_left at h; omega)).trans (k_45 a j h)
            exact T_159 _ _ k_156
      · exact T_16 _ (fun _ _ _ => rfl)
def WM_X7_winners (P : Nat) (a j : Nat) : Prop := (P + 105 ≤ a ∧ a < P + 112) ∨ (a = P ∧ (j = 0))
set_option maxRecDepth 100000 in
set_option maxHeartbeats 4000000 in
theorem v_X7_winners {P : Nat} {v0 : Int32} {M0 : zMt}  : ∃ r, D_X7_winners P v0 M0 = some r ∧ ((∀ a j, ¬ WM_X7_winners P a j → r.2 a j = M0 a j)) := by
  have TL_29 : ∀ u : Nat, ∀ (x2_29 : Int32) (x3_29 : Int32) (M_29 : zMt), (∀ a j, ¬ WM_X7_winners P a j → M_29 a j = M0 a j) → (2147483648 - Int32.toInt x3_29).toNat < u → ∃ r, D_X7_winners_29 P u x2_29 x3_29 M_29 = some r ∧ ((∀ a j, ¬ WM_X7_winners P a j → r.2 a j = M0 a j)) := by
    intro u
    induction u with
    | zero => intro x2_29 x3_29 M_29 k_29 hm_29; exact absurd hm_29 (Nat.not_lt_zero _)
    | succ u_29 ih_29 =>
      have T_69 : ∀ (x2_69 : Int32) (x3_69 : Int32) (M_69 : zMt), (∀ a j, ¬ WM_X7_winners P a j → M_69 a j = M0 a j) → ((2147483648 - Int32.toInt x3_69).toNat < u_29 + 1) → (Int32.toInt x3_69 < 2147483647) → ∃ r, D_X7_winners_69 P (D_X7_winners_29 P u_29) x2_69 x3_69 M_69 = some r ∧ ((∀ a j, ¬ WM_X7_winners P a j → r.2 a j = M0 a j)) := by
        intro x2_69 x3_69 M_69 k_69 f0_69 f1_69
        unfold D_X7_winners_69
        exact ih_29 _ _ _ k_69 (z_up1 f1_69 f0_69)
      intro x2_29 x3_29 M_29 k_29 hm_29
      rw [D_X7_winners_29]
      refine vIf (fun h_37 => ?_) (fun h_37 => ?_)
      · refine vB (v_X7_answer) (fun e_77 f_77 q_77 => ?_)
        have k_77 : ∀ a j, ¬ WM_X7_winners P a j → e_77.2 a j = M0 a j := fun a j h => (q_77 a j (by unfold WM_X7_answer; unfold WM_X7_winners at h; omega)).trans (k_29 a j h)
        exact ⟨_, rfl, k_77⟩
      · refine vIf (fun h_52 => ?_) (fun h_52 => ?_)
        · exact T_69 _ _ _ k_29 hm_29 (by first | assumption | exact z_lt (by assumption) | exact z_lt2 (by assumption) | exact z_lt3 (by assumption) (by first | assumption | decide))
        · exact T_69 _ _ _ k_29 hm_29 (by first | assumption | exact z_lt (by assumption) | exact z_lt2 (by assumption) | exact z_lt3 (by assumption) (by first | assumption | decide))
  have T_29 : ∀ (x2_29 : Int32) (x3_29 : Int32) (M_29 : zMt), (∀ a j, ¬ WM_X7_winners P a j → M_29 a j = M0 a j) → ∃ r, D_X7_winners_29 P zFu x2_29 x3_29 M_29 = some r ∧ ((∀ a j, ¬ WM_X7_winners P a j → r.2 a j = M0 a j)) := fun x2_29 x3_29 M_29 k_29 => TL_29 zFu x2_29 x3_29 M_29 k_29 (zFu_up _)
  unfold D_X7_winners
  refine vB (v_X7_isSeed) (fun e_1 f_1 q_1 => ?_)
  have b_1 := q_1
  refine vIf (fun h_4 => ?_) (fun h_4 => ?_)
  · refine vB (v_X7_refuse) (fun e_9 f_9 q_9 => ?_)
    have k_9 : ∀ a j, ¬ WM_X7_winners P a j → e_9.2 a j = M0 a j := fun a j h => (q_9 a j (by unfold WM_X7_refuse; unfold WM_X7_winners at h; omega))
    exact ⟨_, rfl, k_9⟩
  · refine vB (v_X5_bySeed) (fun e_22 f_22 q_22 => ?_)
    have k_22 : ∀ a j, ¬ WM_X7_winners P a j → e_22 a j = M0 a j := fun a j h => (q_22 a j (by unfold WM_X5_bySeed; unfold WM_X7_winners at h; omega))
    exact T_29 _ _ _ k_22
def WM_X7_waits (P : Nat) (a j : Nat) : Prop := (P + 105 ≤ a ∧ a < P + 112) ∨ (a = P ∧ (j = 0))
set_option maxRecDepth 100000 in
set_option maxHeartbeats 4000000 in
theorem v_X7_waits {P : Nat} {v0 : Int32} {v1 : Int32} {v2 : Int32} {M0 : zMt}  : ∃ r, D_X7_waits P v0 v1 v2 M0 = some r ∧ ((∀ a j, ¬ WM_X7_waits P a j → r.2 a j = M0 a j)) := by
  have T_137 : ∀ (y0_137 : Int32) (M_137 : zMt), (∀ a j, ¬ WM_X7_waits P a j → M_137 a j = M0 a j) → ∃ r, D_X7_waits_137 P y0_137 M_137 = some r ∧ ((∀ a j, ¬ WM_X7_waits P a j → r.2 a j = M0 a j)) := by
    intro y0_137 M_137 k_137
    unfold D_X7_waits_137
    exact ⟨_, rfl, k_137⟩
  have TL_50 : ∀ u : Nat, ∀ (x2_50 : Int32) (x3_50 : Int32) (x4_50 : Int32) (x5_50 : Int32) (M_50 : zMt), (∀ a j, ¬ WM_X7_waits P a j → M_50 a j = M0 a j) → (2147483648 - Int32.toInt x5_50).toNat < u → ∃ r, D_X7_waits_50 P u x2_50 x3_50 x4_50 x5_50 M_50 = some r ∧ ((∀ a j, ¬ WM_X7_waits P a j → r.2 a j = M0 a j)) := by
    intro u
    induction u with
    | zero => intro x2_50 x3_50 x4_50 x5_50 M_50 k_50 hm_50; exact absurd hm_50 (Nat.not_lt_zero _)
    | succ u_50 ih_50 =>
      have T_112 : ∀ (x2_112 : Int32) (x3_112 : Int32) (x4_112 : Int32) (x5_112 : Int32) (M_112 : zMt), (∀ a j, ¬ WM_X7_waits P a j → M_112 a j = M0 a j) → ((2147483648 - Int32.toInt x5_112).toNat < u_50 + 1) → (Int32.toInt x5_112 < 2147483647) → ∃ r, D_X7_waits_112 P (D_X7_waits_50 P u_50) x2_112 x3_112 x4_112 x5_112 M_112 = some r ∧ ((∀ a j, ¬ WM_X7_waits P a j → r.2 a j = M0 a j)) := by
        intro x2_112 x3_112 x4_112 x5_112 M_112 k_112 f0_112 f1_112
        unfold D_X7_waits_112
        exact ih_50 _ _ _ _ _ k_112 (z_up1 f1_112 f0_112)
      intro x2_50 x3_50 x4_50 x5_50 M_50 k_50 hm_50
      rw [D_X7_waits_50]
      refine vIf (fun h_59 => ?_) (fun h_59 => ?_)
      · refine vIf (fun h_120 => ?_) (fun h_120 => ?_)
        · refine vB (v_X7_answer) (fun e_126 f_126 q_126 => ?_)
          have k_126 : ∀ a j, ¬ WM_X7_waits P a j → e_126.2 a j = M0 a j := fun a j h => (q_126 a j (by unfold WM_X7_answer; unfold WM_X7_waits at h; omega)).trans (k_50 a j h)
          exact T_137 _ _ k_126
        · refine vB (v_X7_refuse) (fun e_134 f_134 q_134 => ?_)
          have k_134 : ∀ a j, ¬ WM_X7_waits P a j → e_134.2 a j = M0 a j := fun a j h => (q_134 a j (by unfold WM_X7_refuse; unfold WM_X7_waits at h; omega)).trans (k_50 a j h)
          exact T_137 _ _ k_134
      · refine vB (v_X5_isWaiting) (fun e_87 f_87 q_87 => ?_)
        have b_87 := q_87
        refine vIf (fun h_90 => ?_) (fun h_90 => ?_)
        · exact T_112 _ _ _ _ _ k_50 hm_50 (by first | assumption | exact z_lt (by assumption) | exact z_lt2 (by assumption) | exact z_lt3 (by assumption) (by first | assumption | decide))
        · refine vIf (fun h_99 => ?_) (fun h_99 => ?_)
          · refine vB (v_X7_answer) (fun e_105 f_105 q_105 => ?_)
            have k_105 : ∀ a j, ¬ WM_X7_waits P a j → e_105.2 a j = M0 a j := fun a j h => (q_105 a j (by unfold WM_X7_answer; unfold WM_X7_waits at h; omega)).trans (k_50 a j h)
            exact ⟨_, rfl, k_105⟩
          · exact T_112 _ _ _ _ _ k_50 hm_50 (by first | assumption | exact z_lt (by assumption) | exact z_lt2 (by assumption) | exact z_lt3 (by assumption) (by first | assumption | decide))
  have T_50 : ∀ (x2_50 : Int32) (x3_50 : Int32) (x4_50 : Int32) (x5_50 : Int32) (M_50 : zMt), (∀ a j, ¬ WM_X7_waits P a j → M_50 a j = M0 a j) → ∃ r, D_X7_waits_50 P zFu x2_50 x3_50 x4_50 x5_50 M_50 = some r ∧ ((∀ a j, ¬ WM_X7_waits P a j → r.2 a j = M0 a j)) := fun x2_50 x3_50 x4_50 x5_50 M_50 k_50 => TL_50 zFu x2_50 x3_50 x4_50 x5_50 M_50 k_50 (zFu_up _)
  have T_12 : ∀ (M_12 : zMt), (∀ a j, ¬ WM_X7_waits P a j → M_12 a j = M0 a j) → ∃ r, D_X7_waits_12 P M_12 = some r ∧ ((∀ a j, ¬ WM_X7_waits P a j → r.2 a j = M0 a j)) := by
    intro M_12 k_12
    unfold D_X7_waits_12
    refine vB (v_X7_refuse) (fun e_14 f_14 q_14 => ?_)
    have k_14 : ∀ a j, ¬ WM_X7_waits P a j → e_14.2 a j = M0 a j := fun a j h => (q_14 a j (by unfold WM_X7_refuse; unfold WM_X7_waits at h; omega)).trans (k_12 a j h)
    exact ⟨_, rfl, k_14⟩
  unfold D_X7_waits
  refine vB (v_X7_isSeed) (fun e_1 f_1 q_1 => ?_)
  have b_1 := q_1
  refine vIf (fun h_4 => ?_) (fun h_4 => ?_)
  · exact T_12 _ (fun _ _ _ => rfl)
  · refine vIf (fun h_9 => ?_) (fun h_9 => ?_)
    · refine vB (v_X7_isUnit) (fun e_20 f_20 q_20 => ?_)
      have b_20 := q_20
      refine vIf (fun h_23 => ?_) (fun h_23 => ?_)
      · refine vB (v_X7_refuse) (fun e_28 f_28 q_28 => ?_)
        have k_28 : ∀ a j, ¬ WM_X7_waits P a j → e_28.2 a j = M0 a j := fun a j h => (q_28 a j (by unfold WM_X7_refuse; unfold WM_X7_waits at h; omega))
        exact ⟨_, rfl, k_28⟩
      · refine vB (v_X5_bySeed) (fun e_41 f_41 q_41 => ?_)
        have k_41 : ∀ a j, ¬ WM_X7_waits P a j → e_41 a j = M0 a j := fun a j h => (q_41 a j (by unfold WM_X5_bySeed; unfold WM_X7_waits at h; omega))
        exact T_50 _ _ _ _ _ k_41
    · exact T_12 _ (fun _ _ _ => rfl)
def WM_X7_next (P : Nat) (a j : Nat) : Prop := (P + 105 ≤ a ∧ a < P + 112) ∨ (a = P ∧ (j = 0))
set_option maxRecDepth 100000 in
set_option maxHeartbeats 4000000 in
theorem v_X7_next {P : Nat} {v0 : Int32} {v1 : Int32} {v2 : Int32} {M0 : zMt}  : ∃ r, D_X7_next P v0 v1 v2 M0 = some r ∧ ((∀ a j, ¬ WM_X7_next P a j → r.2 a j = M0 a j)) := by
  have TL_82 : ∀ u : Nat, ∀ (x2_82 : Int32) (x4_82 : Int32) (x5_82 : Int32) (x6_82 : Int32) (M_82 : zMt), (∀ a j, ¬ WM_X7_next P a j → M_82 a j = M0 a j) → (2147483648 - Int32.toInt x6_82).toNat < u → ∃ r, D_X7_next_82 P u x2_82 x4_82 x5_82 x6_82 M_82 = some r ∧ ((∀ a j, ¬ WM_X7_next P a j → r.2 a j = M0 a j)) := by
    intro u
    induction u with
    | zero => intro x2_82 x4_82 x5_82 x6_82 M_82 k_82 hm_82; exact absurd hm_82 (Nat.not_lt_zero _)
    | succ u_82 ih_82 =>
      have T_148 : ∀ (x2_148 : Int32) (x4_148 : Int32) (x5_148 : Int32) (x6_148 : Int32) (M_148 : zMt), (∀ a j, ¬ WM_X7_next P a j → M_148 a j = M0 a j) → ((2147483648 - Int32.toInt x6_148).toNat < u_82 + 1) → (Int32.toInt x6_148 < 2147483647) → ∃ r, D_X7_next_148 P (D_X7_next_82 P u_82) x2_148 x4_148 x5_148 x6_148 M_148 = some r ∧ ((∀ a j, ¬ WM_X7_next P a j → r.2 a j = M0 a j)) := by
        intro x2_148 x4_148 x5_148 x6_148 M_148 k_148 f0_148 f1_148
        unfold D_X7_next_148
        exact ih_82 _ _ _ _ _ k_148 (z_up1 f1_148 f0_148)
      intro x2_82 x4_82 x5_82 x6_82 M_82 k_82 hm_82
      rw [D_X7_next_82]
      refine vIf (fun h_91 => ?_) (fun h_91 => ?_)
      · refine vB (v_X7_refuse) (fun e_156 f_156 q_156 => ?_)
        have k_156 : ∀ a j, ¬ WM_X7_next P a j → e_156.2 a j = M0 a j := fun a j h => (q_156 a j (by unfold WM_X7_refuse; unfold WM_X7_next at h; omega)).trans (k_82 a j h)
        exact ⟨_, rfl, k_156⟩
      · refine vB (v_X5_isWaiting) (fun e_119 f_119 q_119 => ?_)
        have b_119 := q_119
        refine vIf (fun h_122 => ?_) (fun h_122 => ?_)
        · exact T_148 _ _ _ _ _ k_82 hm_82 (by first | assumption | exact z_lt (by assumption) | exact z_lt2 (by assumption) | exact z_lt3 (by assumption) (by first | assumption | decide))
        · refine vB (v_X2_fits) (fun e_135 f_135 q_135 => ?_)
          have b_135 := q_135
          refine vIf (fun h_138 => ?_) (fun h_138 => ?_)
          · exact T_148 _ _ _ _ _ k_82 hm_82 (by first | assumption | exact z_lt (by assumption) | exact z_lt2 (by assumption) | exact z_lt3 (by assumption) (by first | assumption | decide))
          · refine vB (v_X7_answer) (fun e_144 f_144 q_144 => ?_)
            have k_144 : ∀ a j, ¬ WM_X7_next P a j → e_144.2 a j = M0 a j := fun a j h => (q_144 a j (by unfold WM_X7_answer; unfold WM_X7_next at h; omega)).trans (k_82 a j h)
            exact ⟨_, rfl, k_144⟩
  have T_82 : ∀ (x2_82 : Int32) (x4_82 : Int32) (x5_82 : Int32) (x6_82 : Int32) (M_82 : zMt), (∀ a j, ¬ WM_X7_next P a j → M_82 a j = M0 a j) → ∃ r, D_X7_next_82 P zFu x2_82 x4_82 x5_82 x6_82 M_82 = some r ∧ ((∀ a j, ¬ WM_X7_next P a j → r.2 a j = M0 a j)) := fun x2_82 x4_82 x5_82 x6_82 M_82 k_82 => TL_82 zFu x2_82 x4_82 x5_82 x6_82 M_82 k_82 (zFu_up _)
  have T_17 : ∀ (M_17 : zMt), (∀ a j, ¬ WM_X7_next P a j → M_17 a j = M0 a j) → ∃ r, D_X7_next_17 P M_17 = some r ∧ ((∀ a j, ¬ WM_X7_next P a j → r.2 a j = M0 a j)) := by
    intro M_17 k_17
    unfold D_X7_next_17
    refine vB (v_X7_refuse) (fun e_19 f_19 q_19 => ?_)
    have k_19 : ∀ a j, ¬ WM_X7_next P a j → e_19.2 a j = M0 a j := fun a j h => (q_19 a j (by unfold WM_X7_refuse; unfold WM_X7_next at h; omega)).trans (k_17 a j h)
    exact ⟨_, rfl, k_19⟩
  unfold D_X7_next
  refine vB (v_X7_isSeed) (fun e_1 f_1 q_1 => ?_)
  have b_1 := q_1
  refine vIf (fun h_4 => ?_) (fun h_4 => ?_)
  · exact T_17 _ (fun _ _ _ => rfl)
  · refine vIf (fun h_8 => ?_) (fun h_8 => ?_)
    · exact T_17 _ (fun _ _ _ => rfl)
    · refine vIf (fun h_14 => ?_) (fun h_14 => ?_)
      · refine vB (v_X7_isUnit) (fun e_25 f_25 q_25 => ?_)
        have b_25 := q_25
        refine vIf (fun h_28 => ?_) (fun h_28 => ?_)
        · refine vB (v_X7_refuse) (fun e_33 f_33 q_33 => ?_)
          have k_33 : ∀ a j, ¬ WM_X7_next P a j → e_33.2 a j = M0 a j := fun a j h => (q_33 a j (by unfold WM_X7_refuse; unfold WM_X7_next at h; omega))
          exact ⟨_, rfl, k_33⟩
        · refine vB (v_X5_bySeed) (fun e_46 f_46 q_46 => ?_)
          have k_46 : ∀ a j, ¬ WM_X7_next P a j → e_46 a j = M0 a j := fun a j h => (q_46 a j (by unfold WM_X5_bySeed; unfold WM_X7_next at h; omega))
          exact T_82 _ _ _ _ _ k_46
      · exact T_17 _ (fun _ _ _ => rfl)
def WM_X7_envies (P : Nat) (a j : Nat) : Prop := (P + 105 ≤ a ∧ a < P + 112) ∨ (a = P ∧ (j = 0))
set_option maxRecDepth 100000 in
set_option maxHeartbeats 4000000 in
theorem v_X7_envies {P : Nat} {v0 : Int32} {v1 : Int32} {M0 : zMt}  : ∃ r, D_X7_envies P v0 v1 M0 = some r ∧ ((∀ a j, ¬ WM_X7_envies P a j → r.2 a j = M0 a j)) := by
  have TL_44 : ∀ u : Nat, ∀ (x2_44 : Int32) (x3_44 : Int32) (x4_44 : Int32) (M_44 : zMt), (∀ a j, ¬ WM_X7_envies P a j → M_44 a j = M0 a j) → (2147483648 - Int32.toInt x4_44).toNat < u → ∃ r, D_X7_envies_44 P u x2_44 x3_44 x4_44 M_44 = some r ∧ ((∀ a j, ¬ WM_X7_envies P a j → r.2 a j = M0 a j)) := by
    intro u
    induction u with
    | zero => intro x2_44 x3_44 x4_44 M_44 k_44 hm_44; exact absurd hm_44 (Nat.not_lt_zero _)
    | succ u_44 ih_44 =>
      have T_147 : ∀ (x2_147 : Int32) (x3_147 : Int32) (x4_147 : Int32) (M_147 : zMt), (∀ a j, ¬ WM_X7_envies P a j → M_147 a j = M0 a j) → ((2147483648 - Int32.toInt x4_147).toNat < u_44 + 1) → (Int32.toInt x4_147 < 2147483647) → ∃ r, D_X7_envies_147 P (D_X7_envies_44 P u_44) x2_147 x3_147 x4_147 M_147 = some r ∧ ((∀ a j, ¬ WM_X7_envies P a j → r.2 a j = M0 a j)) := by
        intro x2_147 x3_147 x4_147 M_147 k_147 f0_147 f1_147
        unfold D_X7_envies_147
        exact ih_44 _ _ _ _ k_147 (z_up1 f1_147 f0_147)
      intro x2_44 x3_44 x4_44 M_44 k_44 hm_44
      rw [D_X7_envies_44]
      refine vIf (fun h_53 => ?_) (fun h_53 => ?_)
      · refine vB (v_X7_answer) (fun e_155 f_155 q_155 => ?_)
        have k_155 : ∀ a j, ¬ WM_X7_envies P a j → e_155.2 a j = M0 a j := fun a j h => (q_155 a j (by unfold WM_X7_answer; unfold WM_X7_envies at h; omega)).trans (k_44 a j h)
        exact ⟨_, rfl, k_155⟩
      · refine vIf (fun h_73 => ?_) (fun h_73 => ?_)
        · exact T_147 _ _ _ _ k_44 hm_44 (by first | assumption | exact z_lt (by assumption) | exact z_lt2 (by assumption) | exact z_lt3 (by assumption) (by first | assumption | decide))
        · refine vIf (fun h_99 => ?_) (fun h_99 => ?_)
          · refine vB (v_X2_rankOf) (fun e_112 f_112 q_112 => ?_)
            refine vIf (fun h_120 => ?_) (fun h_120 => ?_)
            · exact T_147 _ _ _ _ k_44 hm_44 (by first | assumption | exact z_lt (by assumption) | exact z_lt2 (by assumption) | exact z_lt3 (by assumption) (by first | assumption | decide))
            · refine vB (v_X5_rankHeld) (fun e_134 f_134 q_134 => ?_)
              refine vIf (fun h_137 => ?_) (fun h_137 => ?_)
              · exact T_147 _ _ _ _ k_44 hm_44 (by first | assumption | exact z_lt (by assumption) | exact z_lt2 (by assumption) | exact z_lt3 (by assumption) (by first | assumption | decide))
              · exact T_147 _ _ _ _ k_44 hm_44 (by first | assumption | exact z_lt (by assumption) | exact z_lt2 (by assumption) | exact z_lt3 (by assumption) (by first | assumption | decide))
          · exact T_147 _ _ _ _ k_44 hm_44 (by first | assumption | exact z_lt (by assumption) | exact z_lt2 (by assumption) | exact z_lt3 (by assumption) (by first | assumption | decide))
  have T_44 : ∀ (x2_44 : Int32) (x3_44 : Int32) (x4_44 : Int32) (M_44 : zMt), (∀ a j, ¬ WM_X7_envies P a j → M_44 a j = M0 a j) → ∃ r, D_X7_envies_44 P zFu x2_44 x3_44 x4_44 M_44 = some r ∧ ((∀ a j, ¬ WM_X7_envies P a j → r.2 a j = M0 a j)) := fun x2_44 x3_44 x4_44 M_44 k_44 => TL_44 zFu x2_44 x3_44 x4_44 M_44 k_44 (zFu_up _)
  unfold D_X7_envies
  refine vB (v_X7_isSeed) (fun e_1 f_1 q_1 => ?_)
  have b_1 := q_1
  refine vIf (fun h_4 => ?_) (fun h_4 => ?_)
  · refine vB (v_X7_refuse) (fun e_9 f_9 q_9 => ?_)
    have k_9 : ∀ a j, ¬ WM_X7_envies P a j → e_9.2 a j = M0 a j := fun a j h => (q_9 a j (by unfold WM_X7_refuse; unfold WM_X7_envies at h; omega))
    exact ⟨_, rfl, k_9⟩
  · refine vB (v_X7_isApplicant) (fun e_15 f_15 q_15 => ?_)
    have b_15 := q_15
    refine vIf (fun h_18 => ?_) (fun h_18 => ?_)
    · refine vB (v_X7_refuse) (fun e_23 f_23 q_23 => ?_)
      have k_23 : ∀ a j, ¬ WM_X7_envies P a j → e_23.2 a j = M0 a j := fun a j h => (q_23 a j (by unfold WM_X7_refuse; unfold WM_X7_envies at h; omega))
      exact ⟨_, rfl, k_23⟩
    · refine vB (v_X5_bySeed) (fun e_36 f_36 q_36 => ?_)
      have k_36 : ∀ a j, ¬ WM_X7_envies P a j → e_36 a j = M0 a j := fun a j h => (q_36 a j (by unfold WM_X5_bySeed; unfold WM_X7_envies at h; omega))
      exact T_44 _ _ _ _ k_36
def WM_X7_spoils (P : Nat) (a j : Nat) : Prop := (P + 105 ≤ a ∧ a < P + 112) ∨ (P + 159 ≤ a ∧ a < P + 166) ∨ (P + 167 ≤ a ∧ a < P + 179) ∨ (P + 180 ≤ a ∧ a < P + 187) ∨ (a = P ∧ (j = 0)) ∨ (a = P + 158 ∧ (j = 0 ∨ j = 1 ∨ j = 2 ∨ j = 3 ∨ j = 4 ∨ j = 5 ∨ j = 6)) ∨ (a = P + 166 ∧ (j = 0 ∨ j = 1 ∨ j = 2 ∨ j = 3))
set_option maxRecDepth 100000 in
set_option maxHeartbeats 4000000 in
theorem v_X7_spoils {P : Nat} {v0 : Int32} {v1 : Int32} {M0 : zMt}  : ∃ r, D_X7_spoils P v0 v1 M0 = some r ∧ ((∀ a j, ¬ WM_X7_spoils P a j → r.2 a j = M0 a j)) := by
  have TL_99 : ∀ u : Nat, ∀ (x2_99 : Int32) (x3_99 : Int32) (x4_99 : Int32) (M_99 : zMt), (∀ a j, ¬ WM_X7_spoils P a j → M_99 a j = M0 a j) → (2147483648 - Int32.toInt x4_99).toNat < u → ∃ r, D_X7_spoils_99 P u x2_99 x3_99 x4_99 M_99 = some r ∧ ((∀ a j, ¬ WM_X7_spoils P a j → r.2 a j = M0 a j)) := by
    intro u
    induction u with
    | zero => intro x2_99 x3_99 x4_99 M_99 k_99 hm_99; exact absurd hm_99 (Nat.not_lt_zero _)
    | succ u_99 ih_99 =>
      have T_153 : ∀ (x2_153 : Int32) (x3_153 : Int32) (x4_153 : Int32) (M_153 : zMt), (∀ a j, ¬ WM_X7_spoils P a j → M_153 a j = M0 a j) → ((2147483648 - Int32.toInt x4_153).toNat < u_99 + 1) → (Int32.toInt x4_153 < 2147483647) → ∃ r, D_X7_spoils_153 P (D_X7_spoils_99 P u_99) x2_153 x3_153 x4_153 M_153 = some r ∧ ((∀ a j, ¬ WM_X7_spoils P a j → r.2 a j = M0 a j)) := by
        intro x2_153 x3_153 x4_153 M_153 k_153 f0_153 f1_153
        unfold D_X7_spoils_153
        exact ih_99 _ _ _ _ k_153 (z_up1 f1_153 f0_153)
      intro x2_99 x3_99 x4_99 M_99 k_99 hm_99
      rw [D_X7_spoils_99]
      refine vIf (fun h_108 => ?_) (fun h_108 => ?_)
      · refine vB (v_X7_answer) (fun e_161 f_161 q_161 => ?_)
        have k_161 : ∀ a j, ¬ WM_X7_spoils P a j → e_161.2 a j = M0 a j := fun a j h => (q_161 a j (by unfold WM_X7_answer; unfold WM_X7_spoils at h; omega)).trans (k_99 a j h)
        exact ⟨_, rfl, k_161⟩
      · refine vIf (fun h_114 => ?_) (fun h_114 => ?_)
        · exact T_153 _ _ _ _ k_99 hm_99 (by first | assumption | exact z_lt (by assumption) | exact z_lt2 (by assumption) | exact z_lt3 (by assumption) (by first | assumption | decide))
        · refine vB (v_X5_rankHeld) (fun e_127 f_127 q_127 => ?_)
          refine vB (v_X5_rankHeld) (fun e_140 f_140 q_140 => ?_)
          refine vIf (fun h_143 => ?_) (fun h_143 => ?_)
          · exact T_153 _ _ _ _ k_99 hm_99 (by first | assumption | exact z_lt (by assumption) | exact z_lt2 (by assumption) | exact z_lt3 (by assumption) (by first | assumption | decide))
          · exact T_153 _ _ _ _ k_99 hm_99 (by first | assumption | exact z_lt (by assumption) | exact z_lt2 (by assumption) | exact z_lt3 (by assumption) (by first | assumption | decide))
  have T_99 : ∀ (x2_99 : Int32) (x3_99 : Int32) (x4_99 : Int32) (M_99 : zMt), (∀ a j, ¬ WM_X7_spoils P a j → M_99 a j = M0 a j) → ∃ r, D_X7_spoils_99 P zFu x2_99 x3_99 x4_99 M_99 = some r ∧ ((∀ a j, ¬ WM_X7_spoils P a j → r.2 a j = M0 a j)) := fun x2_99 x3_99 x4_99 M_99 k_99 => TL_99 zFu x2_99 x3_99 x4_99 M_99 k_99 (zFu_up _)
  unfold D_X7_spoils
  refine vB (v_X7_isSeed) (fun e_1 f_1 q_1 => ?_)
  have b_1 := q_1
  refine vIf (fun h_4 => ?_) (fun h_4 => ?_)
  · refine vB (v_X7_refuse) (fun e_9 f_9 q_9 => ?_)
    have k_9 : ∀ a j, ¬ WM_X7_spoils P a j → e_9.2 a j = M0 a j := fun a j h => (q_9 a j (by unfold WM_X7_refuse; unfold WM_X7_spoils at h; omega))
    exact ⟨_, rfl, k_9⟩
  · refine vB (v_X7_isApplicant) (fun e_15 f_15 q_15 => ?_)
    have b_15 := q_15
    refine vIf (fun h_18 => ?_) (fun h_18 => ?_)
    · refine vB (v_X7_refuse) (fun e_23 f_23 q_23 => ?_)
      have k_23 : ∀ a j, ¬ WM_X7_spoils P a j → e_23.2 a j = M0 a j := fun a j h => (q_23 a j (by unfold WM_X7_refuse; unfold WM_X7_spoils at h; omega))
      exact ⟨_, rfl, k_23⟩
    · refine vB (v_X5_bySeed) (fun e_36 f_36 q_36 => ?_)
      have k_36 : ∀ a j, ¬ WM_X7_spoils P a j → e_36 a j = M0 a j := fun a j h => (q_36 a j (by unfold WM_X5_bySeed; unfold WM_X7_spoils at h; omega))
      refine vB (v_X4_take) (fun e_47 f_47 q_47 => ?_)
      have k_47 : ∀ a j, ¬ WM_X7_spoils P a j → e_47 a j = M0 a j := fun a j h => (q_47 a j (by unfold WM_X4_take; unfold WM_X7_spoils at h; omega)).trans (k_36 a j h)
      refine vB (v_X4_wishFor) (fun e_68 f_68 q_68 => ?_)
      have k_68 : ∀ a j, ¬ WM_X7_spoils P a j → e_68 a j = M0 a j := fun a j h => (q_68 a j (by unfold WM_X4_wishFor; unfold WM_X7_spoils at h; omega)).trans (k_47 a j h)
      refine vB (v_X2_gather) (fun e_79 f_79 q_79 => ?_)
      have k_79 : ∀ a j, ¬ WM_X7_spoils P a j → e_79 a j = M0 a j := fun a j h => (q_79 a j (by unfold WM_X2_gather; unfold WM_X7_spoils at h; omega)).trans (k_68 a j h)
      refine vB (v_X5_bySeed) (fun e_91 f_91 q_91 => ?_)
      have k_91 : ∀ a j, ¬ WM_X7_spoils P a j → e_91 a j = M0 a j := fun a j h => (q_91 a j (by unfold WM_X5_bySeed; unfold WM_X7_spoils at h; omega)).trans (k_79 a j h)
      exact T_99 _ _ _ _ k_91
def WM_X7_behind (P : Nat) (a j : Nat) : Prop := (P + 105 ≤ a ∧ a < P + 112) ∨ (a = P ∧ (j = 0))
set_option maxRecDepth 100000 in
set_option maxHeartbeats 4000000 in
theorem v_X7_behind {P : Nat} {v0 : Int32} {v1 : Int32} {M0 : zMt}  : ∃ r, D_X7_behind P v0 v1 M0 = some r ∧ ((∀ a j, ¬ WM_X7_behind P a j → r.2 a j = M0 a j)) := by
  unfold D_X7_behind
  refine vB (v_X7_isSeed) (fun e_1 f_1 q_1 => ?_)
  have b_1 := q_1
  refine vIf (fun h_4 => ?_) (fun h_4 => ?_)
  · refine vB (v_X7_refuse) (fun e_9 f_9 q_9 => ?_)
    have k_9 : ∀ a j, ¬ WM_X7_behind P a j → e_9.2 a j = M0 a j := fun a j h => (q_9 a j (by unfold WM_X7_refuse; unfold WM_X7_behind at h; omega))
    exact ⟨_, rfl, k_9⟩
  · refine vB (v_X7_isHunter) (fun e_15 f_15 q_15 => ?_)
    have b_15 := q_15
    refine vIf (fun h_18 => ?_) (fun h_18 => ?_)
    · refine vB (v_X7_refuse) (fun e_23 f_23 q_23 => ?_)
      have k_23 : ∀ a j, ¬ WM_X7_behind P a j → e_23.2 a j = M0 a j := fun a j h => (q_23 a j (by unfold WM_X7_refuse; unfold WM_X7_behind at h; omega))
      exact ⟨_, rfl, k_23⟩
    · refine vB (v_X5_bySeed) (fun e_36 f_36 q_36 => ?_)
      have k_36 : ∀ a j, ¬ WM_X7_behind P a j → e_36 a j = M0 a j := fun a j h => (q_36 a j (by unfold WM_X5_bySeed; unfold WM_X7_behind at h; omega))
      refine vB (v_X5_scoreBehind) (fun e_70 f_70 q_70 => ?_)
      refine vB (v_X7_answer) (fun e_73 f_73 q_73 => ?_)
      have k_73 : ∀ a j, ¬ WM_X7_behind P a j → e_73.2 a j = M0 a j := fun a j h => (q_73 a j (by unfold WM_X7_answer; unfold WM_X7_behind at h; omega)).trans (k_36 a j h)
      exact ⟨_, rfl, k_73⟩
def WM_X7_lucky (P : Nat) (a j : Nat) : Prop := (P + 105 ≤ a ∧ a < P + 112) ∨ (a = P ∧ (j = 0))
set_option maxRecDepth 100000 in
set_option maxHeartbeats 4000000 in
theorem v_X7_lucky {P : Nat} {v0 : Int32} {v1 : Int32} {M0 : zMt}  : ∃ r, D_X7_lucky P v0 v1 M0 = some r ∧ ((∀ a j, ¬ WM_X7_lucky P a j → r.2 a j = M0 a j)) := by
  have TL_36 : ∀ u : Nat, ∀ (x1_36 : Int32) (x2_36 : Int32) (x3_36 : Int32) (M_36 : zMt), (∀ a j, ¬ WM_X7_lucky P a j → M_36 a j = M0 a j) → (2147483648 - Int32.toInt x3_36).toNat < u → ∃ r, D_X7_lucky_36 P u x1_36 x2_36 x3_36 M_36 = some r ∧ ((∀ a j, ¬ WM_X7_lucky P a j → r.2 a j = M0 a j)) := by
    intro u
    induction u with
    | zero => intro x1_36 x2_36 x3_36 M_36 k_36 hm_36; exact absurd hm_36 (Nat.not_lt_zero _)
    | succ u_36 ih_36 =>
      intro x1_36 x2_36 x3_36 M_36 k_36 hm_36
      rw [D_X7_lucky_36]
      refine vIf (fun h_39 => ?_) (fun h_39 => ?_)
      · refine vB (v_X7_refuse) (fun e_87 f_87 q_87 => ?_)
        have k_87 : ∀ a j, ¬ WM_X7_lucky P a j → e_87.2 a j = M0 a j := fun a j h => (q_87 a j (by unfold WM_X7_refuse; unfold WM_X7_lucky at h; omega)).trans (k_36 a j h)
        exact ⟨_, rfl, k_87⟩
      · refine vB (v_X5_bySeed) (fun e_53 f_53 q_53 => ?_)
        have k_53 : ∀ a j, ¬ WM_X7_lucky P a j → e_53 a j = M0 a j := fun a j h => (q_53 a j (by unfold WM_X5_bySeed; unfold WM_X7_lucky at h; omega)).trans (k_36 a j h)
        refine vB (v_X5_hasFirst) (fun e_65 f_65 q_65 => ?_)
        have b_65 := q_65
        refine vIf (fun h_68 => ?_) (fun h_68 => ?_)
        · exact ih_36 _ _ _ _ k_53 (z_up1 (by first | assumption | exact z_lt (by assumption) | exact z_lt2 (by assumption) | exact z_lt3 (by assumption) (by first | assumption | decide)) hm_36)
        · refine vB (v_X7_answer) (fun e_75 f_75 q_75 => ?_)
          have k_75 : ∀ a j, ¬ WM_X7_lucky P a j → e_75.2 a j = M0 a j := fun a j h => (q_75 a j (by unfold WM_X7_answer; unfold WM_X7_lucky at h; omega)).trans (k_53 a j h)
          exact ⟨_, rfl, k_75⟩
  have T_36 : ∀ (x1_36 : Int32) (x2_36 : Int32) (x3_36 : Int32) (M_36 : zMt), (∀ a j, ¬ WM_X7_lucky P a j → M_36 a j = M0 a j) → ∃ r, D_X7_lucky_36 P zFu x1_36 x2_36 x3_36 M_36 = some r ∧ ((∀ a j, ¬ WM_X7_lucky P a j → r.2 a j = M0 a j)) := fun x1_36 x2_36 x3_36 M_36 k_36 => TL_36 zFu x1_36 x2_36 x3_36 M_36 k_36 (zFu_up _)
  have T_14 : ∀ (M_14 : zMt), (∀ a j, ¬ WM_X7_lucky P a j → M_14 a j = M0 a j) → ∃ r, D_X7_lucky_14 P M_14 = some r ∧ ((∀ a j, ¬ WM_X7_lucky P a j → r.2 a j = M0 a j)) := by
    intro M_14 k_14
    unfold D_X7_lucky_14
    refine vB (v_X7_refuse) (fun e_16 f_16 q_16 => ?_)
    have k_16 : ∀ a j, ¬ WM_X7_lucky P a j → e_16.2 a j = M0 a j := fun a j h => (q_16 a j (by unfold WM_X7_refuse; unfold WM_X7_lucky at h; omega)).trans (k_14 a j h)
    exact ⟨_, rfl, k_16⟩
  unfold D_X7_lucky
  refine vB (v_X7_isSeed) (fun e_1 f_1 q_1 => ?_)
  have b_1 := q_1
  refine vIf (fun h_4 => ?_) (fun h_4 => ?_)
  · exact T_14 _ (fun _ _ _ => rfl)
  · refine vIf (fun h_11 => ?_) (fun h_11 => ?_)
    · refine vB (v_X7_isApplicant) (fun e_22 f_22 q_22 => ?_)
      have b_22 := q_22
      refine vIf (fun h_25 => ?_) (fun h_25 => ?_)
      · refine vB (v_X7_refuse) (fun e_30 f_30 q_30 => ?_)
        have k_30 : ∀ a j, ¬ WM_X7_lucky P a j → e_30.2 a j = M0 a j := fun a j h => (q_30 a j (by unfold WM_X7_refuse; unfold WM_X7_lucky at h; omega))
        exact ⟨_, rfl, k_30⟩
      · exact T_36 _ _ _ _ (fun _ _ _ => rfl)
    · exact T_14 _ (fun _ _ _ => rfl)
def WM_X7_reckon (P : Nat) (a j : Nat) : Prop := (P + 114 ≤ a ∧ a < P + 115) ∨ (P + 118 ≤ a ∧ a < P + 125) ∨ (a = P ∧ (j = 3))
def WN_X7_reckon (P : Nat) (a j : Nat) : Prop := (P + 113 ≤ a ∧ a < P + 114) ∨ (P + 115 ≤ a ∧ a < P + 117)
set_option maxRecDepth 100000 in
set_option maxHeartbeats 4000000 in
theorem v_X7_reckon {P : Nat}  {M0 : zMt} {N0 : zNt}  : ∃ r, D_X7_reckon P M0 N0 = some r ∧ ((∀ a j, ¬ WM_X7_reckon P a j → r.1 a j = M0 a j) ∧ (∀ a j, ¬ WN_X7_reckon P a j → r.2 a j = N0 a j)) := by
  have T_23 : ∀ (M_23 : zMt) (N_23 : zNt), (∀ a j, ¬ WM_X7_reckon P a j → M_23 a j = M0 a j) → (∀ a j, ¬ WN_X7_reckon P a j → N_23 a j = N0 a j) → ∃ r, D_X7_reckon_23 P M_23 N_23 = some r ∧ ((∀ a j, ¬ WM_X7_reckon P a j → r.1 a j = M0 a j) ∧ (∀ a j, ¬ WN_X7_reckon P a j → r.2 a j = N0 a j)) := by
    intro M_23 N_23 k_23 kn_23
    unfold D_X7_reckon_23
    exact ⟨_, rfl, k_23, kn_23⟩
  unfold D_X7_reckon
  refine vIf (fun h_4 => ?_) (fun h_4 => ?_)
  · refine vB (v_X0_reckon) (fun e_15 f_15 q_15 => ?_)
    have k_15 : ∀ a j, ¬ WM_X7_reckon P a j → e_15.1 a j = M0 a j := fun a j h => (q_15.1 a j (by unfold WM_X0_reckon; unfold WM_X7_reckon at h; omega))
    have kn_15 : ∀ a j, ¬ WN_X7_reckon P a j → e_15.2 a j = N0 a j := fun a j h => (q_15.2 a j (by unfold WN_X0_reckon; unfold WN_X7_reckon at h; omega))
    refine vLm (W := WM_X7_reckon P) (fun a j h => (zu_ne (by unfold WM_X7_reckon at h; omega)).trans (k_15 a j h)) (fun M_20 f_20 k_20 => ?_)
    exact T_23 _ _ k_20 kn_15
  · exact T_23 _ _ (fun _ _ _ => rfl) (fun _ _ _ => rfl)
def WM_X7_answerParts (P : Nat) (a j : Nat) : Prop := (a = P ∧ (j = 0))
set_option maxRecDepth 100000 in
set_option maxHeartbeats 4000000 in
theorem v_X7_answerParts {P : Nat} {v0 : Int64} {M0 : zMt}  : ∃ r, D_X7_answerParts P v0 M0 = some r ∧ ((∀ a j, ¬ WM_X7_answerParts P a j → r.2 a j = M0 a j)) := by
  unfold D_X7_answerParts
  refine vLm (W := WM_X7_answerParts P) (fun a j h => (zu_ne (by unfold WM_X7_answerParts at h; omega))) (fun M_2 f_2 k_2 => ?_)
  exact ⟨_, rfl, k_2⟩
def WM_X7_chance (P : Nat) (a j : Nat) : Prop := (P + 114 ≤ a ∧ a < P + 115) ∨ (P + 118 ≤ a ∧ a < P + 125) ∨ (a = P ∧ (j = 0 ∨ j = 3))
def WN_X7_chance (P : Nat) (a j : Nat) : Prop := (P + 113 ≤ a ∧ a < P + 114) ∨ (P + 115 ≤ a ∧ a < P + 117)
set_option maxRecDepth 100000 in
set_option maxHeartbeats 4000000 in
theorem v_X7_chance {P : Nat} {v0 : Int32} {v1 : Int32} {M0 : zMt} {N0 : zNt}  : ∃ r, D_X7_chance P v0 v1 M0 N0 = some r ∧ ((∀ a j, ¬ WM_X7_chance P a j → r.2.1 a j = M0 a j) ∧ (∀ a j, ¬ WN_X7_chance P a j → r.2.2 a j = N0 a j)) := by
  have T_129 : ∀ (y1_129 : Int64) (M_129 : zMt) (N_129 : zNt), (∀ a j, ¬ WM_X7_chance P a j → M_129 a j = M0 a j) → (∀ a j, ¬ WN_X7_chance P a j → N_129 a j = N0 a j) → ∃ r, D_X7_chance_129 P y1_129 M_129 N_129 = some r ∧ ((∀ a j, ¬ WM_X7_chance P a j → r.2.1 a j = M0 a j) ∧ (∀ a j, ¬ WN_X7_chance P a j → r.2.2 a j = N0 a j)) := by
    intro y1_129 M_129 N_129 k_129 kn_129
    unfold D_X7_chance_129
    refine vB (v_X7_answerParts) (fun e_129 f_129 q_129 => ?_)
    have k_129 : ∀ a j, ¬ WM_X7_chance P a j → e_129.2 a j = M0 a j := fun a j h => (q_129 a j (by unfold WM_X7_answerParts; unfold WM_X7_chance at h; omega)).trans (k_129 a j h)
    exact ⟨_, rfl, k_129, kn_129⟩
  have T_9 : ∀ (M_9 : zMt) (N_9 : zNt), (∀ a j, ¬ WM_X7_chance P a j → M_9 a j = M0 a j) → (∀ a j, ¬ WN_X7_chance P a j → N_9 a j = N0 a j) → ∃ r, D_X7_chance_9 P M_9 N_9 = some r ∧ ((∀ a j, ¬ WM_X7_chance P a j → r.2.1 a j = M0 a j) ∧ (∀ a j, ¬ WN_X7_chance P a j → r.2.2 a j = N0 a j)) := by
    intro M_9 N_9 k_9 kn_9
    unfold D_X7_chance_9
    refine vB (v_X7_refuse) (fun e_11 f_11 q_11 => ?_)
    have k_11 : ∀ a j, ¬ WM_X7_chance P a j → e_11.2 a j = M0 a j := fun a j h => (q_11 a j (by unfold WM_X7_refuse; unfold WM_X7_chance at h; omega)).trans (k_9 a j h)
    exact ⟨_, rfl, k_11, kn_9⟩
  unfold D_X7_chance
  refine vIf (fun h_1 => ?_) (fun h_1 => ?_)
  · exact T_9 _ _ (fun _ _ _ => rfl) (fun _ _ _ => rfl)
  · refine vIf (fun h_6 => ?_) (fun h_6 => ?_)
    · refine vB (v_X7_isApplicant) (fun e_18 f_18 q_18 => ?_)
      have b_18 := q_18
      refine vIf (fun h_21 => ?_) (fun h_21 => ?_)
      · refine vB (v_X7_refuse) (fun e_26 f_26 q_26 => ?_)
        have k_26 : ∀ a j, ¬ WM_X7_chance P a j → e_26.2 a j = M0 a j := fun a j h => (q_26 a j (by unfold WM_X7_refuse; unfold WM_X7_chance at h; omega))
        exact ⟨_, rfl, k_26, (fun _ _ _ => rfl)⟩
      · refine vIf (fun h_40 => ?_) (fun h_40 => ?_)
        · refine vB (v_X7_reckon) (fun e_51 f_51 q_51 => ?_)
          have k_51 : ∀ a j, ¬ WM_X7_chance P a j → e_51.1 a j = M0 a j := fun a j h => (q_51.1 a j (by unfold WM_X7_reckon; unfold WM_X7_chance at h; omega))
          have kn_51 : ∀ a j, ¬ WN_X7_chance P a j → e_51.2 a j = N0 a j := fun a j h => (q_51.2 a j (by unfold WN_X7_reckon; unfold WN_X7_chance at h; omega))
          refine vIf (fun h_55 => ?_) (fun h_55_0 => ?_)
          · skip
            refine vB (v_X0_anyUnit) (fun e_86 f_86 q_86 => ?_)
            refine vB (v_X7_answerParts) (fun e_89 f_89 q_89 => ?_)
            have k_89 : ∀ a j, ¬ WM_X7_chance P a j → e_89.2 a j = M0 a j := fun a j h => (q_89 a j (by unfold WM_X7_answerParts; unfold WM_X7_chance at h; omega)).trans (k_51 a j h)
            exact ⟨_, rfl, k_89, kn_51⟩
          refine vIf (fun h_55 => ?_) (fun h_55_1 => ?_)
          · skip
            refine vIf (fun h_105 => ?_) (fun h_105 => ?_)
            · exact T_129 _ _ _ k_51 kn_51
            · refine vB (v_X2_wish) (fun e_123 f_123 q_123 => ?_)
              refine vB (v_X0_certainUnit) (fun e_126 f_126 q_126 => ?_)
              exact T_129 _ _ _ k_51 kn_51
          refine vB (v_X7_answerParts) (fun e_145 f_145 q_145 => ?_)
          have k_145 : ∀ a j, ¬ WM_X7_chance P a j → e_145.2 a j = M0 a j := fun a j h => (q_145 a j (by unfold WM_X7_answerParts; unfold WM_X7_chance at h; omega)).trans (k_51 a j h)
          exact ⟨_, rfl, k_145, kn_51⟩
        · refine vB (v_X7_refuse) (fun e_45 f_45 q_45 => ?_)
          have k_45 : ∀ a j, ¬ WM_X7_chance P a j → e_45.2 a j = M0 a j := fun a j h => (q_45 a j (by unfold WM_X7_refuse; unfold WM_X7_chance at h; omega))
          exact ⟨_, rfl, k_45, (fun _ _ _ => rfl)⟩
    · exact T_9 _ _ (fun _ _ _ => rfl) (fun _ _ _ => rfl)
def WM_X7_at (P : Nat) (a j : Nat) : Prop := (P + 114 ≤ a ∧ a < P + 115) ∨ (P + 118 ≤ a ∧ a < P + 125) ∨ (a = P ∧ (j = 0 ∨ j = 3))
def WN_X7_at (P : Nat) (a j : Nat) : Prop := (P + 113 ≤ a ∧ a < P + 114) ∨ (P + 115 ≤ a ∧ a < P + 117)
set_option maxRecDepth 100000 in
set_option maxHeartbeats 4000000 in
theorem v_X7_at {P : Nat} {v0 : Int32} {v1 : Int32} {M0 : zMt} {N0 : zNt}  : ∃ r, D_X7_at P v0 v1 M0 N0 = some r ∧ ((∀ a j, ¬ WM_X7_at P a j → r.2.1 a j = M0 a j) ∧ (∀ a j, ¬ WN_X7_at P a j → r.2.2 a j = N0 a j)) := by
  have T_16 : ∀ (M_16 : zMt) (N_16 : zNt), (∀ a j, ¬ WM_X7_at P a j → M_16 a j = M0 a j) → (∀ a j, ¬ WN_X7_at P a j → N_16 a j = N0 a j) → ∃ r, D_X7_at_16 P M_16 N_16 = some r ∧ ((∀ a j, ¬ WM_X7_at P a j → r.2.1 a j = M0 a j) ∧ (∀ a j, ¬ WN_X7_at P a j → r.2.2 a j = N0 a j)) := by
    intro M_16 N_16 k_16 kn_16
    unfold D_X7_at_16
    refine vB (v_X7_refuse) (fun e_18 f_18 q_18 => ?_)
    have k_18 : ∀ a j, ¬ WM_X7_at P a j → e_18.2 a j = M0 a j := fun a j h => (q_18 a j (by unfold WM_X7_refuse; unfold WM_X7_at at h; omega)).trans (k_16 a j h)
    exact ⟨_, rfl, k_18, kn_16⟩
  unfold D_X7_at
  refine vB (v_X7_isApplicant) (fun e_2 f_2 q_2 => ?_)
  have b_2 := q_2
  refine vIf (fun h_5 => ?_) (fun h_5 => ?_)
  · exact T_16 _ _ (fun _ _ _ => rfl) (fun _ _ _ => rfl)
  · refine vB (v_X7_isUnit) (fun e_10 f_10 q_10 => ?_)
    have b_10 := q_10
    refine vIf (fun h_13 => ?_) (fun h_13 => ?_)
    · exact T_16 _ _ (fun _ _ _ => rfl) (fun _ _ _ => rfl)
    · refine vIf (fun h_32 => ?_) (fun h_32 => ?_)
      · refine vB (v_X7_reckon) (fun e_43 f_43 q_43 => ?_)
        have k_43 : ∀ a j, ¬ WM_X7_at P a j → e_43.1 a j = M0 a j := fun a j h => (q_43.1 a j (by unfold WM_X7_reckon; unfold WM_X7_at at h; omega))
        have kn_43 : ∀ a j, ¬ WN_X7_at P a j → e_43.2 a j = N0 a j := fun a j h => (q_43.2 a j (by unfold WN_X7_reckon; unfold WN_X7_at at h; omega))
        refine vB (v_X0_certainUnit) (fun e_53 f_53 q_53 => ?_)
        refine vB (v_X7_answerParts) (fun e_56 f_56 q_56 => ?_)
        have k_56 : ∀ a j, ¬ WM_X7_at P a j → e_56.2 a j = M0 a j := fun a j h => (q_56 a j (by unfold WM_X7_answerParts; unfold WM_X7_at at h; omega)).trans (k_43 a j h)
        exact ⟨_, rfl, k_56, kn_43⟩
      · refine vB (v_X7_refuse) (fun e_37 f_37 q_37 => ?_)
        have k_37 : ∀ a j, ¬ WM_X7_at P a j → e_37.2 a j = M0 a j := fun a j h => (q_37 a j (by unfold WM_X7_refuse; unfold WM_X7_at at h; omega))
        exact ⟨_, rfl, k_37, (fun _ _ _ => rfl)⟩
def WM_X7_both (P : Nat) (a j : Nat) : Prop := (P + 114 ≤ a ∧ a < P + 115) ∨ (P + 118 ≤ a ∧ a < P + 125) ∨ (a = P ∧ (j = 0 ∨ j = 3))
def WN_X7_both (P : Nat) (a j : Nat) : Prop := (P + 113 ≤ a ∧ a < P + 114) ∨ (P + 115 ≤ a ∧ a < P + 117)
set_option maxRecDepth 100000 in
set_option maxHeartbeats 4000000 in
theorem v_X7_both {P : Nat} {v0 : Int32} {v1 : Int32} {M0 : zMt} {N0 : zNt}  : ∃ r, D_X7_both P v0 v1 M0 N0 = some r ∧ ((∀ a j, ¬ WM_X7_both P a j → r.2.1 a j = M0 a j) ∧ (∀ a j, ¬ WN_X7_both P a j → r.2.2 a j = N0 a j)) := by
  have T_16 : ∀ (M_16 : zMt) (N_16 : zNt), (∀ a j, ¬ WM_X7_both P a j → M_16 a j = M0 a j) → (∀ a j, ¬ WN_X7_both P a j → N_16 a j = N0 a j) → ∃ r, D_X7_both_16 P M_16 N_16 = some r ∧ ((∀ a j, ¬ WM_X7_both P a j → r.2.1 a j = M0 a j) ∧ (∀ a j, ¬ WN_X7_both P a j → r.2.2 a j = N0 a j)) := by
    intro M_16 N_16 k_16 kn_16
    unfold D_X7_both_16
    refine vB (v_X7_refuse) (fun e_18 f_18 q_18 => ?_)
    have k_18 : ∀ a j, ¬ WM_X7_both P a j → e_18.2 a j = M0 a j := fun a j h => (q_18 a j (by unfold WM_X7_refuse; unfold WM_X7_both at h; omega)).trans (k_16 a j h)
    exact ⟨_, rfl, k_18, kn_16⟩
  unfold D_X7_both
  refine vB (v_X7_isApplicant) (fun e_2 f_2 q_2 => ?_)
  have b_2 := q_2
  refine vIf (fun h_5 => ?_) (fun h_5 => ?_)
  · exact T_16 _ _ (fun _ _ _ => rfl) (fun _ _ _ => rfl)
  · refine vB (v_X7_isApplicant) (fun e_10 f_10 q_10 => ?_)
    have b_10 := q_10
    refine vIf (fun h_13 => ?_) (fun h_13 => ?_)
    · exact T_16 _ _ (fun _ _ _ => rfl) (fun _ _ _ => rfl)
    · refine vIf (fun h_25 => ?_) (fun h_25 => ?_)
      · refine vB (v_X7_refuse) (fun e_30 f_30 q_30 => ?_)
        have k_30 : ∀ a j, ¬ WM_X7_both P a j → e_30.2 a j = M0 a j := fun a j h => (q_30 a j (by unfold WM_X7_refuse; unfold WM_X7_both at h; omega))
        exact ⟨_, rfl, k_30, (fun _ _ _ => rfl)⟩
      · refine vIf (fun h_44 => ?_) (fun h_44 => ?_)
        · refine vB (v_X7_reckon) (fun e_55 f_55 q_55 => ?_)
          have k_55 : ∀ a j, ¬ WM_X7_both P a j → e_55.1 a j = M0 a j := fun a j h => (q_55.1 a j (by unfold WM_X7_reckon; unfold WM_X7_both at h; omega))
          have kn_55 : ∀ a j, ¬ WN_X7_both P a j → e_55.2 a j = N0 a j := fun a j h => (q_55.2 a j (by unfold WN_X7_reckon; unfold WN_X7_both at h; omega))
          refine vB (v_X0_allOf) (fun e_70 f_70 q_70 => ?_)
          refine vB (v_X7_answerParts) (fun e_73 f_73 q_73 => ?_)
          have k_73 : ∀ a j, ¬ WM_X7_both P a j → e_73.2 a j = M0 a j := fun a j h => (q_73 a j (by unfold WM_X7_answerParts; unfold WM_X7_both at h; omega)).trans (k_55 a j h)
          exact ⟨_, rfl, k_73, kn_55⟩
        · refine vB (v_X7_refuse) (fun e_49 f_49 q_49 => ?_)
          have k_49 : ∀ a j, ¬ WM_X7_both P a j → e_49.2 a j = M0 a j := fun a j h => (q_49 a j (by unfold WM_X7_refuse; unfold WM_X7_both at h; omega))
          exact ⟨_, rfl, k_49, (fun _ _ _ => rfl)⟩
def WM_X7_sure (P : Nat) (a j : Nat) : Prop := (P + 114 ≤ a ∧ a < P + 115) ∨ (P + 118 ≤ a ∧ a < P + 125) ∨ (a = P ∧ (j = 0 ∨ j = 3))
def WN_X7_sure (P : Nat) (a j : Nat) : Prop := (P + 113 ≤ a ∧ a < P + 114) ∨ (P + 115 ≤ a ∧ a < P + 117)
set_option maxRecDepth 100000 in
set_option maxHeartbeats 4000000 in
theorem v_X7_sure {P : Nat} {v0 : Int32} {M0 : zMt} {N0 : zNt}  : ∃ r, D_X7_sure P v0 M0 N0 = some r ∧ ((∀ a j, ¬ WM_X7_sure P a j → r.2.1 a j = M0 a j) ∧ (∀ a j, ¬ WN_X7_sure P a j → r.2.2 a j = N0 a j)) := by
  have T_75 : ∀ (y1_75 : Int32) (M_75 : zMt) (N_75 : zNt), (∀ a j, ¬ WM_X7_sure P a j → M_75 a j = M0 a j) → (∀ a j, ¬ WN_X7_sure P a j → N_75 a j = N0 a j) → ∃ r, D_X7_sure_75 P y1_75 M_75 N_75 = some r ∧ ((∀ a j, ¬ WM_X7_sure P a j → r.2.1 a j = M0 a j) ∧ (∀ a j, ¬ WN_X7_sure P a j → r.2.2 a j = N0 a j)) := by
    intro y1_75 M_75 N_75 k_75 kn_75
    unfold D_X7_sure_75
    refine vB (v_X7_answer) (fun e_75 f_75 q_75 => ?_)
    have k_75 : ∀ a j, ¬ WM_X7_sure P a j → e_75.2 a j = M0 a j := fun a j h => (q_75 a j (by unfold WM_X7_answer; unfold WM_X7_sure at h; omega)).trans (k_75 a j h)
    exact ⟨_, rfl, k_75, kn_75⟩
  have T_9 : ∀ (M_9 : zMt) (N_9 : zNt), (∀ a j, ¬ WM_X7_sure P a j → M_9 a j = M0 a j) → (∀ a j, ¬ WN_X7_sure P a j → N_9 a j = N0 a j) → ∃ r, D_X7_sure_9 P M_9 N_9 = some r ∧ ((∀ a j, ¬ WM_X7_sure P a j → r.2.1 a j = M0 a j) ∧ (∀ a j, ¬ WN_X7_sure P a j → r.2.2 a j = N0 a j)) := by
    intro M_9 N_9 k_9 kn_9
    unfold D_X7_sure_9
    refine vB (v_X7_refuse) (fun e_11 f_11 q_11 => ?_)
    have k_11 : ∀ a j, ¬ WM_X7_sure P a j → e_11.2 a j = M0 a j := fun a j h => (q_11 a j (by unfold WM_X7_refuse; unfold WM_X7_sure at h; omega)).trans (k_9 a j h)
    exact ⟨_, rfl, k_11, kn_9⟩
  unfold D_X7_sure
  refine vIf (fun h_1 => ?_) (fun h_1 => ?_)
  · exact T_9 _ _ (fun _ _ _ => rfl) (fun _ _ _ => rfl)
  · refine vIf (fun h_6 => ?_) (fun h_6 => ?_)
    · refine vIf (fun h_24 => ?_) (fun h_24 => ?_)
      · refine vB (v_X7_reckon) (fun e_34 f_34 q_34 => ?_)
        have k_34 : ∀ a j, ¬ WM_X7_sure P a j → e_34.1 a j = M0 a j := fun a j h => (q_34.1 a j (by unfold WM_X7_reckon; unfold WM_X7_sure at h; omega))
        have kn_34 : ∀ a j, ¬ WN_X7_sure P a j → e_34.2 a j = N0 a j := fun a j h => (q_34.2 a j (by unfold WN_X7_reckon; unfold WN_X7_sure at h; omega))
        refine vIf (fun h_51 => ?_) (fun h_51 => ?_)
        · refine vB (v_X0_always) (fun e_58 f_58 q_58 => ?_)
          exact T_75 _ _ _ k_34 kn_34
        · refine vB (v_X0_ever) (fun e_69 f_69 q_69 => ?_)
          exact T_75 _ _ _ k_34 kn_34
      · refine vB (v_X7_refuse) (fun e_29 f_29 q_29 => ?_)
        have k_29 : ∀ a j, ¬ WM_X7_sure P a j → e_29.2 a j = M0 a j := fun a j h => (q_29 a j (by unfold WM_X7_refuse; unfold WM_X7_sure at h; omega))
        exact ⟨_, rfl, k_29, (fun _ _ _ => rfl)⟩
    · exact T_9 _ _ (fun _ _ _ => rfl) (fun _ _ _ => rfl)
