/-- what the reference's together writes -/
def WM_X8_together (P a j : Nat) : Prop := (P + 11 ≤ a ∧ a < P + 23) ∨ a = P + 29 ∨ (a = P ∧ (j = 6 ∨ j = 12 ∨ j = 33 ∨ (54 ≤ j ∧ j < 58)))
def WN_X8_together (P a j : Nat) : Prop := (P + 24 ≤ a ∧ a < P + 29) ∨ (a = P ∧ j = 59)
theorem v_X8_together {P : Nat} {v0 v1 : Int32} {M0 : zMt} {N0 : zNt} (p_jB : jB P M0) (p_jS : jS P M0) (p_jR : jR P M0) (p_jK : jK P M0) (p_jT : jT P M0) : ∃ r, D_X8_together P v0 v1 M0 N0 = some r ∧ ((∀ a j, ¬ WM_X8_together P a j → r.2.1 a j = M0 a j) ∧ (∀ a j, ¬ WN_X8_together P a j → r.2.2 a j = N0 a j) ∧ jB P r.2.1 ∧ jS P r.2.1 ∧ jR P r.2.1 ∧ jK P r.2.1 ∧ jT P r.2.1) := by
  have fin : ∀ (v : Int64) (M : zMt) (N : zNt), (∀ a j, ¬ WM_X8_together P a j → M a j = M0 a j) → (∀ a j, ¬ WN_X8_together P a j → N a j = N0 a j) → jB P M → jR P M → ∃ r, some (v, M, N) = some r ∧ ((∀ a j, ¬ WM_X8_together P a j → r.2.1 a j = M0 a j) ∧ (∀ a j, ¬ WN_X8_together P a j → r.2.2 a j = N0 a j) ∧ jB P r.2.1 ∧ jS P r.2.1 ∧ jR P r.2.1 ∧ jK P r.2.1 ∧ jT P r.2.1) := fun v M N k kn hB hR =>
    ⟨_, rfl, k, kn, hB, p_jS.mono (fun a j h => k a j (by unfold WM_X8_together; omega)), hR, p_jK.mono (fun a j h => k a j (by unfold WM_X8_together; omega)), p_jT.mono (fun a j h => k a j (by unfold WM_X8_together; omega))⟩
  have R : ∀ (M : zMt) (s : Int32), (∀ a j, ¬ WM_X8_together P a j → M a j = M0 a j) → jB P M → jR P M → ∃ r, (zB (D_X8_refuse P s M) fun e => some ((Int32.toInt64 e.1), e.2, N0)) = some r ∧ ((∀ a j, ¬ WM_X8_together P a j → r.2.1 a j = M0 a j) ∧ (∀ a j, ¬ WN_X8_together P a j → r.2.2 a j = N0 a j) ∧ jB P r.2.1 ∧ jS P r.2.1 ∧ jR P r.2.1 ∧ jK P r.2.1 ∧ jT P r.2.1) := fun M s k hB hR =>
    vB v_X8_refuse (fun e f q => fin _ _ _ (fun a j h => (q a j (by unfold WM_X8_refuse; unfold WM_X8_together at h; omega)).trans (k a j h)) (fun _ _ _ => rfl) (hB.mono (fun a j h => q a j (by unfold WM_X8_refuse; omega))) (hR.mono (fun a j h => q a j (by unfold WM_X8_refuse; omega))))
  obtain ⟨b1, b2, b3, b4, b5, b6⟩ := id p_jB
  have R16 : ∃ r, D_X8_together_16 P M0 N0 = some r ∧ ((∀ a j, ¬ WM_X8_together P a j → r.2.1 a j = M0 a j) ∧ (∀ a j, ¬ WN_X8_together P a j → r.2.2 a j = N0 a j) ∧ jB P r.2.1 ∧ jS P r.2.1 ∧ jR P r.2.1 ∧ jK P r.2.1 ∧ jT P r.2.1) := R M0 2 (fun _ _ _ => rfl) p_jB p_jR
  have R61 : ∃ r, D_X8_together_61 P M0 N0 = some r ∧ ((∀ a j, ¬ WM_X8_together P a j → r.2.1 a j = M0 a j) ∧ (∀ a j, ¬ WN_X8_together P a j → r.2.2 a j = N0 a j) ∧ jB P r.2.1 ∧ jS P r.2.1 ∧ jR P r.2.1 ∧ jK P r.2.1 ∧ jT P r.2.1) := R M0 7 (fun _ _ _ => rfl) p_jB p_jR
  have nz : ∀ e : Int32, ¬ e = 0 → ¬ e.toInt = 0 := fun e h q => h (Int32.toInt_inj.mp (by rw [q]; decide))
  unfold D_X8_together
  refine vB (v_X8_isHunter p_jB) (fun e1 f1 q1 => ?_)
  refine vIf (fun _ => R16) (fun h1 => ?_)
  have hv0 := q1.2.resolve_left (nz _ h1)
  refine vB (v_X8_isHunter p_jB) (fun e2 f2 q2 => ?_)
  refine vIf (fun _ => R16) (fun h2 => ?_)
  have hv1 := q2.2.resolve_left (nz _ h2)
  refine vIf (fun _ => R M0 4 (fun _ _ _ => rfl) p_jB p_jR) (fun hne => ?_)
  obtain ⟨h, hh, hht⟩ : ∃ h : Nat, v0 = nI h ∧ (h : Int) = v0.toInt := ⟨v0.toInt.toNat, z_toN hv0.1, by omega⟩
  obtain ⟨o, oo, oot⟩ : ∃ o : Nat, v1 = nI o ∧ (o : Int) = v1.toInt := ⟨v1.toInt.toNat, z_toN hv1.1, by omega⟩
  subst hh
  subst oo
  have l10 : (10 : Int32) = nI 10 := rfl
  rw [l10, n_add, n_add, nI_clamp (n := 10 + h) (by omega), nI_clamp (n := 10 + o) (by omega)]
  refine vI (vp_in_nI (by omega) (by decide)) ?_
  refine vIf (fun hf1 => ?_) (fun _ => R61)
  refine vI (vp_in_nI (by omega) (by decide)) ?_
  refine vIf (fun hf2 => ?_) (fun _ => R61)
  obtain ⟨M1, d1, k1, hB1, hL1, hH1, hN1, hM1, hF1⟩ := h2_X8_laysApplicants p_jB p_jS
  rw [d1]
  show ∃ r, (if M1 P 33 ≤ 8 then _ else _) = some r ∧ _
  have e8 : M1 P 8 = M0 P 8 := k1 P 8 (by unfold WA; omega)
  have kk1 : ∀ a j, ¬ WM_X8_together P a j → M1 a j = M0 a j := fun a j h => k1 a j (by unfold WA; unfold WM_X8_together at h; omega)
  have hR1 : jR P M1 := p_jR.mono (fun a j h => k1 a j (by unfold WA; omega))
  have hS1 : jS P M1 := p_jS.mono (fun a j h => k1 a j (by unfold WA; omega))
  refine vIf (fun h8 => ?_) (fun _ => R M1 3 kk1 hB1 hR1)
  have h8' := Int32.le_iff_toInt_le.mp h8
  have o8 : (8 : Int32).toInt = 8 := by decide
  obtain ⟨c1, c2, c3, c4, c5, c6⟩ := id hB1
  obtain ⟨a1, ha1, ea1⟩ := hF1 h (by rw [e8]; omega) (by rw [k1 (P + 1) (10 + h) (by unfold WA; omega)]; exact hf1)
  obtain ⟨a2, ha2, ea2⟩ := hF1 o (by rw [e8]; omega) (by rw [k1 (P + 1) (10 + o) (by unfold WA; omega)]; exact hf2)
  obtain ⟨r2, d2, k2, hB2, hL2, h27, h20, h2l⟩ := h_X8_laysJoined (h := h) (o := o) (m := (M1 P 33).toInt.toNat) (a1 := a1) (a2 := a2) hB1 hS1 (by omega) (by omega) (by rw [e8]; omega) (by rw [e8]; omega) (fun z => hne (by rw [z])) (fun a ha => by
    obtain ⟨x1, x2, _⟩ := hL1 a (by omega)
    exact ⟨x1, x2, hM1 a (by omega)⟩) (by omega) ea1 (by omega) ea2
  refine vB ⟨r2, d2, rfl⟩ (H := fun e => e = r2) (fun e2 f3 q3 => ?_)
  subst q3
  have hR2 : jR P e2.2 := hR1.mono (fun a j h => k2 a j (by unfold WA; omega))
  have hS2 : jS P e2.2 := hS1.mono (fun a j h => k2 a j (by unfold WA; omega))
  refine vB (v_X8_allOrders hB2 hS2 hL2 hR2 h27) (fun e3 f4 q4 => ?_)
  have hB3 : jB P e3.1 := hB2.mono (fun a j h => q4.1 a j (by unfold WM_X8_allOrders; omega))
  refine vB (v_X8_chanceOf hB3 h20 h2l) (fun e4 f5 _ => ?_)
  refine vB v_X8_givesLong (fun e5 f6 q6 => ?_)
  refine fin _ _ _ (fun a j h => (q6 a j (by unfold WM_X8_givesLong; unfold WM_X8_together at h; omega)).trans ((q4.1 a j (by unfold WM_X8_allOrders; unfold WM_X8_together at h; omega)).trans ((k2 a j (by unfold WA; unfold WM_X8_together at h; omega)).trans (kk1 a j h)))) (fun a j h => q4.2.1 a j (by unfold WN_X8_allOrders; unfold WN_X8_together at h; omega)) (hB3.mono (fun a j h => q6 a j (by unfold WM_X8_givesLong; omega))) (q4.2.2.mono (fun a j h => q6 a j (by unfold WM_X8_givesLong; omega)))
