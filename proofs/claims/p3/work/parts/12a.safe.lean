/-- rows outside P .. P + 199 are as they were, and so is slot 1 of row P -/
def zK (P : Nat) (M M' : Nat → Nat → Int32) : Prop := (∀ a : Nat, a < P ∨ P + 200 ≤ a → M' a = M a) ∧ M' P 1 = M P 1
theorem zK.rf {P : Nat} {M : Nat → Nat → Int32} : zK P M M := ⟨fun _ _ => rfl, rfl⟩
theorem zK.trans {P : Nat} {M M' M2 : Nat → Nat → Int32} (h : zK P M M') (h' : zK P M' M2) : zK P M M2 := ⟨fun a ha => (h'.1 a ha).trans (h.1 a ha), h'.2.trans h.2⟩
theorem zK.zu {P a k : Nat} {v : Int32} {M M' : Nat → Nat → Int32} (h : zK P M M') (ha : P < a ∧ a < P + 200) : zK P M (zu M' a k v) := ⟨fun c hc => (zu_row (by omega)).trans (h.1 c hc), (zu_ne (by omega)).trans h.2⟩
theorem zK.zu0 {P k : Nat} {v : Int32} {M M' : Nat → Nat → Int32} (h : zK P M M') (hk : k ≠ 1) : zK P M (_root_.Jvm.Pilot.@@N@@.zu M' P k v) := ⟨fun c hc => (zu_row (by omega)).trans (h.1 c hc), (zu_ne (fun q => hk q.2.symm)).trans h.2⟩
theorem zK.zwr {P a n : Nat} {i v : Int32} {M M' : Nat → Nat → Int32} (h : zK P M M') (ha : P < a ∧ a < P + 200) : zK P M (zwr M' a n i v) := ⟨fun c hc => (zwr_row (by omega)).trans (h.1 c hc), by rw [zwr_row (by omega)]; exact h.2⟩
theorem zK.zfil {P a n : Nat} {v : Int32} {M M' : Nat → Nat → Int32} (h : zK P M M') (ha : P < a ∧ a < P + 200) : zK P M (zfil M' a n v) := ⟨fun c hc => (zfil_row (by omega)).trans (h.1 c hc), by rw [zfil_row (by omega)]; exact h.2⟩
theorem zK.zcpy {P a n : Nat} {f : Nat → Int32} {M M' : Nat → Nat → Int32} (h : zK P M M') (ha : P < a ∧ a < P + 200) : zK P M (zcpy M' a n f) := ⟨fun c hc => (zcpy_row (by omega)).trans (h.1 c hc), by rw [zcpy_row (by omega)]; exact h.2⟩
theorem z_lt {x E : Int32} (h : ¬ E ≤ x) : x.toInt < 2147483647 := by
  have h1 := Int32.lt_iff_toInt_lt.mp (Int32.not_le.mp h)
  have h2 := Int32.toInt_le E
  omega
theorem z_lt2 {x E : Int32} (h : x < E) : x.toInt < 2147483647 := z_lt (Int32.not_le.mpr h)
theorem z_up {x : Int32} {u : Nat} (h : x.toInt < 2147483647) (hm : (2147483648 - x.toInt).toNat < u + 1) : (2147483648 - (x + Int32.ofInt 1).toInt).toNat < u := by
  have h1 := Int32.le_toInt x
  have e1 : (Int32.ofInt 1).toInt = 1 := by decide
  rw [Int32.toInt_add, e1, Int.bmod_def]
  omega
theorem z_nzl {x : Int32} (h : ¬ x ≤ 0) : ¬ x.toInt64 = 0 := by
  have h1 := Int32.lt_iff_toInt_lt.mp (Int32.not_le.mp h)
  intro q
  have h2 := congrArg Int64.toInt q
  rw [Int32.toInt_toInt64] at h2
  have e0 : (0 : Int32).toInt = 0 := by decide
  have e1 : (0 : Int64).toInt = 0 := by decide
  omega
theorem z_gt {x : Int32} (h : ¬ x ≤ 0) : 0 < x.toInt := by
  have h1 := Int32.lt_iff_toInt_lt.mp (Int32.not_le.mp h)
  have e0 : (0 : Int32).toInt = 0 := by decide
  omega
theorem z_dn {x : Int32} {u : Nat} (h : 0 < x.toInt) (hm : x.toInt.toNat < u + 1) : (x + Int32.ofInt (-1)).toInt.toNat < u := by
  have h1 := Int32.toInt_le x
  have e1 : (Int32.ofInt (-1)).toInt = -1 := by decide
  rw [Int32.toInt_add, e1, Int.bmod_def]
  omega

set_option maxRecDepth 100000 in
theorem s_X2_wish {l : Launch} {G : zG} {b : Nat} {S : zS} {P : Nat} {Q : Nat} {v0 : Int32} {v1 : Int32} (hQ : LX2 S.1 Q) (rQ : P < Q ∧ Q + 13 ≤ P + 200) : zM l G b yX2_wish cX2_wish 3 (some .int) 1 0 0 [.ref Q, .int v0, .int v1] S (fun r z => z = S ∧ ∃ v : Int32, r = some (.int v)) := by
  refine zM.of miX2_wish (Nat.le_of_ble_eq_true rfl) ?_
  intro p e s m args below meth c X hr hname
  generalize hF : ((fun r z => z = S ∧ ∃ v : Int32, r = some (.int v)) : Option Value → zS → Prop) = FQ
  change Zw p l e { frames := 1, cells := 0, slots := 0, locals := 80 * 1 } s m args below meth c G b 3 (MQ below (zQ G b FQ) args s 0 0 (fun q : Nat => b ≤ q)) 0 0 0 [some (.ref Q), some (.int v0), some (.int v1)] [] S
  obtain ⟨q_lt, q_o, q_quota, q_preferred, q_forGuests, q_applicantOf, q_size, q_guestCount, q_score, q_tickets, q_bits, q_party, q_wishCount, q_wishes⟩ := id hQ
  refine a_aload_n X dX2_wish_0 rfl ?_
  refine a_getr X lf2_45 (by assumption) rfl (by omega) dX2_wish_1 ?_
  refine a_iload_n X dX2_wish_4 rfl ?_
  refine a_iconst (v := 3) X dX2_wish_5 (by decide) ?_
  refine a_imul X dX2_wish_6 ?_
  refine a_iload_n X dX2_wish_7 rfl ?_
  refine a_iadd X dX2_wish_8 ?_
  refine a_callSNv X dX2_wish_9 miX7_cell lm2_62 (c_cell (by assumption) (by first | decide | assumption)) rfl rfl (Nat.le_of_ble_eq_true rfl) ⟨by decide, by decide, by decide, by decide⟩ ?_
  refine a_iret X hr dX2_wish_12 ⟨by decide, by decide⟩ ?_
  subst hF
  exact ⟨rfl, ⟨_, rfl⟩⟩
set_option maxRecDepth 100000 in
theorem s_X2_rankOf {l : Launch} {G : zG} {b : Nat} {S : zS} {P : Nat} {Q : Nat} {v0 : Int32} {v1 : Int32} (hQ : LX2 S.1 Q) (rQ : P < Q ∧ Q + 13 ≤ P + 200) : zM l G b yX2_rankOf cX2_rankOf 4 (some .int) 2 0 0 [.ref Q, .int v0, .int v1] S (fun r z => z = S ∧ ∃ v : Int32, r = some (.int v)) := by
  refine zM.of miX2_rankOf (Nat.le_of_ble_eq_true rfl) ?_
  intro p e s m args below meth c X hr hname
  generalize hF : ((fun r z => z = S ∧ ∃ v : Int32, r = some (.int v)) : Option Value → zS → Prop) = FQ
  change Zw p l e { frames := 2, cells := 0, slots := 0, locals := 80 * 2 } s m args below meth c G b 4 (MQ below (zQ G b FQ) args s 0 0 (fun q : Nat => b ≤ q)) 0 0 0 [some (.ref Q), some (.int v0), some (.int v1), none] [] S
  obtain ⟨q_lt, q_o, q_quota, q_preferred, q_forGuests, q_applicantOf, q_size, q_guestCount, q_score, q_tickets, q_bits, q_party, q_wishCount, q_wishes⟩ := id hQ
  have L_2 : ∀ u : Nat, ∀ (x1_2 : Int32) (x2_2 : Int32) (x3_2 : Int32), (2147483648 - x3_2.toInt).toNat < u → Zw p l e { frames := 2, cells := 0, slots := 0, locals := 80 * 2 } s m args below meth c G b 4 (MQ below (zQ G b FQ) args s 0 0 (fun q : Nat => b ≤ q)) 0 0 2 [some (.ref (Q)), some (.int x1_2), some (.int x2_2), some (.int x3_2)] [] S := by
    intro u
    induction u with
    | zero => intro x1_2 x2_2 x3_2 hm_2; exact absurd hm_2 (Nat.not_lt_zero _)
    | succ u_2 ih_2 =>
      intro x1_2 x2_2 x3_2 hm_2
      refine a_iload_n X dX2_rankOf_2 rfl ?_
      refine a_aload_n X dX2_rankOf_3 rfl ?_
      refine a_getr X lf2_42 (by assumption) rfl (by omega) dX2_rankOf_4 ?_
      refine a_iload_n X dX2_rankOf_7 rfl ?_
      refine a_callSNv X dX2_rankOf_8 miX7_cell lm2_62 (c_cell (by assumption) (by first | decide | assumption)) rfl rfl (Nat.le_of_ble_eq_true rfl) ⟨by decide, by decide, by decide, by decide⟩ ?_
      refine a_icmp_ge (tgt := 32) X dX2_rankOf_11 (by decide) (fun h_11 => ?_) (fun h_11 => ?_)
      · refine a_iconst (v := -1) X dX2_rankOf_32 (by decide) ?_
        refine a_iret X hr dX2_rankOf_33 ⟨by decide, by decide⟩ ?_
        subst hF
        exact ⟨rfl, ⟨_, rfl⟩⟩
      · refine a_aload_n X dX2_rankOf_14 rfl ?_
        refine a_iload_n X dX2_rankOf_15 rfl ?_
        refine a_iload_n X dX2_rankOf_16 rfl ?_
        refine a_callVx X dX2_rankOf_17 miX2_wish lm2_115 (s_X2_wish (P := P) (by assumption) (by omega)) (by assumption) rfl rfl rfl (Nat.le_of_ble_eq_true rfl) ⟨by decide, by decide, by decide, by decide⟩ (fun r_17 S_17 q_17 => ?_)
        obtain ⟨rfl, ⟨v_17, rfl⟩⟩ := q_17
        refine a_iload_n X dX2_rankOf_20 rfl ?_
        refine a_icmp_ne (tgt := 26) X dX2_rankOf_21 (by decide) (fun h_21 => ?_) (fun h_21 => ?_)
        · refine a_iinc X dX2_rankOf_26 (by decide) rfl rfl ?_
          refine a_goto (tgt := 2) X dX2_rankOf_29 (by decide) ?_
          exact Zw.to2 (ih_2 _ _ _  (by first | assumption | exact z_up (by first | assumption | exact z_lt (by assumption) | exact z_lt2 (by assumption)) (by assumption))) rfl rfl rfl
        · refine a_iload_n X dX2_rankOf_24 rfl ?_
          refine a_iret X hr dX2_rankOf_25 ⟨by decide, by decide⟩ ?_
          subst hF
          exact ⟨rfl, ⟨_, rfl⟩⟩
  have H_2 : ∀ (x1_2 : Int32) (x2_2 : Int32) (x3_2 : Int32), Zw p l e { frames := 2, cells := 0, slots := 0, locals := 80 * 2 } s m args below meth c G b 4 (MQ below (zQ G b FQ) args s 0 0 (fun q : Nat => b ≤ q)) 0 0 2 [some (.ref (Q)), some (.int x1_2), some (.int x2_2), some (.int x3_2)] [] S := fun x1_2 x2_2 x3_2  => L_2 _ x1_2 x2_2 x3_2  (Nat.lt_succ_self _)
  refine a_iconst (v := 0) X dX2_rankOf_0 (by decide) ?_
  refine a_istore_n X dX2_rankOf_1 (by decide) ?_
  exact Zw.to2 (H_2 _ _ _ ) rfl rfl rfl
set_option maxRecDepth 100000 in
theorem s_X2_fits {l : Launch} {G : zG} {b : Nat} {S : zS} {P : Nat} {Q : Nat} {v0 : Int32} {v1 : Int32} {v2 : Int32} (hQ : LX2 S.1 Q) (rQ : P < Q ∧ Q + 13 ≤ P + 200) : zM l G b yX2_fits cX2_fits 4 (some .boolean) 1 0 0 [.ref Q, .int v0, .int v1, .int v2] S (fun r z => z = S ∧ ∃ v : Int32, r = some (.int v) ∧ (v = 0 ∨ v = 1)) := by
  refine zM.of miX2_fits (Nat.le_of_ble_eq_true rfl) ?_
  intro p e s m args below meth c X hr hname
  generalize hF : ((fun r z => z = S ∧ ∃ v : Int32, r = some (.int v) ∧ (v = 0 ∨ v = 1)) : Option Value → zS → Prop) = FQ
  change Zw p l e { frames := 1, cells := 0, slots := 0, locals := 80 * 1 } s m args below meth c G b 4 (MQ below (zQ G b FQ) args s 0 0 (fun q : Nat => b ≤ q)) 0 0 0 [some (.ref Q), some (.int v0), some (.int v1), some (.int v2)] [] S
  obtain ⟨q_lt, q_o, q_quota, q_preferred, q_forGuests, q_applicantOf, q_size, q_guestCount, q_score, q_tickets, q_bits, q_party, q_wishCount, q_wishes⟩ := id hQ
  have J_29 : ∀ (x1_29 : Int32) (x2_29 : Int32) (x3_29 : Int32) (y0_29 : Int32), (y0_29 = 0 ∨ y0_29 = 1) → Zw p l e { frames := 1, cells := 0, slots := 0, locals := 80 * 1 } s m args below meth c G b 4 (MQ below (zQ G b FQ) args s 0 0 (fun q : Nat => b ≤ q)) 0 0 29 [some (.ref (Q)), some (.int x1_29), some (.int x2_29), some (.int x3_29)] [(.int y0_29)] S := by
    intro x1_29 x2_29 x3_29 y0_29 f0_29
    refine a_zret X (by first | exact Or.inl rfl | exact Or.inr rfl | assumption) hr dX2_fits_29 ⟨by decide, by decide⟩ ?_
    subst hF
    exact ⟨rfl, ⟨_, rfl, (by first | exact Or.inl rfl | exact Or.inr rfl | assumption)⟩⟩
  have J_28 : ∀ (x1_28 : Int32) (x2_28 : Int32) (x3_28 : Int32), Zw p l e { frames := 1, cells := 0, slots := 0, locals := 80 * 1 } s m args below meth c G b 4 (MQ below (zQ G b FQ) args s 0 0 (fun q : Nat => b ≤ q)) 0 0 28 [some (.ref (Q)), some (.int x1_28), some (.int x2_28), some (.int x3_28)] [] S := by
    intro x1_28 x2_28 x3_28
    refine a_iconst (v := 0) X dX2_fits_28 (by decide) ?_
    exact Zw.to2 (J_29 _ _ _ _ (by first | exact Or.inl rfl | exact Or.inr rfl | assumption)) rfl rfl rfl
  refine a_aload_n X dX2_fits_0 rfl ?_
  refine a_getr X lf2_24 (by assumption) rfl (by omega) dX2_fits_1 ?_
  refine a_iload_n X dX2_fits_4 rfl ?_
  refine a_callSNv X dX2_fits_5 miX7_cell lm2_62 (c_cell (by assumption) (by first | decide | assumption)) rfl rfl (Nat.le_of_ble_eq_true rfl) ⟨by decide, by decide, by decide, by decide⟩ ?_
  refine a_iload_n X dX2_fits_8 rfl ?_
  refine a_icmp_gt (tgt := 28) X dX2_fits_9 (by decide) (fun h_9 => ?_) (fun h_9 => ?_)
  · exact Zw.to2 (J_28 _ _ _ ) rfl rfl rfl
  · refine a_aload_n X dX2_fits_12 rfl ?_
    refine a_getr X lf2_27 (by assumption) rfl (by omega) dX2_fits_13 ?_
    refine a_iload_n X dX2_fits_16 rfl ?_
    refine a_callSNv X dX2_fits_17 miX7_cell lm2_62 (c_cell (by assumption) (by first | decide | assumption)) rfl rfl (Nat.le_of_ble_eq_true rfl) ⟨by decide, by decide, by decide, by decide⟩ ?_
    refine a_iload_n X dX2_fits_20 rfl ?_
    refine a_icmp_gt (tgt := 28) X dX2_fits_21 (by decide) (fun h_21 => ?_) (fun h_21 => ?_)
    · exact Zw.to2 (J_28 _ _ _ ) rfl rfl rfl
    · refine a_iconst (v := 1) X dX2_fits_24 (by decide) ?_
      refine a_goto (tgt := 29) X dX2_fits_25 (by decide) ?_
      exact Zw.to2 (J_29 _ _ _ _ (by first | exact Or.inl rfl | exact Or.inr rfl | assumption)) rfl rfl rfl
set_option maxRecDepth 100000 in
theorem s_X2_firstApplicants {l : Launch} {G : zG} {b : Nat} {S : zS} {P : Nat} {Q : Nat} {v0 : Int32} (hQ : LX2 S.1 Q) (rQ : P < Q ∧ Q + 13 ≤ P + 200) : zM l G b yX2_firstApplicants cX2_firstApplicants 4 (some .int) 3 0 0 [.ref Q, .int v0] S (fun r z => z = S ∧ ∃ v : Int32, r = some (.int v)) := by
  refine zM.of miX2_firstApplicants (Nat.le_of_ble_eq_true rfl) ?_
  intro p e s m args below meth c X hr hname
  generalize hF : ((fun r z => z = S ∧ ∃ v : Int32, r = some (.int v)) : Option Value → zS → Prop) = FQ
  change Zw p l e { frames := 3, cells := 0, slots := 0, locals := 80 * 3 } s m args below meth c G b 4 (MQ below (zQ G b FQ) args s 0 0 (fun q : Nat => b ≤ q)) 0 0 0 [some (.ref Q), some (.int v0), none, none] [] S
  obtain ⟨q_lt, q_o, q_quota, q_preferred, q_forGuests, q_applicantOf, q_size, q_guestCount, q_score, q_tickets, q_bits, q_party, q_wishCount, q_wishes⟩ := id hQ
  have L_4 : ∀ u : Nat, ∀ (x1_4 : Int32) (x2_4 : Int32) (x3_4 : Int32), (2147483648 - x3_4.toInt).toNat < u → Zw p l e { frames := 3, cells := 0, slots := 0, locals := 80 * 3 } s m args below meth c G b 4 (MQ below (zQ G b FQ) args s 0 0 (fun q : Nat => b ≤ q)) 0 0 4 [some (.ref (Q)), some (.int x1_4), some (.int x2_4), some (.int x3_4)] [] S := by
    intro u
    induction u with
    | zero => intro x1_4 x2_4 x3_4 hm_4; exact absurd hm_4 (Nat.not_lt_zero _)
    | succ u_4 ih_4 =>
      intro x1_4 x2_4 x3_4 hm_4
      have J_27 : ∀ (x1_27 : Int32) (x2_27 : Int32) (x3_27 : Int32) (y0_27 : Int32) (y1_27 : Int32), (y1_27 = 0 ∨ y1_27 = 1) → ((2147483648 - x3_27.toInt).toNat < u_4 + 1) → (x3_27.toInt < 2147483647) → Zw p l e { frames := 3, cells := 0, slots := 0, locals := 80 * 3 } s m args below meth c G b 4 (MQ below (zQ G b FQ) args s 0 0 (fun q : Nat => b ≤ q)) 0 0 27 [some (.ref (Q)), some (.int x1_27), some (.int x2_27), some (.int x3_27)] [(.int y1_27), (.int y0_27)] S := by
        intro x1_27 x2_27 x3_27 y0_27 y1_27 f0_27 f1_27 f2_27
        refine a_iadd X dX2_firstApplicants_27 ?_
        refine a_istore_n X dX2_firstApplicants_28 (by decide) ?_
        refine a_iinc X dX2_firstApplicants_29 (by decide) rfl rfl ?_
        refine a_goto (tgt := 4) X dX2_firstApplicants_32 (by decide) ?_
        exact Zw.to2 (ih_4 _ _ _  (by first | assumption | exact z_up (by first | assumption | exact z_lt (by assumption) | exact z_lt2 (by assumption)) (by assumption))) rfl rfl rfl
      refine a_iload_n X dX2_firstApplicants_4 rfl ?_
      refine a_aload_n X dX2_firstApplicants_5 rfl ?_
      refine a_geti X lf2_52 (by assumption) rfl dX2_firstApplicants_6 ?_
      refine a_icmp_ge (tgt := 35) X dX2_firstApplicants_9 (by decide) (fun h_9 => ?_) (fun h_9 => ?_)
      · refine a_iload_n X dX2_firstApplicants_35 rfl ?_
        refine a_iret X hr dX2_firstApplicants_36 ⟨by decide, by decide⟩ ?_
        subst hF
        exact ⟨rfl, ⟨_, rfl⟩⟩
      · refine a_iload_n X dX2_firstApplicants_12 rfl ?_
        refine a_aload_n X dX2_firstApplicants_13 rfl ?_
        refine a_iload_n X dX2_firstApplicants_14 rfl ?_
        refine a_iload_n X dX2_firstApplicants_15 rfl ?_
        refine a_callVx X dX2_firstApplicants_16 miX2_rankOf lm2_119 (s_X2_rankOf (P := P) (by assumption) (by omega)) (by assumption) rfl rfl rfl (Nat.le_of_ble_eq_true rfl) ⟨by decide, by decide, by decide, by decide⟩ (fun r_16 S_16 q_16 => ?_)
        obtain ⟨rfl, ⟨v_16, rfl⟩⟩ := q_16
        refine a_if_ne (tgt := 26) X dX2_firstApplicants_19 (by decide) (fun h_19 => ?_) (fun h_19 => ?_)
        · refine a_iconst (v := 0) X dX2_firstApplicants_26 (by decide) ?_
          exact Zw.to2 (J_27 _ _ _ _ _ (by first | exact Or.inl rfl | exact Or.inr rfl | assumption) (by first | assumption | exact z_up (by first | assumption | exact z_lt (by assumption) | exact z_lt2 (by assumption)) (by assumption)) (by first | assumption | exact z_lt (by assumption) | exact z_lt2 (by assumption))) rfl rfl rfl
        · refine a_iconst (v := 1) X dX2_firstApplicants_22 (by decide) ?_
          refine a_goto (tgt := 27) X dX2_firstApplicants_23 (by decide) ?_
          exact Zw.to2 (J_27 _ _ _ _ _ (by first | exact Or.inl rfl | exact Or.inr rfl | assumption) (by first | assumption | exact z_up (by first | assumption | exact z_lt (by assumption) | exact z_lt2 (by assumption)) (by assumption)) (by first | assumption | exact z_lt (by assumption) | exact z_lt2 (by assumption))) rfl rfl rfl
  have H_4 : ∀ (x1_4 : Int32) (x2_4 : Int32) (x3_4 : Int32), Zw p l e { frames := 3, cells := 0, slots := 0, locals := 80 * 3 } s m args below meth c G b 4 (MQ below (zQ G b FQ) args s 0 0 (fun q : Nat => b ≤ q)) 0 0 4 [some (.ref (Q)), some (.int x1_4), some (.int x2_4), some (.int x3_4)] [] S := fun x1_4 x2_4 x3_4  => L_4 _ x1_4 x2_4 x3_4  (Nat.lt_succ_self _)
  refine a_iconst (v := 0) X dX2_firstApplicants_0 (by decide) ?_
  refine a_istore_n X dX2_firstApplicants_1 (by decide) ?_
  refine a_iconst (v := 0) X dX2_firstApplicants_2 (by decide) ?_
  refine a_istore_n X dX2_firstApplicants_3 (by decide) ?_
  exact Zw.to2 (H_4 _ _ _ ) rfl rfl rfl
set_option maxRecDepth 100000 in
theorem s_X2_firstHunters {l : Launch} {G : zG} {b : Nat} {S : zS} {P : Nat} {Q : Nat} {v0 : Int32} (hQ : LX2 S.1 Q) (rQ : P < Q ∧ Q + 13 ≤ P + 200) : zM l G b yX2_firstHunters cX2_firstHunters 4 (some .int) 3 0 0 [.ref Q, .int v0] S (fun r z => z = S ∧ ∃ v : Int32, r = some (.int v)) := by
  refine zM.of miX2_firstHunters (Nat.le_of_ble_eq_true rfl) ?_
  intro p e s m args below meth c X hr hname
  generalize hF : ((fun r z => z = S ∧ ∃ v : Int32, r = some (.int v)) : Option Value → zS → Prop) = FQ
  change Zw p l e { frames := 3, cells := 0, slots := 0, locals := 80 * 3 } s m args below meth c G b 4 (MQ below (zQ G b FQ) args s 0 0 (fun q : Nat => b ≤ q)) 0 0 0 [some (.ref Q), some (.int v0), none, none] [] S
  obtain ⟨q_lt, q_o, q_quota, q_preferred, q_forGuests, q_applicantOf, q_size, q_guestCount, q_score, q_tickets, q_bits, q_party, q_wishCount, q_wishes⟩ := id hQ
  have L_4 : ∀ u : Nat, ∀ (x1_4 : Int32) (x2_4 : Int32) (x3_4 : Int32), (2147483648 - x3_4.toInt).toNat < u → Zw p l e { frames := 3, cells := 0, slots := 0, locals := 80 * 3 } s m args below meth c G b 4 (MQ below (zQ G b FQ) args s 0 0 (fun q : Nat => b ≤ q)) 0 0 4 [some (.ref (Q)), some (.int x1_4), some (.int x2_4), some (.int x3_4)] [] S := by
    intro u
    induction u with
    | zero => intro x1_4 x2_4 x3_4 hm_4; exact absurd hm_4 (Nat.not_lt_zero _)
    | succ u_4 ih_4 =>
      intro x1_4 x2_4 x3_4 hm_4
      have J_34 : ∀ (x1_34 : Int32) (x2_34 : Int32) (x3_34 : Int32) (y0_34 : Int32) (y1_34 : Int32), ((2147483648 - x3_34.toInt).toNat < u_4 + 1) → (x3_34.toInt < 2147483647) → Zw p l e { frames := 3, cells := 0, slots := 0, locals := 80 * 3 } s m args below meth c G b 4 (MQ below (zQ G b FQ) args s 0 0 (fun q : Nat => b ≤ q)) 0 0 34 [some (.ref (Q)), some (.int x1_34), some (.int x2_34), some (.int x3_34)] [(.int y1_34), (.int y0_34)] S := by
        intro x1_34 x2_34 x3_34 y0_34 y1_34 f0_34 f1_34
        refine a_iadd X dX2_firstHunters_34 ?_
        refine a_istore_n X dX2_firstHunters_35 (by decide) ?_
        refine a_iinc X dX2_firstHunters_36 (by decide) rfl rfl ?_
        refine a_goto (tgt := 4) X dX2_firstHunters_39 (by decide) ?_
        exact Zw.to2 (ih_4 _ _ _  (by first | assumption | exact z_up (by first | assumption | exact z_lt (by assumption) | exact z_lt2 (by assumption)) (by assumption))) rfl rfl rfl
      refine a_iload_n X dX2_firstHunters_4 rfl ?_
      refine a_aload_n X dX2_firstHunters_5 rfl ?_
      refine a_geti X lf2_52 (by assumption) rfl dX2_firstHunters_6 ?_
      refine a_icmp_ge (tgt := 42) X dX2_firstHunters_9 (by decide) (fun h_9 => ?_) (fun h_9 => ?_)
      · refine a_iload_n X dX2_firstHunters_42 rfl ?_
        refine a_iret X hr dX2_firstHunters_43 ⟨by decide, by decide⟩ ?_
        subst hF
        exact ⟨rfl, ⟨_, rfl⟩⟩
      · refine a_iload_n X dX2_firstHunters_12 rfl ?_
        refine a_aload_n X dX2_firstHunters_13 rfl ?_
        refine a_iload_n X dX2_firstHunters_14 rfl ?_
        refine a_iload_n X dX2_firstHunters_15 rfl ?_
        refine a_callVx X dX2_firstHunters_16 miX2_rankOf lm2_119 (s_X2_rankOf (P := P) (by assumption) (by omega)) (by assumption) rfl rfl rfl (Nat.le_of_ble_eq_true rfl) ⟨by decide, by decide, by decide, by decide⟩ (fun r_16 S_16 q_16 => ?_)
        obtain ⟨rfl, ⟨v_16, rfl⟩⟩ := q_16
        refine a_if_ne (tgt := 33) X dX2_firstHunters_19 (by decide) (fun h_19 => ?_) (fun h_19 => ?_)
        · refine a_iconst (v := 0) X dX2_firstHunters_33 (by decide) ?_
          exact Zw.to2 (J_34 _ _ _ _ _ (by first | assumption | exact z_up (by first | assumption | exact z_lt (by assumption) | exact z_lt2 (by assumption)) (by assumption)) (by first | assumption | exact z_lt (by assumption) | exact z_lt2 (by assumption))) rfl rfl rfl
        · refine a_aload_n X dX2_firstHunters_22 rfl ?_
          refine a_getr X lf2_24 (by assumption) rfl (by omega) dX2_firstHunters_23 ?_
          refine a_iload_n X dX2_firstHunters_26 rfl ?_
          refine a_callSNv X dX2_firstHunters_27 miX7_cell lm2_62 (c_cell (by assumption) (by first | decide | assumption)) rfl rfl (Nat.le_of_ble_eq_true rfl) ⟨by decide, by decide, by decide, by decide⟩ ?_
          refine a_goto (tgt := 34) X dX2_firstHunters_30 (by decide) ?_
          exact Zw.to2 (J_34 _ _ _ _ _ (by first | assumption | exact z_up (by first | assumption | exact z_lt (by assumption) | exact z_lt2 (by assumption)) (by assumption)) (by first | assumption | exact z_lt (by assumption) | exact z_lt2 (by assumption))) rfl rfl rfl
  have H_4 : ∀ (x1_4 : Int32) (x2_4 : Int32) (x3_4 : Int32), Zw p l e { frames := 3, cells := 0, slots := 0, locals := 80 * 3 } s m args below meth c G b 4 (MQ below (zQ G b FQ) args s 0 0 (fun q : Nat => b ≤ q)) 0 0 4 [some (.ref (Q)), some (.int x1_4), some (.int x2_4), some (.int x3_4)] [] S := fun x1_4 x2_4 x3_4  => L_4 _ x1_4 x2_4 x3_4  (Nat.lt_succ_self _)
  refine a_iconst (v := 0) X dX2_firstHunters_0 (by decide) ?_
  refine a_istore_n X dX2_firstHunters_1 (by decide) ?_
  refine a_iconst (v := 0) X dX2_firstHunters_2 (by decide) ?_
  refine a_istore_n X dX2_firstHunters_3 (by decide) ?_
  exact Zw.to2 (H_4 _ _ _ ) rfl rfl rfl
set_option maxRecDepth 100000 in
theorem s_X2_askers {l : Launch} {G : zG} {b : Nat} {S : zS} {P : Nat} {Q : Nat} {v0 : Int32} (hQ : LX2 S.1 Q) (rQ : P < Q ∧ Q + 13 ≤ P + 200) : zM l G b yX2_askers cX2_askers 4 (some .int) 3 0 0 [.ref Q, .int v0] S (fun r z => z = S ∧ ∃ v : Int32, r = some (.int v)) := by
  refine zM.of miX2_askers (Nat.le_of_ble_eq_true rfl) ?_
  intro p e s m args below meth c X hr hname
  generalize hF : ((fun r z => z = S ∧ ∃ v : Int32, r = some (.int v)) : Option Value → zS → Prop) = FQ
  change Zw p l e { frames := 3, cells := 0, slots := 0, locals := 80 * 3 } s m args below meth c G b 4 (MQ below (zQ G b FQ) args s 0 0 (fun q : Nat => b ≤ q)) 0 0 0 [some (.ref Q), some (.int v0), none, none] [] S
  obtain ⟨q_lt, q_o, q_quota, q_preferred, q_forGuests, q_applicantOf, q_size, q_guestCount, q_score, q_tickets, q_bits, q_party, q_wishCount, q_wishes⟩ := id hQ
  have L_4 : ∀ u : Nat, ∀ (x1_4 : Int32) (x2_4 : Int32) (x3_4 : Int32), (2147483648 - x3_4.toInt).toNat < u → Zw p l e { frames := 3, cells := 0, slots := 0, locals := 80 * 3 } s m args below meth c G b 4 (MQ below (zQ G b FQ) args s 0 0 (fun q : Nat => b ≤ q)) 0 0 4 [some (.ref (Q)), some (.int x1_4), some (.int x2_4), some (.int x3_4)] [] S := by
    intro u
    induction u with
    | zero => intro x1_4 x2_4 x3_4 hm_4; exact absurd hm_4 (Nat.not_lt_zero _)
    | succ u_4 ih_4 =>
      intro x1_4 x2_4 x3_4 hm_4
      have J_28 : ∀ (x1_28 : Int32) (x2_28 : Int32) (x3_28 : Int32) (y0_28 : Int32) (y1_28 : Int32), (y1_28 = 0 ∨ y1_28 = 1) → ((2147483648 - x3_28.toInt).toNat < u_4 + 1) → (x3_28.toInt < 2147483647) → Zw p l e { frames := 3, cells := 0, slots := 0, locals := 80 * 3 } s m args below meth c G b 4 (MQ below (zQ G b FQ) args s 0 0 (fun q : Nat => b ≤ q)) 0 0 28 [some (.ref (Q)), some (.int x1_28), some (.int x2_28), some (.int x3_28)] [(.int y1_28), (.int y0_28)] S := by
        intro x1_28 x2_28 x3_28 y0_28 y1_28 f0_28 f1_28 f2_28
        refine a_iadd X dX2_askers_28 ?_
        refine a_istore_n X dX2_askers_29 (by decide) ?_
        refine a_iinc X dX2_askers_30 (by decide) rfl rfl ?_
        refine a_goto (tgt := 4) X dX2_askers_33 (by decide) ?_
        exact Zw.to2 (ih_4 _ _ _  (by first | assumption | exact z_up (by first | assumption | exact z_lt (by assumption) | exact z_lt2 (by assumption)) (by assumption))) rfl rfl rfl
      refine a_iload_n X dX2_askers_4 rfl ?_
      refine a_aload_n X dX2_askers_5 rfl ?_
      refine a_geti X lf2_52 (by assumption) rfl dX2_askers_6 ?_
      refine a_icmp_ge (tgt := 36) X dX2_askers_9 (by decide) (fun h_9 => ?_) (fun h_9 => ?_)
      · refine a_iload_n X dX2_askers_36 rfl ?_
        refine a_iret X hr dX2_askers_37 ⟨by decide, by decide⟩ ?_
        subst hF
        exact ⟨rfl, ⟨_, rfl⟩⟩
      · refine a_iload_n X dX2_askers_12 rfl ?_
        refine a_aload_n X dX2_askers_13 rfl ?_
        refine a_iload_n X dX2_askers_14 rfl ?_
        refine a_iload_n X dX2_askers_15 rfl ?_
        refine a_callVx X dX2_askers_16 miX2_rankOf lm2_119 (s_X2_rankOf (P := P) (by assumption) (by omega)) (by assumption) rfl rfl rfl (Nat.le_of_ble_eq_true rfl) ⟨by decide, by decide, by decide, by decide⟩ (fun r_16 S_16 q_16 => ?_)
        obtain ⟨rfl, ⟨v_16, rfl⟩⟩ := q_16
        refine a_iconst (v := -1) X dX2_askers_19 (by decide) ?_
        refine a_icmp_ne (tgt := 27) X dX2_askers_20 (by decide) (fun h_20 => ?_) (fun h_20 => ?_)
        · refine a_iconst (v := 1) X dX2_askers_27 (by decide) ?_
          exact Zw.to2 (J_28 _ _ _ _ _ (by first | exact Or.inl rfl | exact Or.inr rfl | assumption) (by first | assumption | exact z_up (by first | assumption | exact z_lt (by assumption) | exact z_lt2 (by assumption)) (by assumption)) (by first | assumption | exact z_lt (by assumption) | exact z_lt2 (by assumption))) rfl rfl rfl
        · refine a_iconst (v := 0) X dX2_askers_23 (by decide) ?_
          refine a_goto (tgt := 28) X dX2_askers_24 (by decide) ?_
          exact Zw.to2 (J_28 _ _ _ _ _ (by first | exact Or.inl rfl | exact Or.inr rfl | assumption) (by first | assumption | exact z_up (by first | assumption | exact z_lt (by assumption) | exact z_lt2 (by assumption)) (by assumption)) (by first | assumption | exact z_lt (by assumption) | exact z_lt2 (by assumption))) rfl rfl rfl
  have H_4 : ∀ (x1_4 : Int32) (x2_4 : Int32) (x3_4 : Int32), Zw p l e { frames := 3, cells := 0, slots := 0, locals := 80 * 3 } s m args below meth c G b 4 (MQ below (zQ G b FQ) args s 0 0 (fun q : Nat => b ≤ q)) 0 0 4 [some (.ref (Q)), some (.int x1_4), some (.int x2_4), some (.int x3_4)] [] S := fun x1_4 x2_4 x3_4  => L_4 _ x1_4 x2_4 x3_4  (Nat.lt_succ_self _)
  refine a_iconst (v := 0) X dX2_askers_0 (by decide) ?_
  refine a_istore_n X dX2_askers_1 (by decide) ?_
  refine a_iconst (v := 0) X dX2_askers_2 (by decide) ?_
  refine a_istore_n X dX2_askers_3 (by decide) ?_
  exact Zw.to2 (H_4 _ _ _ ) rfl rfl rfl
set_option maxRecDepth 100000 in
theorem s_X2_open {l : Launch} {G : zG} {b : Nat} {S : zS} {P : Nat} {Q : Nat} {v0 : Int32} (hQ : LX2 S.1 Q) (rQ : P < Q ∧ Q + 13 ≤ P + 200) : zM l G b yX2_open cX2_open 2 none 1 0 0 [.ref Q, .int v0] S (fun r z => ∃ M' N', z = (S.1, M', N') ∧ zK P S.2.1 M' ∧ r = none) := by
  refine zM.of miX2_open (Nat.le_of_ble_eq_true rfl) ?_
  intro p e s m args below meth c X hr hname
  generalize hF : ((fun r z => ∃ M' N', z = (S.1, M', N') ∧ zK P S.2.1 M' ∧ r = none) : Option Value → zS → Prop) = FQ
  change Zw p l e { frames := 1, cells := 0, slots := 0, locals := 80 * 1 } s m args below meth c G b 2 (MQ below (zQ G b FQ) args s 0 0 (fun q : Nat => b ≤ q)) 0 0 0 [some (.ref Q), some (.int v0)] [] S
  obtain ⟨q_lt, q_o, q_quota, q_preferred, q_forGuests, q_applicantOf, q_size, q_guestCount, q_score, q_tickets, q_bits, q_party, q_wishCount, q_wishes⟩ := id hQ
  refine a_aload_n X dX2_open_0 rfl ?_
  refine a_getr X lf2_24 (by assumption) rfl (by omega) dX2_open_1 ?_
  refine a_aload_n X dX2_open_4 rfl ?_
  refine a_geti X lf2_52 (by assumption) rfl dX2_open_5 ?_
  refine a_iconst (v := 0) X dX2_open_8 (by decide) ?_
  refine a_callSNu X dX2_open_9 miX7_put lm2_96 (c_put (by assumption) (by first | decide | assumption)) rfl rfl (Nat.le_of_ble_eq_true rfl) ⟨by decide, by decide, by decide, by decide⟩ ?_
  refine a_aload_n X dX2_open_12 rfl ?_
  refine a_getr X lf2_27 (by assumption) rfl (by omega) dX2_open_13 ?_
  refine a_aload_n X dX2_open_16 rfl ?_
  refine a_geti X lf2_52 (by assumption) rfl dX2_open_17 ?_
  refine a_iconst (v := 0) X dX2_open_20 (by decide) ?_
  refine a_callSNu X dX2_open_21 miX7_put lm2_96 (c_put (by assumption) (by first | decide | assumption)) rfl rfl (Nat.le_of_ble_eq_true rfl) ⟨by decide, by decide, by decide, by decide⟩ ?_
  refine a_aload_n X dX2_open_24 rfl ?_
  refine a_getr X lf2_30 (by assumption) rfl (by omega) dX2_open_25 ?_
  refine a_aload_n X dX2_open_28 rfl ?_
  refine a_geti X lf2_52 (by assumption) rfl dX2_open_29 ?_
  refine a_iconst (v := 0) X dX2_open_32 (by decide) ?_
  refine a_callSNu X dX2_open_33 miX7_put lm2_96 (c_put (by assumption) (by first | decide | assumption)) rfl rfl (Nat.le_of_ble_eq_true rfl) ⟨by decide, by decide, by decide, by decide⟩ ?_
  refine a_aload_n X dX2_open_36 rfl ?_
  refine a_getr X lf2_36 (by assumption) rfl (by omega) dX2_open_37 ?_
  refine a_aload_n X dX2_open_40 rfl ?_
  refine a_geti X lf2_52 (by assumption) rfl dX2_open_41 ?_
  refine a_iconst (v := 0) X dX2_open_44 (by decide) ?_
  refine a_callSNu X dX2_open_45 miX7_put lm2_96 (c_put (by assumption) (by first | decide | assumption)) rfl rfl (Nat.le_of_ble_eq_true rfl) ⟨by decide, by decide, by decide, by decide⟩ ?_
  refine a_aload_n X dX2_open_48 rfl ?_
  refine a_getr X lf2_39 (by assumption) rfl (by omega) dX2_open_49 ?_
  refine a_aload_n X dX2_open_52 rfl ?_
  refine a_geti X lf2_52 (by assumption) rfl dX2_open_53 ?_
  refine a_iload_n X dX2_open_56 rfl ?_
  refine a_callSNu X dX2_open_57 miX7_put lm2_96 (c_put (by assumption) (by first | decide | assumption)) rfl rfl (Nat.le_of_ble_eq_true rfl) ⟨by decide, by decide, by decide, by decide⟩ ?_
  refine a_aload_n X dX2_open_60 rfl ?_
  refine a_dup X dX2_open_61 rfl ?_
  refine a_geti X lf2_52 (by assumption) rfl dX2_open_62 ?_
  refine a_iconst (v := 1) X dX2_open_65 (by decide) ?_
  refine a_iadd X dX2_open_66 ?_
  refine a_puti X lf2_52 (by assumption) rfl dX2_open_67 ?_
  refine a_vret X hr dX2_open_70 ⟨by decide, by decide⟩ ?_
  subst hF
  exact ⟨_, _, rfl, (by (try dsimp only); repeat first | assumption | exact zK.rf | refine zK.zu ?_ (by omega) | refine zK.zu0 ?_ (by decide) | refine zK.zwr ?_ (by omega) | refine zK.zfil ?_ (by omega) | refine zK.zcpy ?_ (by omega) | refine zK.trans ?_ (by assumption) | dsimp only), rfl⟩
set_option maxRecDepth 100000 in
theorem s_X2_join {l : Launch} {G : zG} {b : Nat} {S : zS} {P : Nat} {Q : Nat} {A : Nat} {v0 : Int32} (hQ : LX2 S.1 Q) (rQ : P < Q ∧ Q + 13 ≤ P + 200) (hA : LX4 S.1 A) (rA : P < A ∧ A + 8 ≤ P + 200) : zM l G b yX2_join cX2_join 5 none 1 0 0 [.ref Q, .ref A, .int v0] S (fun r z => ∃ M' N', z = (S.1, M', N') ∧ zK P S.2.1 M' ∧ r = none) := by
  refine zM.of miX2_join (Nat.le_of_ble_eq_true rfl) ?_
  intro p e s m args below meth c X hr hname
  generalize hF : ((fun r z => ∃ M' N', z = (S.1, M', N') ∧ zK P S.2.1 M' ∧ r = none) : Option Value → zS → Prop) = FQ
  change Zw p l e { frames := 1, cells := 0, slots := 0, locals := 80 * 1 } s m args below meth c G b 5 (MQ below (zQ G b FQ) args s 0 0 (fun q : Nat => b ≤ q)) 0 0 0 [some (.ref Q), some (.ref A), some (.int v0), none, none] [] S
  obtain ⟨q_lt, q_o, q_quota, q_preferred, q_forGuests, q_applicantOf, q_size, q_guestCount, q_score, q_tickets, q_bits, q_party, q_wishCount, q_wishes⟩ := id hQ
  obtain ⟨a_lt, a_o, a_quota, a_score, a_guest, a_party, a_wishCount, a_wishes, a_has⟩ := id hA
  have L_87 : ∀ u : Nat, ∀ (x2_87 : Int32) (x3_87 : Int32) (x4_87 : Int32) (M2 : Nat → Nat → Int32) (N2 : Nat → Nat → Int64), zK P S.2.1 M2 → (2147483648 - x4_87.toInt).toNat < u → Zw p l e { frames := 1, cells := 0, slots := 0, locals := 80 * 1 } s m args below meth c G b 5 (MQ below (zQ G b FQ) args s 0 0 (fun q : Nat => b ≤ q)) 0 0 87 [some (.ref (Q)), some (.ref (A)), some (.int x2_87), some (.int x3_87), some (.int x4_87)] [] (S.1, M2, N2) := by
    intro u
    induction u with
    | zero => intro x2_87 x3_87 x4_87 M2_87 N2_87 k_87 hm_87; exact absurd hm_87 (Nat.not_lt_zero _)
    | succ u_87 ih_87 =>
      intro x2_87 x3_87 x4_87 M2_87 N2_87 k_87 hm_87
      refine a_iload X dX2_join_87 rfl ?_
      refine a_iconst (v := 3) X dX2_join_89 (by decide) ?_
      refine a_icmp_ge (tgt := 125) X dX2_join_90 (by decide) (fun h_90 => ?_) (fun h_90 => ?_)
      · refine a_vret X hr dX2_join_125 ⟨by decide, by decide⟩ ?_
        subst hF
        exact ⟨_, _, rfl, (by (try dsimp only); repeat first | assumption | exact zK.rf | refine zK.zu ?_ (by omega) | refine zK.zu0 ?_ (by decide) | refine zK.zwr ?_ (by omega) | refine zK.zfil ?_ (by omega) | refine zK.zcpy ?_ (by omega) | refine zK.trans ?_ (by assumption) | dsimp only), rfl⟩
      · refine a_aload_n X dX2_join_93 rfl ?_
        refine a_getr X lf2_45 (by assumption) rfl (by omega) dX2_join_94 ?_
        refine a_iload_n X dX2_join_97 rfl ?_
        refine a_iconst (v := 3) X dX2_join_98 (by decide) ?_
        refine a_imul X dX2_join_99 ?_
        refine a_iload X dX2_join_100 rfl ?_
        refine a_iadd X dX2_join_102 ?_
        refine a_aload_n X dX2_join_103 rfl ?_
        refine a_getr X lf2_114 (by assumption) rfl (by omega) dX2_join_104 ?_
        refine a_iload_n X dX2_join_107 rfl ?_
        refine a_iconst (v := 3) X dX2_join_108 (by decide) ?_
        refine a_imul X dX2_join_109 ?_
        refine a_iload X dX2_join_110 rfl ?_
        refine a_iadd X dX2_join_112 ?_
        refine a_callSNv X dX2_join_113 miX7_cell lm2_62 (c_cell (by assumption) (by first | decide | assumption)) rfl rfl (Nat.le_of_ble_eq_true rfl) ⟨by decide, by decide, by decide, by decide⟩ ?_
        refine a_callSNu X dX2_join_116 miX7_put lm2_96 (c_put (by assumption) (by first | decide | assumption)) rfl rfl (Nat.le_of_ble_eq_true rfl) ⟨by decide, by decide, by decide, by decide⟩ ?_
        refine a_iinc X dX2_join_119 (by decide) rfl rfl ?_
        refine a_goto (tgt := 87) X dX2_join_122 (by decide) ?_
        exact Zw.to2 (ih_87 _ _ _ _ _ (by (try dsimp only); repeat first | assumption | exact zK.rf | refine zK.zu ?_ (by omega) | refine zK.zu0 ?_ (by decide) | refine zK.zwr ?_ (by omega) | refine zK.zfil ?_ (by omega) | refine zK.zcpy ?_ (by omega) | refine zK.trans ?_ (by assumption) | dsimp only)  (by first | assumption | exact z_up (by first | assumption | exact z_lt (by assumption) | exact z_lt2 (by assumption)) (by assumption))) rfl rfl rfl
  have H_87 : ∀ (x2_87 : Int32) (x3_87 : Int32) (x4_87 : Int32) (M2 : Nat → Nat → Int32) (N2 : Nat → Nat → Int64), zK P S.2.1 M2 → Zw p l e { frames := 1, cells := 0, slots := 0, locals := 80 * 1 } s m args below meth c G b 5 (MQ below (zQ G b FQ) args s 0 0 (fun q : Nat => b ≤ q)) 0 0 87 [some (.ref (Q)), some (.ref (A)), some (.int x2_87), some (.int x3_87), some (.int x4_87)] [] (S.1, M2, N2) := fun x2_87 x3_87 x4_87 M2 N2 k  => L_87 _ x2_87 x3_87 x4_87 M2 N2 k  (Nat.lt_succ_self _)
  refine a_aload_n X dX2_join_0 rfl ?_
  refine a_geti X lf2_52 (by assumption) rfl dX2_join_1 ?_
  refine a_iconst (v := 1) X dX2_join_4 (by decide) ?_
  refine a_isub X dX2_join_5 ?_
  refine a_istore_n X dX2_join_6 (by decide) ?_
  refine a_aload_n X dX2_join_7 rfl ?_
  refine a_getr X lf2_21 (by assumption) rfl (by omega) dX2_join_8 ?_
  refine a_iload_n X dX2_join_11 rfl ?_
  refine a_iload_n X dX2_join_12 rfl ?_
  refine a_callSNu X dX2_join_13 miX7_put lm2_96 (c_put (by assumption) (by first | decide | assumption)) rfl rfl (Nat.le_of_ble_eq_true rfl) ⟨by decide, by decide, by decide, by decide⟩ ?_
  refine a_aload_n X dX2_join_16 rfl ?_
  refine a_getr X lf2_24 (by assumption) rfl (by omega) dX2_join_17 ?_
  refine a_iload_n X dX2_join_20 rfl ?_
  refine a_iconst (v := 1) X dX2_join_21 (by decide) ?_
  refine a_callSNu X dX2_join_22 miX7_add lm2_106 (c_add (by assumption) (by first | decide | assumption)) rfl rfl (Nat.le_of_ble_eq_true rfl) ⟨by decide, by decide, by decide, by decide⟩ ?_
  refine a_aload_n X dX2_join_25 rfl ?_
  refine a_getr X lf2_27 (by assumption) rfl (by omega) dX2_join_26 ?_
  refine a_iload_n X dX2_join_29 rfl ?_
  refine a_aload_n X dX2_join_30 rfl ?_
  refine a_getr X lf2_109 (by assumption) rfl (by omega) dX2_join_31 ?_
  refine a_iload_n X dX2_join_34 rfl ?_
  refine a_callSNv X dX2_join_35 miX7_cell lm2_62 (c_cell (by assumption) (by first | decide | assumption)) rfl rfl (Nat.le_of_ble_eq_true rfl) ⟨by decide, by decide, by decide, by decide⟩ ?_
  refine a_callSNu X dX2_join_38 miX7_add lm2_106 (c_add (by assumption) (by first | decide | assumption)) rfl rfl (Nat.le_of_ble_eq_true rfl) ⟨by decide, by decide, by decide, by decide⟩ ?_
  refine a_aload_n X dX2_join_41 rfl ?_
  refine a_getr X lf2_30 (by assumption) rfl (by omega) dX2_join_42 ?_
  refine a_iload_n X dX2_join_45 rfl ?_
  refine a_aload_n X dX2_join_46 rfl ?_
  refine a_getr X lf2_112 (by assumption) rfl (by omega) dX2_join_47 ?_
  refine a_iload_n X dX2_join_50 rfl ?_
  refine a_callSNv X dX2_join_51 miX7_cell lm2_62 (c_cell (by assumption) (by first | decide | assumption)) rfl rfl (Nat.le_of_ble_eq_true rfl) ⟨by decide, by decide, by decide, by decide⟩ ?_
  refine a_callSNu X dX2_join_54 miX7_add lm2_106 (c_add (by assumption) (by first | decide | assumption)) rfl rfl (Nat.le_of_ble_eq_true rfl) ⟨by decide, by decide, by decide, by decide⟩ ?_
  refine a_aload_n X dX2_join_57 rfl ?_
  refine a_getr X lf2_36 (by assumption) rfl (by omega) dX2_join_58 ?_
  refine a_iload_n X dX2_join_61 rfl ?_
  refine a_iconst (v := 1) X dX2_join_62 (by decide) ?_
  refine a_iload_n X dX2_join_63 rfl ?_
  refine a_ishl X dX2_join_64 ?_
  refine a_callSNu X dX2_join_65 miX7_add lm2_106 (c_add (by assumption) (by first | decide | assumption)) rfl rfl (Nat.le_of_ble_eq_true rfl) ⟨by decide, by decide, by decide, by decide⟩ ?_
  refine a_aload_n X dX2_join_68 rfl ?_
  refine a_getr X lf2_42 (by assumption) rfl (by omega) dX2_join_69 ?_
  refine a_iload_n X dX2_join_72 rfl ?_
  refine a_aload_n X dX2_join_73 rfl ?_
  refine a_getr X lf2_113 (by assumption) rfl (by omega) dX2_join_74 ?_
  refine a_iload_n X dX2_join_77 rfl ?_
  refine a_callSNv X dX2_join_78 miX7_cell lm2_62 (c_cell (by assumption) (by first | decide | assumption)) rfl rfl (Nat.le_of_ble_eq_true rfl) ⟨by decide, by decide, by decide, by decide⟩ ?_
  refine a_callSNu X dX2_join_81 miX7_put lm2_96 (c_put (by assumption) (by first | decide | assumption)) rfl rfl (Nat.le_of_ble_eq_true rfl) ⟨by decide, by decide, by decide, by decide⟩ ?_
  refine a_iconst (v := 0) X dX2_join_84 (by decide) ?_
  refine a_istore X dX2_join_85 (by decide) ?_
  exact Zw.to2 (H_87 _ _ _ _ _ (by (try dsimp only); repeat first | assumption | exact zK.rf | refine zK.zu ?_ (by omega) | refine zK.zu0 ?_ (by decide) | refine zK.zwr ?_ (by omega) | refine zK.zfil ?_ (by omega) | refine zK.zcpy ?_ (by omega) | refine zK.trans ?_ (by assumption) | dsimp only) ) rfl rfl rfl
set_option maxRecDepth 100000 in
theorem s_X2_close {l : Launch} {G : zG} {b : Nat} {S : zS} {P : Nat} {Q : Nat} {v0 : Int32} {v1 : Int32} (hQ : LX2 S.1 Q) (rQ : P < Q ∧ Q + 13 ≤ P + 200) : zM l G b yX2_close cX2_close 5 none 1 0 0 [.ref Q, .int v0, .int v1] S (fun r z => ∃ M' N', z = (S.1, M', N') ∧ zK P S.2.1 M' ∧ r = none) := by
  refine zM.of miX2_close (Nat.le_of_ble_eq_true rfl) ?_
  intro p e s m args below meth c X hr hname
  generalize hF : ((fun r z => ∃ M' N', z = (S.1, M', N') ∧ zK P S.2.1 M' ∧ r = none) : Option Value → zS → Prop) = FQ
  change Zw p l e { frames := 1, cells := 0, slots := 0, locals := 80 * 1 } s m args below meth c G b 5 (MQ below (zQ G b FQ) args s 0 0 (fun q : Nat => b ≤ q)) 0 0 0 [some (.ref Q), some (.int v0), some (.int v1), none, none] [] S
  obtain ⟨q_lt, q_o, q_quota, q_preferred, q_forGuests, q_applicantOf, q_size, q_guestCount, q_score, q_tickets, q_bits, q_party, q_wishCount, q_wishes⟩ := id hQ
  have J_72 : ∀ (x1_72 : Int32) (x2_72 : Int32) (x3_72 : Int32) (x4_72 : Int32) (y1_72 : Int32) (y2_72 : Int32) (M2 : Nat → Nat → Int32) (N2 : Nat → Nat → Int64), zK P S.2.1 M2 → Zw p l e { frames := 1, cells := 0, slots := 0, locals := 80 * 1 } s m args below meth c G b 5 (MQ below (zQ G b FQ) args s 0 0 (fun q : Nat => b ≤ q)) 0 0 72 [some (.ref (Q)), some (.int x1_72), some (.int x2_72), some (.int x3_72), some (.int x4_72)] [(.int y2_72), (.int y1_72), (.ref (Q + 8))] (S.1, M2, N2) := by
    intro x1_72 x2_72 x3_72 x4_72 y1_72 y2_72 M2_72 N2_72 k_72
    refine a_callSNu X dX2_close_72 miX7_put lm2_96 (c_put (by assumption) (by first | decide | assumption)) rfl rfl (Nat.le_of_ble_eq_true rfl) ⟨by decide, by decide, by decide, by decide⟩ ?_
    refine a_vret X hr dX2_close_75 ⟨by decide, by decide⟩ ?_
    subst hF
    exact ⟨_, _, rfl, (by (try dsimp only); repeat first | assumption | exact zK.rf | refine zK.zu ?_ (by omega) | refine zK.zu0 ?_ (by decide) | refine zK.zwr ?_ (by omega) | refine zK.zfil ?_ (by omega) | refine zK.zcpy ?_ (by omega) | refine zK.trans ?_ (by assumption) | dsimp only), rfl⟩
  have J_27 : ∀ (x1_27 : Int32) (x2_27 : Int32) (x3_27 : Int32) (x4_27 : Option Value) (y0_27 : Int32) (M2 : Nat → Nat → Int32) (N2 : Nat → Nat → Int64), zK P S.2.1 M2 → Zw p l e { frames := 1, cells := 0, slots := 0, locals := 80 * 1 } s m args below meth c G b 5 (MQ below (zQ G b FQ) args s 0 0 (fun q : Nat => b ≤ q)) 0 0 27 [some (.ref (Q)), some (.int x1_27), some (.int x2_27), some (.int x3_27), x4_27] [(.int y0_27)] (S.1, M2, N2) := by
    intro x1_27 x2_27 x3_27 x4_27 y0_27 M2_27 N2_27 k_27
    refine a_istore X dX2_close_27 (by decide) ?_
    refine a_aload_n X dX2_close_29 rfl ?_
    refine a_getr X lf2_30 (by assumption) rfl (by omega) dX2_close_30 ?_
    refine a_iload_n X dX2_close_33 rfl ?_
    refine a_iload X dX2_close_34 rfl ?_
    refine a_callSNu X dX2_close_36 miX7_put lm2_96 (c_put (by assumption) (by first | decide | assumption)) rfl rfl (Nat.le_of_ble_eq_true rfl) ⟨by decide, by decide, by decide, by decide⟩ ?_
    refine a_aload_n X dX2_close_39 rfl ?_
    refine a_getr X lf2_33 (by assumption) rfl (by omega) dX2_close_40 ?_
    refine a_iload_n X dX2_close_43 rfl ?_
    refine a_iload_n X dX2_close_44 rfl ?_
    refine a_iconst (v := 2) X dX2_close_45 (by decide) ?_
    refine a_icmp_ne (tgt := 59) X dX2_close_46 (by decide) (fun h_46 => ?_) (fun h_46 => ?_)
    · refine a_iload_n X dX2_close_59 rfl ?_
      refine a_iconst (v := 1) X dX2_close_60 (by decide) ?_
      refine a_icmp_ne (tgt := 71) X dX2_close_61 (by decide) (fun h_61 => ?_) (fun h_61 => ?_)
      · refine a_iconst (v := 1) X dX2_close_71 (by decide) ?_
        exact Zw.to2 (J_72 _ _ _ _ _ _ _ _ (by (try dsimp only); repeat first | assumption | exact zK.rf | refine zK.zu ?_ (by omega) | refine zK.zu0 ?_ (by decide) | refine zK.zwr ?_ (by omega) | refine zK.zfil ?_ (by omega) | refine zK.zcpy ?_ (by omega) | refine zK.trans ?_ (by assumption) | dsimp only) ) rfl rfl rfl
      · refine a_iconst (v := 1) X dX2_close_64 (by decide) ?_
        refine a_iload X dX2_close_65 rfl ?_
        refine a_iadd X dX2_close_67 ?_
        refine a_goto (tgt := 72) X dX2_close_68 (by decide) ?_
        exact Zw.to2 (J_72 _ _ _ _ _ _ _ _ (by (try dsimp only); repeat first | assumption | exact zK.rf | refine zK.zu ?_ (by omega) | refine zK.zu0 ?_ (by decide) | refine zK.zwr ?_ (by omega) | refine zK.zfil ?_ (by omega) | refine zK.zcpy ?_ (by omega) | refine zK.trans ?_ (by assumption) | dsimp only) ) rfl rfl rfl
    · refine a_iconst (v := 1) X dX2_close_49 (by decide) ?_
      refine a_iload X dX2_close_50 rfl ?_
      refine a_iload X dX2_close_52 rfl ?_
      refine a_imul X dX2_close_54 ?_
      refine a_iadd X dX2_close_55 ?_
      refine a_goto (tgt := 72) X dX2_close_56 (by decide) ?_
      exact Zw.to2 (J_72 _ _ _ _ _ _ _ _ (by (try dsimp only); repeat first | assumption | exact zK.rf | refine zK.zu ?_ (by omega) | refine zK.zu0 ?_ (by decide) | refine zK.zwr ?_ (by omega) | refine zK.zfil ?_ (by omega) | refine zK.zcpy ?_ (by omega) | refine zK.trans ?_ (by assumption) | dsimp only) ) rfl rfl rfl
  refine a_aload_n X dX2_close_0 rfl ?_
  refine a_getr X lf2_24 (by assumption) rfl (by omega) dX2_close_1 ?_
  refine a_iload_n X dX2_close_4 rfl ?_
  refine a_callSNv X dX2_close_5 miX7_cell lm2_62 (c_cell (by assumption) (by first | decide | assumption)) rfl rfl (Nat.le_of_ble_eq_true rfl) ⟨by decide, by decide, by decide, by decide⟩ ?_
  refine a_istore_n X dX2_close_8 (by decide) ?_
  refine a_iload_n X dX2_close_9 rfl ?_
  refine a_if_ne (tgt := 17) X dX2_close_10 (by decide) (fun h_10 => ?_) (fun h_10 => ?_)
  · refine a_aload_n X dX2_close_17 rfl ?_
    refine a_getr X lf2_30 (by assumption) rfl (by omega) dX2_close_18 ?_
    refine a_iload_n X dX2_close_21 rfl ?_
    refine a_callSNv X dX2_close_22 miX7_cell lm2_62 (c_cell (by assumption) (by first | decide | assumption)) rfl rfl (Nat.le_of_ble_eq_true rfl) ⟨by decide, by decide, by decide, by decide⟩ ?_
    refine a_iload_n X dX2_close_25 rfl ?_
    refine a_idiv X dX2_close_26 (by first | assumption | decide | exact z_nzl (by assumption)) ?_
    exact Zw.to2 (J_27 _ _ _ _ _ _ _ (by (try dsimp only); repeat first | assumption | exact zK.rf | refine zK.zu ?_ (by omega) | refine zK.zu0 ?_ (by decide) | refine zK.zwr ?_ (by omega) | refine zK.zfil ?_ (by omega) | refine zK.zcpy ?_ (by omega) | refine zK.trans ?_ (by assumption) | dsimp only) ) rfl rfl rfl
  · refine a_iconst (v := 0) X dX2_close_13 (by decide) ?_
    refine a_goto (tgt := 27) X dX2_close_14 (by decide) ?_
    exact Zw.to2 (J_27 _ _ _ _ _ _ _ (by (try dsimp only); repeat first | assumption | exact zK.rf | refine zK.zu ?_ (by omega) | refine zK.zu0 ?_ (by decide) | refine zK.zwr ?_ (by omega) | refine zK.zfil ?_ (by omega) | refine zK.zcpy ?_ (by omega) | refine zK.trans ?_ (by assumption) | dsimp only) ) rfl rfl rfl
set_option maxRecDepth 100000 in
theorem s_X5_holderOf {l : Launch} {G : zG} {b : Nat} {S : zS} {P : Nat} {Q : Nat} {v0 : Int32} {v1 : Int32} (hQ : LX2 S.1 Q) (rQ : P < Q ∧ Q + 13 ≤ P + 200) : zM l G b yX5_holderOf cX5_holderOf 5 (some .int) 1 0 0 [.ref Q, .int v0, .int v1] S (fun r z => z = S ∧ ∃ v : Int32, r = some (.int v)) := by
  refine zM.of miX5_holderOf (Nat.le_of_ble_eq_true rfl) ?_
  intro p e s m args below meth c X hr hname
  generalize hF : ((fun r z => z = S ∧ ∃ v : Int32, r = some (.int v)) : Option Value → zS → Prop) = FQ
  change Zw p l e { frames := 1, cells := 0, slots := 0, locals := 80 * 1 } s m args below meth c G b 5 (MQ below (zQ G b FQ) args s 0 0 (fun q : Nat => b ≤ q)) 0 0 0 [some (.ref Q), some (.int v0), some (.int v1), none, none] [] S
  obtain ⟨q_lt, q_o, q_quota, q_preferred, q_forGuests, q_applicantOf, q_size, q_guestCount, q_score, q_tickets, q_bits, q_party, q_wishCount, q_wishes⟩ := id hQ
  have L_5 : ∀ u : Nat, ∀ (x1_5 : Int32) (x2_5 : Int32) (x3_5 : Int32) (x4_5 : Int32), (2147483648 - x4_5.toInt).toNat < u → Zw p l e { frames := 1, cells := 0, slots := 0, locals := 80 * 1 } s m args below meth c G b 5 (MQ below (zQ G b FQ) args s 0 0 (fun q : Nat => b ≤ q)) 0 0 5 [some (.ref (Q)), some (.int x1_5), some (.int x2_5), some (.int x3_5), some (.int x4_5)] [] S := by
    intro u
    induction u with
    | zero => intro x1_5 x2_5 x3_5 x4_5 hm_5; exact absurd hm_5 (Nat.not_lt_zero _)
    | succ u_5 ih_5 =>
      intro x1_5 x2_5 x3_5 x4_5 hm_5
      have J_44 : ∀ (x1_44 : Int32) (x2_44 : Int32) (x3_44 : Int32) (x4_44 : Int32), ((2147483648 - x4_44.toInt).toNat < u_5 + 1) → (x4_44.toInt < 2147483647) → Zw p l e { frames := 1, cells := 0, slots := 0, locals := 80 * 1 } s m args below meth c G b 5 (MQ below (zQ G b FQ) args s 0 0 (fun q : Nat => b ≤ q)) 0 0 44 [some (.ref (Q)), some (.int x1_44), some (.int x2_44), some (.int x3_44), some (.int x4_44)] [] S := by
        intro x1_44 x2_44 x3_44 x4_44 f0_44 f1_44
        refine a_iinc X dX5_holderOf_44 (by decide) rfl rfl ?_
        refine a_goto (tgt := 5) X dX5_holderOf_47 (by decide) ?_
        exact Zw.to2 (ih_5 _ _ _ _  (by first | assumption | exact z_up (by first | assumption | exact z_lt (by assumption) | exact z_lt2 (by assumption)) (by assumption))) rfl rfl rfl
      refine a_iload X dX5_holderOf_5 rfl ?_
      refine a_aload_n X dX5_holderOf_7 rfl ?_
      refine a_geti X lf5_47 (by assumption) rfl dX5_holderOf_8 ?_
      refine a_icmp_ge (tgt := 50) X dX5_holderOf_11 (by decide) (fun h_11 => ?_) (fun h_11 => ?_)
      · refine a_iconst (v := 0) X dX5_holderOf_50 (by decide) ?_
        refine a_iret X hr dX5_holderOf_51 ⟨by decide, by decide⟩ ?_
        subst hF
        exact ⟨rfl, ⟨_, rfl⟩⟩
      · refine a_iload_n X dX5_holderOf_14 rfl ?_
        refine a_iload X dX5_holderOf_15 rfl ?_
        refine a_ishr X dX5_holderOf_17 ?_
        refine a_iconst (v := 1) X dX5_holderOf_18 (by decide) ?_
        refine a_iand X dX5_holderOf_19 ?_
        refine a_iconst (v := 1) X dX5_holderOf_20 (by decide) ?_
        refine a_icmp_ne (tgt := 44) X dX5_holderOf_21 (by decide) (fun h_21 => ?_) (fun h_21 => ?_)
        · exact Zw.to2 (J_44 _ _ _ _ (by first | assumption | exact z_up (by first | assumption | exact z_lt (by assumption) | exact z_lt2 (by assumption)) (by assumption)) (by first | assumption | exact z_lt (by assumption) | exact z_lt2 (by assumption))) rfl rfl rfl
        · refine a_iload_n X dX5_holderOf_24 rfl ?_
          refine a_aload_n X dX5_holderOf_25 rfl ?_
          refine a_getr X lf5_66 (by assumption) rfl (by omega) dX5_holderOf_26 ?_
          refine a_iload X dX5_holderOf_29 rfl ?_
          refine a_callSNv X dX5_holderOf_31 miX7_cell lm5_69 (c_cell (by assumption) (by first | decide | assumption)) rfl rfl (Nat.le_of_ble_eq_true rfl) ⟨by decide, by decide, by decide, by decide⟩ ?_
          refine a_iadd X dX5_holderOf_34 ?_
          refine a_istore_n X dX5_holderOf_35 (by decide) ?_
          refine a_iload_n X dX5_holderOf_36 rfl ?_
          refine a_iload_n X dX5_holderOf_37 rfl ?_
          refine a_icmp_le (tgt := 44) X dX5_holderOf_38 (by decide) (fun h_38 => ?_) (fun h_38 => ?_)
          · exact Zw.to2 (J_44 _ _ _ _ (by first | assumption | exact z_up (by first | assumption | exact z_lt (by assumption) | exact z_lt2 (by assumption)) (by assumption)) (by first | assumption | exact z_lt (by assumption) | exact z_lt2 (by assumption))) rfl rfl rfl
          · refine a_iload X dX5_holderOf_41 rfl ?_
            refine a_iret X hr dX5_holderOf_43 ⟨by decide, by decide⟩ ?_
            subst hF
            exact ⟨rfl, ⟨_, rfl⟩⟩
  have H_5 : ∀ (x1_5 : Int32) (x2_5 : Int32) (x3_5 : Int32) (x4_5 : Int32), Zw p l e { frames := 1, cells := 0, slots := 0, locals := 80 * 1 } s m args below meth c G b 5 (MQ below (zQ G b FQ) args s 0 0 (fun q : Nat => b ≤ q)) 0 0 5 [some (.ref (Q)), some (.int x1_5), some (.int x2_5), some (.int x3_5), some (.int x4_5)] [] S := fun x1_5 x2_5 x3_5 x4_5  => L_5 _ x1_5 x2_5 x3_5 x4_5  (Nat.lt_succ_self _)
  refine a_iconst (v := 0) X dX5_holderOf_0 (by decide) ?_
  refine a_istore_n X dX5_holderOf_1 (by decide) ?_
  refine a_iconst (v := 0) X dX5_holderOf_2 (by decide) ?_
  refine a_istore X dX5_holderOf_3 (by decide) ?_
  exact Zw.to2 (H_5 _ _ _ _ ) rfl rfl rfl
set_option maxRecDepth 100000 in
theorem s_X5_lineUp {l : Launch} {G : zG} {b : Nat} {S : zS} {P : Nat} {Q : Nat} {A : Nat} {v0 : Int32} (hQ : LX5 S.1 Q) (rQ : P < Q ∧ Q + 8 ≤ P + 200) (hA : LX2 S.1 A) (rA : P < A ∧ A + 13 ≤ P + 200) : zM l G b yX5_lineUp cX5_lineUp 9 none 2 0 0 [.ref Q, .ref A, .int v0] S (fun r z => ∃ M' N', z = (S.1, M', N') ∧ zK P S.2.1 M' ∧ r = none) := by
  refine zM.of miX5_lineUp (Nat.le_of_ble_eq_true rfl) ?_
  intro p e s m args below meth c X hr hname
  generalize hF : ((fun r z => ∃ M' N', z = (S.1, M', N') ∧ zK P S.2.1 M' ∧ r = none) : Option Value → zS → Prop) = FQ
  change Zw p l e { frames := 2, cells := 0, slots := 0, locals := 80 * 2 } s m args below meth c G b 9 (MQ below (zQ G b FQ) args s 0 0 (fun q : Nat => b ≤ q)) 0 0 0 [some (.ref Q), some (.ref A), some (.int v0), none, none, none, none, none, none] [] S
  obtain ⟨q_lt, q_o, q_line, q_unitOf, q_roundOf, q_leftTags, q_leftGuests, q_leftPreferred, q_ranked⟩ := id hQ
  obtain ⟨a_lt, a_o, a_quota, a_preferred, a_forGuests, a_applicantOf, a_size, a_guestCount, a_score, a_tickets, a_bits, a_party, a_wishCount, a_wishes⟩ := id hA
  have J_110 : ∀ (x2_110 : Int32) (x3_110 : Int64) (x5_110 : Int32) (x6_110 : Int32) (x7_110 : Int32) (x8_110 : Option Value) (M2 : Nat → Nat → Int32) (N2 : Nat → Nat → Int64), zK P S.2.1 M2 → Zw p l e { frames := 2, cells := 0, slots := 0, locals := 80 * 2 } s m args below meth c G b 9 (MQ below (zQ G b FQ) args s 0 0 (fun q : Nat => b ≤ q)) 0 0 110 [some (.ref (Q)), some (.ref (A)), some (.int x2_110), some (.long x3_110), none, some (.int x5_110), some (.int x6_110), some (.int x7_110), x8_110] [] (S.1, M2, N2) := by
    intro x2_110 x3_110 x5_110 x6_110 x7_110 x8_110 M2_110 N2_110 k_110
    refine a_vret X hr dX5_lineUp_110 ⟨by decide, by decide⟩ ?_
    subst hF
    exact ⟨_, _, rfl, (by (try dsimp only); repeat first | assumption | exact zK.rf | refine zK.zu ?_ (by omega) | refine zK.zu0 ?_ (by decide) | refine zK.zwr ?_ (by omega) | refine zK.zfil ?_ (by omega) | refine zK.zcpy ?_ (by omega) | refine zK.trans ?_ (by assumption) | dsimp only), rfl⟩
  have L_22 : ∀ u : Nat, ∀ (x2_22 : Int32) (x3_22 : Int64) (x5_22 : Int32) (x6_22 : Int32) (x7_22 : Int32) (x8_22 : Option Value) (M2 : Nat → Nat → Int32) (N2 : Nat → Nat → Int64), zK P S.2.1 M2 → (2147483648 - x7_22.toInt).toNat < u → Zw p l e { frames := 2, cells := 0, slots := 0, locals := 80 * 2 } s m args below meth c G b 9 (MQ below (zQ G b FQ) args s 0 0 (fun q : Nat => b ≤ q)) 0 0 22 [some (.ref (Q)), some (.ref (A)), some (.int x2_22), some (.long x3_22), none, some (.int x5_22), some (.int x6_22), some (.int x7_22), x8_22] [] (S.1, M2, N2) := by
    intro u
    induction u with
    | zero => intro x2_22 x3_22 x5_22 x6_22 x7_22 x8_22 M2_22 N2_22 k_22 hm_22; exact absurd hm_22 (Nat.not_lt_zero _)
    | succ u_22 ih_22 =>
      intro x2_22 x3_22 x5_22 x6_22 x7_22 x8_22 M2_22 N2_22 k_22 hm_22
      refine a_iload X dX5_lineUp_22 rfl ?_
      refine a_aload_n X dX5_lineUp_24 rfl ?_
      refine a_geti X lf5_47 (by assumption) rfl dX5_lineUp_25 ?_
      refine a_icmp_ge (tgt := 110) X dX5_lineUp_28 (by decide) (fun h_28 => ?_) (fun h_28 => ?_)
      · exact Zw.to2 (J_110 _ _ _ _ _ _ _ _ (by (try dsimp only); repeat first | assumption | exact zK.rf | refine zK.zu ?_ (by omega) | refine zK.zu0 ?_ (by decide) | refine zK.zwr ?_ (by omega) | refine zK.zfil ?_ (by omega) | refine zK.zcpy ?_ (by omega) | refine zK.trans ?_ (by assumption) | dsimp only) ) rfl rfl rfl
      · refine a_iload X dX5_lineUp_31 rfl ?_
        refine a_if_le (tgt := 110) X dX5_lineUp_33 (by decide) (fun h_33 => ?_) (fun h_33 => ?_)
        · exact Zw.to2 (J_110 _ _ _ _ _ _ _ _ (by (try dsimp only); repeat first | assumption | exact zK.rf | refine zK.zu ?_ (by omega) | refine zK.zu0 ?_ (by decide) | refine zK.zwr ?_ (by omega) | refine zK.zfil ?_ (by omega) | refine zK.zcpy ?_ (by omega) | refine zK.trans ?_ (by assumption) | dsimp only) ) rfl rfl rfl
        · refine a_ldc2 X dX5_lineUp_36 lk5_50 ?_
          refine a_lload_n X dX5_lineUp_39 rfl ?_
          refine a_lmul X dX5_lineUp_40 ?_
          refine a_ldc2 X dX5_lineUp_41 lk5_52 ?_
          refine a_ladd X dX5_lineUp_44 ?_
          refine a_ldc2 X dX5_lineUp_45 lk5_54 ?_
          refine a_lrem X dX5_lineUp_48 (by first | assumption | decide | exact z_nzl (by assumption)) ?_
          refine a_lstore_n X dX5_lineUp_49 (by decide) ?_
          refine a_aload_n X dX5_lineUp_50 rfl ?_
          refine a_iload X dX5_lineUp_51 rfl ?_
          refine a_lload_n X dX5_lineUp_53 rfl ?_
          refine a_ldc2 X dX5_lineUp_54 lk5_56 ?_
          refine a_ldiv X dX5_lineUp_57 (by first | assumption | decide | exact z_nzl (by assumption)) ?_
          refine a_iload X dX5_lineUp_58 rfl ?_
          refine a_i2l X dX5_lineUp_60 ?_
          refine a_lrem X dX5_lineUp_61 (by first | assumption | decide | exact z_nzl (by assumption)) ?_
          refine a_l2i X dX5_lineUp_62 ?_
          refine a_callSx X dX5_lineUp_63 miX5_holderOf lm5_58 (s_X5_holderOf (P := P) (by assumption) (by omega)) rfl rfl (Nat.le_of_ble_eq_true rfl) ⟨by decide, by decide, by decide, by decide⟩ (fun r_63 S_63 q_63 => ?_)
          obtain ⟨rfl, ⟨v_63, rfl⟩⟩ := q_63
          refine a_istore X dX5_lineUp_66 (by decide) ?_
          refine a_aload_n X dX5_lineUp_68 rfl ?_
          refine a_getr X lf5_9 (by assumption) rfl (by omega) dX5_lineUp_69 ?_
          refine a_iload X dX5_lineUp_72 rfl ?_
          refine a_iload X dX5_lineUp_74 rfl ?_
          refine a_callSNu X dX5_lineUp_76 miX7_put lm5_62 (c_put (by assumption) (by first | decide | assumption)) rfl rfl (Nat.le_of_ble_eq_true rfl) ⟨by decide, by decide, by decide, by decide⟩ ?_
          refine a_iload X dX5_lineUp_79 rfl ?_
          refine a_iconst (v := 1) X dX5_lineUp_81 (by decide) ?_
          refine a_iload X dX5_lineUp_82 rfl ?_
          refine a_ishl X dX5_lineUp_84 ?_
          refine a_iconst (v := -1) X dX5_lineUp_85 (by decide) ?_
          refine a_ixor X dX5_lineUp_86 ?_
          refine a_iand X dX5_lineUp_87 ?_
          refine a_istore X dX5_lineUp_88 (by decide) ?_
          refine a_iload X dX5_lineUp_90 rfl ?_
          refine a_aload_n X dX5_lineUp_92 rfl ?_
          refine a_getr X lf5_66 (by assumption) rfl (by omega) dX5_lineUp_93 ?_
          refine a_iload X dX5_lineUp_96 rfl ?_
          refine a_callSNv X dX5_lineUp_98 miX7_cell lm5_69 (c_cell (by assumption) (by first | decide | assumption)) rfl rfl (Nat.le_of_ble_eq_true rfl) ⟨by decide, by decide, by decide, by decide⟩ ?_
          refine a_isub X dX5_lineUp_101 ?_
          refine a_istore X dX5_lineUp_102 (by decide) ?_
          refine a_iinc X dX5_lineUp_104 (by decide) rfl rfl ?_
          refine a_goto (tgt := 22) X dX5_lineUp_107 (by decide) ?_
          exact Zw.to2 (ih_22 _ _ _ _ _ _ _ _ (by (try dsimp only); repeat first | assumption | exact zK.rf | refine zK.zu ?_ (by omega) | refine zK.zu0 ?_ (by decide) | refine zK.zwr ?_ (by omega) | refine zK.zfil ?_ (by omega) | refine zK.zcpy ?_ (by omega) | refine zK.trans ?_ (by assumption) | dsimp only)  (by first | assumption | exact z_up (by first | assumption | exact z_lt (by assumption) | exact z_lt2 (by assumption)) (by assumption))) rfl rfl rfl
  have H_22 : ∀ (x2_22 : Int32) (x3_22 : Int64) (x5_22 : Int32) (x6_22 : Int32) (x7_22 : Int32) (x8_22 : Option Value) (M2 : Nat → Nat → Int32) (N2 : Nat → Nat → Int64), zK P S.2.1 M2 → Zw p l e { frames := 2, cells := 0, slots := 0, locals := 80 * 2 } s m args below meth c G b 9 (MQ below (zQ G b FQ) args s 0 0 (fun q : Nat => b ≤ q)) 0 0 22 [some (.ref (Q)), some (.ref (A)), some (.int x2_22), some (.long x3_22), none, some (.int x5_22), some (.int x6_22), some (.int x7_22), x8_22] [] (S.1, M2, N2) := fun x2_22 x3_22 x5_22 x6_22 x7_22 x8_22 M2 N2 k  => L_22 _ x2_22 x3_22 x5_22 x6_22 x7_22 x8_22 M2 N2 k  (Nat.lt_succ_self _)
  refine a_iload_n X dX5_lineUp_0 rfl ?_
  refine a_i2l X dX5_lineUp_1 ?_
  refine a_lstore_n X dX5_lineUp_2 (by decide) ?_
  refine a_aload_n X dX5_lineUp_3 rfl ?_
  refine a_geti X lf5_41 (by assumption) rfl dX5_lineUp_4 ?_
  refine a_istore X dX5_lineUp_7 (by decide) ?_
  refine a_iconst (v := 1) X dX5_lineUp_9 (by decide) ?_
  refine a_aload_n X dX5_lineUp_10 rfl ?_
  refine a_geti X lf5_47 (by assumption) rfl dX5_lineUp_11 ?_
  refine a_ishl X dX5_lineUp_14 ?_
  refine a_iconst (v := 1) X dX5_lineUp_15 (by decide) ?_
  refine a_isub X dX5_lineUp_16 ?_
  refine a_istore X dX5_lineUp_17 (by decide) ?_
  refine a_iconst (v := 0) X dX5_lineUp_19 (by decide) ?_
  refine a_istore X dX5_lineUp_20 (by decide) ?_
  exact Zw.to2 (H_22 _ _ _ _ _ _ _ _ (by (try dsimp only); repeat first | assumption | exact zK.rf | refine zK.zu ?_ (by omega) | refine zK.zu0 ?_ (by decide) | refine zK.zwr ?_ (by omega) | refine zK.zfil ?_ (by omega) | refine zK.zcpy ?_ (by omega) | refine zK.trans ?_ (by assumption) | dsimp only) ) rfl rfl rfl
set_option maxRecDepth 100000 in
theorem s_X5_hasFirst {l : Launch} {G : zG} {b : Nat} {S : zS} {P : Nat} {Q : Nat} {A : Nat} {v0 : Int32} (hQ : LX5 S.1 Q) (rQ : P < Q ∧ Q + 8 ≤ P + 200) (hA : LX2 S.1 A) (rA : P < A ∧ A + 13 ≤ P + 200) : zM l G b yX5_hasFirst cX5_hasFirst 3 (some .boolean) 2 0 0 [.ref Q, .ref A, .int v0] S (fun r z => z = S ∧ ∃ v : Int32, r = some (.int v) ∧ (v = 0 ∨ v = 1)) := by
  refine zM.of miX5_hasFirst (Nat.le_of_ble_eq_true rfl) ?_
  intro p e s m args below meth c X hr hname
  generalize hF : ((fun r z => z = S ∧ ∃ v : Int32, r = some (.int v) ∧ (v = 0 ∨ v = 1)) : Option Value → zS → Prop) = FQ
  change Zw p l e { frames := 2, cells := 0, slots := 0, locals := 80 * 2 } s m args below meth c G b 3 (MQ below (zQ G b FQ) args s 0 0 (fun q : Nat => b ≤ q)) 0 0 0 [some (.ref Q), some (.ref A), some (.int v0)] [] S
  obtain ⟨q_lt, q_o, q_line, q_unitOf, q_roundOf, q_leftTags, q_leftGuests, q_leftPreferred, q_ranked⟩ := id hQ
  obtain ⟨a_lt, a_o, a_quota, a_preferred, a_forGuests, a_applicantOf, a_size, a_guestCount, a_score, a_tickets, a_bits, a_party, a_wishCount, a_wishes⟩ := id hA
  have J_34 : ∀ (x2_34 : Int32) (y0_34 : Int32), (y0_34 = 0 ∨ y0_34 = 1) → Zw p l e { frames := 2, cells := 0, slots := 0, locals := 80 * 2 } s m args below meth c G b 3 (MQ below (zQ G b FQ) args s 0 0 (fun q : Nat => b ≤ q)) 0 0 34 [some (.ref (Q)), some (.ref (A)), some (.int x2_34)] [(.int y0_34)] S := by
    intro x2_34 y0_34 f0_34
    refine a_zret X (by first | exact Or.inl rfl | exact Or.inr rfl | assumption) hr dX5_hasFirst_34 ⟨by decide, by decide⟩ ?_
    subst hF
    exact ⟨rfl, ⟨_, rfl, (by first | exact Or.inl rfl | exact Or.inr rfl | assumption)⟩⟩
  have J_33 : ∀ (x2_33 : Int32), Zw p l e { frames := 2, cells := 0, slots := 0, locals := 80 * 2 } s m args below meth c G b 3 (MQ below (zQ G b FQ) args s 0 0 (fun q : Nat => b ≤ q)) 0 0 33 [some (.ref (Q)), some (.ref (A)), some (.int x2_33)] [] S := by
    intro x2_33
    refine a_iconst (v := 0) X dX5_hasFirst_33 (by decide) ?_
    exact Zw.to2 (J_34 _ _ (by first | exact Or.inl rfl | exact Or.inr rfl | assumption)) rfl rfl rfl
  refine a_aload_n X dX5_hasFirst_0 rfl ?_
  refine a_getr X lf5_15 (by assumption) rfl (by omega) dX5_hasFirst_1 ?_
  refine a_iload_n X dX5_hasFirst_4 rfl ?_
  refine a_callSNv X dX5_hasFirst_5 miX7_cell lm5_69 (c_cell (by assumption) (by first | decide | assumption)) rfl rfl (Nat.le_of_ble_eq_true rfl) ⟨by decide, by decide, by decide, by decide⟩ ?_
  refine a_iconst (v := -1) X dX5_hasFirst_8 (by decide) ?_
  refine a_icmp_eq (tgt := 33) X dX5_hasFirst_9 (by decide) (fun h_9 => ?_) (fun h_9 => ?_)
  · exact Zw.to2 (J_33 _ ) rfl rfl rfl
  · refine a_aload_n X dX5_hasFirst_12 rfl ?_
    refine a_getr X lf5_15 (by assumption) rfl (by omega) dX5_hasFirst_13 ?_
    refine a_iload_n X dX5_hasFirst_16 rfl ?_
    refine a_callSNv X dX5_hasFirst_17 miX7_cell lm5_69 (c_cell (by assumption) (by first | decide | assumption)) rfl rfl (Nat.le_of_ble_eq_true rfl) ⟨by decide, by decide, by decide, by decide⟩ ?_
    refine a_aload_n X dX5_hasFirst_20 rfl ?_
    refine a_iload_n X dX5_hasFirst_21 rfl ?_
    refine a_iconst (v := 0) X dX5_hasFirst_22 (by decide) ?_
    refine a_callVx X dX5_hasFirst_23 miX2_wish lm5_98 (s_X2_wish (P := P) (by assumption) (by omega)) (by assumption) rfl rfl rfl (Nat.le_of_ble_eq_true rfl) ⟨by decide, by decide, by decide, by decide⟩ (fun r_23 S_23 q_23 => ?_)
    obtain ⟨rfl, ⟨v_23, rfl⟩⟩ := q_23
    refine a_icmp_ne (tgt := 33) X dX5_hasFirst_26 (by decide) (fun h_26 => ?_) (fun h_26 => ?_)
    · exact Zw.to2 (J_33 _ ) rfl rfl rfl
    · refine a_iconst (v := 1) X dX5_hasFirst_29 (by decide) ?_
      refine a_goto (tgt := 34) X dX5_hasFirst_30 (by decide) ?_
      exact Zw.to2 (J_34 _ _ (by first | exact Or.inl rfl | exact Or.inr rfl | assumption)) rfl rfl rfl
set_option maxRecDepth 100000 in
theorem s_X5_hold {l : Launch} {G : zG} {b : Nat} {S : zS} {P : Nat} {Q : Nat} {A : Nat} {v0 : Int32} {v1 : Int32} {v2 : Int32} (hQ : LX5 S.1 Q) (rQ : P < Q ∧ Q + 8 ≤ P + 200) (hA : LX2 S.1 A) (rA : P < A ∧ A + 13 ≤ P + 200) : zM l G b yX5_hold cX5_hold 5 none 1 0 0 [.ref Q, .ref A, .int v0, .int v1, .int v2] S (fun r z => ∃ M' N', z = (S.1, M', N') ∧ zK P S.2.1 M' ∧ r = none) := by
  refine zM.of miX5_hold (Nat.le_of_ble_eq_true rfl) ?_
  intro p e s m args below meth c X hr hname
  generalize hF : ((fun r z => ∃ M' N', z = (S.1, M', N') ∧ zK P S.2.1 M' ∧ r = none) : Option Value → zS → Prop) = FQ
  change Zw p l e { frames := 1, cells := 0, slots := 0, locals := 80 * 1 } s m args below meth c G b 5 (MQ below (zQ G b FQ) args s 0 0 (fun q : Nat => b ≤ q)) 0 0 0 [some (.ref Q), some (.ref A), some (.int v0), some (.int v1), some (.int v2)] [] S
  obtain ⟨q_lt, q_o, q_line, q_unitOf, q_roundOf, q_leftTags, q_leftGuests, q_leftPreferred, q_ranked⟩ := id hQ
  obtain ⟨a_lt, a_o, a_quota, a_preferred, a_forGuests, a_applicantOf, a_size, a_guestCount, a_score, a_tickets, a_bits, a_party, a_wishCount, a_wishes⟩ := id hA
  refine a_aload_n X dX5_hold_0 rfl ?_
  refine a_getr X lf5_15 (by assumption) rfl (by omega) dX5_hold_1 ?_
  refine a_iload_n X dX5_hold_4 rfl ?_
  refine a_iload_n X dX5_hold_5 rfl ?_
  refine a_callSNu X dX5_hold_6 miX7_put lm5_62 (c_put (by assumption) (by first | decide | assumption)) rfl rfl (Nat.le_of_ble_eq_true rfl) ⟨by decide, by decide, by decide, by decide⟩ ?_
  refine a_aload_n X dX5_hold_9 rfl ?_
  refine a_getr X lf5_18 (by assumption) rfl (by omega) dX5_hold_10 ?_
  refine a_iload_n X dX5_hold_13 rfl ?_
  refine a_iload X dX5_hold_14 rfl ?_
  refine a_callSNu X dX5_hold_16 miX7_put lm5_62 (c_put (by assumption) (by first | decide | assumption)) rfl rfl (Nat.le_of_ble_eq_true rfl) ⟨by decide, by decide, by decide, by decide⟩ ?_
  refine a_aload_n X dX5_hold_19 rfl ?_
  refine a_getr X lf5_21 (by assumption) rfl (by omega) dX5_hold_20 ?_
  refine a_iload_n X dX5_hold_23 rfl ?_
  refine a_aload_n X dX5_hold_24 rfl ?_
  refine a_getr X lf5_106 (by assumption) rfl (by omega) dX5_hold_25 ?_
  refine a_iload_n X dX5_hold_28 rfl ?_
  refine a_callSNv X dX5_hold_29 miX7_cell lm5_69 (c_cell (by assumption) (by first | decide | assumption)) rfl rfl (Nat.le_of_ble_eq_true rfl) ⟨by decide, by decide, by decide, by decide⟩ ?_
  refine a_ineg X dX5_hold_32 ?_
  refine a_callSNu X dX5_hold_33 miX7_add lm5_109 (c_add (by assumption) (by first | decide | assumption)) rfl rfl (Nat.le_of_ble_eq_true rfl) ⟨by decide, by decide, by decide, by decide⟩ ?_
  refine a_aload_n X dX5_hold_36 rfl ?_
  refine a_getr X lf5_24 (by assumption) rfl (by omega) dX5_hold_37 ?_
  refine a_iload_n X dX5_hold_40 rfl ?_
  refine a_aload_n X dX5_hold_41 rfl ?_
  refine a_getr X lf5_122 (by assumption) rfl (by omega) dX5_hold_42 ?_
  refine a_iload_n X dX5_hold_45 rfl ?_
  refine a_callSNv X dX5_hold_46 miX7_cell lm5_69 (c_cell (by assumption) (by first | decide | assumption)) rfl rfl (Nat.le_of_ble_eq_true rfl) ⟨by decide, by decide, by decide, by decide⟩ ?_
  refine a_ineg X dX5_hold_49 ?_
  refine a_callSNu X dX5_hold_50 miX7_add lm5_109 (c_add (by assumption) (by first | decide | assumption)) rfl rfl (Nat.le_of_ble_eq_true rfl) ⟨by decide, by decide, by decide, by decide⟩ ?_
  refine a_vret X hr dX5_hold_53 ⟨by decide, by decide⟩ ?_
  subst hF
  exact ⟨_, _, rfl, (by (try dsimp only); repeat first | assumption | exact zK.rf | refine zK.zu ?_ (by omega) | refine zK.zu0 ?_ (by decide) | refine zK.zwr ?_ (by omega) | refine zK.zfil ?_ (by omega) | refine zK.zcpy ?_ (by omega) | refine zK.trans ?_ (by assumption) | dsimp only), rfl⟩
set_option maxRecDepth 100000 in
theorem s_X5_rank {l : Launch} {G : zG} {b : Nat} {S : zS} {P : Nat} {Q : Nat} {A : Nat} (hQ : LX5 S.1 Q) (rQ : P < Q ∧ Q + 8 ≤ P + 200) (hA : LX2 S.1 A) (rA : P < A ∧ A + 13 ≤ P + 200) : zM l G b yX5_rank cX5_rank 6 none 1 0 0 [.ref Q, .ref A] S (fun r z => ∃ M' N', z = (S.1, M', N') ∧ zK P S.2.1 M' ∧ r = none) := by
  refine zM.of miX5_rank (Nat.le_of_ble_eq_true rfl) ?_
  intro p e s m args below meth c X hr hname
  generalize hF : ((fun r z => ∃ M' N', z = (S.1, M', N') ∧ zK P S.2.1 M' ∧ r = none) : Option Value → zS → Prop) = FQ
  change Zw p l e { frames := 1, cells := 0, slots := 0, locals := 80 * 1 } s m args below meth c G b 6 (MQ below (zQ G b FQ) args s 0 0 (fun q : Nat => b ≤ q)) 0 0 0 [some (.ref Q), some (.ref A), none, none, none, none] [] S
  obtain ⟨q_lt, q_o, q_line, q_unitOf, q_roundOf, q_leftTags, q_leftGuests, q_leftPreferred, q_ranked⟩ := id hQ
  obtain ⟨a_lt, a_o, a_quota, a_preferred, a_forGuests, a_applicantOf, a_size, a_guestCount, a_score, a_tickets, a_bits, a_party, a_wishCount, a_wishes⟩ := id hA
  have L_2 : ∀ u : Nat, ∀ (x2_2 : Int32) (x3_2 : Option Value) (x4_2 : Option Value) (x5_2 : Option Value) (M2 : Nat → Nat → Int32) (N2 : Nat → Nat → Int64), zK P S.2.1 M2 → (2147483648 - x2_2.toInt).toNat < u → Zw p l e { frames := 1, cells := 0, slots := 0, locals := 80 * 1 } s m args below meth c G b 6 (MQ below (zQ G b FQ) args s 0 0 (fun q : Nat => b ≤ q)) 0 0 2 [some (.ref (Q)), some (.ref (A)), some (.int x2_2), x3_2, x4_2, x5_2] [] (S.1, M2, N2) := by
    intro u
    induction u with
    | zero => intro x2_2 x3_2 x4_2 x5_2 M2_2 N2_2 k_2 hm_2; exact absurd hm_2 (Nat.not_lt_zero _)
    | succ u_2 ih_2 =>
      intro x2_2 x3_2 x4_2 x5_2 M2_2 N2_2 k_2 hm_2
      have J_86 : ∀ (x2_86 : Int32) (x3_86 : Int32) (x4_86 : Int32) (x5_86 : Int32) (M2 : Nat → Nat → Int32) (N2 : Nat → Nat → Int64), zK P S.2.1 M2 → ((2147483648 - x2_86.toInt).toNat < u_2 + 1) → (x2_86.toInt < 2147483647) → Zw p l e { frames := 1, cells := 0, slots := 0, locals := 80 * 1 } s m args below meth c G b 6 (MQ below (zQ G b FQ) args s 0 0 (fun q : Nat => b ≤ q)) 0 0 86 [some (.ref (Q)), some (.ref (A)), some (.int x2_86), some (.int x3_86), some (.int x4_86), some (.int x5_86)] [] (S.1, M2, N2) := by
        intro x2_86 x3_86 x4_86 x5_86 M2_86 N2_86 k_86 f0_86 f1_86
        refine a_aload_n X dX5_rank_86 rfl ?_
        refine a_getr X lf5_30 (by assumption) rfl (by omega) dX5_rank_87 ?_
        refine a_iload X dX5_rank_90 rfl ?_
        refine a_iload_n X dX5_rank_92 rfl ?_
        refine a_callSNu X dX5_rank_93 miX7_put lm5_62 (c_put (by assumption) (by first | decide | assumption)) rfl rfl (Nat.le_of_ble_eq_true rfl) ⟨by decide, by decide, by decide, by decide⟩ ?_
        refine a_iinc X dX5_rank_96 (by decide) rfl rfl ?_
        refine a_goto (tgt := 2) X dX5_rank_99 (by decide) ?_
        exact Zw.to2 (ih_2 _ _ _ _ _ _ (by (try dsimp only); repeat first | assumption | exact zK.rf | refine zK.zu ?_ (by omega) | refine zK.zu0 ?_ (by decide) | refine zK.zwr ?_ (by omega) | refine zK.zfil ?_ (by omega) | refine zK.zcpy ?_ (by omega) | refine zK.trans ?_ (by assumption) | dsimp only)  (by first | assumption | exact z_up (by first | assumption | exact z_lt (by assumption) | exact z_lt2 (by assumption)) (by assumption))) rfl rfl rfl
      have L_32 : ∀ u : Nat, ∀ (x2_32 : Int32) (x3_32 : Int32) (x4_32 : Int32) (x5_32 : Int32) (M2 : Nat → Nat → Int32) (N2 : Nat → Nat → Int64), zK P S.2.1 M2 → ((2147483648 - x2_32.toInt).toNat < u_2 + 1) → (x2_32.toInt < 2147483647) → x5_32.toInt.toNat < u → Zw p l e { frames := 1, cells := 0, slots := 0, locals := 80 * 1 } s m args below meth c G b 6 (MQ below (zQ G b FQ) args s 0 0 (fun q : Nat => b ≤ q)) 0 0 32 [some (.ref (Q)), some (.ref (A)), some (.int x2_32), some (.int x3_32), some (.int x4_32), some (.int x5_32)] [] (S.1, M2, N2) := by
        intro u
        induction u with
        | zero => intro x2_32 x3_32 x4_32 x5_32 M2_32 N2_32 k_32 f0_32 f1_32 hm_32; exact absurd hm_32 (Nat.not_lt_zero _)
        | succ u_32 ih_32 =>
          intro x2_32 x3_32 x4_32 x5_32 M2_32 N2_32 k_32 f0_32 f1_32 hm_32
          refine a_iload X dX5_rank_32 rfl ?_
          refine a_if_le (tgt := 86) X dX5_rank_34 (by decide) (fun h_34 => ?_) (fun h_34 => ?_)
          · exact Zw.to2 (J_86 _ _ _ _ _ _ (by (try dsimp only); repeat first | assumption | exact zK.rf | refine zK.zu ?_ (by omega) | refine zK.zu0 ?_ (by decide) | refine zK.zwr ?_ (by omega) | refine zK.zfil ?_ (by omega) | refine zK.zcpy ?_ (by omega) | refine zK.trans ?_ (by assumption) | dsimp only) (by first | assumption | exact z_up (by first | assumption | exact z_lt (by assumption) | exact z_lt2 (by assumption)) (by assumption)) (by first | assumption | exact z_lt (by assumption) | exact z_lt2 (by assumption))) rfl rfl rfl
          · refine a_aload_n X dX5_rank_37 rfl ?_
            refine a_getr X lf5_116 (by assumption) rfl (by omega) dX5_rank_38 ?_
            refine a_aload_n X dX5_rank_41 rfl ?_
            refine a_getr X lf5_30 (by assumption) rfl (by omega) dX5_rank_42 ?_
            refine a_iload X dX5_rank_45 rfl ?_
            refine a_iconst (v := 1) X dX5_rank_47 (by decide) ?_
            refine a_isub X dX5_rank_48 ?_
            refine a_callSNv X dX5_rank_49 miX7_cell lm5_69 (c_cell (by assumption) (by first | decide | assumption)) rfl rfl (Nat.le_of_ble_eq_true rfl) ⟨by decide, by decide, by decide, by decide⟩ ?_
            refine a_callSNv X dX5_rank_52 miX7_cell lm5_69 (c_cell (by assumption) (by first | decide | assumption)) rfl rfl (Nat.le_of_ble_eq_true rfl) ⟨by decide, by decide, by decide, by decide⟩ ?_
            refine a_iload X dX5_rank_55 rfl ?_
            refine a_icmp_ge (tgt := 86) X dX5_rank_57 (by decide) (fun h_57 => ?_) (fun h_57 => ?_)
            · exact Zw.to2 (J_86 _ _ _ _ _ _ (by (try dsimp only); repeat first | assumption | exact zK.rf | refine zK.zu ?_ (by omega) | refine zK.zu0 ?_ (by decide) | refine zK.zwr ?_ (by omega) | refine zK.zfil ?_ (by omega) | refine zK.zcpy ?_ (by omega) | refine zK.trans ?_ (by assumption) | dsimp only) (by first | assumption | exact z_up (by first | assumption | exact z_lt (by assumption) | exact z_lt2 (by assumption)) (by assumption)) (by first | assumption | exact z_lt (by assumption) | exact z_lt2 (by assumption))) rfl rfl rfl
            · refine a_aload_n X dX5_rank_60 rfl ?_
              refine a_getr X lf5_30 (by assumption) rfl (by omega) dX5_rank_61 ?_
              refine a_iload X dX5_rank_64 rfl ?_
              refine a_aload_n X dX5_rank_66 rfl ?_
              refine a_getr X lf5_30 (by assumption) rfl (by omega) dX5_rank_67 ?_
              refine a_iload X dX5_rank_70 rfl ?_
              refine a_iconst (v := 1) X dX5_rank_72 (by decide) ?_
              refine a_isub X dX5_rank_73 ?_
              refine a_callSNv X dX5_rank_74 miX7_cell lm5_69 (c_cell (by assumption) (by first | decide | assumption)) rfl rfl (Nat.le_of_ble_eq_true rfl) ⟨by decide, by decide, by decide, by decide⟩ ?_
              refine a_callSNu X dX5_rank_77 miX7_put lm5_62 (c_put (by assumption) (by first | decide | assumption)) rfl rfl (Nat.le_of_ble_eq_true rfl) ⟨by decide, by decide, by decide, by decide⟩ ?_
              refine a_iinc X dX5_rank_80 (by decide) rfl rfl ?_
              refine a_goto (tgt := 32) X dX5_rank_83 (by decide) ?_
              exact Zw.to2 (ih_32 _ _ _ _ _ _ (by (try dsimp only); repeat first | assumption | exact zK.rf | refine zK.zu ?_ (by omega) | refine zK.zu0 ?_ (by decide) | refine zK.zwr ?_ (by omega) | refine zK.zfil ?_ (by omega) | refine zK.zcpy ?_ (by omega) | refine zK.trans ?_ (by assumption) | dsimp only) (by first | assumption | exact z_up (by first | assumption | exact z_lt (by assumption) | exact z_lt2 (by assumption)) (by assumption)) (by first | assumption | exact z_lt (by assumption) | exact z_lt2 (by assumption)) (by first | assumption | exact z_dn (by first | assumption | exact z_gt (by assumption)) (by assumption))) rfl rfl rfl
      have H_32 : ∀ (x2_32 : Int32) (x3_32 : Int32) (x4_32 : Int32) (x5_32 : Int32) (M2 : Nat → Nat → Int32) (N2 : Nat → Nat → Int64), zK P S.2.1 M2 → ((2147483648 - x2_32.toInt).toNat < u_2 + 1) → (x2_32.toInt < 2147483647) → Zw p l e { frames := 1, cells := 0, slots := 0, locals := 80 * 1 } s m args below meth c G b 6 (MQ below (zQ G b FQ) args s 0 0 (fun q : Nat => b ≤ q)) 0 0 32 [some (.ref (Q)), some (.ref (A)), some (.int x2_32), some (.int x3_32), some (.int x4_32), some (.int x5_32)] [] (S.1, M2, N2) := fun x2_32 x3_32 x4_32 x5_32 M2 N2 k f0 f1 => L_32 _ x2_32 x3_32 x4_32 x5_32 M2 N2 k f0 f1 (Nat.lt_succ_self _)
      refine a_iload_n X dX5_rank_2 rfl ?_
      refine a_aload_n X dX5_rank_3 rfl ?_
      refine a_geti X lf5_47 (by assumption) rfl dX5_rank_4 ?_
      refine a_icmp_ge (tgt := 102) X dX5_rank_7 (by decide) (fun h_7 => ?_) (fun h_7 => ?_)
      · refine a_vret X hr dX5_rank_102 ⟨by decide, by decide⟩ ?_
        subst hF
        exact ⟨_, _, rfl, (by (try dsimp only); repeat first | assumption | exact zK.rf | refine zK.zu ?_ (by omega) | refine zK.zu0 ?_ (by decide) | refine zK.zwr ?_ (by omega) | refine zK.zfil ?_ (by omega) | refine zK.zcpy ?_ (by omega) | refine zK.trans ?_ (by assumption) | dsimp only), rfl⟩
      · refine a_aload_n X dX5_rank_10 rfl ?_
        refine a_getr X lf5_9 (by assumption) rfl (by omega) dX5_rank_11 ?_
        refine a_iload_n X dX5_rank_14 rfl ?_
        refine a_callSNv X dX5_rank_15 miX7_cell lm5_69 (c_cell (by assumption) (by first | decide | assumption)) rfl rfl (Nat.le_of_ble_eq_true rfl) ⟨by decide, by decide, by decide, by decide⟩ ?_
        refine a_istore_n X dX5_rank_18 (by decide) ?_
        refine a_aload_n X dX5_rank_19 rfl ?_
        refine a_getr X lf5_116 (by assumption) rfl (by omega) dX5_rank_20 ?_
        refine a_iload_n X dX5_rank_23 rfl ?_
        refine a_callSNv X dX5_rank_24 miX7_cell lm5_69 (c_cell (by assumption) (by first | decide | assumption)) rfl rfl (Nat.le_of_ble_eq_true rfl) ⟨by decide, by decide, by decide, by decide⟩ ?_
        refine a_istore X dX5_rank_27 (by decide) ?_
        refine a_iload_n X dX5_rank_29 rfl ?_
        refine a_istore X dX5_rank_30 (by decide) ?_
        exact Zw.to2 (H_32 _ _ _ _ _ _ (by (try dsimp only); repeat first | assumption | exact zK.rf | refine zK.zu ?_ (by omega) | refine zK.zu0 ?_ (by decide) | refine zK.zwr ?_ (by omega) | refine zK.zfil ?_ (by omega) | refine zK.zcpy ?_ (by omega) | refine zK.trans ?_ (by assumption) | dsimp only) (by first | assumption | exact z_up (by first | assumption | exact z_lt (by assumption) | exact z_lt2 (by assumption)) (by assumption)) (by first | assumption | exact z_lt (by assumption) | exact z_lt2 (by assumption))) rfl rfl rfl
  have H_2 : ∀ (x2_2 : Int32) (x3_2 : Option Value) (x4_2 : Option Value) (x5_2 : Option Value) (M2 : Nat → Nat → Int32) (N2 : Nat → Nat → Int64), zK P S.2.1 M2 → Zw p l e { frames := 1, cells := 0, slots := 0, locals := 80 * 1 } s m args below meth c G b 6 (MQ below (zQ G b FQ) args s 0 0 (fun q : Nat => b ≤ q)) 0 0 2 [some (.ref (Q)), some (.ref (A)), some (.int x2_2), x3_2, x4_2, x5_2] [] (S.1, M2, N2) := fun x2_2 x3_2 x4_2 x5_2 M2 N2 k  => L_2 _ x2_2 x3_2 x4_2 x5_2 M2 N2 k  (Nat.lt_succ_self _)
  refine a_iconst (v := 0) X dX5_rank_0 (by decide) ?_
  refine a_istore_n X dX5_rank_1 (by decide) ?_
  exact Zw.to2 (H_2 _ _ _ _ _ _ (by (try dsimp only); repeat first | assumption | exact zK.rf | refine zK.zu ?_ (by omega) | refine zK.zu0 ?_ (by decide) | refine zK.zwr ?_ (by omega) | refine zK.zfil ?_ (by omega) | refine zK.zcpy ?_ (by omega) | refine zK.trans ?_ (by assumption) | dsimp only) ) rfl rfl rfl
set_option maxRecDepth 100000 in
theorem s_X5_firstRound {l : Launch} {G : zG} {b : Nat} {S : zS} {P : Nat} {Q : Nat} {A : Nat} (hQ : LX5 S.1 Q) (rQ : P < Q ∧ Q + 8 ≤ P + 200) (hA : LX2 S.1 A) (rA : P < A ∧ A + 13 ≤ P + 200) : zM l G b yX5_firstRound cX5_firstRound 5 none 2 0 0 [.ref Q, .ref A] S (fun r z => ∃ M' N', z = (S.1, M', N') ∧ zK P S.2.1 M' ∧ r = none) := by
  refine zM.of miX5_firstRound (Nat.le_of_ble_eq_true rfl) ?_
  intro p e s m args below meth c X hr hname
  generalize hF : ((fun r z => ∃ M' N', z = (S.1, M', N') ∧ zK P S.2.1 M' ∧ r = none) : Option Value → zS → Prop) = FQ
  change Zw p l e { frames := 2, cells := 0, slots := 0, locals := 80 * 2 } s m args below meth c G b 5 (MQ below (zQ G b FQ) args s 0 0 (fun q : Nat => b ≤ q)) 0 0 0 [some (.ref Q), some (.ref A), none, none, none] [] S
  obtain ⟨q_lt, q_o, q_line, q_unitOf, q_roundOf, q_leftTags, q_leftGuests, q_leftPreferred, q_ranked⟩ := id hQ
  obtain ⟨a_lt, a_o, a_quota, a_preferred, a_forGuests, a_applicantOf, a_size, a_guestCount, a_score, a_tickets, a_bits, a_party, a_wishCount, a_wishes⟩ := id hA
  have L_7 : ∀ u : Nat, ∀ (x2_7 : Int32) (x3_7 : Option Value) (x4_7 : Option Value) (M2 : Nat → Nat → Int32) (N2 : Nat → Nat → Int64), zK P S.2.1 M2 → (2147483648 - x2_7.toInt).toNat < u → Zw p l e { frames := 2, cells := 0, slots := 0, locals := 80 * 2 } s m args below meth c G b 5 (MQ below (zQ G b FQ) args s 0 0 (fun q : Nat => b ≤ q)) 0 0 7 [some (.ref (Q)), some (.ref (A)), some (.int x2_7), x3_7, x4_7] [] (S.1, M2, N2) := by
    intro u
    induction u with
    | zero => intro x2_7 x3_7 x4_7 M2_7 N2_7 k_7 hm_7; exact absurd hm_7 (Nat.not_lt_zero _)
    | succ u_7 ih_7 =>
      intro x2_7 x3_7 x4_7 M2_7 N2_7 k_7 hm_7
      have J_91 : ∀ (x2_91 : Int32) (x3_91 : Int32) (x4_91 : Int32) (M2 : Nat → Nat → Int32) (N2 : Nat → Nat → Int64), zK P S.2.1 M2 → ((2147483648 - x2_91.toInt).toNat < u_7 + 1) → (x2_91.toInt < 2147483647) → Zw p l e { frames := 2, cells := 0, slots := 0, locals := 80 * 2 } s m args below meth c G b 5 (MQ below (zQ G b FQ) args s 0 0 (fun q : Nat => b ≤ q)) 0 0 91 [some (.ref (Q)), some (.ref (A)), some (.int x2_91), some (.int x3_91), some (.int x4_91)] [] (S.1, M2, N2) := by
        intro x2_91 x3_91 x4_91 M2_91 N2_91 k_91 f0_91 f1_91
        refine a_iinc X dX5_firstRound_91 (by decide) rfl rfl ?_
        refine a_goto (tgt := 7) X dX5_firstRound_94 (by decide) ?_
        exact Zw.to2 (ih_7 _ _ _ _ _ (by (try dsimp only); repeat first | assumption | exact zK.rf | refine zK.zu ?_ (by omega) | refine zK.zu0 ?_ (by decide) | refine zK.zwr ?_ (by omega) | refine zK.zfil ?_ (by omega) | refine zK.zcpy ?_ (by omega) | refine zK.trans ?_ (by assumption) | dsimp only)  (by first | assumption | exact z_up (by first | assumption | exact z_lt (by assumption) | exact z_lt2 (by assumption)) (by assumption))) rfl rfl rfl
      refine a_iload_n X dX5_firstRound_7 rfl ?_
      refine a_aload_n X dX5_firstRound_8 rfl ?_
      refine a_geti X lf5_47 (by assumption) rfl dX5_firstRound_9 ?_
      refine a_icmp_ge (tgt := 97) X dX5_firstRound_12 (by decide) (fun h_12 => ?_) (fun h_12 => ?_)
      · refine a_vret X hr dX5_firstRound_97 ⟨by decide, by decide⟩ ?_
        subst hF
        exact ⟨_, _, rfl, (by (try dsimp only); repeat first | assumption | exact zK.rf | refine zK.zu ?_ (by omega) | refine zK.zu0 ?_ (by decide) | refine zK.zwr ?_ (by omega) | refine zK.zfil ?_ (by omega) | refine zK.zcpy ?_ (by omega) | refine zK.trans ?_ (by assumption) | dsimp only), rfl⟩
      · refine a_aload_n X dX5_firstRound_15 rfl ?_
        refine a_getr X lf5_30 (by assumption) rfl (by omega) dX5_firstRound_16 ?_
        refine a_iload_n X dX5_firstRound_19 rfl ?_
        refine a_callSNv X dX5_firstRound_20 miX7_cell lm5_69 (c_cell (by assumption) (by first | decide | assumption)) rfl rfl (Nat.le_of_ble_eq_true rfl) ⟨by decide, by decide, by decide, by decide⟩ ?_
        refine a_istore_n X dX5_firstRound_23 (by decide) ?_
        refine a_aload_n X dX5_firstRound_24 rfl ?_
        refine a_iload_n X dX5_firstRound_25 rfl ?_
        refine a_iconst (v := 0) X dX5_firstRound_26 (by decide) ?_
        refine a_callVx X dX5_firstRound_27 miX2_wish lm5_98 (s_X2_wish (P := P) (by assumption) (by omega)) (by assumption) rfl rfl rfl (Nat.le_of_ble_eq_true rfl) ⟨by decide, by decide, by decide, by decide⟩ (fun r_27 S_27 q_27 => ?_)
        obtain ⟨rfl, ⟨v_27, rfl⟩⟩ := q_27
        refine a_istore X dX5_firstRound_30 (by decide) ?_
        refine a_iload X dX5_firstRound_32 rfl ?_
        refine a_iconst (v := -1) X dX5_firstRound_34 (by decide) ?_
        refine a_icmp_eq (tgt := 91) X dX5_firstRound_35 (by decide) (fun h_35 => ?_) (fun h_35 => ?_)
        · exact Zw.to2 (J_91 _ _ _ _ _ (by (try dsimp only); repeat first | assumption | exact zK.rf | refine zK.zu ?_ (by omega) | refine zK.zu0 ?_ (by decide) | refine zK.zwr ?_ (by omega) | refine zK.zfil ?_ (by omega) | refine zK.zcpy ?_ (by omega) | refine zK.trans ?_ (by assumption) | dsimp only) (by first | assumption | exact z_up (by first | assumption | exact z_lt (by assumption) | exact z_lt2 (by assumption)) (by assumption)) (by first | assumption | exact z_lt (by assumption) | exact z_lt2 (by assumption))) rfl rfl rfl
        · refine a_aload_n X dX5_firstRound_38 rfl ?_
          refine a_iload_n X dX5_firstRound_39 rfl ?_
          refine a_aload_n X dX5_firstRound_40 rfl ?_
          refine a_getr X lf5_27 (by assumption) rfl (by omega) dX5_firstRound_41 ?_
          refine a_iload X dX5_firstRound_44 rfl ?_
          refine a_callSNv X dX5_firstRound_46 miX7_cell lm5_69 (c_cell (by assumption) (by first | decide | assumption)) rfl rfl (Nat.le_of_ble_eq_true rfl) ⟨by decide, by decide, by decide, by decide⟩ ?_
          refine a_aload_n X dX5_firstRound_49 rfl ?_
          refine a_getr X lf5_24 (by assumption) rfl (by omega) dX5_firstRound_50 ?_
          refine a_iload X dX5_firstRound_53 rfl ?_
          refine a_callSNv X dX5_firstRound_55 miX7_cell lm5_69 (c_cell (by assumption) (by first | decide | assumption)) rfl rfl (Nat.le_of_ble_eq_true rfl) ⟨by decide, by decide, by decide, by decide⟩ ?_
          refine a_callVx X dX5_firstRound_58 miX2_fits lm5_102 (s_X2_fits (P := P) (by assumption) (by omega)) (by assumption) rfl rfl rfl (Nat.le_of_ble_eq_true rfl) ⟨by decide, by decide, by decide, by decide⟩ (fun r_58 S_58 q_58 => ?_)
          obtain ⟨rfl, ⟨v_58, rfl, b_58⟩⟩ := q_58
          refine a_if_eq (tgt := 91) X dX5_firstRound_61 (by decide) (fun h_61 => ?_) (fun h_61 => ?_)
          · exact Zw.to2 (J_91 _ _ _ _ _ (by (try dsimp only); repeat first | assumption | exact zK.rf | refine zK.zu ?_ (by omega) | refine zK.zu0 ?_ (by decide) | refine zK.zwr ?_ (by omega) | refine zK.zfil ?_ (by omega) | refine zK.zcpy ?_ (by omega) | refine zK.trans ?_ (by assumption) | dsimp only) (by first | assumption | exact z_up (by first | assumption | exact z_lt (by assumption) | exact z_lt2 (by assumption)) (by assumption)) (by first | assumption | exact z_lt (by assumption) | exact z_lt2 (by assumption))) rfl rfl rfl
          · refine a_aload_n X dX5_firstRound_64 rfl ?_
            refine a_getr X lf5_27 (by assumption) rfl (by omega) dX5_firstRound_65 ?_
            refine a_iload X dX5_firstRound_68 rfl ?_
            refine a_aload_n X dX5_firstRound_70 rfl ?_
            refine a_getr X lf5_106 (by assumption) rfl (by omega) dX5_firstRound_71 ?_
            refine a_iload_n X dX5_firstRound_74 rfl ?_
            refine a_callSNv X dX5_firstRound_75 miX7_cell lm5_69 (c_cell (by assumption) (by first | decide | assumption)) rfl rfl (Nat.le_of_ble_eq_true rfl) ⟨by decide, by decide, by decide, by decide⟩ ?_
            refine a_ineg X dX5_firstRound_78 ?_
            refine a_callSNu X dX5_firstRound_79 miX7_add lm5_109 (c_add (by assumption) (by first | decide | assumption)) rfl rfl (Nat.le_of_ble_eq_true rfl) ⟨by decide, by decide, by decide, by decide⟩ ?_
            refine a_aload_n X dX5_firstRound_82 rfl ?_
            refine a_aload_n X dX5_firstRound_83 rfl ?_
            refine a_iload_n X dX5_firstRound_84 rfl ?_
            refine a_iload X dX5_firstRound_85 rfl ?_
            refine a_iconst (v := 1) X dX5_firstRound_87 (by decide) ?_
            refine a_callVx X dX5_firstRound_88 miX5_hold lm5_112 (s_X5_hold (P := P) (by assumption) (by omega) (by assumption) (by omega)) (by assumption) rfl rfl rfl (Nat.le_of_ble_eq_true rfl) ⟨by decide, by decide, by decide, by decide⟩ (fun r_88 S_88 q_88 => ?_)
            obtain ⟨M_88, N_88, rfl, k_88, rfl⟩ := q_88
            exact Zw.to2 (J_91 _ _ _ _ _ (by (try dsimp only); repeat first | assumption | exact zK.rf | refine zK.zu ?_ (by omega) | refine zK.zu0 ?_ (by decide) | refine zK.zwr ?_ (by omega) | refine zK.zfil ?_ (by omega) | refine zK.zcpy ?_ (by omega) | refine zK.trans ?_ (by assumption) | dsimp only) (by first | assumption | exact z_up (by first | assumption | exact z_lt (by assumption) | exact z_lt2 (by assumption)) (by assumption)) (by first | assumption | exact z_lt (by assumption) | exact z_lt2 (by assumption))) rfl rfl rfl
  have H_7 : ∀ (x2_7 : Int32) (x3_7 : Option Value) (x4_7 : Option Value) (M2 : Nat → Nat → Int32) (N2 : Nat → Nat → Int64), zK P S.2.1 M2 → Zw p l e { frames := 2, cells := 0, slots := 0, locals := 80 * 2 } s m args below meth c G b 5 (MQ below (zQ G b FQ) args s 0 0 (fun q : Nat => b ≤ q)) 0 0 7 [some (.ref (Q)), some (.ref (A)), some (.int x2_7), x3_7, x4_7] [] (S.1, M2, N2) := fun x2_7 x3_7 x4_7 M2 N2 k  => L_7 _ x2_7 x3_7 x4_7 M2 N2 k  (Nat.lt_succ_self _)
  refine a_aload_n X dX5_firstRound_0 rfl ?_
  refine a_aload_n X dX5_firstRound_1 rfl ?_
  refine a_callVx X dX5_firstRound_2 miX5_rank lm5_95 (s_X5_rank (P := P) (by assumption) (by omega) (by assumption) (by omega)) (by assumption) rfl rfl rfl (Nat.le_of_ble_eq_true rfl) ⟨by decide, by decide, by decide, by decide⟩ (fun r_2 S_2 q_2 => ?_)
  obtain ⟨M_2, N_2, rfl, k_2, rfl⟩ := q_2
  refine a_iconst (v := 0) X dX5_firstRound_5 (by decide) ?_
  refine a_istore_n X dX5_firstRound_6 (by decide) ?_
  exact Zw.to2 (H_7 _ _ _ _ _ (by (try dsimp only); repeat first | assumption | exact zK.rf | refine zK.zu ?_ (by omega) | refine zK.zu0 ?_ (by decide) | refine zK.zwr ?_ (by omega) | refine zK.zfil ?_ (by omega) | refine zK.zcpy ?_ (by omega) | refine zK.trans ?_ (by assumption) | dsimp only) ) rfl rfl rfl
set_option maxRecDepth 100000 in
theorem s_X5_secondRound {l : Launch} {G : zG} {b : Nat} {S : zS} {P : Nat} {Q : Nat} {A : Nat} (hQ : LX5 S.1 Q) (rQ : P < Q ∧ Q + 8 ≤ P + 200) (hA : LX2 S.1 A) (rA : P < A ∧ A + 13 ≤ P + 200) : zM l G b yX5_secondRound cX5_secondRound 7 none 2 0 0 [.ref Q, .ref A] S (fun r z => ∃ M' N', z = (S.1, M', N') ∧ zK P S.2.1 M' ∧ r = none) := by
  refine zM.of miX5_secondRound (Nat.le_of_ble_eq_true rfl) ?_
  intro p e s m args below meth c X hr hname
  generalize hF : ((fun r z => ∃ M' N', z = (S.1, M', N') ∧ zK P S.2.1 M' ∧ r = none) : Option Value → zS → Prop) = FQ
  change Zw p l e { frames := 2, cells := 0, slots := 0, locals := 80 * 2 } s m args below meth c G b 7 (MQ below (zQ G b FQ) args s 0 0 (fun q : Nat => b ≤ q)) 0 0 0 [some (.ref Q), some (.ref A), none, none, none, none, none] [] S
  obtain ⟨q_lt, q_o, q_line, q_unitOf, q_roundOf, q_leftTags, q_leftGuests, q_leftPreferred, q_ranked⟩ := id hQ
  obtain ⟨a_lt, a_o, a_quota, a_preferred, a_forGuests, a_applicantOf, a_size, a_guestCount, a_score, a_tickets, a_bits, a_party, a_wishCount, a_wishes⟩ := id hA
  have L_2 : ∀ u : Nat, ∀ (x2_2 : Int32) (x3_2 : Option Value) (x4_2 : Option Value) (x5_2 : Option Value) (x6_2 : Option Value) (M2 : Nat → Nat → Int32) (N2 : Nat → Nat → Int64), zK P S.2.1 M2 → (2147483648 - x2_2.toInt).toNat < u → Zw p l e { frames := 2, cells := 0, slots := 0, locals := 80 * 2 } s m args below meth c G b 7 (MQ below (zQ G b FQ) args s 0 0 (fun q : Nat => b ≤ q)) 0 0 2 [some (.ref (Q)), some (.ref (A)), some (.int x2_2), x3_2, x4_2, x5_2, x6_2] [] (S.1, M2, N2) := by
    intro u
    induction u with
    | zero => intro x2_2 x3_2 x4_2 x5_2 x6_2 M2_2 N2_2 k_2 hm_2; exact absurd hm_2 (Nat.not_lt_zero _)
    | succ u_2 ih_2 =>
      intro x2_2 x3_2 x4_2 x5_2 x6_2 M2_2 N2_2 k_2 hm_2
      have J_108 : ∀ (x2_108 : Int32) (x3_108 : Int32) (x4_108 : Int32) (x5_108 : Int32) (x6_108 : Option Value) (M2 : Nat → Nat → Int32) (N2 : Nat → Nat → Int64), zK P S.2.1 M2 → ((2147483648 - x2_108.toInt).toNat < u_2 + 1) → (x2_108.toInt < 2147483647) → Zw p l e { frames := 2, cells := 0, slots := 0, locals := 80 * 2 } s m args below meth c G b 7 (MQ below (zQ G b FQ) args s 0 0 (fun q : Nat => b ≤ q)) 0 0 108 [some (.ref (Q)), some (.ref (A)), some (.int x2_108), some (.int x3_108), some (.int x4_108), some (.int x5_108), x6_108] [] (S.1, M2, N2) := by
        intro x2_108 x3_108 x4_108 x5_108 x6_108 M2_108 N2_108 k_108 f0_108 f1_108
        refine a_iinc X dX5_secondRound_108 (by decide) rfl rfl ?_
        refine a_goto (tgt := 2) X dX5_secondRound_111 (by decide) ?_
        exact Zw.to2 (ih_2 _ _ _ _ _ _ _ (by (try dsimp only); repeat first | assumption | exact zK.rf | refine zK.zu ?_ (by omega) | refine zK.zu0 ?_ (by decide) | refine zK.zwr ?_ (by omega) | refine zK.zfil ?_ (by omega) | refine zK.zcpy ?_ (by omega) | refine zK.trans ?_ (by assumption) | dsimp only)  (by first | assumption | exact z_up (by first | assumption | exact z_lt (by assumption) | exact z_lt2 (by assumption)) (by assumption))) rfl rfl rfl
      have L_48 : ∀ u : Nat, ∀ (x2_48 : Int32) (x3_48 : Int32) (x4_48 : Int32) (x5_48 : Int32) (x6_48 : Option Value) (M2 : Nat → Nat → Int32) (N2 : Nat → Nat → Int64), zK P S.2.1 M2 → ((2147483648 - x2_48.toInt).toNat < u_2 + 1) → (x2_48.toInt < 2147483647) → (2147483648 - x5_48.toInt).toNat < u → Zw p l e { frames := 2, cells := 0, slots := 0, locals := 80 * 2 } s m args below meth c G b 7 (MQ below (zQ G b FQ) args s 0 0 (fun q : Nat => b ≤ q)) 0 0 48 [some (.ref (Q)), some (.ref (A)), some (.int x2_48), some (.int x3_48), some (.int x4_48), some (.int x5_48), x6_48] [] (S.1, M2, N2) := by
        intro u
        induction u with
        | zero => intro x2_48 x3_48 x4_48 x5_48 x6_48 M2_48 N2_48 k_48 f0_48 f1_48 hm_48; exact absurd hm_48 (Nat.not_lt_zero _)
        | succ u_48 ih_48 =>
          intro x2_48 x3_48 x4_48 x5_48 x6_48 M2_48 N2_48 k_48 f0_48 f1_48 hm_48
          refine a_iload X dX5_secondRound_48 rfl ?_
          refine a_iload X dX5_secondRound_50 rfl ?_
          refine a_icmp_ge (tgt := 108) X dX5_secondRound_52 (by decide) (fun h_52 => ?_) (fun h_52 => ?_)
          · exact Zw.to2 (J_108 _ _ _ _ _ _ _ (by (try dsimp only); repeat first | assumption | exact zK.rf | refine zK.zu ?_ (by omega) | refine zK.zu0 ?_ (by decide) | refine zK.zwr ?_ (by omega) | refine zK.zfil ?_ (by omega) | refine zK.zcpy ?_ (by omega) | refine zK.trans ?_ (by assumption) | dsimp only) (by first | assumption | exact z_up (by first | assumption | exact z_lt (by assumption) | exact z_lt2 (by assumption)) (by assumption)) (by first | assumption | exact z_lt (by assumption) | exact z_lt2 (by assumption))) rfl rfl rfl
          · refine a_aload_n X dX5_secondRound_55 rfl ?_
            refine a_iload_n X dX5_secondRound_56 rfl ?_
            refine a_iload X dX5_secondRound_57 rfl ?_
            refine a_callVx X dX5_secondRound_59 miX2_wish lm5_98 (s_X2_wish (P := P) (by assumption) (by omega)) (by assumption) rfl rfl rfl (Nat.le_of_ble_eq_true rfl) ⟨by decide, by decide, by decide, by decide⟩ (fun r_59 S_59 q_59 => ?_)
            obtain ⟨rfl, ⟨v_59, rfl⟩⟩ := q_59
            refine a_istore X dX5_secondRound_62 (by decide) ?_
            refine a_aload_n X dX5_secondRound_64 rfl ?_
            refine a_iload_n X dX5_secondRound_65 rfl ?_
            refine a_aload_n X dX5_secondRound_66 rfl ?_
            refine a_getr X lf5_21 (by assumption) rfl (by omega) dX5_secondRound_67 ?_
            refine a_iload X dX5_secondRound_70 rfl ?_
            refine a_callSNv X dX5_secondRound_72 miX7_cell lm5_69 (c_cell (by assumption) (by first | decide | assumption)) rfl rfl (Nat.le_of_ble_eq_true rfl) ⟨by decide, by decide, by decide, by decide⟩ ?_
            refine a_aload_n X dX5_secondRound_75 rfl ?_
            refine a_getr X lf5_24 (by assumption) rfl (by omega) dX5_secondRound_76 ?_
            refine a_iload X dX5_secondRound_79 rfl ?_
            refine a_callSNv X dX5_secondRound_81 miX7_cell lm5_69 (c_cell (by assumption) (by first | decide | assumption)) rfl rfl (Nat.le_of_ble_eq_true rfl) ⟨by decide, by decide, by decide, by decide⟩ ?_
            refine a_callVx X dX5_secondRound_84 miX2_fits lm5_102 (s_X2_fits (P := P) (by assumption) (by omega)) (by assumption) rfl rfl rfl (Nat.le_of_ble_eq_true rfl) ⟨by decide, by decide, by decide, by decide⟩ (fun r_84 S_84 q_84 => ?_)
            obtain ⟨rfl, ⟨v_84, rfl, b_84⟩⟩ := q_84
            refine a_if_eq (tgt := 102) X dX5_secondRound_87 (by decide) (fun h_87 => ?_) (fun h_87 => ?_)
            · refine a_iinc X dX5_secondRound_102 (by decide) rfl rfl ?_
              refine a_goto (tgt := 48) X dX5_secondRound_105 (by decide) ?_
              exact Zw.to2 (ih_48 _ _ _ _ _ _ _ (by (try dsimp only); repeat first | assumption | exact zK.rf | refine zK.zu ?_ (by omega) | refine zK.zu0 ?_ (by decide) | refine zK.zwr ?_ (by omega) | refine zK.zfil ?_ (by omega) | refine zK.zcpy ?_ (by omega) | refine zK.trans ?_ (by assumption) | dsimp only) (by first | assumption | exact z_up (by first | assumption | exact z_lt (by assumption) | exact z_lt2 (by assumption)) (by assumption)) (by first | assumption | exact z_lt (by assumption) | exact z_lt2 (by assumption)) (by first | assumption | exact z_up (by first | assumption | exact z_lt (by assumption) | exact z_lt2 (by assumption)) (by assumption))) rfl rfl rfl
            · refine a_aload_n X dX5_secondRound_90 rfl ?_
              refine a_aload_n X dX5_secondRound_91 rfl ?_
              refine a_iload_n X dX5_secondRound_92 rfl ?_
              refine a_iload X dX5_secondRound_93 rfl ?_
              refine a_iconst (v := 2) X dX5_secondRound_95 (by decide) ?_
              refine a_callVx X dX5_secondRound_96 miX5_hold lm5_112 (s_X5_hold (P := P) (by assumption) (by omega) (by assumption) (by omega)) (by assumption) rfl rfl rfl (Nat.le_of_ble_eq_true rfl) ⟨by decide, by decide, by decide, by decide⟩ (fun r_96 S_96 q_96 => ?_)
              obtain ⟨M_96, N_96, rfl, k_96, rfl⟩ := q_96
              refine a_goto (tgt := 108) X dX5_secondRound_99 (by decide) ?_
              exact Zw.to2 (J_108 _ _ _ _ _ _ _ (by (try dsimp only); repeat first | assumption | exact zK.rf | refine zK.zu ?_ (by omega) | refine zK.zu0 ?_ (by decide) | refine zK.zwr ?_ (by omega) | refine zK.zfil ?_ (by omega) | refine zK.zcpy ?_ (by omega) | refine zK.trans ?_ (by assumption) | dsimp only) (by first | assumption | exact z_up (by first | assumption | exact z_lt (by assumption) | exact z_lt2 (by assumption)) (by assumption)) (by first | assumption | exact z_lt (by assumption) | exact z_lt2 (by assumption))) rfl rfl rfl
      have H_48 : ∀ (x2_48 : Int32) (x3_48 : Int32) (x4_48 : Int32) (x5_48 : Int32) (x6_48 : Option Value) (M2 : Nat → Nat → Int32) (N2 : Nat → Nat → Int64), zK P S.2.1 M2 → ((2147483648 - x2_48.toInt).toNat < u_2 + 1) → (x2_48.toInt < 2147483647) → Zw p l e { frames := 2, cells := 0, slots := 0, locals := 80 * 2 } s m args below meth c G b 7 (MQ below (zQ G b FQ) args s 0 0 (fun q : Nat => b ≤ q)) 0 0 48 [some (.ref (Q)), some (.ref (A)), some (.int x2_48), some (.int x3_48), some (.int x4_48), some (.int x5_48), x6_48] [] (S.1, M2, N2) := fun x2_48 x3_48 x4_48 x5_48 x6_48 M2 N2 k f0 f1 => L_48 _ x2_48 x3_48 x4_48 x5_48 x6_48 M2 N2 k f0 f1 (Nat.lt_succ_self _)
      have J_43 : ∀ (x2_43 : Int32) (x3_43 : Int32) (x4_43 : Option Value) (x5_43 : Option Value) (x6_43 : Option Value) (y0_43 : Int32) (M2 : Nat → Nat → Int32) (N2 : Nat → Nat → Int64), zK P S.2.1 M2 → ((2147483648 - x2_43.toInt).toNat < u_2 + 1) → (x2_43.toInt < 2147483647) → Zw p l e { frames := 2, cells := 0, slots := 0, locals := 80 * 2 } s m args below meth c G b 7 (MQ below (zQ G b FQ) args s 0 0 (fun q : Nat => b ≤ q)) 0 0 43 [some (.ref (Q)), some (.ref (A)), some (.int x2_43), some (.int x3_43), x4_43, x5_43, x6_43] [(.int y0_43)] (S.1, M2, N2) := by
        intro x2_43 x3_43 x4_43 x5_43 x6_43 y0_43 M2_43 N2_43 k_43 f0_43 f1_43
        refine a_istore X dX5_secondRound_43 (by decide) ?_
        refine a_iconst (v := 0) X dX5_secondRound_45 (by decide) ?_
        refine a_istore X dX5_secondRound_46 (by decide) ?_
        exact Zw.to2 (H_48 _ _ _ _ _ _ _ (by (try dsimp only); repeat first | assumption | exact zK.rf | refine zK.zu ?_ (by omega) | refine zK.zu0 ?_ (by decide) | refine zK.zwr ?_ (by omega) | refine zK.zfil ?_ (by omega) | refine zK.zcpy ?_ (by omega) | refine zK.trans ?_ (by assumption) | dsimp only) (by first | assumption | exact z_up (by first | assumption | exact z_lt (by assumption) | exact z_lt2 (by assumption)) (by assumption)) (by first | assumption | exact z_lt (by assumption) | exact z_lt2 (by assumption))) rfl rfl rfl
      refine a_iload_n X dX5_secondRound_2 rfl ?_
      refine a_aload_n X dX5_secondRound_3 rfl ?_
      refine a_geti X lf5_47 (by assumption) rfl dX5_secondRound_4 ?_
      refine a_icmp_ge (tgt := 114) X dX5_secondRound_7 (by decide) (fun h_7 => ?_) (fun h_7 => ?_)
      · refine a_vret X hr dX5_secondRound_114 ⟨by decide, by decide⟩ ?_
        subst hF
        exact ⟨_, _, rfl, (by (try dsimp only); repeat first | assumption | exact zK.rf | refine zK.zu ?_ (by omega) | refine zK.zu0 ?_ (by decide) | refine zK.zwr ?_ (by omega) | refine zK.zfil ?_ (by omega) | refine zK.zcpy ?_ (by omega) | refine zK.trans ?_ (by assumption) | dsimp only), rfl⟩
      · refine a_aload_n X dX5_secondRound_10 rfl ?_
        refine a_getr X lf5_9 (by assumption) rfl (by omega) dX5_secondRound_11 ?_
        refine a_iload_n X dX5_secondRound_14 rfl ?_
        refine a_callSNv X dX5_secondRound_15 miX7_cell lm5_69 (c_cell (by assumption) (by first | decide | assumption)) rfl rfl (Nat.le_of_ble_eq_true rfl) ⟨by decide, by decide, by decide, by decide⟩ ?_
        refine a_istore_n X dX5_secondRound_18 (by decide) ?_
        refine a_aload_n X dX5_secondRound_19 rfl ?_
        refine a_getr X lf5_15 (by assumption) rfl (by omega) dX5_secondRound_20 ?_
        refine a_iload_n X dX5_secondRound_23 rfl ?_
        refine a_callSNv X dX5_secondRound_24 miX7_cell lm5_69 (c_cell (by assumption) (by first | decide | assumption)) rfl rfl (Nat.le_of_ble_eq_true rfl) ⟨by decide, by decide, by decide, by decide⟩ ?_
        refine a_iconst (v := -1) X dX5_secondRound_27 (by decide) ?_
        refine a_icmp_ne (tgt := 42) X dX5_secondRound_28 (by decide) (fun h_28 => ?_) (fun h_28 => ?_)
        · refine a_iconst (v := 0) X dX5_secondRound_42 (by decide) ?_
          exact Zw.to2 (J_43 _ _ _ _ _ _ _ _ (by (try dsimp only); repeat first | assumption | exact zK.rf | refine zK.zu ?_ (by omega) | refine zK.zu0 ?_ (by decide) | refine zK.zwr ?_ (by omega) | refine zK.zfil ?_ (by omega) | refine zK.zcpy ?_ (by omega) | refine zK.trans ?_ (by assumption) | dsimp only) (by first | assumption | exact z_up (by first | assumption | exact z_lt (by assumption) | exact z_lt2 (by assumption)) (by assumption)) (by first | assumption | exact z_lt (by assumption) | exact z_lt2 (by assumption))) rfl rfl rfl
        · refine a_aload_n X dX5_secondRound_31 rfl ?_
          refine a_getr X lf5_119 (by assumption) rfl (by omega) dX5_secondRound_32 ?_
          refine a_iload_n X dX5_secondRound_35 rfl ?_
          refine a_callSNv X dX5_secondRound_36 miX7_cell lm5_69 (c_cell (by assumption) (by first | decide | assumption)) rfl rfl (Nat.le_of_ble_eq_true rfl) ⟨by decide, by decide, by decide, by decide⟩ ?_
          refine a_goto (tgt := 43) X dX5_secondRound_39 (by decide) ?_
          exact Zw.to2 (J_43 _ _ _ _ _ _ _ _ (by (try dsimp only); repeat first | assumption | exact zK.rf | refine zK.zu ?_ (by omega) | refine zK.zu0 ?_ (by decide) | refine zK.zwr ?_ (by omega) | refine zK.zfil ?_ (by omega) | refine zK.zcpy ?_ (by omega) | refine zK.trans ?_ (by assumption) | dsimp only) (by first | assumption | exact z_up (by first | assumption | exact z_lt (by assumption) | exact z_lt2 (by assumption)) (by assumption)) (by first | assumption | exact z_lt (by assumption) | exact z_lt2 (by assumption))) rfl rfl rfl
  have H_2 : ∀ (x2_2 : Int32) (x3_2 : Option Value) (x4_2 : Option Value) (x5_2 : Option Value) (x6_2 : Option Value) (M2 : Nat → Nat → Int32) (N2 : Nat → Nat → Int64), zK P S.2.1 M2 → Zw p l e { frames := 2, cells := 0, slots := 0, locals := 80 * 2 } s m args below meth c G b 7 (MQ below (zQ G b FQ) args s 0 0 (fun q : Nat => b ≤ q)) 0 0 2 [some (.ref (Q)), some (.ref (A)), some (.int x2_2), x3_2, x4_2, x5_2, x6_2] [] (S.1, M2, N2) := fun x2_2 x3_2 x4_2 x5_2 x6_2 M2 N2 k  => L_2 _ x2_2 x3_2 x4_2 x5_2 x6_2 M2 N2 k  (Nat.lt_succ_self _)
  refine a_iconst (v := 0) X dX5_secondRound_0 (by decide) ?_
  refine a_istore_n X dX5_secondRound_1 (by decide) ?_
  exact Zw.to2 (H_2 _ _ _ _ _ _ _ (by (try dsimp only); repeat first | assumption | exact zK.rf | refine zK.zu ?_ (by omega) | refine zK.zu0 ?_ (by decide) | refine zK.zwr ?_ (by omega) | refine zK.zfil ?_ (by omega) | refine zK.zcpy ?_ (by omega) | refine zK.trans ?_ (by assumption) | dsimp only) ) rfl rfl rfl
set_option maxRecDepth 100000 in
theorem s_X5_settle {l : Launch} {G : zG} {b : Nat} {S : zS} {P : Nat} {Q : Nat} {A : Nat} (hQ : LX5 S.1 Q) (rQ : P < Q ∧ Q + 8 ≤ P + 200) (hA : LX2 S.1 A) (rA : P < A ∧ A + 13 ≤ P + 200) : zM l G b yX5_settle cX5_settle 3 none 3 0 0 [.ref Q, .ref A] S (fun r z => ∃ M' N', z = (S.1, M', N') ∧ zK P S.2.1 M' ∧ r = none) := by
  refine zM.of miX5_settle (Nat.le_of_ble_eq_true rfl) ?_
  intro p e s m args below meth c X hr hname
  generalize hF : ((fun r z => ∃ M' N', z = (S.1, M', N') ∧ zK P S.2.1 M' ∧ r = none) : Option Value → zS → Prop) = FQ
  change Zw p l e { frames := 3, cells := 0, slots := 0, locals := 80 * 3 } s m args below meth c G b 3 (MQ below (zQ G b FQ) args s 0 0 (fun q : Nat => b ≤ q)) 0 0 0 [some (.ref Q), some (.ref A), none] [] S
  obtain ⟨q_lt, q_o, q_line, q_unitOf, q_roundOf, q_leftTags, q_leftGuests, q_leftPreferred, q_ranked⟩ := id hQ
  obtain ⟨a_lt, a_o, a_quota, a_preferred, a_forGuests, a_applicantOf, a_size, a_guestCount, a_score, a_tickets, a_bits, a_party, a_wishCount, a_wishes⟩ := id hA
  have J_110 : ∀ (x2_110 : Int32) (M2 : Nat → Nat → Int32) (N2 : Nat → Nat → Int64), zK P S.2.1 M2 → Zw p l e { frames := 3, cells := 0, slots := 0, locals := 80 * 3 } s m args below meth c G b 3 (MQ below (zQ G b FQ) args s 0 0 (fun q : Nat => b ≤ q)) 0 0 110 [some (.ref (Q)), some (.ref (A)), some (.int x2_110)] [] (S.1, M2, N2) := by
    intro x2_110 M2_110 N2_110 k_110
    refine a_aload_n X dX5_settle_110 rfl ?_
    refine a_aload_n X dX5_settle_111 rfl ?_
    refine a_callVx X dX5_settle_112 miX5_secondRound lm5_92 (s_X5_secondRound (P := P) (by assumption) (by omega) (by assumption) (by omega)) (by assumption) rfl rfl rfl (Nat.le_of_ble_eq_true rfl) ⟨by decide, by decide, by decide, by decide⟩ (fun r_112 S_112 q_112 => ?_)
    obtain ⟨M_112, N_112, rfl, k_112, rfl⟩ := q_112
    refine a_vret X hr dX5_settle_115 ⟨by decide, by decide⟩ ?_
    subst hF
    exact ⟨_, _, rfl, (by (try dsimp only); repeat first | assumption | exact zK.rf | refine zK.zu ?_ (by omega) | refine zK.zu0 ?_ (by decide) | refine zK.zwr ?_ (by omega) | refine zK.zfil ?_ (by omega) | refine zK.zcpy ?_ (by omega) | refine zK.trans ?_ (by assumption) | dsimp only), rfl⟩
  have L_36 : ∀ u : Nat, ∀ (x2_36 : Int32) (M2 : Nat → Nat → Int32) (N2 : Nat → Nat → Int64), zK P S.2.1 M2 → (2147483648 - x2_36.toInt).toNat < u → Zw p l e { frames := 3, cells := 0, slots := 0, locals := 80 * 3 } s m args below meth c G b 3 (MQ below (zQ G b FQ) args s 0 0 (fun q : Nat => b ≤ q)) 0 0 36 [some (.ref (Q)), some (.ref (A)), some (.int x2_36)] [] (S.1, M2, N2) := by
    intro u
    induction u with
    | zero => intro x2_36 M2_36 N2_36 k_36 hm_36; exact absurd hm_36 (Nat.not_lt_zero _)
    | succ u_36 ih_36 =>
      intro x2_36 M2_36 N2_36 k_36 hm_36
      refine a_iload_n X dX5_settle_36 rfl ?_
      refine a_aload_n X dX5_settle_37 rfl ?_
      refine a_geti X lf5_73 (by assumption) rfl dX5_settle_38 ?_
      refine a_icmp_ge (tgt := 98) X dX5_settle_41 (by decide) (fun h_41 => ?_) (fun h_41 => ?_)
      · refine a_aload_n X dX5_settle_98 rfl ?_
        refine a_geti X lf5_85 (by assumption) rfl dX5_settle_99 ?_
        refine a_if_eq (tgt := 110) X dX5_settle_102 (by decide) (fun h_102 => ?_) (fun h_102 => ?_)
        · exact Zw.to2 (J_110 _ _ _ (by (try dsimp only); repeat first | assumption | exact zK.rf | refine zK.zu ?_ (by omega) | refine zK.zu0 ?_ (by decide) | refine zK.zwr ?_ (by omega) | refine zK.zfil ?_ (by omega) | refine zK.zcpy ?_ (by omega) | refine zK.trans ?_ (by assumption) | dsimp only) ) rfl rfl rfl
        · refine a_aload_n X dX5_settle_105 rfl ?_
          refine a_aload_n X dX5_settle_106 rfl ?_
          refine a_callVx X dX5_settle_107 miX5_firstRound lm5_89 (s_X5_firstRound (P := P) (by assumption) (by omega) (by assumption) (by omega)) (by assumption) rfl rfl rfl (Nat.le_of_ble_eq_true rfl) ⟨by decide, by decide, by decide, by decide⟩ (fun r_107 S_107 q_107 => ?_)
          obtain ⟨M_107, N_107, rfl, k_107, rfl⟩ := q_107
          exact Zw.to2 (J_110 _ _ _ (by (try dsimp only); repeat first | assumption | exact zK.rf | refine zK.zu ?_ (by omega) | refine zK.zu0 ?_ (by decide) | refine zK.zwr ?_ (by omega) | refine zK.zfil ?_ (by omega) | refine zK.zcpy ?_ (by omega) | refine zK.trans ?_ (by assumption) | dsimp only) ) rfl rfl rfl
      · refine a_aload_n X dX5_settle_44 rfl ?_
        refine a_getr X lf5_21 (by assumption) rfl (by omega) dX5_settle_45 ?_
        refine a_iload_n X dX5_settle_48 rfl ?_
        refine a_aload_n X dX5_settle_49 rfl ?_
        refine a_getr X lf5_76 (by assumption) rfl (by omega) dX5_settle_50 ?_
        refine a_iload_n X dX5_settle_53 rfl ?_
        refine a_callSNv X dX5_settle_54 miX7_cell lm5_69 (c_cell (by assumption) (by first | decide | assumption)) rfl rfl (Nat.le_of_ble_eq_true rfl) ⟨by decide, by decide, by decide, by decide⟩ ?_
        refine a_callSNu X dX5_settle_57 miX7_put lm5_62 (c_put (by assumption) (by first | decide | assumption)) rfl rfl (Nat.le_of_ble_eq_true rfl) ⟨by decide, by decide, by decide, by decide⟩ ?_
        refine a_aload_n X dX5_settle_60 rfl ?_
        refine a_getr X lf5_27 (by assumption) rfl (by omega) dX5_settle_61 ?_
        refine a_iload_n X dX5_settle_64 rfl ?_
        refine a_aload_n X dX5_settle_65 rfl ?_
        refine a_getr X lf5_79 (by assumption) rfl (by omega) dX5_settle_66 ?_
        refine a_iload_n X dX5_settle_69 rfl ?_
        refine a_callSNv X dX5_settle_70 miX7_cell lm5_69 (c_cell (by assumption) (by first | decide | assumption)) rfl rfl (Nat.le_of_ble_eq_true rfl) ⟨by decide, by decide, by decide, by decide⟩ ?_
        refine a_callSNu X dX5_settle_73 miX7_put lm5_62 (c_put (by assumption) (by first | decide | assumption)) rfl rfl (Nat.le_of_ble_eq_true rfl) ⟨by decide, by decide, by decide, by decide⟩ ?_
        refine a_aload_n X dX5_settle_76 rfl ?_
        refine a_getr X lf5_24 (by assumption) rfl (by omega) dX5_settle_77 ?_
        refine a_iload_n X dX5_settle_80 rfl ?_
        refine a_aload_n X dX5_settle_81 rfl ?_
        refine a_getr X lf5_82 (by assumption) rfl (by omega) dX5_settle_82 ?_
        refine a_iload_n X dX5_settle_85 rfl ?_
        refine a_callSNv X dX5_settle_86 miX7_cell lm5_69 (c_cell (by assumption) (by first | decide | assumption)) rfl rfl (Nat.le_of_ble_eq_true rfl) ⟨by decide, by decide, by decide, by decide⟩ ?_
        refine a_callSNu X dX5_settle_89 miX7_put lm5_62 (c_put (by assumption) (by first | decide | assumption)) rfl rfl (Nat.le_of_ble_eq_true rfl) ⟨by decide, by decide, by decide, by decide⟩ ?_
        refine a_iinc X dX5_settle_92 (by decide) rfl rfl ?_
        refine a_goto (tgt := 36) X dX5_settle_95 (by decide) ?_
        exact Zw.to2 (ih_36 _ _ _ (by (try dsimp only); repeat first | assumption | exact zK.rf | refine zK.zu ?_ (by omega) | refine zK.zu0 ?_ (by decide) | refine zK.zwr ?_ (by omega) | refine zK.zfil ?_ (by omega) | refine zK.zcpy ?_ (by omega) | refine zK.trans ?_ (by assumption) | dsimp only)  (by first | assumption | exact z_up (by first | assumption | exact z_lt (by assumption) | exact z_lt2 (by assumption)) (by assumption))) rfl rfl rfl
  have H_36 : ∀ (x2_36 : Int32) (M2 : Nat → Nat → Int32) (N2 : Nat → Nat → Int64), zK P S.2.1 M2 → Zw p l e { frames := 3, cells := 0, slots := 0, locals := 80 * 3 } s m args below meth c G b 3 (MQ below (zQ G b FQ) args s 0 0 (fun q : Nat => b ≤ q)) 0 0 36 [some (.ref (Q)), some (.ref (A)), some (.int x2_36)] [] (S.1, M2, N2) := fun x2_36 M2 N2 k  => L_36 _ x2_36 M2 N2 k  (Nat.lt_succ_self _)
  have L_2 : ∀ u : Nat, ∀ (x2_2 : Int32) (M2 : Nat → Nat → Int32) (N2 : Nat → Nat → Int64), zK P S.2.1 M2 → (2147483648 - x2_2.toInt).toNat < u → Zw p l e { frames := 3, cells := 0, slots := 0, locals := 80 * 3 } s m args below meth c G b 3 (MQ below (zQ G b FQ) args s 0 0 (fun q : Nat => b ≤ q)) 0 0 2 [some (.ref (Q)), some (.ref (A)), some (.int x2_2)] [] (S.1, M2, N2) := by
    intro u
    induction u with
    | zero => intro x2_2 M2_2 N2_2 k_2 hm_2; exact absurd hm_2 (Nat.not_lt_zero _)
    | succ u_2 ih_2 =>
      intro x2_2 M2_2 N2_2 k_2 hm_2
      refine a_iload_n X dX5_settle_2 rfl ?_
      refine a_aload_n X dX5_settle_3 rfl ?_
      refine a_geti X lf5_47 (by assumption) rfl dX5_settle_4 ?_
      refine a_icmp_ge (tgt := 34) X dX5_settle_7 (by decide) (fun h_7 => ?_) (fun h_7 => ?_)
      · refine a_iconst (v := 0) X dX5_settle_34 (by decide) ?_
        refine a_istore_n X dX5_settle_35 (by decide) ?_
        exact Zw.to2 (H_36 _ _ _ (by (try dsimp only); repeat first | assumption | exact zK.rf | refine zK.zu ?_ (by omega) | refine zK.zu0 ?_ (by decide) | refine zK.zwr ?_ (by omega) | refine zK.zfil ?_ (by omega) | refine zK.zcpy ?_ (by omega) | refine zK.trans ?_ (by assumption) | dsimp only) ) rfl rfl rfl
      · refine a_aload_n X dX5_settle_10 rfl ?_
        refine a_getr X lf5_15 (by assumption) rfl (by omega) dX5_settle_11 ?_
        refine a_iload_n X dX5_settle_14 rfl ?_
        refine a_iconst (v := -1) X dX5_settle_15 (by decide) ?_
        refine a_callSNu X dX5_settle_16 miX7_put lm5_62 (c_put (by assumption) (by first | decide | assumption)) rfl rfl (Nat.le_of_ble_eq_true rfl) ⟨by decide, by decide, by decide, by decide⟩ ?_
        refine a_aload_n X dX5_settle_19 rfl ?_
        refine a_getr X lf5_18 (by assumption) rfl (by omega) dX5_settle_20 ?_
        refine a_iload_n X dX5_settle_23 rfl ?_
        refine a_iconst (v := 0) X dX5_settle_24 (by decide) ?_
        refine a_callSNu X dX5_settle_25 miX7_put lm5_62 (c_put (by assumption) (by first | decide | assumption)) rfl rfl (Nat.le_of_ble_eq_true rfl) ⟨by decide, by decide, by decide, by decide⟩ ?_
        refine a_iinc X dX5_settle_28 (by decide) rfl rfl ?_
        refine a_goto (tgt := 2) X dX5_settle_31 (by decide) ?_
        exact Zw.to2 (ih_2 _ _ _ (by (try dsimp only); repeat first | assumption | exact zK.rf | refine zK.zu ?_ (by omega) | refine zK.zu0 ?_ (by decide) | refine zK.zwr ?_ (by omega) | refine zK.zfil ?_ (by omega) | refine zK.zcpy ?_ (by omega) | refine zK.trans ?_ (by assumption) | dsimp only)  (by first | assumption | exact z_up (by first | assumption | exact z_lt (by assumption) | exact z_lt2 (by assumption)) (by assumption))) rfl rfl rfl
  have H_2 : ∀ (x2_2 : Int32) (M2 : Nat → Nat → Int32) (N2 : Nat → Nat → Int64), zK P S.2.1 M2 → Zw p l e { frames := 3, cells := 0, slots := 0, locals := 80 * 3 } s m args below meth c G b 3 (MQ below (zQ G b FQ) args s 0 0 (fun q : Nat => b ≤ q)) 0 0 2 [some (.ref (Q)), some (.ref (A)), some (.int x2_2)] [] (S.1, M2, N2) := fun x2_2 M2 N2 k  => L_2 _ x2_2 M2 N2 k  (Nat.lt_succ_self _)
  refine a_iconst (v := 0) X dX5_settle_0 (by decide) ?_
  refine a_istore_n X dX5_settle_1 (by decide) ?_
  exact Zw.to2 (H_2 _ _ _ (by (try dsimp only); repeat first | assumption | exact zK.rf | refine zK.zu ?_ (by omega) | refine zK.zu0 ?_ (by decide) | refine zK.zwr ?_ (by omega) | refine zK.zfil ?_ (by omega) | refine zK.zcpy ?_ (by omega) | refine zK.trans ?_ (by assumption) | dsimp only) ) rfl rfl rfl
set_option maxRecDepth 100000 in
theorem s_X5_bySeed {l : Launch} {G : zG} {b : Nat} {S : zS} {P : Nat} {Q : Nat} {A : Nat} {v0 : Int32} (hQ : LX5 S.1 Q) (rQ : P < Q ∧ Q + 8 ≤ P + 200) (hA : LX2 S.1 A) (rA : P < A ∧ A + 13 ≤ P + 200) : zM l G b yX5_bySeed cX5_bySeed 3 none 4 0 0 [.ref Q, .ref A, .int v0] S (fun r z => ∃ M' N', z = (S.1, M', N') ∧ zK P S.2.1 M' ∧ r = none) := by
  refine zM.of miX5_bySeed (Nat.le_of_ble_eq_true rfl) ?_
  intro p e s m args below meth c X hr hname
  generalize hF : ((fun r z => ∃ M' N', z = (S.1, M', N') ∧ zK P S.2.1 M' ∧ r = none) : Option Value → zS → Prop) = FQ
  change Zw p l e { frames := 4, cells := 0, slots := 0, locals := 80 * 4 } s m args below meth c G b 3 (MQ below (zQ G b FQ) args s 0 0 (fun q : Nat => b ≤ q)) 0 0 0 [some (.ref Q), some (.ref A), some (.int v0)] [] S
  obtain ⟨q_lt, q_o, q_line, q_unitOf, q_roundOf, q_leftTags, q_leftGuests, q_leftPreferred, q_ranked⟩ := id hQ
  obtain ⟨a_lt, a_o, a_quota, a_preferred, a_forGuests, a_applicantOf, a_size, a_guestCount, a_score, a_tickets, a_bits, a_party, a_wishCount, a_wishes⟩ := id hA
  refine a_aload_n X dX5_bySeed_0 rfl ?_
  refine a_aload_n X dX5_bySeed_1 rfl ?_
  refine a_iload_n X dX5_bySeed_2 rfl ?_
  refine a_callVx X dX5_bySeed_3 miX5_lineUp lm5_33 (s_X5_lineUp (P := P) (by assumption) (by omega) (by assumption) (by omega)) (by assumption) rfl rfl rfl (Nat.le_of_ble_eq_true rfl) ⟨by decide, by decide, by decide, by decide⟩ (fun r_3 S_3 q_3 => ?_)
  obtain ⟨M_3, N_3, rfl, k_3, rfl⟩ := q_3
  refine a_aload_n X dX5_bySeed_6 rfl ?_
  refine a_aload_n X dX5_bySeed_7 rfl ?_
  refine a_callVx X dX5_bySeed_8 miX5_settle lm5_37 (s_X5_settle (P := P) (by assumption) (by omega) (by assumption) (by omega)) (by assumption) rfl rfl rfl (Nat.le_of_ble_eq_true rfl) ⟨by decide, by decide, by decide, by decide⟩ (fun r_8 S_8 q_8 => ?_)
  obtain ⟨M_8, N_8, rfl, k_8, rfl⟩ := q_8
  refine a_vret X hr dX5_bySeed_11 ⟨by decide, by decide⟩ ?_
  subst hF
  exact ⟨_, _, rfl, (by (try dsimp only); repeat first | assumption | exact zK.rf | refine zK.zu ?_ (by omega) | refine zK.zu0 ?_ (by decide) | refine zK.zwr ?_ (by omega) | refine zK.zfil ?_ (by omega) | refine zK.zcpy ?_ (by omega) | refine zK.trans ?_ (by assumption) | dsimp only), rfl⟩
set_option maxRecDepth 100000 in
theorem s_X5_rankHeld {l : Launch} {G : zG} {b : Nat} {S : zS} {P : Nat} {Q : Nat} {A : Nat} {v0 : Int32} (hQ : LX5 S.1 Q) (rQ : P < Q ∧ Q + 8 ≤ P + 200) (hA : LX2 S.1 A) (rA : P < A ∧ A + 13 ≤ P + 200) : zM l G b yX5_rankHeld cX5_rankHeld 4 (some .int) 3 0 0 [.ref Q, .ref A, .int v0] S (fun r z => z = S ∧ ∃ v : Int32, r = some (.int v)) := by
  refine zM.of miX5_rankHeld (Nat.le_of_ble_eq_true rfl) ?_
  intro p e s m args below meth c X hr hname
  generalize hF : ((fun r z => z = S ∧ ∃ v : Int32, r = some (.int v)) : Option Value → zS → Prop) = FQ
  change Zw p l e { frames := 3, cells := 0, slots := 0, locals := 80 * 3 } s m args below meth c G b 4 (MQ below (zQ G b FQ) args s 0 0 (fun q : Nat => b ≤ q)) 0 0 0 [some (.ref Q), some (.ref A), some (.int v0), none] [] S
  obtain ⟨q_lt, q_o, q_line, q_unitOf, q_roundOf, q_leftTags, q_leftGuests, q_leftPreferred, q_ranked⟩ := id hQ
  obtain ⟨a_lt, a_o, a_quota, a_preferred, a_forGuests, a_applicantOf, a_size, a_guestCount, a_score, a_tickets, a_bits, a_party, a_wishCount, a_wishes⟩ := id hA
  have J_24 : ∀ (x2_24 : Int32) (x3_24 : Int32) (y0_24 : Int32), Zw p l e { frames := 3, cells := 0, slots := 0, locals := 80 * 3 } s m args below meth c G b 4 (MQ below (zQ G b FQ) args s 0 0 (fun q : Nat => b ≤ q)) 0 0 24 [some (.ref (Q)), some (.ref (A)), some (.int x2_24), some (.int x3_24)] [(.int y0_24)] S := by
    intro x2_24 x3_24 y0_24
    refine a_iret X hr dX5_rankHeld_24 ⟨by decide, by decide⟩ ?_
    subst hF
    exact ⟨rfl, ⟨_, rfl⟩⟩
  refine a_aload_n X dX5_rankHeld_0 rfl ?_
  refine a_iload_n X dX5_rankHeld_1 rfl ?_
  refine a_aload_n X dX5_rankHeld_2 rfl ?_
  refine a_getr X lf5_15 (by assumption) rfl (by omega) dX5_rankHeld_3 ?_
  refine a_iload_n X dX5_rankHeld_6 rfl ?_
  refine a_callSNv X dX5_rankHeld_7 miX7_cell lm5_69 (c_cell (by assumption) (by first | decide | assumption)) rfl rfl (Nat.le_of_ble_eq_true rfl) ⟨by decide, by decide, by decide, by decide⟩ ?_
  refine a_callVx X dX5_rankHeld_10 miX2_rankOf lm5_125 (s_X2_rankOf (P := P) (by assumption) (by omega)) (by assumption) rfl rfl rfl (Nat.le_of_ble_eq_true rfl) ⟨by decide, by decide, by decide, by decide⟩ (fun r_10 S_10 q_10 => ?_)
  obtain ⟨rfl, ⟨v_10, rfl⟩⟩ := q_10
  refine a_istore_n X dX5_rankHeld_13 (by decide) ?_
  refine a_iload_n X dX5_rankHeld_14 rfl ?_
  refine a_iconst (v := -1) X dX5_rankHeld_15 (by decide) ?_
  refine a_icmp_ne (tgt := 23) X dX5_rankHeld_16 (by decide) (fun h_16 => ?_) (fun h_16 => ?_)
  · refine a_iload_n X dX5_rankHeld_23 rfl ?_
    exact Zw.to2 (J_24 _ _ _ ) rfl rfl rfl
  · refine a_iconst (v := 3) X dX5_rankHeld_19 (by decide) ?_
    refine a_goto (tgt := 24) X dX5_rankHeld_20 (by decide) ?_
    exact Zw.to2 (J_24 _ _ _ ) rfl rfl rfl
set_option maxRecDepth 100000 in
theorem s_X5_isWaiting {l : Launch} {G : zG} {b : Nat} {S : zS} {P : Nat} {Q : Nat} {A : Nat} {v0 : Int32} {v1 : Int32} (hQ : LX5 S.1 Q) (rQ : P < Q ∧ Q + 8 ≤ P + 200) (hA : LX2 S.1 A) (rA : P < A ∧ A + 13 ≤ P + 200) : zM l G b yX5_isWaiting cX5_isWaiting 4 (some .boolean) 3 0 0 [.ref Q, .ref A, .int v0, .int v1] S (fun r z => z = S ∧ ∃ v : Int32, r = some (.int v) ∧ (v = 0 ∨ v = 1)) := by
  refine zM.of miX5_isWaiting (Nat.le_of_ble_eq_true rfl) ?_
  intro p e s m args below meth c X hr hname
  generalize hF : ((fun r z => z = S ∧ ∃ v : Int32, r = some (.int v) ∧ (v = 0 ∨ v = 1)) : Option Value → zS → Prop) = FQ
  change Zw p l e { frames := 3, cells := 0, slots := 0, locals := 80 * 3 } s m args below meth c G b 4 (MQ below (zQ G b FQ) args s 0 0 (fun q : Nat => b ≤ q)) 0 0 0 [some (.ref Q), some (.ref A), some (.int v0), some (.int v1)] [] S
  obtain ⟨q_lt, q_o, q_line, q_unitOf, q_roundOf, q_leftTags, q_leftGuests, q_leftPreferred, q_ranked⟩ := id hQ
  obtain ⟨a_lt, a_o, a_quota, a_preferred, a_forGuests, a_applicantOf, a_size, a_guestCount, a_score, a_tickets, a_bits, a_party, a_wishCount, a_wishes⟩ := id hA
  have J_27 : ∀ (x2_27 : Int32) (x3_27 : Int32) (y0_27 : Int32), (y0_27 = 0 ∨ y0_27 = 1) → Zw p l e { frames := 3, cells := 0, slots := 0, locals := 80 * 3 } s m args below meth c G b 4 (MQ below (zQ G b FQ) args s 0 0 (fun q : Nat => b ≤ q)) 0 0 27 [some (.ref (Q)), some (.ref (A)), some (.int x2_27), some (.int x3_27)] [(.int y0_27)] S := by
    intro x2_27 x3_27 y0_27 f0_27
    refine a_zret X (by first | exact Or.inl rfl | exact Or.inr rfl | assumption) hr dX5_isWaiting_27 ⟨by decide, by decide⟩ ?_
    subst hF
    exact ⟨rfl, ⟨_, rfl, (by first | exact Or.inl rfl | exact Or.inr rfl | assumption)⟩⟩
  have J_26 : ∀ (x2_26 : Int32) (x3_26 : Int32), Zw p l e { frames := 3, cells := 0, slots := 0, locals := 80 * 3 } s m args below meth c G b 4 (MQ below (zQ G b FQ) args s 0 0 (fun q : Nat => b ≤ q)) 0 0 26 [some (.ref (Q)), some (.ref (A)), some (.int x2_26), some (.int x3_26)] [] S := by
    intro x2_26 x3_26
    refine a_iconst (v := 0) X dX5_isWaiting_26 (by decide) ?_
    exact Zw.to2 (J_27 _ _ _ (by first | exact Or.inl rfl | exact Or.inr rfl | assumption)) rfl rfl rfl
  refine a_aload_n X dX5_isWaiting_0 rfl ?_
  refine a_getr X lf5_15 (by assumption) rfl (by omega) dX5_isWaiting_1 ?_
  refine a_iload_n X dX5_isWaiting_4 rfl ?_
  refine a_callSNv X dX5_isWaiting_5 miX7_cell lm5_69 (c_cell (by assumption) (by first | decide | assumption)) rfl rfl (Nat.le_of_ble_eq_true rfl) ⟨by decide, by decide, by decide, by decide⟩ ?_
  refine a_iconst (v := -1) X dX5_isWaiting_8 (by decide) ?_
  refine a_icmp_ne (tgt := 26) X dX5_isWaiting_9 (by decide) (fun h_9 => ?_) (fun h_9 => ?_)
  · exact Zw.to2 (J_26 _ _ ) rfl rfl rfl
  · refine a_aload_n X dX5_isWaiting_12 rfl ?_
    refine a_iload_n X dX5_isWaiting_13 rfl ?_
    refine a_iload_n X dX5_isWaiting_14 rfl ?_
    refine a_callVx X dX5_isWaiting_15 miX2_rankOf lm5_125 (s_X2_rankOf (P := P) (by assumption) (by omega)) (by assumption) rfl rfl rfl (Nat.le_of_ble_eq_true rfl) ⟨by decide, by decide, by decide, by decide⟩ (fun r_15 S_15 q_15 => ?_)
    obtain ⟨rfl, ⟨v_15, rfl⟩⟩ := q_15
    refine a_iconst (v := -1) X dX5_isWaiting_18 (by decide) ?_
    refine a_icmp_eq (tgt := 26) X dX5_isWaiting_19 (by decide) (fun h_19 => ?_) (fun h_19 => ?_)
    · exact Zw.to2 (J_26 _ _ ) rfl rfl rfl
    · refine a_iconst (v := 1) X dX5_isWaiting_22 (by decide) ?_
      refine a_goto (tgt := 27) X dX5_isWaiting_23 (by decide) ?_
      exact Zw.to2 (J_27 _ _ _ (by first | exact Or.inl rfl | exact Or.inr rfl | assumption)) rfl rfl rfl
set_option maxRecDepth 100000 in
theorem s_X5_holders {l : Launch} {G : zG} {b : Nat} {S : zS} {P : Nat} {Q : Nat} {A : Nat} {v0 : Int32} (hQ : LX5 S.1 Q) (rQ : P < Q ∧ Q + 8 ≤ P + 200) (hA : LX2 S.1 A) (rA : P < A ∧ A + 13 ≤ P + 200) : zM l G b yX5_holders cX5_holders 5 (some .int) 1 0 0 [.ref Q, .ref A, .int v0] S (fun r z => z = S ∧ ∃ v : Int32, r = some (.int v)) := by
  refine zM.of miX5_holders (Nat.le_of_ble_eq_true rfl) ?_
  intro p e s m args below meth c X hr hname
  generalize hF : ((fun r z => z = S ∧ ∃ v : Int32, r = some (.int v)) : Option Value → zS → Prop) = FQ
  change Zw p l e { frames := 1, cells := 0, slots := 0, locals := 80 * 1 } s m args below meth c G b 5 (MQ below (zQ G b FQ) args s 0 0 (fun q : Nat => b ≤ q)) 0 0 0 [some (.ref Q), some (.ref A), some (.int v0), none, none] [] S
  obtain ⟨q_lt, q_o, q_line, q_unitOf, q_roundOf, q_leftTags, q_leftGuests, q_leftPreferred, q_ranked⟩ := id hQ
  obtain ⟨a_lt, a_o, a_quota, a_preferred, a_forGuests, a_applicantOf, a_size, a_guestCount, a_score, a_tickets, a_bits, a_party, a_wishCount, a_wishes⟩ := id hA
  have L_5 : ∀ u : Nat, ∀ (x2_5 : Int32) (x3_5 : Int32) (x4_5 : Int32), (2147483648 - x4_5.toInt).toNat < u → Zw p l e { frames := 1, cells := 0, slots := 0, locals := 80 * 1 } s m args below meth c G b 5 (MQ below (zQ G b FQ) args s 0 0 (fun q : Nat => b ≤ q)) 0 0 5 [some (.ref (Q)), some (.ref (A)), some (.int x2_5), some (.int x3_5), some (.int x4_5)] [] S := by
    intro u
    induction u with
    | zero => intro x2_5 x3_5 x4_5 hm_5; exact absurd hm_5 (Nat.not_lt_zero _)
    | succ u_5 ih_5 =>
      intro x2_5 x3_5 x4_5 hm_5
      have J_33 : ∀ (x2_33 : Int32) (x3_33 : Int32) (x4_33 : Int32) (y0_33 : Int32) (y1_33 : Int32), (y1_33 = 0 ∨ y1_33 = 1) → ((2147483648 - x4_33.toInt).toNat < u_5 + 1) → (x4_33.toInt < 2147483647) → Zw p l e { frames := 1, cells := 0, slots := 0, locals := 80 * 1 } s m args below meth c G b 5 (MQ below (zQ G b FQ) args s 0 0 (fun q : Nat => b ≤ q)) 0 0 33 [some (.ref (Q)), some (.ref (A)), some (.int x2_33), some (.int x3_33), some (.int x4_33)] [(.int y1_33), (.int y0_33)] S := by
        intro x2_33 x3_33 x4_33 y0_33 y1_33 f0_33 f1_33 f2_33
        refine a_iadd X dX5_holders_33 ?_
        refine a_istore_n X dX5_holders_34 (by decide) ?_
        refine a_iinc X dX5_holders_35 (by decide) rfl rfl ?_
        refine a_goto (tgt := 5) X dX5_holders_38 (by decide) ?_
        exact Zw.to2 (ih_5 _ _ _  (by first | assumption | exact z_up (by first | assumption | exact z_lt (by assumption) | exact z_lt2 (by assumption)) (by assumption))) rfl rfl rfl
      refine a_iload X dX5_holders_5 rfl ?_
      refine a_aload_n X dX5_holders_7 rfl ?_
      refine a_geti X lf5_47 (by assumption) rfl dX5_holders_8 ?_
      refine a_icmp_ge (tgt := 41) X dX5_holders_11 (by decide) (fun h_11 => ?_) (fun h_11 => ?_)
      · refine a_iload_n X dX5_holders_41 rfl ?_
        refine a_iret X hr dX5_holders_42 ⟨by decide, by decide⟩ ?_
        subst hF
        exact ⟨rfl, ⟨_, rfl⟩⟩
      · refine a_iload_n X dX5_holders_14 rfl ?_
        refine a_aload_n X dX5_holders_15 rfl ?_
        refine a_getr X lf5_15 (by assumption) rfl (by omega) dX5_holders_16 ?_
        refine a_iload X dX5_holders_19 rfl ?_
        refine a_callSNv X dX5_holders_21 miX7_cell lm5_69 (c_cell (by assumption) (by first | decide | assumption)) rfl rfl (Nat.le_of_ble_eq_true rfl) ⟨by decide, by decide, by decide, by decide⟩ ?_
        refine a_iload_n X dX5_holders_24 rfl ?_
        refine a_icmp_ne (tgt := 32) X dX5_holders_25 (by decide) (fun h_25 => ?_) (fun h_25 => ?_)
        · refine a_iconst (v := 0) X dX5_holders_32 (by decide) ?_
          exact Zw.to2 (J_33 _ _ _ _ _ (by first | exact Or.inl rfl | exact Or.inr rfl | assumption) (by first | assumption | exact z_up (by first | assumption | exact z_lt (by assumption) | exact z_lt2 (by assumption)) (by assumption)) (by first | assumption | exact z_lt (by assumption) | exact z_lt2 (by assumption))) rfl rfl rfl
        · refine a_iconst (v := 1) X dX5_holders_28 (by decide) ?_
          refine a_goto (tgt := 33) X dX5_holders_29 (by decide) ?_
          exact Zw.to2 (J_33 _ _ _ _ _ (by first | exact Or.inl rfl | exact Or.inr rfl | assumption) (by first | assumption | exact z_up (by first | assumption | exact z_lt (by assumption) | exact z_lt2 (by assumption)) (by assumption)) (by first | assumption | exact z_lt (by assumption) | exact z_lt2 (by assumption))) rfl rfl rfl
  have H_5 : ∀ (x2_5 : Int32) (x3_5 : Int32) (x4_5 : Int32), Zw p l e { frames := 1, cells := 0, slots := 0, locals := 80 * 1 } s m args below meth c G b 5 (MQ below (zQ G b FQ) args s 0 0 (fun q : Nat => b ≤ q)) 0 0 5 [some (.ref (Q)), some (.ref (A)), some (.int x2_5), some (.int x3_5), some (.int x4_5)] [] S := fun x2_5 x3_5 x4_5  => L_5 _ x2_5 x3_5 x4_5  (Nat.lt_succ_self _)
  refine a_iconst (v := 0) X dX5_holders_0 (by decide) ?_
  refine a_istore_n X dX5_holders_1 (by decide) ?_
  refine a_iconst (v := 0) X dX5_holders_2 (by decide) ?_
  refine a_istore X dX5_holders_3 (by decide) ?_
  exact Zw.to2 (H_5 _ _ _ ) rfl rfl rfl
set_option maxRecDepth 100000 in
theorem s_X5_fewestPoints {l : Launch} {G : zG} {b : Nat} {S : zS} {P : Nat} {Q : Nat} {A : Nat} {v0 : Int32} (hQ : LX5 S.1 Q) (rQ : P < Q ∧ Q + 8 ≤ P + 200) (hA : LX2 S.1 A) (rA : P < A ∧ A + 13 ≤ P + 200) : zM l G b yX5_fewestPoints cX5_fewestPoints 5 (some .int) 1 0 0 [.ref Q, .ref A, .int v0] S (fun r z => z = S ∧ ∃ v : Int32, r = some (.int v)) := by
  refine zM.of miX5_fewestPoints (Nat.le_of_ble_eq_true rfl) ?_
  intro p e s m args below meth c X hr hname
  generalize hF : ((fun r z => z = S ∧ ∃ v : Int32, r = some (.int v)) : Option Value → zS → Prop) = FQ
  change Zw p l e { frames := 1, cells := 0, slots := 0, locals := 80 * 1 } s m args below meth c G b 5 (MQ below (zQ G b FQ) args s 0 0 (fun q : Nat => b ≤ q)) 0 0 0 [some (.ref Q), some (.ref A), some (.int v0), none, none] [] S
  obtain ⟨q_lt, q_o, q_line, q_unitOf, q_roundOf, q_leftTags, q_leftGuests, q_leftPreferred, q_ranked⟩ := id hQ
  obtain ⟨a_lt, a_o, a_quota, a_preferred, a_forGuests, a_applicantOf, a_size, a_guestCount, a_score, a_tickets, a_bits, a_party, a_wishCount, a_wishes⟩ := id hA
  have L_5 : ∀ u : Nat, ∀ (x2_5 : Int32) (x3_5 : Int32) (x4_5 : Int32), (2147483648 - x4_5.toInt).toNat < u → Zw p l e { frames := 1, cells := 0, slots := 0, locals := 80 * 1 } s m args below meth c G b 5 (MQ below (zQ G b FQ) args s 0 0 (fun q : Nat => b ≤ q)) 0 0 5 [some (.ref (Q)), some (.ref (A)), some (.int x2_5), some (.int x3_5), some (.int x4_5)] [] S := by
    intro u
    induction u with
    | zero => intro x2_5 x3_5 x4_5 hm_5; exact absurd hm_5 (Nat.not_lt_zero _)
    | succ u_5 ih_5 =>
      intro x2_5 x3_5 x4_5 hm_5
      have J_55 : ∀ (x2_55 : Int32) (x3_55 : Int32) (x4_55 : Int32), ((2147483648 - x4_55.toInt).toNat < u_5 + 1) → (x4_55.toInt < 2147483647) → Zw p l e { frames := 1, cells := 0, slots := 0, locals := 80 * 1 } s m args below meth c G b 5 (MQ below (zQ G b FQ) args s 0 0 (fun q : Nat => b ≤ q)) 0 0 55 [some (.ref (Q)), some (.ref (A)), some (.int x2_55), some (.int x3_55), some (.int x4_55)] [] S := by
        intro x2_55 x3_55 x4_55 f0_55 f1_55
        refine a_iinc X dX5_fewestPoints_55 (by decide) rfl rfl ?_
        refine a_goto (tgt := 5) X dX5_fewestPoints_58 (by decide) ?_
        exact Zw.to2 (ih_5 _ _ _  (by first | assumption | exact z_up (by first | assumption | exact z_lt (by assumption) | exact z_lt2 (by assumption)) (by assumption))) rfl rfl rfl
      have J_45 : ∀ (x2_45 : Int32) (x3_45 : Int32) (x4_45 : Int32), ((2147483648 - x4_45.toInt).toNat < u_5 + 1) → (x4_45.toInt < 2147483647) → Zw p l e { frames := 1, cells := 0, slots := 0, locals := 80 * 1 } s m args below meth c G b 5 (MQ below (zQ G b FQ) args s 0 0 (fun q : Nat => b ≤ q)) 0 0 45 [some (.ref (Q)), some (.ref (A)), some (.int x2_45), some (.int x3_45), some (.int x4_45)] [] S := by
        intro x2_45 x3_45 x4_45 f0_45 f1_45
        refine a_aload_n X dX5_fewestPoints_45 rfl ?_
        refine a_getr X lf5_116 (by assumption) rfl (by omega) dX5_fewestPoints_46 ?_
        refine a_iload X dX5_fewestPoints_49 rfl ?_
        refine a_callSNv X dX5_fewestPoints_51 miX7_cell lm5_69 (c_cell (by assumption) (by first | decide | assumption)) rfl rfl (Nat.le_of_ble_eq_true rfl) ⟨by decide, by decide, by decide, by decide⟩ ?_
        refine a_istore_n X dX5_fewestPoints_54 (by decide) ?_
        exact Zw.to2 (J_55 _ _ _ (by first | assumption | exact z_up (by first | assumption | exact z_lt (by assumption) | exact z_lt2 (by assumption)) (by assumption)) (by first | assumption | exact z_lt (by assumption) | exact z_lt2 (by assumption))) rfl rfl rfl
      refine a_iload X dX5_fewestPoints_5 rfl ?_
      refine a_aload_n X dX5_fewestPoints_7 rfl ?_
      refine a_geti X lf5_47 (by assumption) rfl dX5_fewestPoints_8 ?_
      refine a_icmp_ge (tgt := 61) X dX5_fewestPoints_11 (by decide) (fun h_11 => ?_) (fun h_11 => ?_)
      · refine a_iload_n X dX5_fewestPoints_61 rfl ?_
        refine a_iret X hr dX5_fewestPoints_62 ⟨by decide, by decide⟩ ?_
        subst hF
        exact ⟨rfl, ⟨_, rfl⟩⟩
      · refine a_aload_n X dX5_fewestPoints_14 rfl ?_
        refine a_getr X lf5_15 (by assumption) rfl (by omega) dX5_fewestPoints_15 ?_
        refine a_iload X dX5_fewestPoints_18 rfl ?_
        refine a_callSNv X dX5_fewestPoints_20 miX7_cell lm5_69 (c_cell (by assumption) (by first | decide | assumption)) rfl rfl (Nat.le_of_ble_eq_true rfl) ⟨by decide, by decide, by decide, by decide⟩ ?_
        refine a_iload_n X dX5_fewestPoints_23 rfl ?_
        refine a_icmp_ne (tgt := 55) X dX5_fewestPoints_24 (by decide) (fun h_24 => ?_) (fun h_24 => ?_)
        · exact Zw.to2 (J_55 _ _ _ (by first | assumption | exact z_up (by first | assumption | exact z_lt (by assumption) | exact z_lt2 (by assumption)) (by assumption)) (by first | assumption | exact z_lt (by assumption) | exact z_lt2 (by assumption))) rfl rfl rfl
        · refine a_iload_n X dX5_fewestPoints_27 rfl ?_
          refine a_iconst (v := -1) X dX5_fewestPoints_28 (by decide) ?_
          refine a_icmp_eq (tgt := 45) X dX5_fewestPoints_29 (by decide) (fun h_29 => ?_) (fun h_29 => ?_)
          · exact Zw.to2 (J_45 _ _ _ (by first | assumption | exact z_up (by first | assumption | exact z_lt (by assumption) | exact z_lt2 (by assumption)) (by assumption)) (by first | assumption | exact z_lt (by assumption) | exact z_lt2 (by assumption))) rfl rfl rfl
          · refine a_aload_n X dX5_fewestPoints_32 rfl ?_
            refine a_getr X lf5_116 (by assumption) rfl (by omega) dX5_fewestPoints_33 ?_
            refine a_iload X dX5_fewestPoints_36 rfl ?_
            refine a_callSNv X dX5_fewestPoints_38 miX7_cell lm5_69 (c_cell (by assumption) (by first | decide | assumption)) rfl rfl (Nat.le_of_ble_eq_true rfl) ⟨by decide, by decide, by decide, by decide⟩ ?_
            refine a_iload_n X dX5_fewestPoints_41 rfl ?_
            refine a_icmp_ge (tgt := 55) X dX5_fewestPoints_42 (by decide) (fun h_42 => ?_) (fun h_42 => ?_)
            · exact Zw.to2 (J_55 _ _ _ (by first | assumption | exact z_up (by first | assumption | exact z_lt (by assumption) | exact z_lt2 (by assumption)) (by assumption)) (by first | assumption | exact z_lt (by assumption) | exact z_lt2 (by assumption))) rfl rfl rfl
            · exact Zw.to2 (J_45 _ _ _ (by first | assumption | exact z_up (by first | assumption | exact z_lt (by assumption) | exact z_lt2 (by assumption)) (by assumption)) (by first | assumption | exact z_lt (by assumption) | exact z_lt2 (by assumption))) rfl rfl rfl
  have H_5 : ∀ (x2_5 : Int32) (x3_5 : Int32) (x4_5 : Int32), Zw p l e { frames := 1, cells := 0, slots := 0, locals := 80 * 1 } s m args below meth c G b 5 (MQ below (zQ G b FQ) args s 0 0 (fun q : Nat => b ≤ q)) 0 0 5 [some (.ref (Q)), some (.ref (A)), some (.int x2_5), some (.int x3_5), some (.int x4_5)] [] S := fun x2_5 x3_5 x4_5  => L_5 _ x2_5 x3_5 x4_5  (Nat.lt_succ_self _)
  refine a_iconst (v := -1) X dX5_fewestPoints_0 (by decide) ?_
  refine a_istore_n X dX5_fewestPoints_1 (by decide) ?_
  refine a_iconst (v := 0) X dX5_fewestPoints_2 (by decide) ?_
  refine a_istore X dX5_fewestPoints_3 (by decide) ?_
  exact Zw.to2 (H_5 _ _ _ ) rfl rfl rfl
set_option maxRecDepth 100000 in
theorem s_X5_tagsGiven {l : Launch} {G : zG} {b : Nat} {S : zS} {P : Nat} {Q : Nat} {A : Nat} (hQ : LX5 S.1 Q) (rQ : P < Q ∧ Q + 8 ≤ P + 200) (hA : LX2 S.1 A) (rA : P < A ∧ A + 13 ≤ P + 200) : zM l G b yX5_tagsGiven cX5_tagsGiven 4 (some .int) 1 0 0 [.ref Q, .ref A] S (fun r z => z = S ∧ ∃ v : Int32, r = some (.int v)) := by
  refine zM.of miX5_tagsGiven (Nat.le_of_ble_eq_true rfl) ?_
  intro p e s m args below meth c X hr hname
  generalize hF : ((fun r z => z = S ∧ ∃ v : Int32, r = some (.int v)) : Option Value → zS → Prop) = FQ
  change Zw p l e { frames := 1, cells := 0, slots := 0, locals := 80 * 1 } s m args below meth c G b 4 (MQ below (zQ G b FQ) args s 0 0 (fun q : Nat => b ≤ q)) 0 0 0 [some (.ref Q), some (.ref A), none, none] [] S
  obtain ⟨q_lt, q_o, q_line, q_unitOf, q_roundOf, q_leftTags, q_leftGuests, q_leftPreferred, q_ranked⟩ := id hQ
  obtain ⟨a_lt, a_o, a_quota, a_preferred, a_forGuests, a_applicantOf, a_size, a_guestCount, a_score, a_tickets, a_bits, a_party, a_wishCount, a_wishes⟩ := id hA
  have L_4 : ∀ u : Nat, ∀ (x2_4 : Int32) (x3_4 : Int32), (2147483648 - x3_4.toInt).toNat < u → Zw p l e { frames := 1, cells := 0, slots := 0, locals := 80 * 1 } s m args below meth c G b 4 (MQ below (zQ G b FQ) args s 0 0 (fun q : Nat => b ≤ q)) 0 0 4 [some (.ref (Q)), some (.ref (A)), some (.int x2_4), some (.int x3_4)] [] S := by
    intro u
    induction u with
    | zero => intro x2_4 x3_4 hm_4; exact absurd hm_4 (Nat.not_lt_zero _)
    | succ u_4 ih_4 =>
      intro x2_4 x3_4 hm_4
      have J_37 : ∀ (x2_37 : Int32) (x3_37 : Int32) (y0_37 : Int32) (y1_37 : Int32), ((2147483648 - x3_37.toInt).toNat < u_4 + 1) → (x3_37.toInt < 2147483647) → Zw p l e { frames := 1, cells := 0, slots := 0, locals := 80 * 1 } s m args below meth c G b 4 (MQ below (zQ G b FQ) args s 0 0 (fun q : Nat => b ≤ q)) 0 0 37 [some (.ref (Q)), some (.ref (A)), some (.int x2_37), some (.int x3_37)] [(.int y1_37), (.int y0_37)] S := by
        intro x2_37 x3_37 y0_37 y1_37 f0_37 f1_37
        refine a_iadd X dX5_tagsGiven_37 ?_
        refine a_istore_n X dX5_tagsGiven_38 (by decide) ?_
        refine a_iinc X dX5_tagsGiven_39 (by decide) rfl rfl ?_
        refine a_goto (tgt := 4) X dX5_tagsGiven_42 (by decide) ?_
        exact Zw.to2 (ih_4 _ _  (by first | assumption | exact z_up (by first | assumption | exact z_lt (by assumption) | exact z_lt2 (by assumption)) (by assumption))) rfl rfl rfl
      refine a_iload_n X dX5_tagsGiven_4 rfl ?_
      refine a_aload_n X dX5_tagsGiven_5 rfl ?_
      refine a_geti X lf5_47 (by assumption) rfl dX5_tagsGiven_6 ?_
      refine a_icmp_ge (tgt := 45) X dX5_tagsGiven_9 (by decide) (fun h_9 => ?_) (fun h_9 => ?_)
      · refine a_iload_n X dX5_tagsGiven_45 rfl ?_
        refine a_iret X hr dX5_tagsGiven_46 ⟨by decide, by decide⟩ ?_
        subst hF
        exact ⟨rfl, ⟨_, rfl⟩⟩
      · refine a_iload_n X dX5_tagsGiven_12 rfl ?_
        refine a_aload_n X dX5_tagsGiven_13 rfl ?_
        refine a_getr X lf5_15 (by assumption) rfl (by omega) dX5_tagsGiven_14 ?_
        refine a_iload_n X dX5_tagsGiven_17 rfl ?_
        refine a_callSNv X dX5_tagsGiven_18 miX7_cell lm5_69 (c_cell (by assumption) (by first | decide | assumption)) rfl rfl (Nat.le_of_ble_eq_true rfl) ⟨by decide, by decide, by decide, by decide⟩ ?_
        refine a_iconst (v := -1) X dX5_tagsGiven_21 (by decide) ?_
        refine a_icmp_ne (tgt := 29) X dX5_tagsGiven_22 (by decide) (fun h_22 => ?_) (fun h_22 => ?_)
        · refine a_aload_n X dX5_tagsGiven_29 rfl ?_
          refine a_getr X lf5_106 (by assumption) rfl (by omega) dX5_tagsGiven_30 ?_
          refine a_iload_n X dX5_tagsGiven_33 rfl ?_
          refine a_callSNv X dX5_tagsGiven_34 miX7_cell lm5_69 (c_cell (by assumption) (by first | decide | assumption)) rfl rfl (Nat.le_of_ble_eq_true rfl) ⟨by decide, by decide, by decide, by decide⟩ ?_
          exact Zw.to2 (J_37 _ _ _ _ (by first | assumption | exact z_up (by first | assumption | exact z_lt (by assumption) | exact z_lt2 (by assumption)) (by assumption)) (by first | assumption | exact z_lt (by assumption) | exact z_lt2 (by assumption))) rfl rfl rfl
        · refine a_iconst (v := 0) X dX5_tagsGiven_25 (by decide) ?_
          refine a_goto (tgt := 37) X dX5_tagsGiven_26 (by decide) ?_
          exact Zw.to2 (J_37 _ _ _ _ (by first | assumption | exact z_up (by first | assumption | exact z_lt (by assumption) | exact z_lt2 (by assumption)) (by assumption)) (by first | assumption | exact z_lt (by assumption) | exact z_lt2 (by assumption))) rfl rfl rfl
  have H_4 : ∀ (x2_4 : Int32) (x3_4 : Int32), Zw p l e { frames := 1, cells := 0, slots := 0, locals := 80 * 1 } s m args below meth c G b 4 (MQ below (zQ G b FQ) args s 0 0 (fun q : Nat => b ≤ q)) 0 0 4 [some (.ref (Q)), some (.ref (A)), some (.int x2_4), some (.int x3_4)] [] S := fun x2_4 x3_4  => L_4 _ x2_4 x3_4  (Nat.lt_succ_self _)
  refine a_iconst (v := 0) X dX5_tagsGiven_0 (by decide) ?_
  refine a_istore_n X dX5_tagsGiven_1 (by decide) ?_
  refine a_iconst (v := 0) X dX5_tagsGiven_2 (by decide) ?_
  refine a_istore_n X dX5_tagsGiven_3 (by decide) ?_
  exact Zw.to2 (H_4 _ _ ) rfl rfl rfl
set_option maxRecDepth 100000 in
theorem s_X5_scoreBehind {l : Launch} {G : zG} {b : Nat} {S : zS} {P : Nat} {Q : Nat} {A : Nat} {v0 : Int32} {v1 : Int32} (hQ : LX5 S.1 Q) (rQ : P < Q ∧ Q + 8 ≤ P + 200) (hA : LX2 S.1 A) (rA : P < A ∧ A + 13 ≤ P + 200) : zM l G b yX5_scoreBehind cX5_scoreBehind 4 (some .int) 3 0 0 [.ref Q, .ref A, .int v0, .int v1] S (fun r z => z = S ∧ ∃ v : Int32, r = some (.int v)) := by
  refine zM.of miX5_scoreBehind (Nat.le_of_ble_eq_true rfl) ?_
  intro p e s m args below meth c X hr hname
  generalize hF : ((fun r z => z = S ∧ ∃ v : Int32, r = some (.int v)) : Option Value → zS → Prop) = FQ
  change Zw p l e { frames := 3, cells := 0, slots := 0, locals := 80 * 3 } s m args below meth c G b 4 (MQ below (zQ G b FQ) args s 0 0 (fun q : Nat => b ≤ q)) 0 0 0 [some (.ref Q), some (.ref A), some (.int v0), some (.int v1)] [] S
  obtain ⟨q_lt, q_o, q_line, q_unitOf, q_roundOf, q_leftTags, q_leftGuests, q_leftPreferred, q_ranked⟩ := id hQ
  obtain ⟨a_lt, a_o, a_quota, a_preferred, a_forGuests, a_applicantOf, a_size, a_guestCount, a_score, a_tickets, a_bits, a_party, a_wishCount, a_wishes⟩ := id hA
  have J_48 : ∀ (x2_48 : Int32) (x3_48 : Int32) (y0_48 : Int32), Zw p l e { frames := 3, cells := 0, slots := 0, locals := 80 * 3 } s m args below meth c G b 4 (MQ below (zQ G b FQ) args s 0 0 (fun q : Nat => b ≤ q)) 0 0 48 [some (.ref (Q)), some (.ref (A)), some (.int x2_48), some (.int x3_48)] [(.int y0_48)] S := by
    intro x2_48 x3_48 y0_48
    refine a_iret X hr dX5_scoreBehind_48 ⟨by decide, by decide⟩ ?_
    subst hF
    exact ⟨rfl, ⟨_, rfl⟩⟩
  refine a_aload_n X dX5_scoreBehind_0 rfl ?_
  refine a_getr X lf5_119 (by assumption) rfl (by omega) dX5_scoreBehind_1 ?_
  refine a_iload_n X dX5_scoreBehind_4 rfl ?_
  refine a_callSNv X dX5_scoreBehind_5 miX7_cell lm5_69 (c_cell (by assumption) (by first | decide | assumption)) rfl rfl (Nat.le_of_ble_eq_true rfl) ⟨by decide, by decide, by decide, by decide⟩ ?_
  refine a_if_ne (tgt := 13) X dX5_scoreBehind_8 (by decide) (fun h_8 => ?_) (fun h_8 => ?_)
  · refine a_aload_n X dX5_scoreBehind_13 rfl ?_
    refine a_getr X lf5_15 (by assumption) rfl (by omega) dX5_scoreBehind_14 ?_
    refine a_iload_n X dX5_scoreBehind_17 rfl ?_
    refine a_callSNv X dX5_scoreBehind_18 miX7_cell lm5_69 (c_cell (by assumption) (by first | decide | assumption)) rfl rfl (Nat.le_of_ble_eq_true rfl) ⟨by decide, by decide, by decide, by decide⟩ ?_
    refine a_iconst (v := -1) X dX5_scoreBehind_21 (by decide) ?_
    refine a_icmp_ne (tgt := 34) X dX5_scoreBehind_22 (by decide) (fun h_22 => ?_) (fun h_22 => ?_)
    · refine a_aload_n X dX5_scoreBehind_34 rfl ?_
      refine a_aload_n X dX5_scoreBehind_35 rfl ?_
      refine a_iload_n X dX5_scoreBehind_36 rfl ?_
      refine a_callVx X dX5_scoreBehind_37 miX5_hasFirst lm5_133 (s_X5_hasFirst (P := P) (by assumption) (by omega) (by assumption) (by omega)) (by assumption) rfl rfl rfl (Nat.le_of_ble_eq_true rfl) ⟨by decide, by decide, by decide, by decide⟩ (fun r_37 S_37 q_37 => ?_)
      obtain ⟨rfl, ⟨v_37, rfl, b_37⟩⟩ := q_37
      refine a_if_eq (tgt := 47) X dX5_scoreBehind_40 (by decide) (fun h_40 => ?_) (fun h_40 => ?_)
      · refine a_iload_n X dX5_scoreBehind_47 rfl ?_
        exact Zw.to2 (J_48 _ _ _ ) rfl rfl rfl
      · refine a_iconst (v := 0) X dX5_scoreBehind_43 (by decide) ?_
        refine a_goto (tgt := 48) X dX5_scoreBehind_44 (by decide) ?_
        exact Zw.to2 (J_48 _ _ _ ) rfl rfl rfl
    · refine a_iload_n X dX5_scoreBehind_25 rfl ?_
      refine a_iconst (v := 1) X dX5_scoreBehind_26 (by decide) ?_
      refine a_iadd X dX5_scoreBehind_27 ?_
      refine a_bipush (v := 20) X dX5_scoreBehind_28 (by decide) ?_
      refine a_mmin X lm5_128 zmath2 zmath0 zmathc2 ⟨by decide, Nat.le_of_ble_eq_true rfl, by decide, by decide⟩ dX5_scoreBehind_30 ?_
      refine a_iret X hr dX5_scoreBehind_33 ⟨by decide, by decide⟩ ?_
      subst hF
      exact ⟨rfl, ⟨_, rfl⟩⟩
  · refine a_iload_n X dX5_scoreBehind_11 rfl ?_
    refine a_iret X hr dX5_scoreBehind_12 ⟨by decide, by decide⟩ ?_
    subst hF
    exact ⟨rfl, ⟨_, rfl⟩⟩
