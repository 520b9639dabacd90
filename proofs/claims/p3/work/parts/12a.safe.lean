/-- rows outside P .. P + 199 are as they were, and so is slot 1 of row P -/
def zK (P : Nat) (M M' : Nat → Nat → Int32) : Prop := (∀ a : Nat, a < P ∨ P + 200 ≤ a → M' a = M a) ∧ M' P 1 = M P 1
theorem zK.rf {P : Nat} {M : Nat → Nat → Int32} : zK P M M := ⟨fun _ _ => rfl, rfl⟩
theorem zK.trans {P : Nat} {M M' M2 : Nat → Nat → Int32} (h : zK P M M') (h' : zK P M' M2) : zK P M M2 := ⟨fun a ha => (h'.1 a ha).trans (h.1 a ha), h'.2.trans h.2⟩
theorem zK.zu {P a k : Nat} {v : Int32} {M M' : Nat → Nat → Int32} (h : zK P M M') (ha : P < a ∧ a < P + 200) : zK P M (zu M' a k v) := ⟨fun c hc => (zu_row (by omega)).trans (h.1 c hc), (zu_ne (by omega)).trans h.2⟩
theorem zK.zu0 {P k : Nat} {v : Int32} {M M' : Nat → Nat → Int32} (h : zK P M M') (hk : k ≠ 1) : zK P M (_root_.Jvm.Pilot.@@N@@.zu M' P k v) := ⟨fun c hc => (zu_row (by omega)).trans (h.1 c hc), (zu_ne (fun q => hk q.2.symm)).trans h.2⟩
theorem zK.zwr {P a n : Nat} {i v : Int32} {M M' : Nat → Nat → Int32} (h : zK P M M') (ha : P < a ∧ a < P + 200) : zK P M (zwr M' a n i v) := ⟨fun c hc => (zwr_row (by omega)).trans (h.1 c hc), by rw [zwr_row (by omega)]; exact h.2⟩
theorem zK.zfil {P a n : Nat} {v : Int32} {M M' : Nat → Nat → Int32} (h : zK P M M') (ha : P < a ∧ a < P + 200) : zK P M (zfil M' a n v) := ⟨fun c hc => (zfil_row (by omega)).trans (h.1 c hc), by rw [zfil_row (by omega)]; exact h.2⟩
theorem zK.zcpy {P a n : Nat} {f : Nat → Int32} {M M' : Nat → Nat → Int32} (h : zK P M M') (ha : P < a ∧ a < P + 200) : zK P M (zcpy M' a n f) := ⟨fun c hc => (zcpy_row (by omega)).trans (h.1 c hc), by rw [zcpy_row (by omega)]; exact h.2⟩
theorem z_lt {x E : Int32} (h : ¬ E ≤ x) : x.toInt < 2147483647 := by
  have h1 := Int32.lt_iff_toInt_lt.mp (Int32.not_le.mp h)
  have h2 := Int32.toInt_le E
  have h3 : Int32.maxValue.toInt = 2147483647 := by decide
  omega
theorem z_lt2 {x E : Int32} (h : x < E) : x.toInt < 2147483647 := z_lt (Int32.not_le.mpr h)
theorem z_up {x : Int32} {u : Nat} (h : x.toInt < 2147483647) (hm : (2147483648 - x.toInt).toNat < u + 1) : (2147483648 - (x + Int32.ofInt 1).toInt).toNat < u := by
  have h1 := Int32.le_toInt x
  have e1 : (Int32.ofInt 1).toInt = 1 := by decide
  rw [Int32.toInt_add, e1, Int.bmod_def]
  omega
theorem z_nzl {x : Int32} (h : ¬ x ≤ 0) : ¬ x.toInt64 = 0 := by
  have h1 := Int32.lt_iff_toInt_lt.mp (Int32.not_le.mp h)
  intro q
  have h2 := congrArg Int64.toInt q
  rw [Int32.toInt_toInt64] at h2
  have e0 : (0 : Int32).toInt = 0 := by decide
  have e1 : (0 : Int64).toInt = 0 := by decide
  omega
theorem z_gt {x : Int32} (h : ¬ x ≤ 0) : 0 < x.toInt := by
  have h1 := Int32.lt_iff_toInt_lt.mp (Int32.not_le.mp h)
  have e0 : (0 : Int32).toInt = 0 := by decide
  omega
theorem z_dn {x : Int32} {u : Nat} (h : 0 < x.toInt) (hm : x.toInt.toNat < u + 1) : (x + Int32.ofInt (-1)).toInt.toNat < u := by
  have h1 := Int32.toInt_le x
  have e1 : (Int32.ofInt (-1)).toInt = -1 := by decide
  rw [Int32.toInt_add, e1, Int.bmod_def]
  omega

theorem s_X7_put {l : Launch} {G : zG} {b : Nat} {S : zS} {P A n : Nat} {fs : List (Nat × Nat)} {i : Int32} {x : Int32} (hA : S.1[A]? = some (1, n, fs)) (hn : n < 2 ^ 31) (rA : P < A ∧ A < P + 200) : zM l G b yX7_put cX7_put 3 none 0 0 0 [.ref A, .int i, .int x] S (fun r z => ∃ M' N', z = (S.1, M', N') ∧ zK P S.2.1 M' ∧ r = none) :=
  (c_put hA hn).weaken (fun r z h => ⟨_, _, h.2, zK.rf.zwr rA, h.1⟩)
theorem s_X7_bigPut {l : Launch} {G : zG} {b : Nat} {S : zS} {P A n : Nat} {fs : List (Nat × Nat)} {i : Int32} {x : Int64} (hA : S.1[A]? = some (3, n, fs)) (hn : n < 2 ^ 31) (rA : P < A ∧ A < P + 200) : zM l G b yX7_bigPut cX7_bigPut 4 none 0 0 0 [.ref A, .int i, .long x] S (fun r z => ∃ M' N', z = (S.1, M', N') ∧ zK P S.2.1 M' ∧ r = none) :=
  (c_bigPut hA hn).weaken (fun r z h => ⟨_, _, h.2, zK.rf, h.1⟩)
theorem s_X7_add {l : Launch} {G : zG} {b : Nat} {S : zS} {P A n : Nat} {fs : List (Nat × Nat)} {i : Int32} {x : Int32} (hA : S.1[A]? = some (1, n, fs)) (hn : n < 2 ^ 31) (rA : P < A ∧ A < P + 200) : zM l G b yX7_add cX7_add 3 none 0 0 0 [.ref A, .int i, .int x] S (fun r z => ∃ M' N', z = (S.1, M', N') ∧ zK P S.2.1 M' ∧ r = none) :=
  (c_add hA hn).weaken (fun r z h => ⟨_, _, h.2, zK.rf.zwr rA, h.1⟩)
theorem s_X7_bigAdd {l : Launch} {G : zG} {b : Nat} {S : zS} {P A n : Nat} {fs : List (Nat × Nat)} {i : Int32} {x : Int64} (hA : S.1[A]? = some (3, n, fs)) (hn : n < 2 ^ 31) (rA : P < A ∧ A < P + 200) : zM l G b yX7_bigAdd cX7_bigAdd 4 none 0 0 0 [.ref A, .int i, .long x] S (fun r z => ∃ M' N', z = (S.1, M', N') ∧ zK P S.2.1 M' ∧ r = none) :=
  (c_bigAdd hA hn).weaken (fun r z h => ⟨_, _, h.2, zK.rf, h.1⟩)
theorem s_X7_fill {l : Launch} {G : zG} {b : Nat} {S : zS} {P A n : Nat} {fs : List (Nat × Nat)} {x : Int32} (hA : S.1[A]? = some (1, n, fs)) (hn : n < 2 ^ 31) (rA : P < A ∧ A < P + 200) : zM l G b yX7_fill cX7_fill 3 none 0 0 0 [.ref A, .int x] S (fun r z => ∃ M' N', z = (S.1, M', N') ∧ zK P S.2.1 M' ∧ r = none) :=
  (c_fill hA hn).weaken (fun r z h => ⟨_, _, h.2, zK.rf.zfil rA, h.1⟩)
theorem s_X7_bigFill {l : Launch} {G : zG} {b : Nat} {S : zS} {P A n : Nat} {fs : List (Nat × Nat)} {x : Int64} (hA : S.1[A]? = some (3, n, fs)) (hn : n < 2 ^ 31) (rA : P < A ∧ A < P + 200) : zM l G b yX7_bigFill cX7_bigFill 4 none 0 0 0 [.ref A, .long x] S (fun r z => ∃ M' N', z = (S.1, M', N') ∧ zK P S.2.1 M' ∧ r = none) :=
  (c_bigFill hA hn).weaken (fun r z h => ⟨_, _, h.2, zK.rf, h.1⟩)
theorem s_X7_copy {l : Launch} {G : zG} {b : Nat} {S : zS} {P A F2 n n2 : Nat} {fs f2 : List (Nat × Nat)} (hF : S.1[F2]? = some (1, n2, f2)) (hA : S.1[A]? = some (1, n, fs)) (hn : n < 2 ^ 31) (hn2 : n2 < 2 ^ 31) (hne : F2 ≠ A) (rA : P < A ∧ A < P + 200) : zM l G b yX7_copy cX7_copy 3 none 1 0 0 [.ref F2, .ref A] S (fun r z => ∃ M' N', z = (S.1, M', N') ∧ zK P S.2.1 M' ∧ r = none) :=
  (c_copy hA hF hn hn2 hne).weaken (fun r z h => ⟨_, _, h.2, zK.rf.zcpy rA, h.1⟩)
set_option maxRecDepth 100000 in
theorem s_X2_wish {l : Launch} {G : zG} {b : Nat} {S : zS} {P : Nat} {Q : Nat} {v0 : Int32} {v1 : Int32} (hQ : LX2 S.1 Q) (rQ : P < Q ∧ Q + 13 ≤ P + 200) : zM l G b yX2_wish cX2_wish 3 (some .int) 1 0 0 [.ref Q, .int v0, .int v1] S (fun r z => z = S ∧ ∃ v : Int32, r = some (.int v)) := by
  refine zM.of miX2_wish (Nat.le_of_ble_eq_true rfl) ?_
  intro p e s m args below meth c X hr hname
  generalize hF : ((fun r z => z = S ∧ ∃ v : Int32, r = some (.int v)) : Option Value → zS → Prop) = FQ
  change Zw p l e { frames := 1, cells := 0, slots := 0, locals := 80 * 1 } s m args below meth c G b 3 (MQ below (zQ G b FQ) args s 0 0 (fun q : Nat => b ≤ q)) 0 0 0 [some (.ref Q), some (.int v0), some (.int v1)] [] S
  obtain ⟨q_lt, q_o, q_quota, q_preferred, q_forGuests, q_applicantOf, q_size, q_guestCount, q_score, q_tickets, q_bits, q_party, q_wishCount, q_wishes⟩ := id hQ
  refine a_aload_n X dX2_wish_0 rfl ?_
  refine a_getr X lf2_45 (by assumption) rfl (by omega) dX2_wish_1 ?_
  refine a_iload_n X dX2_wish_4 rfl ?_
  refine a_iconst (v := 3) X dX2_wish_5 (by decide) ?_
  refine a_imul X dX2_wish_6 ?_
  refine a_iload_n X dX2_wish_7 rfl ?_
  refine a_iadd X dX2_wish_8 ?_
  refine a_callSNv X dX2_wish_9 miX7_cell lm2_62 (c_cell (by assumption) (by first | decide | assumption)) rfl rfl (Nat.le_of_ble_eq_true rfl) ⟨by decide, by decide, by decide, by decide⟩ ?_
  refine a_iret X hr dX2_wish_12 ⟨by decide, by decide⟩ ?_
  subst hF
  exact ⟨rfl, ⟨_, rfl⟩⟩
set_option maxRecDepth 100000 in
theorem s_X2_rankOf {l : Launch} {G : zG} {b : Nat} {S : zS} {P : Nat} {Q : Nat} {v0 : Int32} {v1 : Int32} (hQ : LX2 S.1 Q) (rQ : P < Q ∧ Q + 13 ≤ P + 200) : zM l G b yX2_rankOf cX2_rankOf 4 (some .int) 2 0 0 [.ref Q, .int v0, .int v1] S (fun r z => z = S ∧ ∃ v : Int32, r = some (.int v)) := by
  refine zM.of miX2_rankOf (Nat.le_of_ble_eq_true rfl) ?_
  intro p e s m args below meth c X hr hname
  generalize hF : ((fun r z => z = S ∧ ∃ v : Int32, r = some (.int v)) : Option Value → zS → Prop) = FQ
  change Zw p l e { frames := 2, cells := 0, slots := 0, locals := 80 * 2 } s m args below meth c G b 4 (MQ below (zQ G b FQ) args s 0 0 (fun q : Nat => b ≤ q)) 0 0 0 [some (.ref Q), some (.int v0), some (.int v1), none] [] S
  obtain ⟨q_lt, q_o, q_quota, q_preferred, q_forGuests, q_applicantOf, q_size, q_guestCount, q_score, q_tickets, q_bits, q_party, q_wishCount, q_wishes⟩ := id hQ
  have L_2 : ∀ u : Nat, ∀ (x1_2 : Int32) (x2_2 : Int32) (x3_2 : Int32), (2147483648 - x3_2.toInt).toNat < u → Zw p l e { frames := 2, cells := 0, slots := 0, locals := 80 * 2 } s m args below meth c G b 4 (MQ below (zQ G b FQ) args s 0 0 (fun q : Nat => b ≤ q)) 0 0 2 [some (.ref (Q)), some (.int x1_2), some (.int x2_2), some (.int x3_2)] [] S := by
    intro u
    induction u with
    | zero => intro x1_2 x2_2 x3_2 hm_2; exact absurd hm_2 (Nat.not_lt_zero _)
    | succ u_2 ih_2 =>
      intro x1_2 x2_2 x3_2 hm_2
      refine a_iload_n X dX2_rankOf_2 rfl ?_
      refine a_aload_n X dX2_rankOf_3 rfl ?_
      refine a_getr X lf2_42 (by assumption) rfl (by omega) dX2_rankOf_4 ?_
      refine a_iload_n X dX2_rankOf_7 rfl ?_
      refine a_callSNv X dX2_rankOf_8 miX7_cell lm2_62 (c_cell (by assumption) (by first | decide | assumption)) rfl rfl (Nat.le_of_ble_eq_true rfl) ⟨by decide, by decide, by decide, by decide⟩ ?_
      refine a_icmp_ge (tgt := 32) X dX2_rankOf_11 (by decide) (fun h_11 => ?_) (fun h_11 => ?_)
      · refine a_iconst (v := -1) X dX2_rankOf_32 (by decide) ?_
        refine a_iret X hr dX2_rankOf_33 ⟨by decide, by decide⟩ ?_
        subst hF
        exact ⟨rfl, ⟨_, rfl⟩⟩
      · refine a_aload_n X dX2_rankOf_14 rfl ?_
        refine a_iload_n X dX2_rankOf_15 rfl ?_
        refine a_iload_n X dX2_rankOf_16 rfl ?_
        refine a_callVx X dX2_rankOf_17 miX2_wish lm2_115 (s_X2_wish (P := P) (by assumption) (by omega)) (by assumption) rfl rfl rfl (Nat.le_of_ble_eq_true rfl) ⟨by decide, by decide, by decide, by decide⟩ (fun r_17 S_17 q_17 => ?_)
        obtain ⟨rfl, ⟨v_17, rfl⟩⟩ := q_17
        refine a_iload_n X dX2_rankOf_20 rfl ?_
        refine a_icmp_ne (tgt := 26) X dX2_rankOf_21 (by decide) (fun h_21 => ?_) (fun h_21 => ?_)
        · refine a_iinc X dX2_rankOf_26 (by decide) rfl rfl ?_
          refine a_goto (tgt := 2) X dX2_rankOf_29 (by decide) ?_
          exact Zw.to2 (ih_2 _ _ _  (z_up (by first | assumption | exact z_lt (by assumption) | exact z_lt2 (by assumption)) hm_2)) rfl rfl rfl
        · refine a_iload_n X dX2_rankOf_24 rfl ?_
          refine a_iret X hr dX2_rankOf_25 ⟨by decide, by decide⟩ ?_
          subst hF
          exact ⟨rfl, ⟨_, rfl⟩⟩
  have H_2 : ∀ (x1_2 : Int32) (x2_2 : Int32) (x3_2 : Int32), Zw p l e { frames := 2, cells := 0, slots := 0, locals := 80 * 2 } s m args below meth c G b 4 (MQ below (zQ G b FQ) args s 0 0 (fun q : Nat => b ≤ q)) 0 0 2 [some (.ref (Q)), some (.int x1_2), some (.int x2_2), some (.int x3_2)] [] S := fun x1_2 x2_2 x3_2  => L_2 _ x1_2 x2_2 x3_2  (Nat.lt_succ_self _)
  refine a_iconst (v := 0) X dX2_rankOf_0 (by decide) ?_
  refine a_istore_n X dX2_rankOf_1 (by decide) ?_
  exact Zw.to2 (H_2 _ _ _ ) rfl rfl rfl
set_option maxRecDepth 100000 in
theorem s_X2_fits {l : Launch} {G : zG} {b : Nat} {S : zS} {P : Nat} {Q : Nat} {v0 : Int32} {v1 : Int32} {v2 : Int32} (hQ : LX2 S.1 Q) (rQ : P < Q ∧ Q + 13 ≤ P + 200) : zM l G b yX2_fits cX2_fits 4 (some .boolean) 1 0 0 [.ref Q, .int v0, .int v1, .int v2] S (fun r z => z = S ∧ ∃ v : Int32, r = some (.int v) ∧ (v = 0 ∨ v = 1)) := by
  refine zM.of miX2_fits (Nat.le_of_ble_eq_true rfl) ?_
  intro p e s m args below meth c X hr hname
  generalize hF : ((fun r z => z = S ∧ ∃ v : Int32, r = some (.int v) ∧ (v = 0 ∨ v = 1)) : Option Value → zS → Prop) = FQ
  change Zw p l e { frames := 1, cells := 0, slots := 0, locals := 80 * 1 } s m args below meth c G b 4 (MQ below (zQ G b FQ) args s 0 0 (fun q : Nat => b ≤ q)) 0 0 0 [some (.ref Q), some (.int v0), some (.int v1), some (.int v2)] [] S
  obtain ⟨q_lt, q_o, q_quota, q_preferred, q_forGuests, q_applicantOf, q_size, q_guestCount, q_score, q_tickets, q_bits, q_party, q_wishCount, q_wishes⟩ := id hQ
  have J_29 : ∀ (x1_29 : Int32) (x2_29 : Int32) (x3_29 : Int32) (y0_29 : Int32), (y0_29 = 0 ∨ y0_29 = 1) → Zw p l e { frames := 1, cells := 0, slots := 0, locals := 80 * 1 } s m args below meth c G b 4 (MQ below (zQ G b FQ) args s 0 0 (fun q : Nat => b ≤ q)) 0 0 29 [some (.ref (Q)), some (.int x1_29), some (.int x2_29), some (.int x3_29)] [(.int y0_29)] S := by
    intro x1_29 x2_29 x3_29 y0_29 f0_29
    refine a_zret X (by first | exact Or.inl rfl | exact Or.inr rfl | assumption) hr dX2_fits_29 ⟨by decide, by decide⟩ ?_
    subst hF
    exact ⟨rfl, ⟨_, rfl, (by first | exact Or.inl rfl | exact Or.inr rfl | assumption)⟩⟩
  have J_28 : ∀ (x1_28 : Int32) (x2_28 : Int32) (x3_28 : Int32), Zw p l e { frames := 1, cells := 0, slots := 0, locals := 80 * 1 } s m args below meth c G b 4 (MQ below (zQ G b FQ) args s 0 0 (fun q : Nat => b ≤ q)) 0 0 28 [some (.ref (Q)), some (.int x1_28), some (.int x2_28), some (.int x3_28)] [] S := by
    intro x1_28 x2_28 x3_28
    refine a_iconst (v := 0) X dX2_fits_28 (by decide) ?_
    exact Zw.to2 (J_29 _ _ _ _ (by first | exact Or.inl rfl | exact Or.inr rfl | assumption)) rfl rfl rfl
  refine a_aload_n X dX2_fits_0 rfl ?_
  refine a_getr X lf2_24 (by assumption) rfl (by omega) dX2_fits_1 ?_
  refine a_iload_n X dX2_fits_4 rfl ?_
  refine a_callSNv X dX2_fits_5 miX7_cell lm2_62 (c_cell (by assumption) (by first | decide | assumption)) rfl rfl (Nat.le_of_ble_eq_true rfl) ⟨by decide, by decide, by decide, by decide⟩ ?_
  refine a_iload_n X dX2_fits_8 rfl ?_
  refine a_icmp_gt (tgt := 28) X dX2_fits_9 (by decide) (fun h_9 => ?_) (fun h_9 => ?_)
  · exact Zw.to2 (J_28 _ _ _ ) rfl rfl rfl
  · refine a_aload_n X dX2_fits_12 rfl ?_
    refine a_getr X lf2_27 (by assumption) rfl (by omega) dX2_fits_13 ?_
    refine a_iload_n X dX2_fits_16 rfl ?_
    refine a_callSNv X dX2_fits_17 miX7_cell lm2_62 (c_cell (by assumption) (by first | decide | assumption)) rfl rfl (Nat.le_of_ble_eq_true rfl) ⟨by decide, by decide, by decide, by decide⟩ ?_
    refine a_iload_n X dX2_fits_20 rfl ?_
    refine a_icmp_gt (tgt := 28) X dX2_fits_21 (by decide) (fun h_21 => ?_) (fun h_21 => ?_)
    · exact Zw.to2 (J_28 _ _ _ ) rfl rfl rfl
    · refine a_iconst (v := 1) X dX2_fits_24 (by decide) ?_
      refine a_goto (tgt := 29) X dX2_fits_25 (by decide) ?_
      exact Zw.to2 (J_29 _ _ _ _ (by first | exact Or.inl rfl | exact Or.inr rfl | assumption)) rfl rfl rfl
set_option maxRecDepth 100000 in
theorem s_X2_firstApplicants {l : Launch} {G : zG} {b : Nat} {S : zS} {P : Nat} {Q : Nat} {v0 : Int32} (hQ : LX2 S.1 Q) (rQ : P < Q ∧ Q + 13 ≤ P + 200) : zM l G b yX2_firstApplicants cX2_firstApplicants 4 (some .int) 3 0 0 [.ref Q, .int v0] S (fun r z => z = S ∧ ∃ v : Int32, r = some (.int v)) := by
  refine zM.of miX2_firstApplicants (Nat.le_of_ble_eq_true rfl) ?_
  intro p e s m args below meth c X hr hname
  generalize hF : ((fun r z => z = S ∧ ∃ v : Int32, r = some (.int v)) : Option Value → zS → Prop) = FQ
  change Zw p l e { frames := 3, cells := 0, slots := 0, locals := 80 * 3 } s m args below meth c G b 4 (MQ below (zQ G b FQ) args s 0 0 (fun q : Nat => b ≤ q)) 0 0 0 [some (.ref Q), some (.int v0), none, none] [] S
  obtain ⟨q_lt, q_o, q_quota, q_preferred, q_forGuests, q_applicantOf, q_size, q_guestCount, q_score, q_tickets, q_bits, q_party, q_wishCount, q_wishes⟩ := id hQ
  have L_4 : ∀ u : Nat, ∀ (x1_4 : Int32) (x2_4 : Int32) (x3_4 : Int32), (2147483648 - x3_4.toInt).toNat < u → Zw p l e { frames := 3, cells := 0, slots := 0, locals := 80 * 3 } s m args below meth c G b 4 (MQ below (zQ G b FQ) args s 0 0 (fun q : Nat => b ≤ q)) 0 0 4 [some (.ref (Q)), some (.int x1_4), some (.int x2_4), some (.int x3_4)] [] S := by
    intro u
    induction u with
    | zero => intro x1_4 x2_4 x3_4 hm_4; exact absurd hm_4 (Nat.not_lt_zero _)
    | succ u_4 ih_4 =>
      intro x1_4 x2_4 x3_4 hm_4
      have J_27 : ∀ (x1_27 : Int32) (x2_27 : Int32) (x3_27 : Int32) (y0_27 : Int32) (y1_27 : Int32), (y1_27 = 0 ∨ y1_27 = 1) → ((2147483648 - x3_27.toInt).toNat < u_4 + 1) → (x3_27.toInt < 2147483647) → Zw p l e { frames := 3, cells := 0, slots := 0, locals := 80 * 3 } s m args below meth c G b 4 (MQ below (zQ G b FQ) args s 0 0 (fun q : Nat => b ≤ q)) 0 0 27 [some (.ref (Q)), some (.int x1_27), some (.int x2_27), some (.int x3_27)] [(.int y1_27), (.int y0_27)] S := by
        intro x1_27 x2_27 x3_27 y0_27 y1_27 f0_27 f1_27 f2_27
        refine a_iadd X dX2_firstApplicants_27 ?_
        refine a_istore_n X dX2_firstApplicants_28 (by decide) ?_
        refine a_iinc X dX2_firstApplicants_29 (by decide) rfl rfl ?_
        refine a_goto (tgt := 4) X dX2_firstApplicants_32 (by decide) ?_
        exact Zw.to2 (ih_4 _ _ _  (z_up f2_27 f1_27)) rfl rfl rfl
      refine a_iload_n X dX2_firstApplicants_4 rfl ?_
      refine a_aload_n X dX2_firstApplicants_5 rfl ?_
      refine a_geti X lf2_52 (by assumption) rfl dX2_firstApplicants_6 ?_
      refine a_icmp_ge (tgt := 35) X dX2_firstApplicants_9 (by decide) (fun h_9 => ?_) (fun h_9 => ?_)
      · refine a_iload_n X dX2_firstApplicants_35 rfl ?_
        refine a_iret X hr dX2_firstApplicants_36 ⟨by decide, by decide⟩ ?_
        subst hF
        exact ⟨rfl, ⟨_, rfl⟩⟩
      · refine a_iload_n X dX2_firstApplicants_12 rfl ?_
        refine a_aload_n X dX2_firstApplicants_13 rfl ?_
        refine a_iload_n X dX2_firstApplicants_14 rfl ?_
        refine a_iload_n X dX2_firstApplicants_15 rfl ?_
        refine a_callVx X dX2_firstApplicants_16 miX2_rankOf lm2_119 (s_X2_rankOf (P := P) (by assumption) (by omega)) (by assumption) rfl rfl rfl (Nat.le_of_ble_eq_true rfl) ⟨by decide, by decide, by decide, by decide⟩ (fun r_16 S_16 q_16 => ?_)
        obtain ⟨rfl, ⟨v_16, rfl⟩⟩ := q_16
        refine a_if_ne (tgt := 26) X dX2_firstApplicants_19 (by decide) (fun h_19 => ?_) (fun h_19 => ?_)
        · refine a_iconst (v := 0) X dX2_firstApplicants_26 (by decide) ?_
          exact Zw.to2 (J_27 _ _ _ _ _ (by first | exact Or.inl rfl | exact Or.inr rfl | assumption) hm_4 (by first | assumption | exact z_lt (by assumption) | exact z_lt2 (by assumption))) rfl rfl rfl
        · refine a_iconst (v := 1) X dX2_firstApplicants_22 (by decide) ?_
          refine a_goto (tgt := 27) X dX2_firstApplicants_23 (by decide) ?_
          exact Zw.to2 (J_27 _ _ _ _ _ (by first | exact Or.inl rfl | exact Or.inr rfl | assumption) hm_4 (by first | assumption | exact z_lt (by assumption) | exact z_lt2 (by assumption))) rfl rfl rfl
  have H_4 : ∀ (x1_4 : Int32) (x2_4 : Int32) (x3_4 : Int32), Zw p l e { frames := 3, cells := 0, slots := 0, locals := 80 * 3 } s m args below meth c G b 4 (MQ below (zQ G b FQ) args s 0 0 (fun q : Nat => b ≤ q)) 0 0 4 [some (.ref (Q)), some (.int x1_4), some (.int x2_4), some (.int x3_4)] [] S := fun x1_4 x2_4 x3_4  => L_4 _ x1_4 x2_4 x3_4  (Nat.lt_succ_self _)
  refine a_iconst (v := 0) X dX2_firstApplicants_0 (by decide) ?_
  refine a_istore_n X dX2_firstApplicants_1 (by decide) ?_
  refine a_iconst (v := 0) X dX2_firstApplicants_2 (by decide) ?_
  refine a_istore_n X dX2_firstApplicants_3 (by decide) ?_
  exact Zw.to2 (H_4 _ _ _ ) rfl rfl rfl
set_option maxRecDepth 100000 in
theorem s_X2_firstHunters {l : Launch} {G : zG} {b : Nat} {S : zS} {P : Nat} {Q : Nat} {v0 : Int32} (hQ : LX2 S.1 Q) (rQ : P < Q ∧ Q + 13 ≤ P + 200) : zM l G b yX2_firstHunters cX2_firstHunters 4 (some .int) 3 0 0 [.ref Q, .int v0] S (fun r z => z = S ∧ ∃ v : Int32, r = some (.int v)) := by
  refine zM.of miX2_firstHunters (Nat.le_of_ble_eq_true rfl) ?_
  intro p e s m args below meth c X hr hname
  generalize hF : ((fun r z => z = S ∧ ∃ v : Int32, r = some (.int v)) : Option Value → zS → Prop) = FQ
  change Zw p l e { frames := 3, cells := 0, slots := 0, locals := 80 * 3 } s m args below meth c G b 4 (MQ below (zQ G b FQ) args s 0 0 (fun q : Nat => b ≤ q)) 0 0 0 [some (.ref Q), some (.int v0), none, none] [] S
  obtain ⟨q_lt, q_o, q_quota, q_preferred, q_forGuests, q_applicantOf, q_size, q_guestCount, q_score, q_tickets, q_bits, q_party, q_wishCount, q_wishes⟩ := id hQ
  have L_4 : ∀ u : Nat, ∀ (x1_4 : Int32) (x2_4 : Int32) (x3_4 : Int32), (2147483648 - x3_4.toInt).toNat < u → Zw p l e { frames := 3, cells := 0, slots := 0, locals := 80 * 3 } s m args below meth c G b 4 (MQ below (zQ G b FQ) args s 0 0 (fun q : Nat => b ≤ q)) 0 0 4 [some (.ref (Q)), some (.int x1_4), some (.int x2_4), some (.int x3_4)] [] S := by
    intro u
    induction u with
    | zero => intro x1_4 x2_4 x3_4 hm_4; exact absurd hm_4 (Nat.not_lt_zero _)
    | succ u_4 ih_4 =>
      intro x1_4 x2_4 x3_4 hm_4
      have J_34 : ∀ (x1_34 : Int32) (x2_34 : Int32) (x3_34 : Int32) (y0_34 : Int32) (y1_34 : Int32), ((2147483648 - x3_34.toInt).toNat < u_4 + 1) → (x3_34.toInt < 2147483647) → Zw p l e { frames := 3, cells := 0, slots := 0, locals := 80 * 3 } s m args below meth c G b 4 (MQ below (zQ G b FQ) args s 0 0 (fun q : Nat => b ≤ q)) 0 0 34 [some (.ref (Q)), some (.int x1_34), some (.int x2_34), some (.int x3_34)] [(.int y1_34), (.int y0_34)] S := by
        intro x1_34 x2_34 x3_34 y0_34 y1_34 f0_34 f1_34
        refine a_iadd X dX2_firstHunters_34 ?_
        refine a_istore_n X dX2_firstHunters_35 (by decide) ?_
        refine a_iinc X dX2_firstHunters_36 (by decide) rfl rfl ?_
        refine a_goto (tgt := 4) X dX2_firstHunters_39 (by decide) ?_
        exact Zw.to2 (ih_4 _ _ _  (z_up f1_34 f0_34)) rfl rfl rfl
      refine a_iload_n X dX2_firstHunters_4 rfl ?_
      refine a_aload_n X dX2_firstHunters_5 rfl ?_
      refine a_geti X lf2_52 (by assumption) rfl dX2_firstHunters_6 ?_
      refine a_icmp_ge (tgt := 42) X dX2_firstHunters_9 (by decide) (fun h_9 => ?_) (fun h_9 => ?_)
      · refine a_iload_n X dX2_firstHunters_42 rfl ?_
        refine a_iret X hr dX2_firstHunters_43 ⟨by decide, by decide⟩ ?_
        subst hF
        exact ⟨rfl, ⟨_, rfl⟩⟩
      · refine a_iload_n X dX2_firstHunters_12 rfl ?_
        refine a_aload_n X dX2_firstHunters_13 rfl ?_
        refine a_iload_n X dX2_firstHunters_14 rfl ?_
        refine a_iload_n X dX2_firstHunters_15 rfl ?_
        refine a_callVx X dX2_firstHunters_16 miX2_rankOf lm2_119 (s_X2_rankOf (P := P) (by assumption) (by omega)) (by assumption) rfl rfl rfl (Nat.le_of_ble_eq_true rfl) ⟨by decide, by decide, by decide, by decide⟩ (fun r_16 S_16 q_16 => ?_)
        obtain ⟨rfl, ⟨v_16, rfl⟩⟩ := q_16
        refine a_if_ne (tgt := 33) X dX2_firstHunters_19 (by decide) (fun h_19 => ?_) (fun h_19 => ?_)
        · refine a_iconst (v := 0) X dX2_firstHunters_33 (by decide) ?_
          exact Zw.to2 (J_34 _ _ _ _ _ hm_4 (by first | assumption | exact z_lt (by assumption) | exact z_lt2 (by assumption))) rfl rfl rfl
        · refine a_aload_n X dX2_firstHunters_22 rfl ?_
          refine a_getr X lf2_24 (by assumption) rfl (by omega) dX2_firstHunters_23 ?_
          refine a_iload_n X dX2_firstHunters_26 rfl ?_
          refine a_callSNv X dX2_firstHunters_27 miX7_cell lm2_62 (c_cell (by assumption) (by first | decide | assumption)) rfl rfl (Nat.le_of_ble_eq_true rfl) ⟨by decide, by decide, by decide, by decide⟩ ?_
          refine a_goto (tgt := 34) X dX2_firstHunters_30 (by decide) ?_
          exact Zw.to2 (J_34 _ _ _ _ _ hm_4 (by first | assumption | exact z_lt (by assumption) | exact z_lt2 (by assumption))) rfl rfl rfl
  have H_4 : ∀ (x1_4 : Int32) (x2_4 : Int32) (x3_4 : Int32), Zw p l e { frames := 3, cells := 0, slots := 0, locals := 80 * 3 } s m args below meth c G b 4 (MQ below (zQ G b FQ) args s 0 0 (fun q : Nat => b ≤ q)) 0 0 4 [some (.ref (Q)), some (.int x1_4), some (.int x2_4), some (.int x3_4)] [] S := fun x1_4 x2_4 x3_4  => L_4 _ x1_4 x2_4 x3_4  (Nat.lt_succ_self _)
  refine a_iconst (v := 0) X dX2_firstHunters_0 (by decide) ?_
  refine a_istore_n X dX2_firstHunters_1 (by decide) ?_
  refine a_iconst (v := 0) X dX2_firstHunters_2 (by decide) ?_
  refine a_istore_n X dX2_firstHunters_3 (by decide) ?_
  exact Zw.to2 (H_4 _ _ _ ) rfl rfl rfl
set_option maxRecDepth 100000 in
theorem s_X2_askers {l : Launch} {G : zG} {b : Nat} {S : zS} {P : Nat} {Q : Nat} {v0 : Int32} (hQ : LX2 S.1 Q) (rQ : P < Q ∧ Q + 13 ≤ P + 200) : zM l G b yX2_askers cX2_askers 4 (some .int) 3 0 0 [.ref Q, .int v0] S (fun r z => z = S ∧ ∃ v : Int32, r = some (.int v)) := by
  refine zM.of miX2_askers (Nat.le_of_ble_eq_true rfl) ?_
  intro p e s m args below meth c X hr hname
  generalize hF : ((fun r z => z = S ∧ ∃ v : Int32, r = some (.int v)) : Option Value → zS → Prop) = FQ
  change Zw p l e { frames := 3, cells := 0, slots := 0, locals := 80 * 3 } s m args below meth c G b 4 (MQ below (zQ G b FQ) args s 0 0 (fun q : Nat => b ≤ q)) 0 0 0 [some (.ref Q), some (.int v0), none, none] [] S
  obtain ⟨q_lt, q_o, q_quota, q_preferred, q_forGuests, q_applicantOf, q_size, q_guestCount, q_score, q_tickets, q_bits, q_party, q_wishCount, q_wishes⟩ := id hQ
  have L_4 : ∀ u : Nat, ∀ (x1_4 : Int32) (x2_4 : Int32) (x3_4 : Int32), (2147483648 - x3_4.toInt).toNat < u → Zw p l e { frames := 3, cells := 0, slots := 0, locals := 80 * 3 } s m args below meth c G b 4 (MQ below (zQ G b FQ) args s 0 0 (fun q : Nat => b ≤ q)) 0 0 4 [some (.ref (Q)), some (.int x1_4), some (.int x2_4), some (.int x3_4)] [] S := by
    intro u
    induction u with
    | zero => intro x1_4 x2_4 x3_4 hm_4; exact absurd hm_4 (Nat.not_lt_zero _)
    | succ u_4 ih_4 =>
      intro x1_4 x2_4 x3_4 hm_4
      have J_28 : ∀ (x1_28 : Int32) (x2_28 : Int32) (x3_28 : Int32) (y0_28 : Int32) (y1_28 : Int32), (y1_28 = 0 ∨ y1_28 = 1) → ((2147483648 - x3_28.toInt).toNat < u_4 + 1) → (x3_28.toInt < 2147483647) → Zw p l e { frames := 3, cells := 0, slots := 0, locals := 80 * 3 } s m args below meth c G b 4 (MQ below (zQ G b FQ) args s 0 0 (fun q : Nat => b ≤ q)) 0 0 28 [some (.ref (Q)), some (.int x1_28), some (.int x2_28), some (.int x3_28)] [(.int y1_28), (.int y0_28)] S := by
        intro x1_28 x2_28 x3_28 y0_28 y1_28 f0_28 f1_28 f2_28
        refine a_iadd X dX2_askers_28 ?_
        refine a_istore_n X dX2_askers_29 (by decide) ?_
        refine a_iinc X dX2_askers_30 (by decide) rfl rfl ?_
        refine a_goto (tgt := 4) X dX2_askers_33 (by decide) ?_
        exact Zw.to2 (ih_4 _ _ _  (z_up f2_28 f1_28)) rfl rfl rfl
      refine a_iload_n X dX2_askers_4 rfl ?_
      refine a_aload_n X dX2_askers_5 rfl ?_
      refine a_geti X lf2_52 (by assumption) rfl dX2_askers_6 ?_
      refine a_icmp_ge (tgt := 36) X dX2_askers_9 (by decide) (fun h_9 => ?_) (fun h_9 => ?_)
      · refine a_iload_n X dX2_askers_36 rfl ?_
        refine a_iret X hr dX2_askers_37 ⟨by decide, by decide⟩ ?_
        subst hF
        exact ⟨rfl, ⟨_, rfl⟩⟩
      · refine a_iload_n X dX2_askers_12 rfl ?_
        refine a_aload_n X dX2_askers_13 rfl ?_
        refine a_iload_n X dX2_askers_14 rfl ?_
        refine a_iload_n X dX2_askers_15 rfl ?_
        refine a_callVx X dX2_askers_16 miX2_rankOf lm2_119 (s_X2_rankOf (P := P) (by assumption) (by omega)) (by assumption) rfl rfl rfl (Nat.le_of_ble_eq_true rfl) ⟨by decide, by decide, by decide, by decide⟩ (fun r_16 S_16 q_16 => ?_)
        obtain ⟨rfl, ⟨v_16, rfl⟩⟩ := q_16
        refine a_iconst (v := -1) X dX2_askers_19 (by decide) ?_
        refine a_icmp_ne (tgt := 27) X dX2_askers_20 (by decide) (fun h_20 => ?_) (fun h_20 => ?_)
        · refine a_iconst (v := 1) X dX2_askers_27 (by decide) ?_
          exact Zw.to2 (J_28 _ _ _ _ _ (by first | exact Or.inl rfl | exact Or.inr rfl | assumption) hm_4 (by first | assumption | exact z_lt (by assumption) | exact z_lt2 (by assumption))) rfl rfl rfl
        · refine a_iconst (v := 0) X dX2_askers_23 (by decide) ?_
          refine a_goto (tgt := 28) X dX2_askers_24 (by decide) ?_
          exact Zw.to2 (J_28 _ _ _ _ _ (by first | exact Or.inl rfl | exact Or.inr rfl | assumption) hm_4 (by first | assumption | exact z_lt (by assumption) | exact z_lt2 (by assumption))) rfl rfl rfl
  have H_4 : ∀ (x1_4 : Int32) (x2_4 : Int32) (x3_4 : Int32), Zw p l e { frames := 3, cells := 0, slots := 0, locals := 80 * 3 } s m args below meth c G b 4 (MQ below (zQ G b FQ) args s 0 0 (fun q : Nat => b ≤ q)) 0 0 4 [some (.ref (Q)), some (.int x1_4), some (.int x2_4), some (.int x3_4)] [] S := fun x1_4 x2_4 x3_4  => L_4 _ x1_4 x2_4 x3_4  (Nat.lt_succ_self _)
  refine a_iconst (v := 0) X dX2_askers_0 (by decide) ?_
  refine a_istore_n X dX2_askers_1 (by decide) ?_
  refine a_iconst (v := 0) X dX2_askers_2 (by decide) ?_
  refine a_istore_n X dX2_askers_3 (by decide) ?_
  exact Zw.to2 (H_4 _ _ _ ) rfl rfl rfl
set_option maxRecDepth 100000 in
theorem s_X2_open {l : Launch} {G : zG} {b : Nat} {S : zS} {P : Nat} {Q : Nat} {v0 : Int32} (hQ : LX2 S.1 Q) (rQ : P < Q ∧ Q + 13 ≤ P + 200) : zM l G b yX2_open cX2_open 2 none 1 0 0 [.ref Q, .int v0] S (fun r z => ∃ M' N', z = (S.1, M', N') ∧ zK P S.2.1 M' ∧ r = none) := by
  refine zM.of miX2_open (Nat.le_of_ble_eq_true rfl) ?_
  intro p e s m args below meth c X hr hname
  generalize hF : ((fun r z => ∃ M' N', z = (S.1, M', N') ∧ zK P S.2.1 M' ∧ r = none) : Option Value → zS → Prop) = FQ
  change Zw p l e { frames := 1, cells := 0, slots := 0, locals := 80 * 1 } s m args below meth c G b 2 (MQ below (zQ G b FQ) args s 0 0 (fun q : Nat => b ≤ q)) 0 0 0 [some (.ref Q), some (.int v0)] [] S
  obtain ⟨q_lt, q_o, q_quota, q_preferred, q_forGuests, q_applicantOf, q_size, q_guestCount, q_score, q_tickets, q_bits, q_party, q_wishCount, q_wishes⟩ := id hQ
  refine a_aload_n X dX2_open_0 rfl ?_
  refine a_getr X lf2_24 (by assumption) rfl (by omega) dX2_open_1 ?_
  refine a_aload_n X dX2_open_4 rfl ?_
  refine a_geti X lf2_52 (by assumption) rfl dX2_open_5 ?_
  refine a_iconst (v := 0) X dX2_open_8 (by decide) ?_
  refine a_callSNx X dX2_open_9 miX7_put lm2_96 (s_X7_put (P := P) (by assumption) (by first | decide | assumption) (by omega)) rfl rfl (Nat.le_of_ble_eq_true rfl) ⟨by decide, by decide, by decide, by decide⟩ (fun r_9 S_9 q_9 => ?_)
  obtain ⟨M_9, N_9, rfl, k_9, rfl⟩ := q_9
  refine a_aload_n X dX2_open_12 rfl ?_
  refine a_getr X lf2_27 (by assumption) rfl (by omega) dX2_open_13 ?_
  refine a_aload_n X dX2_open_16 rfl ?_
  refine a_geti X lf2_52 (by assumption) rfl dX2_open_17 ?_
  refine a_iconst (v := 0) X dX2_open_20 (by decide) ?_
  refine a_callSNx X dX2_open_21 miX7_put lm2_96 (s_X7_put (P := P) (by assumption) (by first | decide | assumption) (by omega)) rfl rfl (Nat.le_of_ble_eq_true rfl) ⟨by decide, by decide, by decide, by decide⟩ (fun r_21 S_21 q_21 => ?_)
  obtain ⟨M_21, N_21, rfl, k_21, rfl⟩ := q_21
  refine a_aload_n X dX2_open_24 rfl ?_
  refine a_getr X lf2_30 (by assumption) rfl (by omega) dX2_open_25 ?_
  refine a_aload_n X dX2_open_28 rfl ?_
  refine a_geti X lf2_52 (by assumption) rfl dX2_open_29 ?_
  refine a_iconst (v := 0) X dX2_open_32 (by decide) ?_
  refine a_callSNx X dX2_open_33 miX7_put lm2_96 (s_X7_put (P := P) (by assumption) (by first | decide | assumption) (by omega)) rfl rfl (Nat.le_of_ble_eq_true rfl) ⟨by decide, by decide, by decide, by decide⟩ (fun r_33 S_33 q_33 => ?_)
  obtain ⟨M_33, N_33, rfl, k_33, rfl⟩ := q_33
  refine a_aload_n X dX2_open_36 rfl ?_
  refine a_getr X lf2_36 (by assumption) rfl (by omega) dX2_open_37 ?_
  refine a_aload_n X dX2_open_40 rfl ?_
  refine a_geti X lf2_52 (by assumption) rfl dX2_open_41 ?_
  refine a_iconst (v := 0) X dX2_open_44 (by decide) ?_
  refine a_callSNx X dX2_open_45 miX7_put lm2_96 (s_X7_put (P := P) (by assumption) (by first | decide | assumption) (by omega)) rfl rfl (Nat.le_of_ble_eq_true rfl) ⟨by decide, by decide, by decide, by decide⟩ (fun r_45 S_45 q_45 => ?_)
  obtain ⟨M_45, N_45, rfl, k_45, rfl⟩ := q_45
  refine a_aload_n X dX2_open_48 rfl ?_
  refine a_getr X lf2_39 (by assumption) rfl (by omega) dX2_open_49 ?_
  refine a_aload_n X dX2_open_52 rfl ?_
  refine a_geti X lf2_52 (by assumption) rfl dX2_open_53 ?_
  refine a_iload_n X dX2_open_56 rfl ?_
  refine a_callSNx X dX2_open_57 miX7_put lm2_96 (s_X7_put (P := P) (by assumption) (by first | decide | assumption) (by omega)) rfl rfl (Nat.le_of_ble_eq_true rfl) ⟨by decide, by decide, by decide, by decide⟩ (fun r_57 S_57 q_57 => ?_)
  obtain ⟨M_57, N_57, rfl, k_57, rfl⟩ := q_57
  refine a_aload_n X dX2_open_60 rfl ?_
  refine a_dup X dX2_open_61 rfl ?_
  refine a_geti X lf2_52 (by assumption) rfl dX2_open_62 ?_
  refine a_iconst (v := 1) X dX2_open_65 (by decide) ?_
  refine a_iadd X dX2_open_66 ?_
  refine a_puti X lf2_52 (by assumption) rfl dX2_open_67 ?_
  refine a_vret X hr dX2_open_70 ⟨by decide, by decide⟩ ?_
  subst hF
  exact ⟨_, _, rfl, (by (try dsimp only); repeat first | assumption | exact zK.rf | refine zK.zu ?_ (by omega) | refine zK.zu0 ?_ (by decide) | refine zK.zwr ?_ (by omega) | refine zK.zfil ?_ (by omega) | refine zK.zcpy ?_ (by omega) | refine zK.trans ?_ (by assumption) | dsimp only), rfl⟩
set_option maxRecDepth 100000 in
theorem s_X2_join {l : Launch} {G : zG} {b : Nat} {S : zS} {P : Nat} {Q : Nat} {A : Nat} {v0 : Int32} (hQ : LX2 S.1 Q) (rQ : P < Q ∧ Q + 13 ≤ P + 200) (hA : LX4 S.1 A) (rA : P < A ∧ A + 8 ≤ P + 200) : zM l G b yX2_join cX2_join 5 none 1 0 0 [.ref Q, .ref A, .int v0] S (fun r z => ∃ M' N', z = (S.1, M', N') ∧ zK P S.2.1 M' ∧ r = none) := by
  refine zM.of miX2_join (Nat.le_of_ble_eq_true rfl) ?_
  intro p e s m args below meth c X hr hname
  generalize hF : ((fun r z => ∃ M' N', z = (S.1, M', N') ∧ zK P S.2.1 M' ∧ r = none) : Option Value → zS → Prop) = FQ
  change Zw p l e { frames := 1, cells := 0, slots := 0, locals := 80 * 1 } s m args below meth c G b 5 (MQ below (zQ G b FQ) args s 0 0 (fun q : Nat => b ≤ q)) 0 0 0 [some (.ref Q), some (.ref A), some (.int v0), none, none] [] S
  obtain ⟨q_lt, q_o, q_quota, q_preferred, q_forGuests, q_applicantOf, q_size, q_guestCount, q_score, q_tickets, q_bits, q_party, q_wishCount, q_wishes⟩ := id hQ
  obtain ⟨a_lt, a_o, a_quota, a_score, a_guest, a_party, a_wishCount, a_wishes, a_has⟩ := id hA
  have L_87 : ∀ u : Nat, ∀ (x2_87 : Int32) (x3_87 : Int32) (x4_87 : Int32) (M2 : Nat → Nat → Int32) (N2 : Nat → Nat → Int64), zK P S.2.1 M2 → (2147483648 - x4_87.toInt).toNat < u → Zw p l e { frames := 1, cells := 0, slots := 0, locals := 80 * 1 } s m args below meth c G b 5 (MQ below (zQ G b FQ) args s 0 0 (fun q : Nat => b ≤ q)) 0 0 87 [some (.ref (Q)), some (.ref (A)), some (.int x2_87), some (.int x3_87), some (.int x4_87)] [] (S.1, M2, N2) := by
    intro u
    induction u with
    | zero => intro x2_87 x3_87 x4_87 M2_87 N2_87 k_87 hm_87; exact absurd hm_87 (Nat.not_lt_zero _)
    | succ u_87 ih_87 =>
      intro x2_87 x3_87 x4_87 M2_87 N2_87 k_87 hm_87
      refine a_iload X dX2_join_87 rfl ?_
      refine a_iconst (v := 3) X dX2_join_89 (by decide) ?_
      refine a_icmp_ge (tgt := 125) X dX2_join_90 (by decide) (fun h_90 => ?_) (fun h_90 => ?_)
      · refine a_vret X hr dX2_join_125 ⟨by decide, by decide⟩ ?_
        subst hF
        exact ⟨_, _, rfl, (by (try dsimp only); repeat first | assumption | exact zK.rf | refine zK.zu ?_ (by omega) | refine zK.zu0 ?_ (by decide) | refine zK.zwr ?_ (by omega) | refine zK.zfil ?_ (by omega) | refine zK.zcpy ?_ (by omega) | refine zK.trans ?_ (by assumption) | dsimp only), rfl⟩
      · refine a_aload_n X dX2_join_93 rfl ?_
        refine a_getr X lf2_45 (by assumption) rfl (by omega) dX2_join_94 ?_
        refine a_iload_n X dX2_join_97 rfl ?_
        refine a_iconst (v := 3) X dX2_join_98 (by decide) ?_
        refine a_imul X dX2_join_99 ?_
        refine a_iload X dX2_join_100 rfl ?_
        refine a_iadd X dX2_join_102 ?_
        refine a_aload_n X dX2_join_103 rfl ?_
        refine a_getr X lf2_114 (by assumption) rfl (by omega) dX2_join_104 ?_
        refine a_iload_n X dX2_join_107 rfl ?_
        refine a_iconst (v := 3) X dX2_join_108 (by decide) ?_
        refine a_imul X dX2_join_109 ?_
        refine a_iload X dX2_join_110 rfl ?_
        refine a_iadd X dX2_join_112 ?_
        refine a_callSNv X dX2_join_113 miX7_cell lm2_62 (c_cell (by assumption) (by first | decide | assumption)) rfl rfl (Nat.le_of_ble_eq_true rfl) ⟨by decide, by decide, by decide, by decide⟩ ?_
        refine a_callSNx X dX2_join_116 miX7_put lm2_96 (s_X7_put (P := P) (by assumption) (by first | decide | assumption) (by omega)) rfl rfl (Nat.le_of_ble_eq_true rfl) ⟨by decide, by decide, by decide, by decide⟩ (fun r_116 S_116 q_116 => ?_)
        obtain ⟨M_116, N_116, rfl, k_116, rfl⟩ := q_116
        refine a_iinc X dX2_join_119 (by decide) rfl rfl ?_
        refine a_goto (tgt := 87) X dX2_join_122 (by decide) ?_
        exact Zw.to2 (ih_87 _ _ _ _ _ (by (try dsimp only); repeat first | assumption | exact zK.rf | refine zK.zu ?_ (by omega) | refine zK.zu0 ?_ (by decide) | refine zK.zwr ?_ (by omega) | refine zK.zfil ?_ (by omega) | refine zK.zcpy ?_ (by omega) | refine zK.trans ?_ (by assumption) | dsimp only)  (z_up (by first | assumption | exact z_lt (by assumption) | exact z_lt2 (by assumption)) hm_87)) rfl rfl rfl
  have H_87 : ∀ (x2_87 : Int32) (x3_87 : Int32) (x4_87 : Int32) (M2 : Nat → Nat → Int32) (N2 : Nat → Nat → Int64), zK P S.2.1 M2 → Zw p l e { frames := 1, cells := 0, slots := 0, locals := 80 * 1 } s m args below meth c G b 5 (MQ below (zQ G b FQ) args s 0 0 (fun q : Nat => b ≤ q)) 0 0 87 [some (.ref (Q)), some (.ref (A)), some (.int x2_87), some (.int x3_87), some (.int x4_87)] [] (S.1, M2, N2) := fun x2_87 x3_87 x4_87 M2 N2 k  => L_87 _ x2_87 x3_87 x4_87 M2 N2 k  (Nat.lt_succ_self _)
  refine a_aload_n X dX2_join_0 rfl ?_
  refine a_geti X lf2_52 (by assumption) rfl dX2_join_1 ?_
  refine a_iconst (v := 1) X dX2_join_4 (by decide) ?_
  refine a_isub X dX2_join_5 ?_
  refine a_istore_n X dX2_join_6 (by decide) ?_
  refine a_aload_n X dX2_join_7 rfl ?_
  refine a_getr X lf2_21 (by assumption) rfl (by omega) dX2_join_8 ?_
  refine a_iload_n X dX2_join_11 rfl ?_
  refine a_iload_n X dX2_join_12 rfl ?_
  refine a_callSNx X dX2_join_13 miX7_put lm2_96 (s_X7_put (P := P) (by assumption) (by first | decide | assumption) (by omega)) rfl rfl (Nat.le_of_ble_eq_true rfl) ⟨by decide, by decide, by decide, by decide⟩ (fun r_13 S_13 q_13 => ?_)
  obtain ⟨M_13, N_13, rfl, k_13, rfl⟩ := q_13
  refine a_aload_n X dX2_join_16 rfl ?_
  refine a_getr X lf2_24 (by assumption) rfl (by omega) dX2_join_17 ?_
  refine a_iload_n X dX2_join_20 rfl ?_
  refine a_iconst (v := 1) X dX2_join_21 (by decide) ?_
  refine a_callSNx X dX2_join_22 miX7_add lm2_106 (s_X7_add (P := P) (by assumption) (by first | decide | assumption) (by omega)) rfl rfl (Nat.le_of_ble_eq_true rfl) ⟨by decide, by decide, by decide, by decide⟩ (fun r_22 S_22 q_22 => ?_)
  obtain ⟨M_22, N_22, rfl, k_22, rfl⟩ := q_22
  refine a_aload_n X dX2_join_25 rfl ?_
  refine a_getr X lf2_27 (by assumption) rfl (by omega) dX2_join_26 ?_
  refine a_iload_n X dX2_join_29 rfl ?_
  refine a_aload_n X dX2_join_30 rfl ?_
  refine a_getr X lf2_109 (by assumption) rfl (by omega) dX2_join_31 ?_
  refine a_iload_n X dX2_join_34 rfl ?_
  refine a_callSNv X dX2_join_35 miX7_cell lm2_62 (c_cell (by assumption) (by first | decide | assumption)) rfl rfl (Nat.le_of_ble_eq_true rfl) ⟨by decide, by decide, by decide, by decide⟩ ?_
  refine a_callSNx X dX2_join_38 miX7_add lm2_106 (s_X7_add (P := P) (by assumption) (by first | decide | assumption) (by omega)) rfl rfl (Nat.le_of_ble_eq_true rfl) ⟨by decide, by decide, by decide, by decide⟩ (fun r_38 S_38 q_38 => ?_)
  obtain ⟨M_38, N_38, rfl, k_38, rfl⟩ := q_38
  refine a_aload_n X dX2_join_41 rfl ?_
  refine a_getr X lf2_30 (by assumption) rfl (by omega) dX2_join_42 ?_
  refine a_iload_n X dX2_join_45 rfl ?_
  refine a_aload_n X dX2_join_46 rfl ?_
  refine a_getr X lf2_112 (by assumption) rfl (by omega) dX2_join_47 ?_
  refine a_iload_n X dX2_join_50 rfl ?_
  refine a_callSNv X dX2_join_51 miX7_cell lm2_62 (c_cell (by assumption) (by first | decide | assumption)) rfl rfl (Nat.le_of_ble_eq_true rfl) ⟨by decide, by decide, by decide, by decide⟩ ?_
  refine a_callSNx X dX2_join_54 miX7_add lm2_106 (s_X7_add (P := P) (by assumption) (by first | decide | assumption) (by omega)) rfl rfl (Nat.le_of_ble_eq_true rfl) ⟨by decide, by decide, by decide, by decide⟩ (fun r_54 S_54 q_54 => ?_)
  obtain ⟨M_54, N_54, rfl, k_54, rfl⟩ := q_54
  refine a_aload_n X dX2_join_57 rfl ?_
  refine a_getr X lf2_36 (by assumption) rfl (by omega) dX2_join_58 ?_
  refine a_iload_n X dX2_join_61 rfl ?_
  refine a_iconst (v := 1) X dX2_join_62 (by decide) ?_
  refine a_iload_n X dX2_join_63 rfl ?_
  refine a_ishl X dX2_join_64 ?_
  refine a_callSNx X dX2_join_65 miX7_add lm2_106 (s_X7_add (P := P) (by assumption) (by first | decide | assumption) (by omega)) rfl rfl (Nat.le_of_ble_eq_true rfl) ⟨by decide, by decide, by decide, by decide⟩ (fun r_65 S_65 q_65 => ?_)
  obtain ⟨M_65, N_65, rfl, k_65, rfl⟩ := q_65
  refine a_aload_n X dX2_join_68 rfl ?_
  refine a_getr X lf2_42 (by assumption) rfl (by omega) dX2_join_69 ?_
  refine a_iload_n X dX2_join_72 rfl ?_
  refine a_aload_n X dX2_join_73 rfl ?_
  refine a_getr X lf2_113 (by assumption) rfl (by omega) dX2_join_74 ?_
  refine a_iload_n X dX2_join_77 rfl ?_
  refine a_callSNv X dX2_join_78 miX7_cell lm2_62 (c_cell (by assumption) (by first | decide | assumption)) rfl rfl (Nat.le_of_ble_eq_true rfl) ⟨by decide, by decide, by decide, by decide⟩ ?_
  refine a_callSNx X dX2_join_81 miX7_put lm2_96 (s_X7_put (P := P) (by assumption) (by first | decide | assumption) (by omega)) rfl rfl (Nat.le_of_ble_eq_true rfl) ⟨by decide, by decide, by decide, by decide⟩ (fun r_81 S_81 q_81 => ?_)
  obtain ⟨M_81, N_81, rfl, k_81, rfl⟩ := q_81
  refine a_iconst (v := 0) X dX2_join_84 (by decide) ?_
  refine a_istore X dX2_join_85 (by decide) ?_
  exact Zw.to2 (H_87 _ _ _ _ _ (by (try dsimp only); repeat first | assumption | exact zK.rf | refine zK.zu ?_ (by omega) | refine zK.zu0 ?_ (by decide) | refine zK.zwr ?_ (by omega) | refine zK.zfil ?_ (by omega) | refine zK.zcpy ?_ (by omega) | refine zK.trans ?_ (by assumption) | dsimp only) ) rfl rfl rfl
set_option maxRecDepth 100000 in
theorem s_X2_close {l : Launch} {G : zG} {b : Nat} {S : zS} {P : Nat} {Q : Nat} {v0 : Int32} {v1 : Int32} (hQ : LX2 S.1 Q) (rQ : P < Q ∧ Q + 13 ≤ P + 200) : zM l G b yX2_close cX2_close 5 none 1 0 0 [.ref Q, .int v0, .int v1] S (fun r z => ∃ M' N', z = (S.1, M', N') ∧ zK P S.2.1 M' ∧ r = none) := by
  refine zM.of miX2_close (Nat.le_of_ble_eq_true rfl) ?_
  intro p e s m args below meth c X hr hname
  generalize hF : ((fun r z => ∃ M' N', z = (S.1, M', N') ∧ zK P S.2.1 M' ∧ r = none) : Option Value → zS → Prop) = FQ
  change Zw p l e { frames := 1, cells := 0, slots := 0, locals := 80 * 1 } s m args below meth c G b 5 (MQ below (zQ G b FQ) args s 0 0 (fun q : Nat => b ≤ q)) 0 0 0 [some (.ref Q), some (.int v0), some (.int v1), none, none] [] S
  obtain ⟨q_lt, q_o, q_quota, q_preferred, q_forGuests, q_applicantOf, q_size, q_guestCount, q_score, q_tickets, q_bits, q_party, q_wishCount, q_wishes⟩ := id hQ
  have J_72 : ∀ (x1_72 : Int32) (x2_72 : Int32) (x3_72 : Int32) (x4_72 : Int32) (y1_72 : Int32) (y2_72 : Int32) (M2 : Nat → Nat → Int32) (N2 : Nat → Nat → Int64), zK P S.2.1 M2 → Zw p l e { frames := 1, cells := 0, slots := 0, locals := 80 * 1 } s m args below meth c G b 5 (MQ below (zQ G b FQ) args s 0 0 (fun q : Nat => b ≤ q)) 0 0 72 [some (.ref (Q)), some (.int x1_72), some (.int x2_72), some (.int x3_72), some (.int x4_72)] [(.int y2_72), (.int y1_72), (.ref (Q + 8))] (S.1, M2, N2) := by
    intro x1_72 x2_72 x3_72 x4_72 y1_72 y2_72 M2_72 N2_72 k_72
    refine a_callSNx X dX2_close_72 miX7_put lm2_96 (s_X7_put (P := P) (by assumption) (by first | decide | assumption) (by omega)) rfl rfl (Nat.le_of_ble_eq_true rfl) ⟨by decide, by decide, by decide, by decide⟩ (fun r_72 S_72 q_72 => ?_)
    obtain ⟨M_72, N_72, rfl, k_72, rfl⟩ := q_72
    refine a_vret X hr dX2_close_75 ⟨by decide, by decide⟩ ?_
    subst hF
    exact ⟨_, _, rfl, (by (try dsimp only); repeat first | assumption | exact zK.rf | refine zK.zu ?_ (by omega) | refine zK.zu0 ?_ (by decide) | refine zK.zwr ?_ (by omega) | refine zK.zfil ?_ (by omega) | refine zK.zcpy ?_ (by omega) | refine zK.trans ?_ (by assumption) | dsimp only), rfl⟩
  have J_27 : ∀ (x1_27 : Int32) (x2_27 : Int32) (x3_27 : Int32) (x4_27 : Option Value) (y0_27 : Int32) (M2 : Nat → Nat → Int32) (N2 : Nat → Nat → Int64), zK P S.2.1 M2 → Zw p l e { frames := 1, cells := 0, slots := 0, locals := 80 * 1 } s m args below meth c G b 5 (MQ below (zQ G b FQ) args s 0 0 (fun q : Nat => b ≤ q)) 0 0 27 [some (.ref (Q)), some (.int x1_27), some (.int x2_27), some (.int x3_27), x4_27] [(.int y0_27)] (S.1, M2, N2) := by
    intro x1_27 x2_27 x3_27 x4_27 y0_27 M2_27 N2_27 k_27
    refine a_istore X dX2_close_27 (by decide) ?_
    refine a_aload_n X dX2_close_29 rfl ?_
    refine a_getr X lf2_30 (by assumption) rfl (by omega) dX2_close_30 ?_
    refine a_iload_n X dX2_close_33 rfl ?_
    refine a_iload X dX2_close_34 rfl ?_
    refine a_callSNx X dX2_close_36 miX7_put lm2_96 (s_X7_put (P := P) (by assumption) (by first | decide | assumption) (by omega)) rfl rfl (Nat.le_of_ble_eq_true rfl) ⟨by decide, by decide, by decide, by decide⟩ (fun r_36 S_36 q_36 => ?_)
    obtain ⟨M_36, N_36, rfl, k_36, rfl⟩ := q_36
    refine a_aload_n X dX2_close_39 rfl ?_
    refine a_getr X lf2_33 (by assumption) rfl (by omega) dX2_close_40 ?_
    refine a_iload_n X dX2_close_43 rfl ?_
    refine a_iload_n X dX2_close_44 rfl ?_
    refine a_iconst (v := 2) X dX2_close_45 (by decide) ?_
    refine a_icmp_ne (tgt := 59) X dX2_close_46 (by decide) (fun h_46 => ?_) (fun h_46 => ?_)
    · refine a_iload_n X dX2_close_59 rfl ?_
      refine a_iconst (v := 1) X dX2_close_60 (by decide) ?_
      refine a_icmp_ne (tgt := 71) X dX2_close_61 (by decide) (fun h_61 => ?_) (fun h_61 => ?_)
      · refine a_iconst (v := 1) X dX2_close_71 (by decide) ?_
        exact Zw.to2 (J_72 _ _ _ _ _ _ _ _ (by (try dsimp only); repeat first | assumption | exact zK.rf | refine zK.zu ?_ (by omega) | refine zK.zu0 ?_ (by decide) | refine zK.zwr ?_ (by omega) | refine zK.zfil ?_ (by omega) | refine zK.zcpy ?_ (by omega) | refine zK.trans ?_ (by assumption) | dsimp only) ) rfl rfl rfl
      · refine a_iconst (v := 1) X dX2_close_64 (by decide) ?_
        refine a_iload X dX2_close_65 rfl ?_
        refine a_iadd X dX2_close_67 ?_
        refine a_goto (tgt := 72) X dX2_close_68 (by decide) ?_
        exact Zw.to2 (J_72 _ _ _ _ _ _ _ _ (by (try dsimp only); repeat first | assumption | exact zK.rf | refine zK.zu ?_ (by omega) | refine zK.zu0 ?_ (by decide) | refine zK.zwr ?_ (by omega) | refine zK.zfil ?_ (by omega) | refine zK.zcpy ?_ (by omega) | refine zK.trans ?_ (by assumption) | dsimp only) ) rfl rfl rfl
    · refine a_iconst (v := 1) X dX2_close_49 (by decide) ?_
      refine a_iload X dX2_close_50 rfl ?_
      refine a_iload X dX2_close_52 rfl ?_
      refine a_imul X dX2_close_54 ?_
      refine a_iadd X dX2_close_55 ?_
      refine a_goto (tgt := 72) X dX2_close_56 (by decide) ?_
      exact Zw.to2 (J_72 _ _ _ _ _ _ _ _ (by (try dsimp only); repeat first | assumption | exact zK.rf | refine zK.zu ?_ (by omega) | refine zK.zu0 ?_ (by decide) | refine zK.zwr ?_ (by omega) | refine zK.zfil ?_ (by omega) | refine zK.zcpy ?_ (by omega) | refine zK.trans ?_ (by assumption) | dsimp only) ) rfl rfl rfl
  refine a_aload_n X dX2_close_0 rfl ?_
  refine a_getr X lf2_24 (by assumption) rfl (by omega) dX2_close_1 ?_
  refine a_iload_n X dX2_close_4 rfl ?_
  refine a_callSNv X dX2_close_5 miX7_cell lm2_62 (c_cell (by assumption) (by first | decide | assumption)) rfl rfl (Nat.le_of_ble_eq_true rfl) ⟨by decide, by decide, by decide, by decide⟩ ?_
  refine a_istore_n X dX2_close_8 (by decide) ?_
  refine a_iload_n X dX2_close_9 rfl ?_
  refine a_if_ne (tgt := 17) X dX2_close_10 (by decide) (fun h_10 => ?_) (fun h_10 => ?_)
  · refine a_aload_n X dX2_close_17 rfl ?_
    refine a_getr X lf2_30 (by assumption) rfl (by omega) dX2_close_18 ?_
    refine a_iload_n X dX2_close_21 rfl ?_
    refine a_callSNv X dX2_close_22 miX7_cell lm2_62 (c_cell (by assumption) (by first | decide | assumption)) rfl rfl (Nat.le_of_ble_eq_true rfl) ⟨by decide, by decide, by decide, by decide⟩ ?_
    refine a_iload_n X dX2_close_25 rfl ?_
    refine a_idiv X dX2_close_26 (by first | assumption | decide | exact z_nzl (by assumption)) ?_
    exact Zw.to2 (J_27 _ _ _ _ _ _ _ (by (try dsimp only); repeat first | assumption | exact zK.rf | refine zK.zu ?_ (by omega) | refine zK.zu0 ?_ (by decide) | refine zK.zwr ?_ (by omega) | refine zK.zfil ?_ (by omega) | refine zK.zcpy ?_ (by omega) | refine zK.trans ?_ (by assumption) | dsimp only) ) rfl rfl rfl
  · refine a_iconst (v := 0) X dX2_close_13 (by decide) ?_
    refine a_goto (tgt := 27) X dX2_close_14 (by decide) ?_
    exact Zw.to2 (J_27 _ _ _ _ _ _ _ (by (try dsimp only); repeat first | assumption | exact zK.rf | refine zK.zu ?_ (by omega) | refine zK.zu0 ?_ (by decide) | refine zK.zwr ?_ (by omega) | refine zK.zfil ?_ (by omega) | refine zK.zcpy ?_ (by omega) | refine zK.trans ?_ (by assumption) | dsimp only) ) rfl rfl rfl
set_option maxRecDepth 100000 in
theorem s_X5_holderOf {l : Launch} {G : zG} {b : Nat} {S : zS} {P : Nat} {Q : Nat} {v0 : Int32} {v1 : Int32} (hQ : LX2 S.1 Q) (rQ : P < Q ∧ Q + 13 ≤ P + 200) : zM l G b yX5_holderOf cX5_holderOf 5 (some .int) 1 0 0 [.ref Q, .int v0, .int v1] S (fun r z => z = S ∧ ∃ v : Int32, r = some (.int v)) := by
  refine zM.of miX5_holderOf (Nat.le_of_ble_eq_true rfl) ?_
  intro p e s m args below meth c X hr hname
  generalize hF : ((fun r z => z = S ∧ ∃ v : Int32, r = some (.int v)) : Option Value → zS → Prop) = FQ
  change Zw p l e { frames := 1, cells := 0, slots := 0, locals := 80 * 1 } s m args below meth c G b 5 (MQ below (zQ G b FQ) args s 0 0 (fun q : Nat => b ≤ q)) 0 0 0 [some (.ref Q), some (.int v0), some (.int v1), none, none] [] S
  obtain ⟨q_lt, q_o, q_quota, q_preferred, q_forGuests, q_applicantOf, q_size, q_guestCount, q_score, q_tickets, q_bits, q_party, q_wishCount, q_wishes⟩ := id hQ
  have L_5 : ∀ u : Nat, ∀ (x1_5 : Int32) (x2_5 : Int32) (x3_5 : Int32) (x4_5 : Int32), (2147483648 - x4_5.toInt).toNat < u → Zw p l e { frames := 1, cells := 0, slots := 0, locals := 80 * 1 } s m args below meth c G b 5 (MQ below (zQ G b FQ) args s 0 0 (fun q : Nat => b ≤ q)) 0 0 5 [some (.ref (Q)), some (.int x1_5), some (.int x2_5), some (.int x3_5), some (.int x4_5)] [] S := by
    intro u
    induction u with
    | zero => intro x1_5 x2_5 x3_5 x4_5 hm_5; exact absurd hm_5 (Nat.not_lt_zero _)
    | succ u_5 ih_5 =>
      intro x1_5 x2_5 x3_5 x4_5 hm_5
      have J_44 : ∀ (x1_44 : Int32) (x2_44 : Int32) (x3_44 : Int32) (x4_44 : Int32), ((2147483648 - x4_44.toInt).toNat < u_5 + 1) → (x4_44.toInt < 2147483647) → Zw p l e { frames := 1, cells := 0, slots := 0, locals := 80 * 1 } s m args below meth c G b 5 (MQ below (zQ G b FQ) args s 0 0 (fun q : Nat => b ≤ q)) 0 0 44 [some (.ref (Q)), some (.int x1_44), some (.int x2_44), some (.int x3_44), some (.int x4_44)] [] S := by
        intro x1_44 x2_44 x3_44 x4_44 f0_44 f1_44
        refine a_iinc X dX5_holderOf_44 (by decide) rfl rfl ?_
        refine a_goto (tgt := 5) X dX5_holderOf_47 (by decide) ?_
        exact Zw.to2 (ih_5 _ _ _ _  (z_up f1_44 f0_44)) rfl rfl rfl
      refine a_iload X dX5_holderOf_5 rfl ?_
      refine a_aload_n X dX5_holderOf_7 rfl ?_
      refine a_geti X lf5_47 (by assumption) rfl dX5_holderOf_8 ?_
      refine a_icmp_ge (tgt := 50) X dX5_holderOf_11 (by decide) (fun h_11 => ?_) (fun h_11 => ?_)
      · refine a_iconst (v := 0) X dX5_holderOf_50 (by decide) ?_
        refine a_iret X hr dX5_holderOf_51 ⟨by decide, by decide⟩ ?_
        subst hF
        exact ⟨rfl, ⟨_, rfl⟩⟩
      · refine a_iload_n X dX5_holderOf_14 rfl ?_
        refine a_iload X dX5_holderOf_15 rfl ?_
        refine a_ishr X dX5_holderOf_17 ?_
        refine a_iconst (v := 1) X dX5_holderOf_18 (by decide) ?_
        refine a_iand X dX5_holderOf_19 ?_
        refine a_iconst (v := 1) X dX5_holderOf_20 (by decide) ?_
        refine a_icmp_ne (tgt := 44) X dX5_holderOf_21 (by decide) (fun h_21 => ?_) (fun h_21 => ?_)
        · exact Zw.to2 (J_44 _ _ _ _ hm_5 (by first | assumption | exact z_lt (by assumption) | exact z_lt2 (by assumption))) rfl rfl rfl
        · refine a_iload_n X dX5_holderOf_24 rfl ?_
          refine a_aload_n X dX5_holderOf_25 rfl ?_
          refine a_getr X lf5_66 (by assumption) rfl (by omega) dX5_holderOf_26 ?_
          refine a_iload X dX5_holderOf_29 rfl ?_
          refine a_callSNv X dX5_holderOf_31 miX7_cell lm5_69 (c_cell (by assumption) (by first | decide | assumption)) rfl rfl (Nat.le_of_ble_eq_true rfl) ⟨by decide, by decide, by decide, by decide⟩ ?_
          refine a_iadd X dX5_holderOf_34 ?_
          refine a_istore_n X dX5_holderOf_35 (by decide) ?_
          refine a_iload_n X dX5_holderOf_36 rfl ?_
          refine a_iload_n X dX5_holderOf_37 rfl ?_
          refine a_icmp_le (tgt := 44) X dX5_holderOf_38 (by decide) (fun h_38 => ?_) (fun h_38 => ?_)
          · exact Zw.to2 (J_44 _ _ _ _ hm_5 (by first | assumption | exact z_lt (by assumption) | exact z_lt2 (by assumption))) rfl rfl rfl
          · refine a_iload X dX5_holderOf_41 rfl ?_
            refine a_iret X hr dX5_holderOf_43 ⟨by decide, by decide⟩ ?_
            subst hF
            exact ⟨rfl, ⟨_, rfl⟩⟩
  have H_5 : ∀ (x1_5 : Int32) (x2_5 : Int32) (x3_5 : Int32) (x4_5 : Int32), Zw p l e { frames := 1, cells := 0, slots := 0, locals := 80 * 1 } s m args below meth c G b 5 (MQ below (zQ G b FQ) args s 0 0 (fun q : Nat => b ≤ q)) 0 0 5 [some (.ref (Q)), some (.int x1_5), some (.int x2_5), some (.int x3_5), some (.int x4_5)] [] S := fun x1_5 x2_5 x3_5 x4_5  => L_5 _ x1_5 x2_5 x3_5 x4_5  (Nat.lt_succ_self _)
  refine a_iconst (v := 0) X dX5_holderOf_0 (by decide) ?_
  refine a_istore_n X dX5_holderOf_1 (by decide) ?_
  refine a_iconst (v := 0) X dX5_holderOf_2 (by decide) ?_
  refine a_istore X dX5_holderOf_3 (by decide) ?_
  exact Zw.to2 (H_5 _ _ _ _ ) rfl rfl rfl
set_option maxRecDepth 100000 in
theorem s_X5_lineUp {l : Launch} {G : zG} {b : Nat} {S : zS} {P : Nat} {Q : Nat} {A : Nat} {v0 : Int32} (hQ : LX5 S.1 Q) (rQ : P < Q ∧ Q + 8 ≤ P + 200) (hA : LX2 S.1 A) (rA : P < A ∧ A + 13 ≤ P + 200) : zM l G b yX5_lineUp cX5_lineUp 9 none 2 0 0 [.ref Q, .ref A, .int v0] S (fun r z => ∃ M' N', z = (S.1, M', N') ∧ zK P S.2.1 M' ∧ r = none) := by
  refine zM.of miX5_lineUp (Nat.le_of_ble_eq_true rfl) ?_
  intro p e s m args below meth c X hr hname
  generalize hF : ((fun r z => ∃ M' N', z = (S.1, M', N') ∧ zK P S.2.1 M' ∧ r = none) : Option Value → zS → Prop) = FQ
  change Zw p l e { frames := 2, cells := 0, slots := 0, locals := 80 * 2 } s m args below meth c G b 9 (MQ below (zQ G b FQ) args s 0 0 (fun q : Nat => b ≤ q)) 0 0 0 [some (.ref Q), some (.ref A), some (.int v0), none, none, none, none, none, none] [] S
  obtain ⟨q_lt, q_o, q_line, q_unitOf, q_roundOf, q_leftTags, q_leftGuests, q_leftPreferred, q_ranked⟩ := id hQ
  obtain ⟨a_lt, a_o, a_quota, a_preferred, a_forGuests, a_applicantOf, a_size, a_guestCount, a_score, a_tickets, a_bits, a_party, a_wishCount, a_wishes⟩ := id hA
  have J_110 : ∀ (x2_110 : Int32) (x3_110 : Int64) (x5_110 : Int32) (x6_110 : Int32) (x7_110 : Int32) (x8_110 : Option Value) (M2 : Nat → Nat → Int32) (N2 : Nat → Nat → Int64), zK P S.2.1 M2 → Zw p l e { frames := 2, cells := 0, slots := 0, locals := 80 * 2 } s m args below meth c G b 9 (MQ below (zQ G b FQ) args s 0 0 (fun q : Nat => b ≤ q)) 0 0 110 [some (.ref (Q)), some (.ref (A)), some (.int x2_110), some (.long x3_110), none, some (.int x5_110), some (.int x6_110), some (.int x7_110), x8_110] [] (S.1, M2, N2) := by
    intro x2_110 x3_110 x5_110 x6_110 x7_110 x8_110 M2_110 N2_110 k_110
    refine a_vret X hr dX5_lineUp_110 ⟨by decide, by decide⟩ ?_
    subst hF
    exact ⟨_, _, rfl, (by (try dsimp only); repeat first | assumption | exact zK.rf | refine zK.zu ?_ (by omega) | refine zK.zu0 ?_ (by decide) | refine zK.zwr ?_ (by omega) | refine zK.zfil ?_ (by omega) | refine zK.zcpy ?_ (by omega) | refine zK.trans ?_ (by assumption) | dsimp only), rfl⟩
  have L_22 : ∀ u : Nat, ∀ (x2_22 : Int32) (x3_22 : Int64) (x5_22 : Int32) (x6_22 : Int32) (x7_22 : Int32) (x8_22 : Option Value) (M2 : Nat → Nat → Int32) (N2 : Nat → Nat → Int64), zK P S.2.1 M2 → (2147483648 - x7_22.toInt).toNat < u → Zw p l e { frames := 2, cells := 0, slots := 0, locals := 80 * 2 } s m args below meth c G b 9 (MQ below (zQ G b FQ) args s 0 0 (fun q : Nat => b ≤ q)) 0 0 22 [some (.ref (Q)), some (.ref (A)), some (.int x2_22), some (.long x3_22), none, some (.int x5_22), some (.int x6_22), some (.int x7_22), x8_22] [] (S.1, M2, N2) := by
    intro u
    induction u with
    | zero => intro x2_22 x3_22 x5_22 x6_22 x7_22 x8_22 M2_22 N2_22 k_22 hm_22; exact absurd hm_22 (Nat.not_lt_zero _)
    | succ u_22 ih_22 =>
      intro x2_22 x3_22 x5_22 x6_22 x7_22 x8_22 M2_22 N2_22 k_22 hm_22
      refine a_iload X dX5_lineUp_22 rfl ?_
      refine a_aload_n X dX5_lineUp_24 rfl ?_
      refine a_geti X lf5_47 (by assumption) rfl dX5_lineUp_25 ?_
      refine a_icmp_ge (tgt := 110) X dX5_lineUp_28 (by decide) (fun h_28 => ?_) (fun h_28 => ?_)
      · exact Zw.to2 (J_110 _ _ _ _ _ _ _ _ (by (try dsimp only); repeat first | assumption | exact zK.rf | refine zK.zu ?_ (by omega) | refine zK.zu0 ?_ (by decide) | refine zK.zwr ?_ (by omega) | refine zK.zfil ?_ (by omega) | refine zK.zcpy ?_ (by omega) | refine zK.trans ?_ (by assumption) | dsimp only) ) rfl rfl rfl
      · refine a_iload X dX5_lineUp_31 rfl ?_
        refine a_if_le (tgt := 110) X dX5_lineUp_33 (by decide) (fun h_33 => ?_) (fun h_33 => ?_)
        · exact Zw.to2 (J_110 _ _ _ _ _ _ _ _ (by (try dsimp only); repeat first | assumption | exact zK.rf | refine zK.zu ?_ (by omega) | refine zK.zu0 ?_ (by decide) | refine zK.zwr ?_ (by omega) | refine zK.zfil ?_ (by omega) | refine zK.zcpy ?_ (by omega) | refine zK.trans ?_ (by assumption) | dsimp only) ) rfl rfl rfl
        · refine a_ldc2 X dX5_lineUp_36 lk5_50 ?_
          refine a_lload_n X dX5_lineUp_39 rfl ?_
          refine a_lmul X dX5_lineUp_40 ?_
          refine a_ldc2 X dX5_lineUp_41 lk5_52 ?_
          refine a_ladd X dX5_lineUp_44 ?_
          refine a_ldc2 X dX5_lineUp_45 lk5_54 ?_
          refine a_lrem X dX5_lineUp_48 (by first | assumption | decide | exact z_nzl (by assumption)) ?_
          refine a_lstore_n X dX5_lineUp_49 (by decide) ?_
          refine a_aload_n X dX5_lineUp_50 rfl ?_
          refine a_iload X dX5_lineUp_51 rfl ?_
          refine a_lload_n X dX5_lineUp_53 rfl ?_
          refine a_ldc2 X dX5_lineUp_54 lk5_56 ?_
          refine a_ldiv X dX5_lineUp_57 (by first | assumption | decide | exact z_nzl (by assumption)) ?_
          refine a_iload X dX5_lineUp_58 rfl ?_
          refine a_i2l X dX5_lineUp_60 ?_
          refine a_lrem X dX5_lineUp_61 (by first | assumption | decide | exact z_nzl (by assumption)) ?_
          refine a_l2i X dX5_lineUp_62 ?_
          refine a_callSx X dX5_lineUp_63 miX5_holderOf lm5_58 (s_X5_holderOf (P := P) (by assumption) (by omega)) rfl rfl (Nat.le_of_ble_eq_true rfl) ⟨by decide, by decide, by decide, by decide⟩ (fun r_63 S_63 q_63 => ?_)
          obtain ⟨rfl, ⟨v_63, rfl⟩⟩ := q_63
          refine a_istore X dX5_lineUp_66 (by decide) ?_
          refine a_aload_n X dX5_lineUp_68 rfl ?_
          refine a_getr X lf5_9 (by assumption) rfl (by omega) dX5_lineUp_69 ?_
          refine a_iload X dX5_lineUp_72 rfl ?_
          refine a_iload X dX5_lineUp_74 rfl ?_
          refine a_callSNx X dX5_lineUp_76 miX7_put lm5_62 (s_X7_put (P := P) (by assumption) (by first | decide | assumption) (by omega)) rfl rfl (Nat.le_of_ble_eq_true rfl) ⟨by decide, by decide, by decide, by decide⟩ (fun r_76 S_76 q_76 => ?_)
          obtain ⟨M_76, N_76, rfl, k_76, rfl⟩ := q_76
          refine a_iload X dX5_lineUp_79 rfl ?_
          refine a_iconst (v := 1) X dX5_lineUp_81 (by decide) ?_
          refine a_iload X dX5_lineUp_82 rfl ?_
          refine a_ishl X dX5_lineUp_84 ?_
          refine a_iconst (v := -1) X dX5_lineUp_85 (by decide) ?_
          refine a_ixor X dX5_lineUp_86 ?_
          refine a_iand X dX5_lineUp_87 ?_
          refine a_istore X dX5_lineUp_88 (by decide) ?_
          refine a_iload X dX5_lineUp_90 rfl ?_
          refine a_aload_n X dX5_lineUp_92 rfl ?_
          refine a_getr X lf5_66 (by assumption) rfl (by omega) dX5_lineUp_93 ?_
          refine a_iload X dX5_lineUp_96 rfl ?_
          refine a_callSNv X dX5_lineUp_98 miX7_cell lm5_69 (c_cell (by assumption) (by first | decide | assumption)) rfl rfl (Nat.le_of_ble_eq_true rfl) ⟨by decide, by decide, by decide, by decide⟩ ?_
          refine a_isub X dX5_lineUp_101 ?_
          refine a_istore X dX5_lineUp_102 (by decide) ?_
          refine a_iinc X dX5_lineUp_104 (by decide) rfl rfl ?_
          refine a_goto (tgt := 22) X dX5_lineUp_107 (by decide) ?_
          exact Zw.to2 (ih_22 _ _ _ _ _ _ _ _ (by (try dsimp only); repeat first | assumption | exact zK.rf | refine zK.zu ?_ (by omega) | refine zK.zu0 ?_ (by decide) | refine zK.zwr ?_ (by omega) | refine zK.zfil ?_ (by omega) | refine zK.zcpy ?_ (by omega) | refine zK.trans ?_ (by assumption) | dsimp only)  (z_up (by first | assumption | exact z_lt (by assumption) | exact z_lt2 (by assumption)) hm_22)) rfl rfl rfl
  have H_22 : ∀ (x2_22 : Int32) (x3_22 : Int64) (x5_22 : Int32) (x6_22 : Int32) (x7_22 : Int32) (x8_22 : Option Value) (M2 : Nat → Nat → Int32) (N2 : Nat → Nat → Int64), zK P S.2.1 M2 → Zw p l e { frames := 2, cells := 0, slots := 0, locals := 80 * 2 } s m args below meth c G b 9 (MQ below (zQ G b FQ) args s 0 0 (fun q : Nat => b ≤ q)) 0 0 22 [some (.ref (Q)), some (.ref (A)), some (.int x2_22), some (.long x3_22), none, some (.int x5_22), some (.int x6_22), some (.int x7_22), x8_22] [] (S.1, M2, N2) := fun x2_22 x3_22 x5_22 x6_22 x7_22 x8_22 M2 N2 k  => L_22 _ x2_22 x3_22 x5_22 x6_22 x7_22 x8_22 M2 N2 k  (Nat.lt_succ_self _)
  refine a_iload_n X dX5_lineUp_0 rfl ?_
  refine a_i2l X dX5_lineUp_1 ?_
  refine a_lstore_n X dX5_lineUp_2 (by decide) ?_
  refine a_aload_n X dX5_lineUp_3 rfl ?_
  refine a_geti X lf5_41 (by assumption) rfl dX5_lineUp_4 ?_
  refine a_istore X dX5_lineUp_7 (by decide) ?_
  refine a_iconst (v := 1) X dX5_lineUp_9 (by decide) ?_
  refine a_aload_n X dX5_lineUp_10 rfl ?_
  refine a_geti X lf5_47 (by assumption) rfl dX5_lineUp_11 ?_
  refine a_ishl X dX5_lineUp_14 ?_
  refine a_iconst (v := 1) X dX5_lineUp_15 (by decide) ?_
  refine a_isub X dX5_lineUp_16 ?_
  refine a_istore X dX5_lineUp_17 (by decide) ?_
  refine a_iconst (v := 0) X dX5_lineUp_19 (by decide) ?_
  refine a_istore X dX5_lineUp_20 (by decide) ?_
  exact Zw.to2 (H_22 _ _ _ _ _ _ _ _ (by (try dsimp only); repeat first | assumption | exact zK.rf | refine zK.zu ?_ (by omega) | refine zK.zu0 ?_ (by decide) | refine zK.zwr ?_ (by omega) | refine zK.zfil ?_ (by omega) | refine zK.zcpy ?_ (by omega) | refine zK.trans ?_ (by assumption) | dsimp only) ) rfl rfl rfl
set_option maxRecDepth 100000 in
theorem s_X5_hasFirst {l : Launch} {G : zG} {b : Nat} {S : zS} {P : Nat} {Q : Nat} {A : Nat} {v0 : Int32} (hQ : LX5 S.1 Q) (rQ : P < Q ∧ Q + 8 ≤ P + 200) (hA : LX2 S.1 A) (rA : P < A ∧ A + 13 ≤ P + 200) : zM l G b yX5_hasFirst cX5_hasFirst 3 (some .boolean) 2 0 0 [.ref Q, .ref A, .int v0] S (fun r z => z = S ∧ ∃ v : Int32, r = some (.int v) ∧ (v = 0 ∨ v = 1)) := by
  refine zM.of miX5_hasFirst (Nat.le_of_ble_eq_true rfl) ?_
  intro p e s m args below meth c X hr hname
  generalize hF : ((fun r z => z = S ∧ ∃ v : Int32, r = some (.int v) ∧ (v = 0 ∨ v = 1)) : Option Value → zS → Prop) = FQ
  change Zw p l e { frames := 2, cells := 0, slots := 0, locals := 80 * 2 } s m args below meth c G b 3 (MQ below (zQ G b FQ) args s 0 0 (fun q : Nat => b ≤ q)) 0 0 0 [some (.ref Q), some (.ref A), some (.int v0)] [] S
  obtain ⟨q_lt, q_o, q_line, q_unitOf, q_roundOf, q_leftTags, q_leftGuests, q_leftPreferred, q_ranked⟩ := id hQ
  obtain ⟨a_lt, a_o, a_quota, a_preferred, a_forGuests, a_applicantOf, a_size, a_guestCount, a_score, a_tickets, a_bits, a_party, a_wishCount, a_wishes⟩ := id hA
  have J_34 : ∀ (x2_34 : Int32) (y0_34 : Int32), (y0_34 = 0 ∨ y0_34 = 1) → Zw p l e { frames := 2, cells := 0, slots := 0, locals := 80 * 2 } s m args below meth c G b 3 (MQ below (zQ G b FQ) args s 0 0 (fun q : Nat => b ≤ q)) 0 0 34 [some (.ref (Q)), some (.ref (A)), some (.int x2_34)] [(.int y0_34)] S := by
    intro x2_34 y0_34 f0_34
    refine a_zret X (by first | exact Or.inl rfl | exact Or.inr rfl | assumption) hr dX5_hasFirst_34 ⟨by decide, by decide⟩ ?_
    subst hF
    exact ⟨rfl, ⟨_, rfl, (by first | exact Or.inl rfl | exact Or.inr rfl | assumption)⟩⟩
  have J_33 : ∀ (x2_33 : Int32), Zw p l e { frames := 2, cells := 0, slots := 0, locals := 80 * 2 } s m args below meth c G b 3 (MQ below (zQ G b FQ) args s 0 0 (fun q : Nat => b ≤ q)) 0 0 33 [some (.ref (Q)), some (.ref (A)), some (.int x2_33)] [] S := by
    intro x2_33
    refine a_iconst (v := 0) X dX5_hasFirst_33 (by decide) ?_
    exact Zw.to2 (J_34 _ _ (by first | exact Or.inl rfl | exact Or.inr rfl | assumption)) rfl rfl rfl
  refine a_aload_n X dX5_hasFirst_0 rfl ?_
  refine a_getr X lf5_15 (by assumption) rfl (by omega) dX5_hasFirst_1 ?_
  refine a_iload_n X dX5_hasFirst_4 rfl ?_
  refine a_callSNv X dX5_hasFirst_5 miX7_cell lm5_69 (c_cell (by assumption) (by first | decide | assumption)) rfl rfl (Nat.le_of_ble_eq_true rfl) ⟨by decide, by decide, by decide, by decide⟩ ?_
  refine a_iconst (v := -1) X dX5_hasFirst_8 (by decide) ?_
  refine a_icmp_eq (tgt := 33) X dX5_hasFirst_9 (by decide) (fun h_9 => ?_) (fun h_9 => ?_)
  · exact Zw.to2 (J_33 _ ) rfl rfl rfl
  · refine a_aload_n X dX5_hasFirst_12 rfl ?_
    refine a_getr X lf5_15 (by assumption) rfl (by omega) dX5_hasFirst_13 ?_
    refine a_iload_n X dX5_hasFirst_16 rfl ?_
    refine a_callSNv X dX5_hasFirst_17 miX7_cell lm5_69 (c_cell (by assumption) (by first | decide | assumption)) rfl rfl (Nat.le_of_ble_eq_true rfl) ⟨by decide, by decide, by decide, by decide⟩ ?_
    refine a_aload_n X dX5_hasFirst_20 rfl ?_
    refine a_iload_n X dX5_hasFirst_21 rfl ?_
    refine a_iconst (v := 0) X dX5_hasFirst_22 (by decide) ?_
    refine a_callVx X dX5_hasFirst_23 miX2_wish lm5_98 (s_X2_wish (P := P) (by assumption) (by omega)) (by assumption) rfl rfl rfl (Nat.le_of_ble_eq_true rfl) ⟨by decide, by decide, by decide, by decide⟩ (fun r_23 S_23 q_23 => ?_)
    obtain ⟨rfl, ⟨v_23, rfl⟩⟩ := q_23
    refine a_icmp_ne (tgt := 33) X dX5_hasFirst_26 (by decide) (fun h_26 => ?_) (fun h_26 => ?_)
    · exact Zw.to2 (J_33 _ ) rfl rfl rfl
    · refine a_iconst (v := 1) X dX5_hasFirst_29 (by decide) ?_
      refine a_goto (tgt := 34) X dX5_hasFirst_30 (by decide) ?_
      exact Zw.to2 (J_34 _ _ (by first | exact Or.inl rfl | exact Or.inr rfl | assumption)) rfl rfl rfl
set_option maxRecDepth 100000 in
theorem s_X5_hold {l : Launch} {G : zG} {b : Nat} {S : zS} {P : Nat} {Q : Nat} {A : Nat} {v0 : Int32} {v1 : Int32} {v2 : Int32} (hQ : LX5 S.1 Q) (rQ : P < Q ∧ Q + 8 ≤ P + 200) (hA : LX2 S.1 A) (rA : P < A ∧ A + 13 ≤ P + 200) : zM l G b yX5_hold cX5_hold 5 none 1 0 0 [.ref Q, .ref A, .int v0, .int v1, .int v2] S (fun r z => ∃ M' N', z = (S.1, M', N') ∧ zK P S.2.1 M' ∧ r = none) := by
  refine zM.of miX5_hold (Nat.le_of_ble_eq_true rfl) ?_
  intro p e s m args below meth c X hr hname
  generalize hF : ((fun r z => ∃ M' N', z = (S.1, M', N') ∧ zK P S.2.1 M' ∧ r = none) : Option Value → zS → Prop) = FQ
  change Zw p l e { frames := 1, cells := 0, slots := 0, locals := 80 * 1 } s m args below meth c G b 5 (MQ below (zQ G b FQ) args s 0 0 (fun q : Nat => b ≤ q)) 0 0 0 [some (.ref Q), some (.ref A), some (.int v0), some (.int v1), some (.int v2)] [] S
  obtain ⟨q_lt, q_o, q_line, q_unitOf, q_roundOf, q_leftTags, q_leftGuests, q_leftPreferred, q_ranked⟩ := id hQ
  obtain ⟨a_lt, a_o, a_quota, a_preferred, a_forGuests, a_applicantOf, a_size, a_guestCount, a_score, a_tickets, a_bits, a_party, a_wishCount, a_wishes⟩ := id hA
  refine a_aload_n X dX5_hold_0 rfl ?_
  refine a_getr X lf5_15 (by assumption) rfl (by omega) dX5_hold_1 ?_
  refine a_iload_n X dX5_hold_4 rfl ?_
  refine a_iload_n X dX5_hold_5 rfl ?_
  refine a_callSNx X dX5_hold_6 miX7_put lm5_62 (s_X7_put (P := P) (by assumption) (by first | decide | assumption) (by omega)) rfl rfl (Nat.le_of_ble_eq_true rfl) ⟨by decide, by decide, by decide, by decide⟩ (fun r_6 S_6 q_6 => ?_)
  obtain ⟨M_6, N_6, rfl, k_6, rfl⟩ := q_6
  refine a_aload_n X dX5_hold_9 rfl ?_
  refine a_getr X lf5_18 (by assumption) rfl (by omega) dX5_hold_10 ?_
  refine a_iload_n X dX5_hold_13 rfl ?_
  refine a_iload X dX5_hold_14 rfl ?_
  refine a_callSNx X dX5_hold_16 miX7_put lm5_62 (s_X7_put (P := P) (by assumption) (by first | decide | assumption) (by omega)) rfl rfl (Nat.le_of_ble_eq_true rfl) ⟨by decide, by decide, by decide, by decide⟩ (fun r_16 S_16 q_16 => ?_)
  obtain ⟨M_16, N_16, rfl, k_16, rfl⟩ := q_16
  refine a_aload_n X dX5_hold_19 rfl ?_
  refine a_getr X lf5_21 (by assumption) rfl (by omega) dX5_hold_20 ?_
  refine a_iload_n X dX5_hold_23 rfl ?_
  refine a_aload_n X dX5_hold_24 rfl ?_
  refine a_getr X lf5_106 (by assumption) rfl (by omega) dX5_hold_25 ?_
  refine a_iload_n X dX5_hold_28 rfl ?_
  refine a_callSNv X dX5_hold_29 miX7_cell lm5_69 (c_cell (by assumption) (by first | decide | assumption)) rfl rfl (Nat.le_of_ble_eq_true rfl) ⟨by decide, by decide, by decide, by decide⟩ ?_
  refine a_ineg X dX5_hold_32 ?_
  refine a_callSNx X dX5_hold_33 miX7_add lm5_109 (s_X7_add (P := P) (by assumption) (by first | decide | assumption) (by omega)) rfl rfl (Nat.le_of_ble_eq_true rfl) ⟨by decide, by decide, by decide, by decide⟩ (fun r_33 S_33 q_33 => ?_)
  obtain ⟨M_33, N_33, rfl, k_33, rfl⟩ := q_33
  refine a_aload_n X dX5_hold_36 rfl ?_
  refine a_getr X lf5_24 (by assumption) rfl (by omega) dX5_hold_37 ?_
  refine a_iload_n X dX5_hold_40 rfl ?_
  refine a_aload_n X dX5_hold_41 rfl ?_
  refine a_getr X lf5_122 (by assumption) rfl (by omega) dX5_hold_42 ?_
  refine a_iload_n X dX5_hold_45 rfl ?_
  refine a_callSNv X dX5_hold_46 miX7_cell lm5_69 (c_cell (by assumption) (by first | decide | assumption)) rfl rfl (Nat.le_of_ble_eq_true rfl) ⟨by decide, by decide, by decide, by decide⟩ ?_
  refine a_ineg X dX5_hold_49 ?_
  refine a_callSNx X dX5_hold_50 miX7_add lm5_109 (s_X7_add (P := P) (by assumption) (by first | decide | assumption) (by omega)) rfl rfl (Nat.le_of_ble_eq_true rfl) ⟨by decide, by decide, by decide, by decide⟩ (fun r_50 S_50 q_50 => ?_)
  obtain ⟨M_50, N_50, rfl, k_50, rfl⟩ := q_50
  refine a_vret X hr dX5_hold_53 ⟨by decide, by decide⟩ ?_
  subst hF
  exact ⟨_, _, rfl, (by (try dsimp only); repeat first | assumption | exact zK.rf | refine zK.zu ?_ (by omega) | refine zK.zu0 ?_ (by decide) | refine zK.zwr ?_ (by omega) | refine zK.zfil ?_ (by omega) | refine zK.zcpy ?_ (by omega) | refine zK.trans ?_ (by assumption) | dsimp only), rfl⟩
set_option maxRecDepth 100000 in
theorem s_X5_rank {l : Launch} {G : zG} {b : Nat} {S : zS} {P : Nat} {Q : Nat} {A : Nat} (hQ : LX5 S.1 Q) (rQ : P < Q ∧ Q + 8 ≤ P + 200) (hA : LX2 S.1 A) (rA : P < A ∧ A + 13 ≤ P + 200) : zM l G b yX5_rank cX5_rank 6 none 1 0 0 [.ref Q, .ref A] S (fun r z => ∃ M' N', z = (S.1, M', N') ∧ zK P S.2.1 M' ∧ r = none) := by
  refine zM.of miX5_rank (Nat.le_of_ble_eq_true rfl) ?_
  intro p e s m args below meth c X hr hname
  generalize hF : ((fun r z => ∃ M' N', z = (S.1, M', N') ∧ zK P S.2.1 M' ∧ r = none) : Option Value → zS → Prop) = FQ
  change Zw p l e { frames := 1, cells := 0, slots := 0, locals := 80 * 1 } s m args below meth c G b 6 (MQ below (zQ G b FQ) args s 0 0 (fun q : Nat => b ≤ q)) 0 0 0 [some (.ref Q), some (.ref A), none, none, none, none] [] S
  obtain ⟨q_lt, q_o, q_line, q_unitOf, q_roundOf, q_leftTags, q_leftGuests, q_leftPreferred, q_ranked⟩ := id hQ
  obtain ⟨a_lt, a_o, a_quota, a_preferred, a_forGuests, a_applicantOf, a_size, a_guestCount, a_score, a_tickets, a_bits, a_party, a_wishCount, a_wishes⟩ := id hA
  have L_2 : ∀ u : Nat, ∀ (x2_2 : Int32) (x3_2 : Option Value) (x4_2 : Option Value) (x5_2 : Option Value) (M2 : Nat → Nat → Int32) (N2 : Nat → Nat → Int64), zK P S.2.1 M2 → (2147483648 - x2_2.toInt).toNat < u → Zw p l e { frames := 1, cells := 0, slots := 0, locals := 80 * 1 } s m args below meth c G b 6 (MQ below (zQ G b FQ) args s 0 0 (fun q : Nat => b ≤ q)) 0 0 2 [some (.ref (Q)), some (.ref (A)), some (.int x2_2), x3_2, x4_2, x5_2] [] (S.1, M2, N2) := by
    intro u
    induction u with
    | zero => intro x2_2 x3_2 x4_2 x5_2 M2_2 N2_2 k_2 hm_2; exact absurd hm_2 (Nat.not_lt_zero _)
    | succ u_2 ih_2 =>
      intro x2_2 x3_2 x4_2 x5_2 M2_2 N2_2 k_2 hm_2
      have J_86 : ∀ (x2_86 : Int32) (x3_86 : Int32) (x4_86 : Int32) (x5_86 : Int32) (M2 : Nat → Nat → Int32) (N2 : Nat → Nat → Int64), zK P S.2.1 M2 → ((2147483648 - x2_86.toInt).toNat < u_2 + 1) → (x2_86.toInt < 2147483647) → Zw p l e { frames := 1, cells := 0, slots := 0, locals := 80 * 1 } s m args below meth c G b 6 (MQ below (zQ G b FQ) args s 0 0 (fun q : Nat => b ≤ q)) 0 0 86 [some (.ref (Q)), some (.ref (A)), some (.int x2_86), some (.int x3_86), some (.int x4_86), some (.int x5_86)] [] (S.1, M2, N2) := by
        intro x2_86 x3_86 x4_86 x5_86 M2_86 N2_86 k_86 f0_86 f1_86
        refine a_aload_n X dX5_rank_86 rfl ?_
        refine a_getr X lf5_30 (by assumption) rfl (by omega) dX5_rank_87 ?_
        refine a_iload X dX5_rank_90 rfl ?_
        refine a_iload_n X dX5_rank_92 rfl ?_
        refine a_callSNx X dX5_rank_93 miX7_put lm5_62 (s_X7_put (P := P) (by assumption) (by first | decide | assumption) (by omega)) rfl rfl (Nat.le_of_ble_eq_true rfl) ⟨by decide, by decide, by decide, by decide⟩ (fun r_93 S_93 q_93 => ?_)
        obtain ⟨M_93, N_93, rfl, k_93, rfl⟩ := q_93
        refine a_iinc X dX5_rank_96 (by decide) rfl rfl ?_
        refine a_goto (tgt := 2) X dX5_rank_99 (by decide) ?_
        exact Zw.to2 (ih_2 _ _ _ _ _ _ (by (try dsimp only); repeat first | assumption | exact zK.rf | refine zK.zu ?_ (by omega) | refine zK.zu0 ?_ (by decide) | refine zK.zwr ?_ (by omega) | refine zK.zfil ?_ (by omega) | refine zK.zcpy ?_ (by omega) | refine zK.trans ?_ (by assumption) | dsimp only)  (z_up f1_86 f0_86)) rfl rfl rfl
      have L_32 : ∀ u : Nat, ∀ (x2_32 : Int32) (x3_32 : Int32) (x4_32 : Int32) (x5_32 : Int32) (M2 : Nat → Nat → Int32) (N2 : Nat → Nat → Int64), zK P S.2.1 M2 → ((2147483648 - x2_32.toInt).toNat < u_2 + 1) → (x2_32.toInt < 2147483647) → x5_32.toInt.toNat < u → Zw p l e { frames := 1, cells := 0, slots := 0, locals := 80 * 1 } s m args below meth c G b 6 (MQ below (zQ G b FQ) args s 0 0 (fun q : Nat => b ≤ q)) 0 0 32 [some (.ref (Q)), some (.ref (A)), some (.int x2_32), some (.int x3_32), some (.int x4_32), some (.int x5_32)] [] (S.1, M2, N2) := by
        intro u
        induction u with
        | zero => intro x2_32 x3_32 x4_32 x5_32 M2_32 N2_32 k_32 f0_32 f1_32 hm_32; exact absurd hm_32 (Nat.not_lt_zero _)
        | succ u_32 ih_32 =>
          intro x2_32 x3_32 x4_32 x5_32 M2_32 N2_32 k_32 f0_32 f1_32 hm_32
          refine a_iload X dX5_rank_32 rfl ?_
          refine a_if_le (tgt := 86) X dX5_rank_34 (by decide) (fun h_34 => ?_) (fun h_34 => ?_)
          · exact Zw.to2 (J_86 _ _ _ _ _ _ (by (try dsimp only); repeat first | assumption | exact zK.rf | refine zK.zu ?_ (by omega) | refine zK.zu0 ?_ (by decide) | refine zK.zwr ?_ (by omega) | refine zK.zfil ?_ (by omega) | refine zK.zcpy ?_ (by omega) | refine zK.trans ?_ (by assumption) | dsimp only) f0_32 f1_32) rfl rfl rfl
          · refine a_aload_n X dX5_rank_37 rfl ?_
            refine a_getr X lf5_116 (by assumption) rfl (by omega) dX5_rank_38 ?_
            refine a_aload_n X dX5_rank_41 rfl ?_
            refine a_getr X lf5_30 (by assumption) rfl (by omega) dX5_rank_42 ?_
            refine a_iload X dX5_rank_45 rfl ?_
            refine a_iconst (v := 1) X dX5_rank_47 (by decide) ?_
            refine a_isub X dX5_rank_48 ?_
            refine a_callSNv X dX5_rank_49 miX7_cell lm5_69 (c_cell (by assumption) (by first | decide | assumption)) rfl rfl (Nat.le_of_ble_eq_true rfl) ⟨by decide, by decide, by decide, by decide⟩ ?_
            refine a_callSNv X dX5_rank_52 miX7_cell lm5_69 (c_cell (by assumption) (by first | decide | assumption)) rfl rfl (Nat.le_of_ble_eq_true rfl) ⟨by decide, by decide, by decide, by decide⟩ ?_
            refine a_iload X dX5_rank_55 rfl ?_
            refine a_icmp_ge (tgt := 86) X dX5_rank_57 (by decide) (fun h_57 => ?_) (fun h_57 => ?_)
            · exact Zw.to2 (J_86 _ _ _ _ _ _ (by (try dsimp only); repeat first | assumption | exact zK.rf | refine zK.zu ?_ (by omega) | refine zK.zu0 ?_ (by decide) | refine zK.zwr ?_ (by omega) | refine zK.zfil ?_ (by omega) | refine zK.zcpy ?_ (by omega) | refine zK.trans ?_ (by assumption) | dsimp only) f0_32 f1_32) rfl rfl rfl
            · refine a_aload_n X dX5_rank_60 rfl ?_
              refine a_getr X lf5_30 (by assumption) rfl (by omega) dX5_rank_61 ?_
              refine a_iload X dX5_rank_64 rfl ?_
              refine a_aload_n X dX5_rank_66 rfl ?_
              refine a_getr X lf5_30 (by assumption) rfl (by omega) dX5_rank_67 ?_
              refine a_iload X dX5_rank_70 rfl ?_
              refine a_iconst (v := 1) X dX5_rank_72 (by decide) ?_
              refine a_isub X dX5_rank_73 ?_
              refine a_callSNv X dX5_rank_74 miX7_cell lm5_69 (c_cell (by assumption) (by first | decide | assumption)) rfl rfl (Nat.le_of_ble_eq_true rfl) ⟨by decide, by decide, by decide, by decide⟩ ?_
              refine a_callSNx X dX5_rank_77 miX7_put lm5_62 (s_X7_put (P := P) (by assumption) (by first | decide | assumption) (by omega)) rfl rfl (Nat.le_of_ble_eq_true rfl) ⟨by decide, by decide, by decide, by decide⟩ (fun r_77 S_77 q_77 => ?_)
              obtain ⟨M_77, N_77, rfl, k_77, rfl⟩ := q_77
              refine a_iinc X dX5_rank_80 (by decide) rfl rfl ?_
              refine a_goto (tgt := 32) X dX5_rank_83 (by decide) ?_
              exact Zw.to2 (ih_32 _ _ _ _ _ _ (by (try dsimp only); repeat first | assumption | exact zK.rf | refine zK.zu ?_ (by omega) | refine zK.zu0 ?_ (by decide) | refine zK.zwr ?_ (by omega) | refine zK.zfil ?_ (by omega) | refine zK.zcpy ?_ (by omega) | refine zK.trans ?_ (by assumption) | dsimp only) f0_32 f1_32 (z_dn (by first | assumption | exact z_gt (by assumption)) hm_32)) rfl rfl rfl
      have H_32 : ∀ (x2_32 : Int32) (x3_32 : Int32) (x4_32 : Int32) (x5_32 : Int32) (M2 : Nat → Nat → Int32) (N2 : Nat → Nat → Int64), zK P S.2.1 M2 → ((2147483648 - x2_32.toInt).toNat < u_2 + 1) → (x2_32.toInt < 2147483647) → Zw p l e { frames := 1, cells := 0, slots := 0, locals := 80 * 1 } s m args below meth c G b 6 (MQ below (zQ G b FQ) args s 0 0 (fun q : Nat => b ≤ q)) 0 0 32 [some (.ref (Q)), some (.ref (A)), some (.int x2_32), some (.int x3_32), some (.int x4_32), some (.int x5_32)] [] (S.1, M2, N2) := fun x2_32 x3_32 x4_32 x5_32 M2 N2 k f0 f1 => L_32 _ x2_32 x3_32 x4_32 x5_32 M2 N2 k f0 f1 (Nat.lt_succ_self _)
      refine a_iload_n X dX5_rank_2 rfl ?_
      refine a_aload_n X dX5_rank_3 rfl ?_
      refine a_geti X lf5_47 (by assumption) rfl dX5_rank_4 ?_
      refine a_icmp_ge (tgt := 102) X dX5_rank_7 (by decide) (fun h_7 => ?_) (fun h_7 => ?_)
      · refine a_vret X hr dX5_rank_102 ⟨by decide, by decide⟩ ?_
        subst hF
        exact ⟨_, _, rfl, (by (try dsimp only); repeat first | assumption | exact zK.rf | refine zK.zu ?_ (by omega) | refine zK.zu0 ?_ (by decide) | refine zK.zwr ?_ (by omega) | refine zK.zfil ?_ (by omega) | refine zK.zcpy ?_ (by omega) | refine zK.trans ?_ (by assumption) | dsimp only), rfl⟩
      · refine a_aload_n X dX5_rank_10 rfl ?_
        refine a_getr X lf5_9 (by assumption) rfl (by omega) dX5_rank_11 ?_
        refine a_iload_n X dX5_rank_14 rfl ?_
        refine a_callSNv X dX5_rank_15 miX7_cell lm5_69 (c_cell (by assumption) (by first | decide | assumption)) rfl rfl (Nat.le_of_ble_eq_true rfl) ⟨by decide, by decide, by decide, by decide⟩ ?_
        refine a_istore_n X dX5_rank_18 (by decide) ?_
        refine a_aload_n X dX5_rank_19 rfl ?_
        refine a_getr X lf5_116 (by assumption) rfl (by omega) dX5_rank_20 ?_
        refine a_iload_n X dX5_rank_23 rfl ?_
        refine a_callSNv X dX5_rank_24 miX7_cell lm5_69 (c_cell (by assumption) (by first | decide | assumption)) rfl rfl (Nat.le_of_ble_eq_true rfl) ⟨by decide, by decide, by decide, by decide⟩ ?_
        refine a_istore X dX5_rank_27 (by decide) ?_
        refine a_iload_n X dX5_rank_29 rfl ?_
        refine a_istore X dX5_rank_30 (by decide) ?_
        exact Zw.to2 (H_32 _ _ _ _ _ _ (by (try dsimp only); repeat first | assumption | exact zK.rf | refine zK.zu ?_ (by omega) | refine zK.zu0 ?_ (by decide) | refine zK.zwr ?_ (by omega) | refine zK.zfil ?_ (by omega) | refine zK.zcpy ?_ (by omega) | refine zK.trans ?_ (by assumption) | dsimp only) hm_2 (by first | assumption | exact z_lt (by assumption) | exact z_lt2 (by assumption))) rfl rfl rfl
  have H_2 : ∀ (x2_2 : Int32) (x3_2 : Option Value) (x4_2 : Option Value) (x5_2 : Option Value) (M2 : Nat → Nat → Int32) (N2 : Nat → Nat → Int64), zK P S.2.1 M2 → Zw p l e { frames := 1, cells := 0, slots := 0, locals := 80 * 1 } s m args below meth c G b 6 (MQ below (zQ G b FQ) args s 0 0 (fun q : Nat => b ≤ q)) 0 0 2 [some (.ref (Q)), some (.ref (A)), some (.int x2_2), x3_2, x4_2, x5_2] [] (S.1, M2, N2) := fun x2_2 x3_2 x4_2 x5_2 M2 N2 k  => L_2 _ x2_2 x3_2 x4_2 x5_2 M2 N2 k  (Nat.lt_succ_self _)
  refine a_iconst (v := 0) X dX5_rank_0 (by decide) ?_
  refine a_istore_n X dX5_rank_1 (by decide) ?_
  exact Zw.to2 (H_2 _ _ _ _ _ _ (by (try dsimp only); repeat first | assumption | exact zK.rf | refine zK.zu ?_ (by omega) | refine zK.zu0 ?_ (by decide) | refine zK.zwr ?_ (by omega) | refine zK.zfil ?_ (by omega) | refine zK.zcpy ?_ (by omega) | refine zK.trans ?_ (by assumption) | dsimp only) ) rfl rfl rfl
set_option maxRecDepth 100000 in
theorem s_X5_firstRound {l : Launch} {G : zG} {b : Nat} {S : zS} {P : Nat} {Q : Nat} {A : Nat} (hQ : LX5 S.1 Q) (rQ : P < Q ∧ Q + 8 ≤ P + 200) (hA : LX2 S.1 A) (rA : P < A ∧ A + 13 ≤ P + 200) : zM l G b yX5_firstRound cX5_firstRound 5 none 2 0 0 [.ref Q, .ref A] S (fun r z => ∃ M' N', z = (S.1, M', N') ∧ zK P S.2.1 M' ∧ r = none) := by
  refine zM.of miX5_firstRound (Nat.le_of_ble_eq_true rfl) ?_
  intro p e s m args below meth c X hr hname
  generalize hF : ((fun r z => ∃ M' N', z = (S.1, M', N') ∧ zK P S.2.1 M' ∧ r = none) : Option Value → zS → Prop) = FQ
  change Zw p l e { frames := 2, cells := 0, slots := 0, locals := 80 * 2 } s m args below meth c G b 5 (MQ below (zQ G b FQ) args s 0 0 (fun q : Nat => b ≤ q)) 0 0 0 [some (.ref Q), some (.ref A), none, none, none] [] S
  obtain ⟨q_lt, q_o, q_line, q_unitOf, q_roundOf, q_leftTags, q_leftGuests, q_leftPreferred, q_ranked⟩ := id hQ
  obtain ⟨a_lt, a_o, a_quota, a_preferred, a_forGuests, a_applicantOf, a_size, a_guestCount, a_score, a_tickets, a_bits, a_party, a_wishCount, a_wishes⟩ := id hA
  have L_7 : ∀ u : Nat, ∀ (x2_7 : Int32) (x3_7 : Option Value) (x4_7 : Option Value) (M2 : Nat → Nat → Int32) (N2 : Nat → Nat → Int64), zK P S.2.1 M2 → (2147483648 - x2_7.toInt).toNat < u → Zw p l e { frames := 2, cells := 0, slots := 0, locals := 80 * 2 } s m args below meth c G b 5 (MQ below (zQ G b FQ) args s 0 0 (fun q : Nat => b ≤ q)) 0 0 7 [some (.ref (Q)), some (.ref (A)), some (.int x2_7), x3_7, x4_7] [] (S.1, M2, N2) := by
    intro u
    induction u with
    | zero => intro x2_7 x3_7 x4_7 M2_7 N2_7 k_7 hm_7; exact absurd hm_7 (Nat.not_lt_zero _)
    | succ u_7 ih_7 =>
      intro x2_7 x3_7 x4_7 M2_7 N2_7 k_7 hm_7
      have J_91 : ∀ (x2_91 : Int32) (x3_91 : Int32) (x4_91 : Int32) (M2 : Nat → Nat → Int32) (N2 : Nat → Nat → Int64), zK P S.2.1 M2 → ((2147483648 - x2_91.toInt).toNat < u_7 + 1) → (x2_91.toInt < 2147483647) → Zw p l e { frames := 2, cells := 0, slots := 0, locals := 80 * 2 } s m args below meth c G b 5 (MQ below (zQ G b FQ) args s 0 0 (fun q : Nat => b ≤ q)) 0 0 91 [some (.ref (Q)), some (.ref (A)), some (.int x2_91), some (.int x3_91), some (.int x4_91)] [] (S.1, M2, N2) := by
        intro x2_91 x3_91 x4_91 M2_91 N2_91 k_91 f0_91 f1_91
        refine a_iinc X dX5_firstRound_91 (by decide) rfl rfl ?_
        refine a_goto (tgt := 7) X dX5_firstRound_94 (by decide) ?_
        exact Zw.to2 (ih_7 _ _ _ _ _ (by (try dsimp only); repeat first | assumption | exact zK.rf | refine zK.zu ?_ (by omega) | refine zK.zu0 ?_ (by decide) | refine zK.zwr ?_ (by omega) | refine zK.zfil ?_ (by omega) | refine zK.zcpy ?_ (by omega) | refine zK.trans ?_ (by assumption) | dsimp only)  (z_up f1_91 f0_91)) rfl rfl rfl
      refine a_iload_n X dX5_firstRound_7 rfl ?_
      refine a_aload_n X dX5_firstRound_8 rfl ?_
      refine a_geti X lf5_47 (by assumption) rfl dX5_firstRound_9 ?_
      refine a_icmp_ge (tgt := 97) X dX5_firstRound_12 (by decide) (fun h_12 => ?_) (fun h_12 => ?_)
      · refine a_vret X hr dX5_firstRound_97 ⟨by decide, by decide⟩ ?_
        subst hF
        exact ⟨_, _, rfl, (by (try dsimp only); repeat first | assumption | exact zK.rf | refine zK.zu ?_ (by omega) | refine zK.zu0 ?_ (by decide) | refine zK.zwr ?_ (by omega) | refine zK.zfil ?_ (by omega) | refine zK.zcpy ?_ (by omega) | refine zK.trans ?_ (by assumption) | dsimp only), rfl⟩
      · refine a_aload_n X dX5_firstRound_15 rfl ?_
        refine a_getr X lf5_30 (by assumption) rfl (by omega) dX5_firstRound_16 ?_
        refine a_iload_n X dX5_firstRound_19 rfl ?_
        refine a_callSNv X dX5_firstRound_20 miX7_cell lm5_69 (c_cell (by assumption) (by first | decide | assumption)) rfl rfl (Nat.le_of_ble_eq_true rfl) ⟨by decide, by decide, by decide, by decide⟩ ?_
        refine a_istore_n X dX5_firstRound_23 (by decide) ?_
        refine a_aload_n X dX5_firstRound_24 rfl ?_
        refine a_iload_n X dX5_firstRound_25 rfl ?_
        refine a_iconst (v := 0) X dX5_firstRound_26 (by decide) ?_
        refine a_callVx X dX5_firstRound_27 miX2_wish lm5_98 (s_X2_wish (P := P) (by assumption) (by omega)) (by assumption) rfl rfl rfl (Nat.le_of_ble_eq_true rfl) ⟨by decide, by decide, by decide, by decide⟩ (fun r_27 S_27 q_27 => ?_)
        obtain ⟨rfl, ⟨v_27, rfl⟩⟩ := q_27
        refine a_istore X dX5_firstRound_30 (by decide) ?_
        refine a_iload X dX5_firstRound_32 rfl ?_
        refine a_iconst (v := -1) X dX5_firstRound_34 (by decide) ?_
        refine a_icmp_eq (tgt := 91) X dX5_firstRound_35 (by decide) (fun h_35 => ?_) (fun h_35 => ?_)
        · exact Zw.to2 (J_91 _ _ _ _ _ (by (try dsimp only); repeat first | assumption | exact zK.rf | refine zK.zu ?_ (by omega) | refine zK.zu0 ?_ (by decide) | refine zK.zwr ?_ (by omega) | refine zK.zfil ?_ (by omega) | refine zK.zcpy ?_ (by omega) | refine zK.trans ?_ (by assumption) | dsimp only) hm_7 (by first | assumption | exact z_lt (by assumption) | exact z_lt2 (by assumption))) rfl rfl rfl
        · refine a_aload_n X dX5_firstRound_38 rfl ?_
          refine a_iload_n X dX5_firstRound_39 rfl ?_
          refine a_aload_n X dX5_firstRound_40 rfl ?_
          refine a_getr X lf5_27 (by assumption) rfl (by omega) dX5_firstRound_41 ?_
          refine a_iload X dX5_firstRound_44 rfl ?_
          refine a_callSNv X dX5_firstRound_46 miX7_cell lm5_69 (c_cell (by assumption) (by first | decide | assumption)) rfl rfl (Nat.le_of_ble_eq_true rfl) ⟨by decide, by decide, by decide, by decide⟩ ?_
          refine a_aload_n X dX5_firstRound_49 rfl ?_
          refine a_getr X lf5_24 (by assumption) rfl (by omega) dX5_firstRound_50 ?_
          refine a_iload X dX5_firstRound_53 rfl ?_
          refine a_callSNv X dX5_firstRound_55 miX7_cell lm5_69 (c_cell (by assumption) (by first | decide | assumption)) rfl rfl (Nat.le_of_ble_eq_true rfl) ⟨by decide, by decide, by decide, by decide⟩ ?_
          refine a_callVx X dX5_firstRound_58 miX2_fits lm5_102 (s_X2_fits (P := P) (by assumption) (by omega)) (by assumption) rfl rfl rfl (Nat.le_of_ble_eq_true rfl) ⟨by decide, by decide, by decide, by decide⟩ (fun r_58 S_58 q_58 => ?_)
          obtain ⟨rfl, ⟨v_58, rfl, b_58⟩⟩ := q_58
          refine a_if_eq (tgt := 91) X dX5_firstRound_61 (by decide) (fun h_61 => ?_) (fun h_61 => ?_)
          · exact Zw.to2 (J_91 _ _ _ _ _ (by (try dsimp only); repeat first | assumption | exact zK.rf | refine zK.zu ?_ (by omega) | refine zK.zu0 ?_ (by decide) | refine zK.zwr ?_ (by omega) | refine zK.zfil ?_ (by omega) | refine zK.zcpy ?_ (by omega) | refine zK.trans ?_ (by assumption) | dsimp only) hm_7 (by first | assumption | exact z_lt (by assumption) | exact z_lt2 (by assumption))) rfl rfl rfl
          · refine a_aload_n X dX5_firstRound_64 rfl ?_
            refine a_getr X lf5_27 (by assumption) rfl (by omega) dX5_firstRound_65 ?_
            refine a_iload X dX5_firstRound_68 rfl ?_
            refine a_aload_n X dX5_firstRound_70 rfl ?_
            refine a_getr X lf5_106 (by assumption) rfl (by omega) dX5_firstRound_71 ?_
            refine a_iload_n X dX5_firstRound_74 rfl ?_
            refine a_callSNv X dX5_firstRound_75 miX7_cell lm5_69 (c_cell (by assumption) (by first | decide | assumption)) rfl rfl (Nat.le_of_ble_eq_true rfl) ⟨by decide, by decide, by decide, by decide⟩ ?_
            refine a_ineg X dX5_firstRound_78 ?_
            refine a_callSNx X dX5_firstRound_79 miX7_add lm5_109 (s_X7_add (P := P) (by assumption) (by first | decide | assumption) (by omega)) rfl rfl (Nat.le_of_ble_eq_true rfl) ⟨by decide, by decide, by decide, by decide⟩ (fun r_79 S_79 q_79 => ?_)
            obtain ⟨M_79, N_79, rfl, k_79, rfl⟩ := q_79
            refine a_aload_n X dX5_firstRound_82 rfl ?_
            refine a_aload_n X dX5_firstRound_83 rfl ?_
            refine a_iload_n X dX5_firstRound_84 rfl ?_
            refine a_iload X dX5_firstRound_85 rfl ?_
            refine a_iconst (v := 1) X dX5_firstRound_87 (by decide) ?_
            refine a_callVx X dX5_firstRound_88 miX5_hold lm5_112 (s_X5_hold (P := P) (by assumption) (by omega) (by assumption) (by omega)) (by assumption) rfl rfl rfl (Nat.le_of_ble_eq_true rfl) ⟨by decide, by decide, by decide, by decide⟩ (fun r_88 S_88 q_88 => ?_)
            obtain ⟨M_88, N_88, rfl, k_88, rfl⟩ := q_88
            exact Zw.to2 (J_91 _ _ _ _ _ (by (try dsimp only); repeat first | assumption | exact zK.rf | refine zK.zu ?_ (by omega) | refine zK.zu0 ?_ (by decide) | refine zK.zwr ?_ (by omega) | refine zK.zfil ?_ (by omega) | refine zK.zcpy ?_ (by omega) | refine zK.trans ?_ (by assumption) | dsimp only) hm_7 (by first | assumption | exact z_lt (by assumption) | exact z_lt2 (by assumption))) rfl rfl rfl
  have H_7 : ∀ (x2_7 : Int32) (x3_7 : Option Value) (x4_7 : Option Value) (M2 : Nat → Nat → Int32) (N2 : Nat → Nat → Int64), zK P S.2.1 M2 → Zw p l e { frames := 2, cells := 0, slots := 0, locals := 80 * 2 } s m args below meth c G b 5 (MQ below (zQ G b FQ) args s 0 0 (fun q : Nat => b ≤ q)) 0 0 7 [some (.ref (Q)), some (.ref (A)), some (.int x2_7), x3_7, x4_7] [] (S.1, M2, N2) := fun x2_7 x3_7 x4_7 M2 N2 k  => L_7 _ x2_7 x3_7 x4_7 M2 N2 k  (Nat.lt_succ_self _)
  refine a_aload_n X dX5_firstRound_0 rfl ?_
  refine a_aload_n X dX5_firstRound_1 rfl ?_
  refine a_callVx X dX5_firstRound_2 miX5_rank lm5_95 (s_X5_rank (P := P) (by assumption) (by omega) (by assumption) (by omega)) (by assumption) rfl rfl rfl (Nat.le_of_ble_eq_true rfl) ⟨by decide, by decide, by decide, by decide⟩ (fun r_2 S_2 q_2 => ?_)
  obtain ⟨M_2, N_2, rfl, k_2, rfl⟩ := q_2
  refine a_iconst (v := 0) X dX5_firstRound_5 (by decide) ?_
  refine a_istore_n X dX5_firstRound_6 (by decide) ?_
  exact Zw.to2 (H_7 _ _ _ _ _ (by (try dsimp only); repeat first | assumption | exact zK.rf | refine zK.zu ?_ (by omega) | refine zK.zu0 ?_ (by decide) | refine zK.zwr ?_ (by omega) | refine zK.zfil ?_ (by omega) | refine zK.zcpy ?_ (by omega) | refine zK.trans ?_ (by assumption) | dsimp only) ) rfl rfl rfl
set_option maxRecDepth 100000 in
theorem s_X5_secondRound {l : Launch} {G : zG} {b : Nat} {S : zS} {P : Nat} {Q : Nat} {A : Nat} (hQ : LX5 S.1 Q) (rQ : P < Q ∧ Q + 8 ≤ P + 200) (hA : LX2 S.1 A) (rA : P < A ∧ A + 13 ≤ P + 200) : zM l G b yX5_secondRound cX5_secondRound 7 none 2 0 0 [.ref Q, .ref A] S (fun r z => ∃ M' N', z = (S.1, M', N') ∧ zK P S.2.1 M' ∧ r = none) := by
  refine zM.of miX5_secondRound (Nat.le_of_ble_eq_true rfl) ?_
  intro p e s m args below meth c X hr hname
  generalize hF : ((fun r z => ∃ M' N', z = (S.1, M', N') ∧ zK P S.2.1 M' ∧ r = none) : Option Value → zS → Prop) = FQ
  change Zw p l e { frames := 2, cells := 0, slots := 0, locals := 80 * 2 } s m args below meth c G b 7 (MQ below (zQ G b FQ) args s 0 0 (fun q : Nat => b ≤ q)) 0 0 0 [some (.ref Q), some (.ref A), none, none, none, none, none] [] S
  obtain ⟨q_lt, q_o, q_line, q_unitOf, q_roundOf, q_leftTags, q_leftGuests, q_leftPreferred, q_ranked⟩ := id hQ
  obtain ⟨a_lt, a_o, a_quota, a_preferred, a_forGuests, a_applicantOf, a_size, a_guestCount, a_score, a_tickets, a_bits, a_party, a_wishCount, a_wishes⟩ := id hA
  have L_2 : ∀ u : Nat, ∀ (x2_2 : Int32) (x3_2 : Option Value) (x4_2 : Option Value) (x5_2 : Option Value) (x6_2 : Option Value) (M2 : Nat → Nat → Int32) (N2 : Nat → Nat → Int64), zK P S.2.1 M2 → (2147483648 - x2_2.toInt).toNat < u → Zw p l e { frames := 2, cells := 0, slots := 0, locals := 80 * 2 } s m args below meth c G b 7 (MQ below (zQ G b FQ) args s 0 0 (fun q : Nat => b ≤ q)) 0 0 2 [some (.ref (Q)), some (.ref (A)), some (.int x2_2), x3_2, x4_2, x5_2, x6_2] [] (S.1, M2, N2) := by
    intro u
    induction u with
    | zero => intro x2_2 x3_2 x4_2 x5_2 x6_2 M2_2 N2_2 k_2 hm_2; exact absurd hm_2 (Nat.not_lt_zero _)
    | succ u_2 ih_2 =>
      intro x2_2 x3_2 x4_2 x5_2 x6_2 M2_2 N2_2 k_2 hm_2
      have J_108 : ∀ (x2_108 : Int32) (x3_108 : Int32) (x4_108 : Int32) (x5_108 : Int32) (x6_108 : Option Value) (M2 : Nat → Nat → Int32) (N2 : Nat → Nat → Int64), zK P S.2.1 M2 → ((2147483648 - x2_108.toInt).toNat < u_2 + 1) → (x2_108.toInt < 2147483647) → Zw p l e { frames := 2, cells := 0, slots := 0, locals := 80 * 2 } s m args below meth c G b 7 (MQ below (zQ G b FQ) args s 0 0 (fun q : Nat => b ≤ q)) 0 0 108 [some (.ref (Q)), some (.ref (A)), some (.int x2_108), some (.int x3_108), some (.int x4_108), some (.int x5_108), x6_108] [] (S.1, M2, N2) := by
        intro x2_108 x3_108 x4_108 x5_108 x6_108 M2_108 N2_108 k_108 f0_108 f1_108
        refine a_iinc X dX5_secondRound_108 (by decide) rfl rfl ?_
        refine a_goto (tgt := 2) X dX5_secondRound_111 (by decide) ?_
        exact Zw.to2 (ih_2 _ _ _ _ _ _ _ (by (try dsimp only); repeat first | assumption | exact zK.rf | refine zK.zu ?_ (by omega) | refine zK.zu0 ?_ (by decide) | refine zK.zwr ?_ (by omega) | refine zK.zfil ?_ (by omega) | refine zK.zcpy ?_ (by omega) | refine zK.trans ?_ (by assumption) | dsimp only)  (z_up f1_108 f0_108)) rfl rfl rfl
      have L_48 : ∀ u : Nat, ∀ (x2_48 : Int32) (x3_48 : Int32) (x4_48 : Int32) (x5_48 : Int32) (x6_48 : Option Value) (M2 : Nat → Nat → Int32) (N2 : Nat → Nat → Int64), zK P S.2.1 M2 → ((2147483648 - x2_48.toInt).toNat < u_2 + 1) → (x2_48.toInt < 2147483647) → (2147483648 - x5_48.toInt).toNat < u → Zw p l e { frames := 2, cells := 0, slots := 0, locals := 80 * 2 } s m args below meth c G b 7 (MQ below (zQ G b FQ) args s 0 0 (fun q : Nat => b ≤ q)) 0 0 48 [some (.ref (Q)), some (.ref (A)), some (.int x2_48), some (.int x3_48), some (.int x4_48), some (.int x5_48), x6_48] [] (S.1, M2, N2) := by
        intro u
        induction u with
        | zero => intro x2_48 x3_48 x4_48 x5_48 x6_48 M2_48 N2_48 k_48 f0_48 f1_48 hm_48; exact absurd hm_48 (Nat.not_lt_zero _)
        | succ u_48 ih_48 =>
          intro x2_48 x3_48 x4_48 x5_48 x6_48 M2_48 N2_48 k_48 f0_48 f1_48 hm_48
          refine a_iload X dX5_secondRound_48 rfl ?_
          refine a_iload X dX5_secondRound_50 rfl ?_
          refine a_icmp_ge (tgt := 108) X dX5_secondRound_52 (by decide) (fun h_52 => ?_) (fun h_52 => ?_)
          · exact Zw.to2 (J_108 _ _ _ _ _ _ _ (by (try dsimp only); repeat first | assumption | exact zK.rf | refine zK.zu ?_ (by omega) | refine zK.zu0 ?_ (by decide) | refine zK.zwr ?_ (by omega) | refine zK.zfil ?_ (by omega) | refine zK.zcpy ?_ (by omega) | refine zK.trans ?_ (by assumption) | dsimp only) f0_48 f1_48) rfl rfl rfl
          · refine a_aload_n X dX5_secondRound_55 rfl ?_
            refine a_iload_n X dX5_secondRound_56 rfl ?_
            refine a_iload X dX5_secondRound_57 rfl ?_
            refine a_callVx X dX5_secondRound_59 miX2_wish lm5_98 (s_X2_wish (P := P) (by assumption) (by omega)) (by assumption) rfl rfl rfl (Nat.le_of_ble_eq_true rfl) ⟨by decide, by decide, by decide, by decide⟩ (fun r_59 S_59 q_59 => ?_)
            obtain ⟨rfl, ⟨v_59, rfl⟩⟩ := q_59
            refine a_istore X dX5_secondRound_62 (by decide) ?_
            refine a_aload_n X dX5_secondRound_64 rfl ?_
            refine a_iload_n X dX5_secondRound_65 rfl ?_
            refine a_aload_n X dX5_secondRound_66 rfl ?_
            refine a_getr X lf5_21 (by assumption) rfl (by omega) dX5_secondRound_67 ?_
            refine a_iload X dX5_secondRound_70 rfl ?_
            refine a_callSNv X dX5_secondRound_72 miX7_cell lm5_69 (c_cell (by assumption) (by first | decide | assumption)) rfl rfl (Nat.le_of_ble_eq_true rfl) ⟨by decide, by decide, by decide, by decide⟩ ?_
            refine a_aload_n X dX5_secondRound_75 rfl ?_
            refine a_getr X lf5_24 (by assumption) rfl (by omega) dX5_secondRound_76 ?_
            refine a_iload X dX5_secondRound_79 rfl ?_
            refine a_callSNv X dX5_secondRound_81 miX7_cell lm5_69 (c_cell (by assumption) (by first | decide | assumption)) rfl rfl (Nat.le_of_ble_eq_true rfl) ⟨by decide, by decide, by decide, by decide⟩ ?_
            refine a_callVx X dX5_secondRound_84 miX2_fits lm5_102 (s_X2_fits (P := P) (by assumption) (by omega)) (by assumption) rfl rfl rfl (Nat.le_of_ble_eq_true rfl) ⟨by decide, by decide, by decide, by decide⟩ (fun r_84 S_84 q_84 => ?_)
            obtain ⟨rfl, ⟨v_84, rfl, b_84⟩⟩ := q_84
            refine a_if_eq (tgt := 102) X dX5_secondRound_87 (by decide) (fun h_87 => ?_) (fun h_87 => ?_)
            · refine a_iinc X dX5_secondRound_102 (by decide) rfl rfl ?_
              refine a_goto (tgt := 48) X dX5_secondRound_105 (by decide) ?_
              exact Zw.to2 (ih_48 _ _ _ _ _ _ _ (by (try dsimp only); repeat first | assumption | exact zK.rf | refine zK.zu ?_ (by omega) | refine zK.zu0 ?_ (by decide) | refine zK.zwr ?_ (by omega) | refine zK.zfil ?_ (by omega) | refine zK.zcpy ?_ (by omega) | refine zK.trans ?_ (by assumption) | dsimp only) f0_48 f1_48 (z_up (by first | assumption | exact z_lt (by assumption) | exact z_lt2 (by assumption)) hm_48)) rfl rfl rfl
            · refine a_aload_n X dX5_secondRound_90 rfl ?_
              refine a_aload_n X dX5_secondRound_91 rfl ?_
              refine a_iload_n X dX5_secondRound_92 rfl ?_
              refine a_iload X dX5_secondRound_93 rfl ?_
              refine a_iconst (v := 2) X dX5_secondRound_95 (by decide) ?_
              refine a_callVx X dX5_secondRound_96 miX5_hold lm5_112 (s_X5_hold (P := P) (by assumption) (by omega) (by assumption) (by omega)) (by assumption) rfl rfl rfl (Nat.le_of_ble_eq_true rfl) ⟨by decide, by decide, by decide, by decide⟩ (fun r_96 S_96 q_96 => ?_)
              obtain ⟨M_96, N_96, rfl, k_96, rfl⟩ := q_96
              refine a_goto (tgt := 108) X dX5_secondRound_99 (by decide) ?_
              exact Zw.to2 (J_108 _ _ _ _ _ _ _ (by (try dsimp only); repeat first | assumption | exact zK.rf | refine zK.zu ?_ (by omega) | refine zK.zu0 ?_ (by decide) | refine zK.zwr ?_ (by omega) | refine zK.zfil ?_ (by omega) | refine zK.zcpy ?_ (by omega) | refine zK.trans ?_ (by assumption) | dsimp only) f0_48 f1_48) rfl rfl rfl
      have H_48 : ∀ (x2_48 : Int32) (x3_48 : Int32) (x4_48 : Int32) (x5_48 : Int32) (x6_48 : Option Value) (M2 : Nat → Nat → Int32) (N2 : Nat → Nat → Int64), zK P S.2.1 M2 → ((2147483648 - x2_48.toInt).toNat < u_2 + 1) → (x2_48.toInt < 2147483647) → Zw p l e { frames := 2, cells := 0, slots := 0, locals := 80 * 2 } s m args below meth c G b 7 (MQ below (zQ G b FQ) args s 0 0 (fun q : Nat => b ≤ q)) 0 0 48 [some (.ref (Q)), some (.ref (A)), some (.int x2_48), some (.int x3_48), some (.int x4_48), some (.int x5_48), x6_48] [] (S.1, M2, N2) := fun x2_48 x3_48 x4_48 x5_48 x6_48 M2 N2 k f0 f1 => L_48 _ x2_48 x3_48 x4_48 x5_48 x6_48 M2 N2 k f0 f1 (Nat.lt_succ_self _)
      have J_43 : ∀ (x2_43 : Int32) (x3_43 : Int32) (x4_43 : Option Value) (x5_43 : Option Value) (x6_43 : Option Value) (y0_43 : Int32) (M2 : Nat → Nat → Int32) (N2 : Nat → Nat → Int64), zK P S.2.1 M2 → ((2147483648 - x2_43.toInt).toNat < u_2 + 1) → (x2_43.toInt < 2147483647) → Zw p l e { frames := 2, cells := 0, slots := 0, locals := 80 * 2 } s m args below meth c G b 7 (MQ below (zQ G b FQ) args s 0 0 (fun q : Nat => b ≤ q)) 0 0 43 [some (.ref (Q)), some (.ref (A)), some (.int x2_43), some (.int x3_43), x4_43, x5_43, x6_43] [(.int y0_43)] (S.1, M2, N2) := by
        intro x2_43 x3_43 x4_43 x5_43 x6_43 y0_43 M2_43 N2_43 k_43 f0_43 f1_43
        refine a_istore X dX5_secondRound_43 (by decide) ?_
        refine a_iconst (v := 0) X dX5_secondRound_45 (by decide) ?_
        refine a_istore X dX5_secondRound_46 (by decide) ?_
        exact Zw.to2 (H_48 _ _ _ _ _ _ _ (by (try dsimp only); repeat first | assumption | exact zK.rf | refine zK.zu ?_ (by omega) | refine zK.zu0 ?_ (by decide) | refine zK.zwr ?_ (by omega) | refine zK.zfil ?_ (by omega) | refine zK.zcpy ?_ (by omega) | refine zK.trans ?_ (by assumption) | dsimp only) f0_43 f1_43) rfl rfl rfl
      refine a_iload_n X dX5_secondRound_2 rfl ?_
      refine a_aload_n X dX5_secondRound_3 rfl ?_
      refine a_geti X lf5_47 (by assumption) rfl dX5_secondRound_4 ?_
      refine a_icmp_ge (tgt := 114) X dX5_secondRound_7 (by decide) (fun h_7 => ?_) (fun h_7 => ?_)
      · refine a_vret X hr dX5_secondRound_114 ⟨by decide, by decide⟩ ?_
        subst hF
        exact ⟨_, _, rfl, (by (try dsimp only); repeat first | assumption | exact zK.rf | refine zK.zu ?_ (by omega) | refine zK.zu0 ?_ (by decide) | refine zK.zwr ?_ (by omega) | refine zK.zfil ?_ (by omega) | refine zK.zcpy ?_ (by omega) | refine zK.trans ?_ (by assumption) | dsimp only), rfl⟩
      · refine a_aload_n X dX5_secondRound_10 rfl ?_
        refine a_getr X lf5_9 (by assumption) rfl (by omega) dX5_secondRound_11 ?_
        refine a_iload_n X dX5_secondRound_14 rfl ?_
        refine a_callSNv X dX5_secondRound_15 miX7_cell lm5_69 (c_cell (by assumption) (by first | decide | assumption)) rfl rfl (Nat.le_of_ble_eq_true rfl) ⟨by decide, by decide, by decide, by decide⟩ ?_
        refine a_istore_n X dX5_secondRound_18 (by decide) ?_
        refine a_aload_n X dX5_secondRound_19 rfl ?_
        refine a_getr X lf5_15 (by assumption) rfl (by omega) dX5_secondRound_20 ?_
        refine a_iload_n X dX5_secondRound_23 rfl ?_
        refine a_callSNv X dX5_secondRound_24 miX7_cell lm5_69 (c_cell (by assumption) (by first | decide | assumption)) rfl rfl (Nat.le_of_ble_eq_true rfl) ⟨by decide, by decide, by decide, by decide⟩ ?_
        refine a_iconst (v := -1) X dX5_secondRound_27 (by decide) ?_
        refine a_icmp_ne (tgt := 42) X dX5_secondRound_28 (by decide) (fun h_28 => ?_) (fun h_28 => ?_)
        · refine a_iconst (v := 0) X dX5_secondRound_42 (by decide) ?_
          exact Zw.to2 (J_43 _ _ _ _ _ _ _ _ (by (try dsimp only); repeat first | assumption | exact zK.rf | refine zK.zu ?_ (by omega) | refine zK.zu0 ?_ (by decide) | refine zK.zwr ?_ (by omega) | refine zK.zfil ?_ (by omega) | refine zK.zcpy ?_ (by omega) | refine zK.trans ?_ (by assumption) | dsimp only) hm_2 (by first | assumption | exact z_lt (by assumption) | exact z_lt2 (by assumption))) rfl rfl rfl
        · refine a_aload_n X dX5_secondRound_31 rfl ?_
          refine a_getr X lf5_119 (by assumption) rfl (by omega) dX5_secondRound_32 ?_
          refine a_iload_n X dX5_secondRound_35 rfl ?_
          refine a_callSNv X dX5_secondRound_36 miX7_cell lm5_69 (c_cell (by assumption) (by first | decide | assumption)) rfl rfl (Nat.le_of_ble_eq_true rfl) ⟨by decide, by decide, by decide, by decide⟩ ?_
          refine a_goto (tgt := 43) X dX5_secondRound_39 (by decide) ?_
          exact Zw.to2 (J_43 _ _ _ _ _ _ _ _ (by (try dsimp only); repeat first | assumption | exact zK.rf | refine zK.zu ?_ (by omega) | refine zK.zu0 ?_ (by decide) | refine zK.zwr ?_ (by omega) | refine zK.zfil ?_ (by omega) | refine zK.zcpy ?_ (by omega) | refine zK.trans ?_ (by assumption) | dsimp only) hm_2 (by first | assumption | exact z_lt (by assumption) | exact z_lt2 (by assumption))) rfl rfl rfl
  have H_2 : ∀ (x2_2 : Int32) (x3_2 : Option Value) (x4_2 : Option Value) (x5_2 : Option Value) (x6_2 : Option Value) (M2 : Nat → Nat → Int32) (N2 : Nat → Nat → Int64), zK P S.2.1 M2 → Zw p l e { frames := 2, cells := 0, slots := 0, locals := 80 * 2 } s m args below meth c G b 7 (MQ below (zQ G b FQ) args s 0 0 (fun q : Nat => b ≤ q)) 0 0 2 [some (.ref (Q)), some (.ref (A)), some (.int x2_2), x3_2, x4_2, x5_2, x6_2] [] (S.1, M2, N2) := fun x2_2 x3_2 x4_2 x5_2 x6_2 M2 N2 k  => L_2 _ x2_2 x3_2 x4_2 x5_2 x6_2 M2 N2 k  (Nat.lt_succ_self _)
  refine a_iconst (v := 0) X dX5_secondRound_0 (by decide) ?_
  refine a_istore_n X dX5_secondRound_1 (by decide) ?_
  exact Zw.to2 (H_2 _ _ _ _ _ _ _ (by (try dsimp only); repeat first | assumption | exact zK.rf | refine zK.zu ?_ (by omega) | refine zK.zu0 ?_ (by decide) | refine zK.zwr ?_ (by omega) | refine zK.zfil ?_ (by omega) | refine zK.zcpy ?_ (by omega) | refine zK.trans ?_ (by assumption) | dsimp only) ) rfl rfl rfl
set_option maxRecDepth 100000 in
theorem s_X5_settle {l : Launch} {G : zG} {b : Nat} {S : zS} {P : Nat} {Q : Nat} {A : Nat} (hQ : LX5 S.1 Q) (rQ : P < Q ∧ Q + 8 ≤ P + 200) (hA : LX2 S.1 A) (rA : P < A ∧ A + 13 ≤ P + 200) : zM l G b yX5_settle cX5_settle 3 none 3 0 0 [.ref Q, .ref A] S (fun r z => ∃ M' N', z = (S.1, M', N') ∧ zK P S.2.1 M' ∧ r = none) := by
  refine zM.of miX5_settle (Nat.le_of_ble_eq_true rfl) ?_
  intro p e s m args below meth c X hr hname
  generalize hF : ((fun r z => ∃ M' N', z = (S.1, M', N') ∧ zK P S.2.1 M' ∧ r = none) : Option Value → zS → Prop) = FQ
  change Zw p l e { frames := 3, cells := 0, slots := 0, locals := 80 * 3 } s m args below meth c G b 3 (MQ below (zQ G b FQ) args s 0 0 (fun q : Nat => b ≤ q)) 0 0 0 [some (.ref Q), some (.ref A), none] [] S
  obtain ⟨q_lt, q_o, q_line, q_unitOf, q_roundOf, q_leftTags, q_leftGuests, q_leftPreferred, q_ranked⟩ := id hQ
  obtain ⟨a_lt, a_o, a_quota, a_preferred, a_forGuests, a_applicantOf, a_size, a_guestCount, a_score, a_tickets, a_bits, a_party, a_wishCount, a_wishes⟩ := id hA
  have J_110 : ∀ (x2_110 : Int32) (M2 : Nat → Nat → Int32) (N2 : Nat → Nat → Int64), zK P S.2.1 M2 → Zw p l e { frames := 3, cells := 0, slots := 0, locals := 80 * 3 } s m args below meth c G b 3 (MQ below (zQ G b FQ) args s 0 0 (fun q : Nat => b ≤ q)) 0 0 110 [some (.ref (Q)), some (.ref (A)), some (.int x2_110)] [] (S.1, M2, N2) := by
    intro x2_110 M2_110 N2_110 k_110
    refine a_aload_n X dX5_settle_110 rfl ?_
    refine a_aload_n X dX5_settle_111 rfl ?_
    refine a_callVx X dX5_settle_112 miX5_secondRound lm5_92 (s_X5_secondRound (P := P) (by assumption) (by omega) (by assumption) (by omega)) (by assumption) rfl rfl rfl (Nat.le_of_ble_eq_true rfl) ⟨by decide, by decide, by decide, by decide⟩ (fun r_112 S_112 q_112 => ?_)
    obtain ⟨M_112, N_112, rfl, k_112, rfl⟩ := q_112
    refine a_vret X hr dX5_settle_115 ⟨by decide, by decide⟩ ?_
    subst hF
    exact ⟨_, _, rfl, (by (try dsimp only); repeat first | assumption | exact zK.rf | refine zK.zu ?_ (by omega) | refine zK.zu0 ?_ (by decide) | refine zK.zwr ?_ (by omega) | refine zK.zfil ?_ (by omega) | refine zK.zcpy ?_ (by omega) | refine zK.trans ?_ (by assumption) | dsimp only), rfl⟩
  have L_36 : ∀ u : Nat, ∀ (x2_36 : Int32) (M2 : Nat → Nat → Int32) (N2 : Nat → Nat → Int64), zK P S.2.1 M2 → (2147483648 - x2_36.toInt).toNat < u → Zw p l e { frames := 3, cells := 0, slots := 0, locals := 80 * 3 } s m args below meth c G b 3 (MQ below (zQ G b FQ) args s 0 0 (fun q : Nat => b ≤ q)) 0 0 36 [some (.ref (Q)), some (.ref (A)), some (.int x2_36)] [] (S.1, M2, N2) := by
    intro u
    induction u with
    | zero => intro x2_36 M2_36 N2_36 k_36 hm_36; exact absurd hm_36 (Nat.not_lt_zero _)
    | succ u_36 ih_36 =>
      intro x2_36 M2_36 N2_36 k_36 hm_36
      refine a_iload_n X dX5_settle_36 rfl ?_
      refine a_aload_n X dX5_settle_37 rfl ?_
      refine a_geti X lf5_73 (by assumption) rfl dX5_settle_38 ?_
      refine a_icmp_ge (tgt := 98) X dX5_settle_41 (by decide) (fun h_41 => ?_) (fun h_41 => ?_)
      · refine a_aload_n X dX5_settle_98 rfl ?_
        refine a_geti X lf5_85 (by assumption) rfl dX5_settle_99 ?_
        refine a_if_eq (tgt := 110) X dX5_settle_102 (by decide) (fun h_102 => ?_) (fun h_102 => ?_)
        · exact Zw.to2 (J_110 _ _ _ (by (try dsimp only); repeat first | assumption | exact zK.rf | refine zK.zu ?_ (by omega) | refine zK.zu0 ?_ (by decide) | refine zK.zwr ?_ (by omega) | refine zK.zfil ?_ (by omega) | refine zK.zcpy ?_ (by omega) | refine zK.trans ?_ (by assumption) | dsimp only) ) rfl rfl rfl
        · refine a_aload_n X dX5_settle_105 rfl ?_
          refine a_aload_n X dX5_settle_106 rfl ?_
          refine a_callVx X dX5_settle_107 miX5_firstRound lm5_89 (s_X5_firstRound (P := P) (by assumption) (by omega) (by assumption) (by omega)) (by assumption) rfl rfl rfl (Nat.le_of_ble_eq_true rfl) ⟨by decide, by decide, by decide, by decide⟩ (fun r_107 S_107 q_107 => ?_)
          obtain ⟨M_107, N_107, rfl, k_107, rfl⟩ := q_107
          exact Zw.to2 (J_110 _ _ _ (by (try dsimp only); repeat first | assumption | exact zK.rf | refine zK.zu ?_ (by omega) | refine zK.zu0 ?_ (by decide) | refine zK.zwr ?_ (by omega) | refine zK.zfil ?_ (by omega) | refine zK.zcpy ?_ (by omega) | refine zK.trans ?_ (by assumption) | dsimp only) ) rfl rfl rfl
      · refine a_aload_n X dX5_settle_44 rfl ?_
        refine a_getr X lf5_21 (by assumption) rfl (by omega) dX5_settle_45 ?_
        refine a_iload_n X dX5_settle_48 rfl ?_
        refine a_aload_n X dX5_settle_49 rfl ?_
        refine a_getr X lf5_76 (by assumption) rfl (by omega) dX5_settle_50 ?_
        refine a_iload_n X dX5_settle_53 rfl ?_
        refine a_callSNv X dX5_settle_54 miX7_cell lm5_69 (c_cell (by assumption) (by first | decide | assumption)) rfl rfl (Nat.le_of_ble_eq_true rfl) ⟨by decide, by decide, by decide, by decide⟩ ?_
        refine a_callSNx X dX5_settle_57 miX7_put lm5_62 (s_X7_put (P := P) (by assumption) (by first | decide | assumption) (by omega)) rfl rfl (Nat.le_of_ble_eq_true rfl) ⟨by decide, by decide, by decide, by decide⟩ (fun r_57 S_57 q_57 => ?_)
        obtain ⟨M_57, N_57, rfl, k_57, rfl⟩ := q_57
        refine a_aload_n X dX5_settle_60 rfl ?_
        refine a_getr X lf5_27 (by assumption) rfl (by omega) dX5_settle_61 ?_
        refine a_iload_n X dX5_settle_64 rfl ?_
        refine a_aload_n X dX5_settle_65 rfl ?_
        refine a_getr X lf5_79 (by assumption) rfl (by omega) dX5_settle_66 ?_
        refine a_iload_n X dX5_settle_69 rfl ?_
        refine a_callSNv X dX5_settle_70 miX7_cell lm5_69 (c_cell (by assumption) (by first | decide | assumption)) rfl rfl (Nat.le_of_ble_eq_true rfl) ⟨by decide, by decide, by decide, by decide⟩ ?_
        refine a_callSNx X dX5_settle_73 miX7_put lm5_62 (s_X7_put (P := P) (by assumption) (by first | decide | assumption) (by omega)) rfl rfl (Nat.le_of_ble_eq_true rfl) ⟨by decide, by decide, by decide, by decide⟩ (fun r_73 S_73 q_73 => ?_)
        obtain ⟨M_73, N_73, rfl, k_73, rfl⟩ := q_73
        refine a_aload_n X dX5_settle_76 rfl ?_
        refine a_getr X lf5_24 (by assumption) rfl (by omega) dX5_settle_77 ?_
        refine a_iload_n X dX5_settle_80 rfl ?_
        refine a_aload_n X dX5_settle_81 rfl ?_
        refine a_getr X lf5_82 (by assumption) rfl (by omega) dX5_settle_82 ?_
        refine a_iload_n X dX5_settle_85 rfl ?_
        refine a_callSNv X dX5_settle_86 miX7_cell lm5_69 (c_cell (by assumption) (by first | decide | assumption)) rfl rfl (Nat.le_of_ble_eq_true rfl) ⟨by decide, by decide, by decide, by decide⟩ ?_
        refine a_callSNx X dX5_settle_89 miX7_put lm5_62 (s_X7_put (P := P) (by assumption) (by first | decide | assumption) (by omega)) rfl rfl (Nat.le_of_ble_eq_true rfl) ⟨by decide, by decide, by decide, by decide⟩ (fun r_89 S_89 q_89 => ?_)
        obtain ⟨M_89, N_89, rfl, k_89, rfl⟩ := q_89
        refine a_iinc X dX5_settle_92 (by decide) rfl rfl ?_
        refine a_goto (tgt := 36) X dX5_settle_95 (by decide) ?_
        exact Zw.to2 (ih_36 _ _ _ (by (try dsimp only); repeat first | assumption | exact zK.rf | refine zK.zu ?_ (by omega) | refine zK.zu0 ?_ (by decide) | refine zK.zwr ?_ (by omega) | refine zK.zfil ?_ (by omega) | refine zK.zcpy ?_ (by omega) | refine zK.trans ?_ (by assumption) | dsimp only)  (z_up (by first | assumption | exact z_lt (by assumption) | exact z_lt2 (by assumption)) hm_36)) rfl rfl rfl
  have H_36 : ∀ (x2_36 : Int32) (M2 : Nat → Nat → Int32) (N2 : Nat → Nat → Int64), zK P S.2.1 M2 → Zw p l e { frames := 3, cells := 0, slots := 0, locals := 80 * 3 } s m args below meth c G b 3 (MQ below (zQ G b FQ) args s 0 0 (fun q : Nat => b ≤ q)) 0 0 36 [some (.ref (Q)), some (.ref (A)), some (.int x2_36)] [] (S.1, M2, N2) := fun x2_36 M2 N2 k  => L_36 _ x2_36 M2 N2 k  (Nat.lt_succ_self _)
  have L_2 : ∀ u : Nat, ∀ (x2_2 : Int32) (M2 : Nat → Nat → Int32) (N2 : Nat → Nat → Int64), zK P S.2.1 M2 → (2147483648 - x2_2.toInt).toNat < u → Zw p l e { frames := 3, cells := 0, slots := 0, locals := 80 * 3 } s m args below meth c G b 3 (MQ below (zQ G b FQ) args s 0 0 (fun q : Nat => b ≤ q)) 0 0 2 [some (.ref (Q)), some (.ref (A)), some (.int x2_2)] [] (S.1, M2, N2) := by
    intro u
    induction u with
    | zero => intro x2_2 M2_2 N2_2 k_2 hm_2; exact absurd hm_2 (Nat.not_lt_zero _)
    | succ u_2 ih_2 =>
      intro x2_2 M2_2 N2_2 k_2 hm_2
      refine a_iload_n X dX5_settle_2 rfl ?_
      refine a_aload_n X dX5_settle_3 rfl ?_
      refine a_geti X lf5_47 (by assumption) rfl dX5_settle_4 ?_
      refine a_icmp_ge (tgt := 34) X dX5_settle_7 (by decide) (fun h_7 => ?_) (fun h_7 => ?_)
      · refine a_iconst (v := 0) X dX5_settle_34 (by decide) ?_
        refine a_istore_n X dX5_settle_35 (by decide) ?_
        exact Zw.to2 (H_36 _ _ _ (by (try dsimp only); repeat first | assumption | exact zK.rf | refine zK.zu ?_ (by omega) | refine zK.zu0 ?_ (by decide) | refine zK.zwr ?_ (by omega) | refine zK.zfil ?_ (by omega) | refine zK.zcpy ?_ (by omega) | refine zK.trans ?_ (by assumption) | dsimp only) ) rfl rfl rfl
      · refine a_aload_n X dX5_settle_10 rfl ?_
        refine a_getr X lf5_15 (by assumption) rfl (by omega) dX5_settle_11 ?_
        refine a_iload_n X dX5_settle_14 rfl ?_
        refine a_iconst (v := -1) X dX5_settle_15 (by decide) ?_
        refine a_callSNx X dX5_settle_16 miX7_put lm5_62 (s_X7_put (P := P) (by assumption) (by first | decide | assumption) (by omega)) rfl rfl (Nat.le_of_ble_eq_true rfl) ⟨by decide, by decide, by decide, by decide⟩ (fun r_16 S_16 q_16 => ?_)
        obtain ⟨M_16, N_16, rfl, k_16, rfl⟩ := q_16
        refine a_aload_n X dX5_settle_19 rfl ?_
        refine a_getr X lf5_18 (by assumption) rfl (by omega) dX5_settle_20 ?_
        refine a_iload_n X dX5_settle_23 rfl ?_
        refine a_iconst (v := 0) X dX5_settle_24 (by decide) ?_
        refine a_callSNx X dX5_settle_25 miX7_put lm5_62 (s_X7_put (P := P) (by assumption) (by first | decide | assumption) (by omega)) rfl rfl (Nat.le_of_ble_eq_true rfl) ⟨by decide, by decide, by decide, by decide⟩ (fun r_25 S_25 q_25 => ?_)
        obtain ⟨M_25, N_25, rfl, k_25, rfl⟩ := q_25
        refine a_iinc X dX5_settle_28 (by decide) rfl rfl ?_
        refine a_goto (tgt := 2) X dX5_settle_31 (by decide) ?_
        exact Zw.to2 (ih_2 _ _ _ (by (try dsimp only); repeat first | assumption | exact zK.rf | refine zK.zu ?_ (by omega) | refine zK.zu0 ?_ (by decide) | refine zK.zwr ?_ (by omega) | refine zK.zfil ?_ (by omega) | refine zK.zcpy ?_ (by omega) | refine zK.trans ?_ (by assumption) | dsimp only)  (z_up (by first | assumption | exact z_lt (by assumption) | exact z_lt2 (by assumption)) hm_2)) rfl rfl rfl
  have H_2 : ∀ (x2_2 : Int32) (M2 : Nat → Nat → Int32) (N2 : Nat → Nat → Int64), zK P S.2.1 M2 → Zw p l e { frames := 3, cells := 0, slots := 0, locals := 80 * 3 } s m args below meth c G b 3 (MQ below (zQ G b FQ) args s 0 0 (fun q : Nat => b ≤ q)) 0 0 2 [some (.ref (Q)), some (.ref (A)), some (.int x2_2)] [] (S.1, M2, N2) := fun x2_2 M2 N2 k  => L_2 _ x2_2 M2 N2 k  (Nat.lt_succ_self _)
  refine a_iconst (v := 0) X dX5_settle_0 (by decide) ?_
  refine a_istore_n X dX5_settle_1 (by decide) ?_
  exact Zw.to2 (H_2 _ _ _ (by (try dsimp only); repeat first | assumption | exact zK.rf | refine zK.zu ?_ (by omega) | refine zK.zu0 ?_ (by decide) | refine zK.zwr ?_ (by omega) | refine zK.zfil ?_ (by omega) | refine zK.zcpy ?_ (by omega) | refine zK.trans ?_ (by assumption) | dsimp only) ) rfl rfl rfl
set_option maxRecDepth 100000 in
theorem s_X5_bySeed {l : Launch} {G : zG} {b : Nat} {S : zS} {P : Nat} {Q : Nat} {A : Nat} {v0 : Int32} (hQ : LX5 S.1 Q) (rQ : P < Q ∧ Q + 8 ≤ P + 200) (hA : LX2 S.1 A) (rA : P < A ∧ A + 13 ≤ P + 200) : zM l G b yX5_bySeed cX5_bySeed 3 none 4 0 0 [.ref Q, .ref A, .int v0] S (fun r z => ∃ M' N', z = (S.1, M', N') ∧ zK P S.2.1 M' ∧ r = none) := by
  refine zM.of miX5_bySeed (Nat.le_of_ble_eq_true rfl) ?_
  intro p e s m args below meth c X hr hname
  generalize hF : ((fun r z => ∃ M' N', z = (S.1, M', N') ∧ zK P S.2.1 M' ∧ r = none) : Option Value → zS → Prop) = FQ
  change Zw p l e { frames := 4, cells := 0, slots := 0, locals := 80 * 4 } s m args below meth c G b 3 (MQ below (zQ G b FQ) args s 0 0 (fun q : Nat => b ≤ q)) 0 0 0 [some (.ref Q), some (.ref A), some (.int v0)] [] S
  obtain ⟨q_lt, q_o, q_line, q_unitOf, q_roundOf, q_leftTags, q_leftGuests, q_leftPreferred, q_ranked⟩ := id hQ
  obtain ⟨a_lt, a_o, a_quota, a_preferred, a_forGuests, a_applicantOf, a_size, a_guestCount, a_score, a_tickets, a_bits, a_party, a_wishCount, a_wishes⟩ := id hA
  refine a_aload_n X dX5_bySeed_0 rfl ?_
  refine a_aload_n X dX5_bySeed_1 rfl ?_
  refine a_iload_n X dX5_bySeed_2 rfl ?_
  refine a_callVx X dX5_bySeed_3 miX5_lineUp lm5_33 (s_X5_lineUp (P := P) (by assumption) (by omega) (by assumption) (by omega)) (by assumption) rfl rfl rfl (Nat.le_of_ble_eq_true rfl) ⟨by decide, by decide, by decide, by decide⟩ (fun r_3 S_3 q_3 => ?_)
  obtain ⟨M_3, N_3, rfl, k_3, rfl⟩ := q_3
  refine a_aload_n X dX5_bySeed_6 rfl ?_
  refine a_aload_n X dX5_bySeed_7 rfl ?_
  refine a_callVx X dX5_bySeed_8 miX5_settle lm5_37 (s_X5_settle (P := P) (by assumption) (by omega) (by assumption) (by omega)) (by assumption) rfl rfl rfl (Nat.le_of_ble_eq_true rfl) ⟨by decide, by decide, by decide, by decide⟩ (fun r_8 S_8 q_8 => ?_)
  obtain ⟨M_8, N_8, rfl, k_8, rfl⟩ := q_8
  refine a_vret X hr dX5_bySeed_11 ⟨by decide, by decide⟩ ?_
  subst hF
  exact ⟨_, _, rfl, (by (try dsimp only); repeat first | assumption | exact zK.rf | refine zK.zu ?_ (by omega) | refine zK.zu0 ?_ (by decide) | refine zK.zwr ?_ (by omega) | refine zK.zfil ?_ (by omega) | refine zK.zcpy ?_ (by omega) | refine zK.trans ?_ (by assumption) | dsimp only), rfl⟩
set_option maxRecDepth 100000 in
theorem s_X5_rankHeld {l : Launch} {G : zG} {b : Nat} {S : zS} {P : Nat} {Q : Nat} {A : Nat} {v0 : Int32} (hQ : LX5 S.1 Q) (rQ : P < Q ∧ Q + 8 ≤ P + 200) (hA : LX2 S.1 A) (rA : P < A ∧ A + 13 ≤ P + 200) : zM l G b yX5_rankHeld cX5_rankHeld 4 (some .int) 3 0 0 [.ref Q, .ref A, .int v0] S (fun r z => z = S ∧ ∃ v : Int32, r = some (.int v)) := by
  refine zM.of miX5_rankHeld (Nat.le_of_ble_eq_true rfl) ?_
  intro p e s m args below meth c X hr hname
  generalize hF : ((fun r z => z = S ∧ ∃ v : Int32, r = some (.int v)) : Option Value → zS → Prop) = FQ
  change Zw p l e { frames := 3, cells := 0, slots := 0, locals := 80 * 3 } s m args below meth c G b 4 (MQ below (zQ G b FQ) args s 0 0 (fun q : Nat => b ≤ q)) 0 0 0 [some (.ref Q), some (.ref A), some (.int v0), none] [] S
  obtain ⟨q_lt, q_o, q_line, q_unitOf, q_roundOf, q_leftTags, q_leftGuests, q_leftPreferred, q_ranked⟩ := id hQ
  obtain ⟨a_lt, a_o, a_quota, a_preferred, a_forGuests, a_applicantOf, a_size, a_guestCount, a_score, a_tickets, a_bits, a_party, a_wishCount, a_wishes⟩ := id hA
  have J_24 : ∀ (x2_24 : Int32) (x3_24 : Int32) (y0_24 : Int32), Zw p l e { frames := 3, cells := 0, slots := 0, locals := 80 * 3 } s m args below meth c G b 4 (MQ below (zQ G b FQ) args s 0 0 (fun q : Nat => b ≤ q)) 0 0 24 [some (.ref (Q)), some (.ref (A)), some (.int x2_24), some (.int x3_24)] [(.int y0_24)] S := by
    intro x2_24 x3_24 y0_24
    refine a_iret X hr dX5_rankHeld_24 ⟨by decide, by decide⟩ ?_
    subst hF
    exact ⟨rfl, ⟨_, rfl⟩⟩
  refine a_aload_n X dX5_rankHeld_0 rfl ?_
  refine a_iload_n X dX5_rankHeld_1 rfl ?_
  refine a_aload_n X dX5_rankHeld_2 rfl ?_
  refine a_getr X lf5_15 (by assumption) rfl (by omega) dX5_rankHeld_3 ?_
  refine a_iload_n X dX5_rankHeld_6 rfl ?_
  refine a_callSNv X dX5_rankHeld_7 miX7_cell lm5_69 (c_cell (by assumption) (by first | decide | assumption)) rfl rfl (Nat.le_of_ble_eq_true rfl) ⟨by decide, by decide, by decide, by decide⟩ ?_
  refine a_callVx X dX5_rankHeld_10 miX2_rankOf lm5_125 (s_X2_rankOf (P := P) (by assumption) (by omega)) (by assumption) rfl rfl rfl (Nat.le_of_ble_eq_true rfl) ⟨by decide, by decide, by decide, by decide⟩ (fun r_10 S_10 q_10 => ?_)
  obtain ⟨rfl, ⟨v_10, rfl⟩⟩ := q_10
  refine a_istore_n X dX5_rankHeld_13 (by decide) ?_
  refine a_iload_n X dX5_rankHeld_14 rfl ?_
  refine a_iconst (v := -1) X dX5_rankHeld_15 (by decide) ?_
  refine a_icmp_ne (tgt := 23) X dX5_rankHeld_16 (by decide) (fun h_16 => ?_) (fun h_16 => ?_)
  · refine a_iload_n X dX5_rankHeld_23 rfl ?_
    exact Zw.to2 (J_24 _ _ _ ) rfl rfl rfl
  · refine a_iconst (v := 3) X dX5_rankHeld_19 (by decide) ?_
    refine a_goto (tgt := 24) X dX5_rankHeld_20 (by decide) ?_
    exact Zw.to2 (J_24 _ _ _ ) rfl rfl rfl
set_option maxRecDepth 100000 in
theorem s_X5_isWaiting {l : Launch} {G : zG} {b : Nat} {S : zS} {P : Nat} {Q : Nat} {A : Nat} {v0 : Int32} {v1 : Int32} (hQ : LX5 S.1 Q) (rQ : P < Q ∧ Q + 8 ≤ P + 200) (hA : LX2 S.1 A) (rA : P < A ∧ A + 13 ≤ P + 200) : zM l G b yX5_isWaiting cX5_isWaiting 4 (some .boolean) 3 0 0 [.ref Q, .ref A, .int v0, .int v1] S (fun r z => z = S ∧ ∃ v : Int32, r = some (.int v) ∧ (v = 0 ∨ v = 1)) := by
  refine zM.of miX5_isWaiting (Nat.le_of_ble_eq_true rfl) ?_
  intro p e s m args below meth c X hr hname
  generalize hF : ((fun r z => z = S ∧ ∃ v : Int32, r = some (.int v) ∧ (v = 0 ∨ v = 1)) : Option Value → zS → Prop) = FQ
  change Zw p l e { frames := 3, cells := 0, slots := 0, locals := 80 * 3 } s m args below meth c G b 4 (MQ below (zQ G b FQ) args s 0 0 (fun q : Nat => b ≤ q)) 0 0 0 [some (.ref Q), some (.ref A), some (.int v0), some (.int v1)] [] S
  obtain ⟨q_lt, q_o, q_line, q_unitOf, q_roundOf, q_leftTags, q_leftGuests, q_leftPreferred, q_ranked⟩ := id hQ
  obtain ⟨a_lt, a_o, a_quota, a_preferred, a_forGuests, a_applicantOf, a_size, a_guestCount, a_score, a_tickets, a_bits, a_party, a_wishCount, a_wishes⟩ := id hA
  have J_27 : ∀ (x2_27 : Int32) (x3_27 : Int32) (y0_27 : Int32), (y0_27 = 0 ∨ y0_27 = 1) → Zw p l e { frames := 3, cells := 0, slots := 0, locals := 80 * 3 } s m args below meth c G b 4 (MQ below (zQ G b FQ) args s 0 0 (fun q : Nat => b ≤ q)) 0 0 27 [some (.ref (Q)), some (.ref (A)), some (.int x2_27), some (.int x3_27)] [(.int y0_27)] S := by
    intro x2_27 x3_27 y0_27 f0_27
    refine a_zret X (by first | exact Or.inl rfl | exact Or.inr rfl | assumption) hr dX5_isWaiting_27 ⟨by decide, by decide⟩ ?_
    subst hF
    exact ⟨rfl, ⟨_, rfl, (by first | exact Or.inl rfl | exact Or.inr rfl | assumption)⟩⟩
  have J_26 : ∀ (x2_26 : Int32) (x3_26 : Int32), Zw p l e { frames := 3, cells := 0, slots := 0, locals := 80 * 3 } s m args below meth c G b 4 (MQ below (zQ G b FQ) args s 0 0 (fun q : Nat => b ≤ q)) 0 0 26 [some (.ref (Q)), some (.ref (A)), some (.int x2_26), some (.int x3_26)] [] S := by
    intro x2_26 x3_26
    refine a_iconst (v := 0) X dX5_isWaiting_26 (by decide) ?_
    exact Zw.to2 (J_27 _ _ _ (by first | exact Or.inl rfl | exact Or.inr rfl | assumption)) rfl rfl rfl
  refine a_aload_n X dX5_isWaiting_0 rfl ?_
  refine a_getr X lf5_15 (by assumption) rfl (by omega) dX5_isWaiting_1 ?_
  refine a_iload_n X dX5_isWaiting_4 rfl ?_
  refine a_callSNv X dX5_isWaiting_5 miX7_cell lm5_69 (c_cell (by assumption) (by first | decide | assumption)) rfl rfl (Nat.le_of_ble_eq_true rfl) ⟨by decide, by decide, by decide, by decide⟩ ?_
  refine a_iconst (v := -1) X dX5_isWaiting_8 (by decide) ?_
  refine a_icmp_ne (tgt := 26) X dX5_isWaiting_9 (by decide) (fun h_9 => ?_) (fun h_9 => ?_)
  · exact Zw.to2 (J_26 _ _ ) rfl rfl rfl
  · refine a_aload_n X dX5_isWaiting_12 rfl ?_
    refine a_iload_n X dX5_isWaiting_13 rfl ?_
    refine a_iload_n X dX5_isWaiting_14 rfl ?_
    refine a_callVx X dX5_isWaiting_15 miX2_rankOf lm5_125 (s_X2_rankOf (P := P) (by assumption) (by omega)) (by assumption) rfl rfl rfl (Nat.le_of_ble_eq_true rfl) ⟨by decide, by decide, by decide, by decide⟩ (fun r_15 S_15 q_15 => ?_)
    obtain ⟨rfl, ⟨v_15, rfl⟩⟩ := q_15
    refine a_iconst (v := -1) X dX5_isWaiting_18 (by decide) ?_
    refine a_icmp_eq (tgt := 26) X dX5_isWaiting_19 (by decide) (fun h_19 => ?_) (fun h_19 => ?_)
    · exact Zw.to2 (J_26 _ _ ) rfl rfl rfl
    · refine a_iconst (v := 1) X dX5_isWaiting_22 (by decide) ?_
      refine a_goto (tgt := 27) X dX5_isWaiting_23 (by decide) ?_
      exact Zw.to2 (J_27 _ _ _ (by first | exact Or.inl rfl | exact Or.inr rfl | assumption)) rfl rfl rfl
set_option maxRecDepth 100000 in
theorem s_X5_holders {l : Launch} {G : zG} {b : Nat} {S : zS} {P : Nat} {Q : Nat} {A : Nat} {v0 : Int32} (hQ : LX5 S.1 Q) (rQ : P < Q ∧ Q + 8 ≤ P + 200) (hA : LX2 S.1 A) (rA : P < A ∧ A + 13 ≤ P + 200) : zM l G b yX5_holders cX5_holders 5 (some .int) 1 0 0 [.ref Q, .ref A, .int v0] S (fun r z => z = S ∧ ∃ v : Int32, r = some (.int v)) := by
  refine zM.of miX5_holders (Nat.le_of_ble_eq_true rfl) ?_
  intro p e s m args below meth c X hr hname
  generalize hF : ((fun r z => z = S ∧ ∃ v : Int32, r = some (.int v)) : Option Value → zS → Prop) = FQ
  change Zw p l e { frames := 1, cells := 0, slots := 0, locals := 80 * 1 } s m args below meth c G b 5 (MQ below (zQ G b FQ) args s 0 0 (fun q : Nat => b ≤ q)) 0 0 0 [some (.ref Q), some (.ref A), some (.int v0), none, none] [] S
  obtain ⟨q_lt, q_o, q_line, q_unitOf, q_roundOf, q_leftTags, q_leftGuests, q_leftPreferred, q_ranked⟩ := id hQ
  obtain ⟨a_lt, a_o, a_quota, a_preferred, a_forGuests, a_applicantOf, a_size, a_guestCount, a_score, a_tickets, a_bits, a_party, a_wishCount, a_wishes⟩ := id hA
  have L_5 : ∀ u : Nat, ∀ (x2_5 : Int32) (x3_5 : Int32) (x4_5 : Int32), (2147483648 - x4_5.toInt).toNat < u → Zw p l e { frames := 1, cells := 0, slots := 0, locals := 80 * 1 } s m args below meth c G b 5 (MQ below (zQ G b FQ) args s 0 0 (fun q : Nat => b ≤ q)) 0 0 5 [some (.ref (Q)), some (.ref (A)), some (.int x2_5), some (.int x3_5), some (.int x4_5)] [] S := by
    intro u
    induction u with
    | zero => intro x2_5 x3_5 x4_5 hm_5; exact absurd hm_5 (Nat.not_lt_zero _)
    | succ u_5 ih_5 =>
      intro x2_5 x3_5 x4_5 hm_5
      have J_33 : ∀ (x2_33 : Int32) (x3_33 : Int32) (x4_33 : Int32) (y0_33 : Int32) (y1_33 : Int32), (y1_33 = 0 ∨ y1_33 = 1) → ((2147483648 - x4_33.toInt).toNat < u_5 + 1) → (x4_33.toInt < 2147483647) → Zw p l e { frames := 1, cells := 0, slots := 0, locals := 80 * 1 } s m args below meth c G b 5 (MQ below (zQ G b FQ) args s 0 0 (fun q : Nat => b ≤ q)) 0 0 33 [some (.ref (Q)), some (.ref (A)), some (.int x2_33), some (.int x3_33), some (.int x4_33)] [(.int y1_33), (.int y0_33)] S := by
        intro x2_33 x3_33 x4_33 y0_33 y1_33 f0_33 f1_33 f2_33
        refine a_iadd X dX5_holders_33 ?_
        refine a_istore_n X dX5_holders_34 (by decide) ?_
        refine a_iinc X dX5_holders_35 (by decide) rfl rfl ?_
        refine a_goto (tgt := 5) X dX5_holders_38 (by decide) ?_
        exact Zw.to2 (ih_5 _ _ _  (z_up f2_33 f1_33)) rfl rfl rfl
      refine a_iload X dX5_holders_5 rfl ?_
      refine a_aload_n X dX5_holders_7 rfl ?_
      refine a_geti X lf5_47 (by assumption) rfl dX5_holders_8 ?_
      refine a_icmp_ge (tgt := 41) X dX5_holders_11 (by decide) (fun h_11 => ?_) (fun h_11 => ?_)
      · refine a_iload_n X dX5_holders_41 rfl ?_
        refine a_iret X hr dX5_holders_42 ⟨by decide, by decide⟩ ?_
        subst hF
        exact ⟨rfl, ⟨_, rfl⟩⟩
      · refine a_iload_n X dX5_holders_14 rfl ?_
        refine a_aload_n X dX5_holders_15 rfl ?_
        refine a_getr X lf5_15 (by assumption) rfl (by omega) dX5_holders_16 ?_
        refine a_iload X dX5_holders_19 rfl ?_
        refine a_callSNv X dX5_holders_21 miX7_cell lm5_69 (c_cell (by assumption) (by first | decide | assumption)) rfl rfl (Nat.le_of_ble_eq_true rfl) ⟨by decide, by decide, by decide, by decide⟩ ?_
        refine a_iload_n X dX5_holders_24 rfl ?_
        refine a_icmp_ne (tgt := 32) X dX5_holders_25 (by decide) (fun h_25 => ?_) (fun h_25 => ?_)
        · refine a_iconst (v := 0) X dX5_holders_32 (by decide) ?_
          exact Zw.to2 (J_33 _ _ _ _ _ (by first | exact Or.inl rfl | exact Or.inr rfl | assumption) hm_5 (by first | assumption | exact z_lt (by assumption) | exact z_lt2 (by assumption))) rfl rfl rfl
        · refine a_iconst (v := 1) X dX5_holders_28 (by decide) ?_
          refine a_goto (tgt := 33) X dX5_holders_29 (by decide) ?_
          exact Zw.to2 (J_33 _ _ _ _ _ (by first | exact Or.inl rfl | exact Or.inr rfl | assumption) hm_5 (by first | assumption | exact z_lt (by assumption) | exact z_lt2 (by assumption))) rfl rfl rfl
  have H_5 : ∀ (x2_5 : Int32) (x3_5 : Int32) (x4_5 : Int32), Zw p l e { frames := 1, cells := 0, slots := 0, locals := 80 * 1 } s m args below meth c G b 5 (MQ below (zQ G b FQ) args s 0 0 (fun q : Nat => b ≤ q)) 0 0 5 [some (.ref (Q)), some (.ref (A)), some (.int x2_5), some (.int x3_5), some (.int x4_5)] [] S := fun x2_5 x3_5 x4_5  => L_5 _ x2_5 x3_5 x4_5  (Nat.lt_succ_self _)
  refine a_iconst (v := 0) X dX5_holders_0 (by decide) ?_
  refine a_istore_n X dX5_holders_1 (by decide) ?_
  refine a_iconst (v := 0) X dX5_holders_2 (by decide) ?_
  refine a_istore X dX5_holders_3 (by decide) ?_
  exact Zw.to2 (H_5 _ _ _ ) rfl rfl rfl
set_option maxRecDepth 100000 in
theorem s_X5_fewestPoints {l : Launch} {G : zG} {b : Nat} {S : zS} {P : Nat} {Q : Nat} {A : Nat} {v0 : Int32} (hQ : LX5 S.1 Q) (rQ : P < Q ∧ Q + 8 ≤ P + 200) (hA : LX2 S.1 A) (rA : P < A ∧ A + 13 ≤ P + 200) : zM l G b yX5_fewestPoints cX5_fewestPoints 5 (some .int) 1 0 0 [.ref Q, .ref A, .int v0] S (fun r z => z = S ∧ ∃ v : Int32, r = some (.int v)) := by
  refine zM.of miX5_fewestPoints (Nat.le_of_ble_eq_true rfl) ?_
  intro p e s m args below meth c X hr hname
  generalize hF : ((fun r z => z = S ∧ ∃ v : Int32, r = some (.int v)) : Option Value → zS → Prop) = FQ
  change Zw p l e { frames := 1, cells := 0, slots := 0, locals := 80 * 1 } s m args below meth c G b 5 (MQ below (zQ G b FQ) args s 0 0 (fun q : Nat => b ≤ q)) 0 0 0 [some (.ref Q), some (.ref A), some (.int v0), none, none] [] S
  obtain ⟨q_lt, q_o, q_line, q_unitOf, q_roundOf, q_leftTags, q_leftGuests, q_leftPreferred, q_ranked⟩ := id hQ
  obtain ⟨a_lt, a_o, a_quota, a_preferred, a_forGuests, a_applicantOf, a_size, a_guestCount, a_score, a_tickets, a_bits, a_party, a_wishCount, a_wishes⟩ := id hA
  have L_5 : ∀ u : Nat, ∀ (x2_5 : Int32) (x3_5 : Int32) (x4_5 : Int32), (2147483648 - x4_5.toInt).toNat < u → Zw p l e { frames := 1, cells := 0, slots := 0, locals := 80 * 1 } s m args below meth c G b 5 (MQ below (zQ G b FQ) args s 0 0 (fun q : Nat => b ≤ q)) 0 0 5 [some (.ref (Q)), some (.ref (A)), some (.int x2_5), some (.int x3_5), some (.int x4_5)] [] S := by
    intro u
    induction u with
    | zero => intro x2_5 x3_5 x4_5 hm_5; exact absurd hm_5 (Nat.not_lt_zero _)
    | succ u_5 ih_5 =>
      intro x2_5 x3_5 x4_5 hm_5
      have J_55 : ∀ (x2_55 : Int32) (x3_55 : Int32) (x4_55 : Int32), ((2147483648 - x4_55.toInt).toNat < u_5 + 1) → (x4_55.toInt < 2147483647) → Zw p l e { frames := 1, cells := 0, slots := 0, locals := 80 * 1 } s m args below meth c G b 5 (MQ below (zQ G b FQ) args s 0 0 (fun q : Nat => b ≤ q)) 0 0 55 [some (.ref (Q)), some (.ref (A)), some (.int x2_55), some (.int x3_55), some (.int x4_55)] [] S := by
        intro x2_55 x3_55 x4_55 f0_55 f1_55
        refine a_iinc X dX5_fewestPoints_55 (by decide) rfl rfl ?_
        refine a_goto (tgt := 5) X dX5_fewestPoints_58 (by decide) ?_
        exact Zw.to2 (ih_5 _ _ _  (z_up f1_55 f0_55)) rfl rfl rfl
      have J_45 : ∀ (x2_45 : Int32) (x3_45 : Int32) (x4_45 : Int32), ((2147483648 - x4_45.toInt).toNat < u_5 + 1) → (x4_45.toInt < 2147483647) → Zw p l e { frames := 1, cells := 0, slots := 0, locals := 80 * 1 } s m args below meth c G b 5 (MQ below (zQ G b FQ) args s 0 0 (fun q : Nat => b ≤ q)) 0 0 45 [some (.ref (Q)), some (.ref (A)), some (.int x2_45), some (.int x3_45), some (.int x4_45)] [] S := by
        intro x2_45 x3_45 x4_45 f0_45 f1_45
        refine a_aload_n X dX5_fewestPoints_45 rfl ?_
        refine a_getr X lf5_116 (by assumption) rfl (by omega) dX5_fewestPoints_46 ?_
        refine a_iload X dX5_fewestPoints_49 rfl ?_
        refine a_callSNv X dX5_fewestPoints_51 miX7_cell lm5_69 (c_cell (by assumption) (by first | decide | assumption)) rfl rfl (Nat.le_of_ble_eq_true rfl) ⟨by decide, by decide, by decide, by decide⟩ ?_
        refine a_istore_n X dX5_fewestPoints_54 (by decide) ?_
        exact Zw.to2 (J_55 _ _ _ f0_45 f1_45) rfl rfl rfl
      refine a_iload X dX5_fewestPoints_5 rfl ?_
      refine a_aload_n X dX5_fewestPoints_7 rfl ?_
      refine a_geti X lf5_47 (by assumption) rfl dX5_fewestPoints_8 ?_
      refine a_icmp_ge (tgt := 61) X dX5_fewestPoints_11 (by decide) (fun h_11 => ?_) (fun h_11 => ?_)
      · refine a_iload_n X dX5_fewestPoints_61 rfl ?_
        refine a_iret X hr dX5_fewestPoints_62 ⟨by decide, by decide⟩ ?_
        subst hF
        exact ⟨rfl, ⟨_, rfl⟩⟩
      · refine a_aload_n X dX5_fewestPoints_14 rfl ?_
        refine a_getr X lf5_15 (by assumption) rfl (by omega) dX5_fewestPoints_15 ?_
        refine a_iload X dX5_fewestPoints_18 rfl ?_
        refine a_callSNv X dX5_fewestPoints_20 miX7_cell lm5_69 (c_cell (by assumption) (by first | decide | assumption)) rfl rfl (Nat.le_of_ble_eq_true rfl) ⟨by decide, by decide, by decide, by decide⟩ ?_
        refine a_iload_n X dX5_fewestPoints_23 rfl ?_
        refine a_icmp_ne (tgt := 55) X dX5_fewestPoints_24 (by decide) (fun h_24 => ?_) (fun h_24 => ?_)
        · exact Zw.to2 (J_55 _ _ _ hm_5 (by first | assumption | exact z_lt (by assumption) | exact z_lt2 (by assumption))) rfl rfl rfl
        · refine a_iload_n X dX5_fewestPoints_27 rfl ?_
          refine a_iconst (v := -1) X dX5_fewestPoints_28 (by decide) ?_
          refine a_icmp_eq (tgt := 45) X dX5_fewestPoints_29 (by decide) (fun h_29 => ?_) (fun h_29 => ?_)
          · exact Zw.to2 (J_45 _ _ _ hm_5 (by first | assumption | exact z_lt (by assumption) | exact z_lt2 (by assumption))) rfl rfl rfl
          · refine a_aload_n X dX5_fewestPoints_32 rfl ?_
            refine a_getr X lf5_116 (by assumption) rfl (by omega) dX5_fewestPoints_33 ?_
            refine a_iload X dX5_fewestPoints_36 rfl ?_
            refine a_callSNv X dX5_fewestPoints_38 miX7_cell lm5_69 (c_cell (by assumption) (by first | decide | assumption)) rfl rfl (Nat.le_of_ble_eq_true rfl) ⟨by decide, by decide, by decide, by decide⟩ ?_
            refine a_iload_n X dX5_fewestPoints_41 rfl ?_
            refine a_icmp_ge (tgt := 55) X dX5_fewestPoints_42 (by decide) (fun h_42 => ?_) (fun h_42 => ?_)
            · exact Zw.to2 (J_55 _ _ _ hm_5 (by first | assumption | exact z_lt (by assumption) | exact z_lt2 (by assumption))) rfl rfl rfl
            · exact Zw.to2 (J_45 _ _ _ hm_5 (by first | assumption | exact z_lt (by assumption) | exact z_lt2 (by assumption))) rfl rfl rfl
  have H_5 : ∀ (x2_5 : Int32) (x3_5 : Int32) (x4_5 : Int32), Zw p l e { frames := 1, cells := 0, slots := 0, locals := 80 * 1 } s m args below meth c G b 5 (MQ below (zQ G b FQ) args s 0 0 (fun q : Nat => b ≤ q)) 0 0 5 [some (.ref (Q)), some (.ref (A)), some (.int x2_5), some (.int x3_5), some (.int x4_5)] [] S := fun x2_5 x3_5 x4_5  => L_5 _ x2_5 x3_5 x4_5  (Nat.lt_succ_self _)
  refine a_iconst (v := -1) X dX5_fewestPoints_0 (by decide) ?_
  refine a_istore_n X dX5_fewestPoints_1 (by decide) ?_
  refine a_iconst (v := 0) X dX5_fewestPoints_2 (by decide) ?_
  refine a_istore X dX5_fewestPoints_3 (by decide) ?_
  exact Zw.to2 (H_5 _ _ _ ) rfl rfl rfl
set_option maxRecDepth 100000 in
theorem s_X5_tagsGiven {l : Launch} {G : zG} {b : Nat} {S : zS} {P : Nat} {Q : Nat} {A : Nat} (hQ : LX5 S.1 Q) (rQ : P < Q ∧ Q + 8 ≤ P + 200) (hA : LX2 S.1 A) (rA : P < A ∧ A + 13 ≤ P + 200) : zM l G b yX5_tagsGiven cX5_tagsGiven 4 (some .int) 1 0 0 [.ref Q, .ref A] S (fun r z => z = S ∧ ∃ v : Int32, r = some (.int v)) := by
  refine zM.of miX5_tagsGiven (Nat.le_of_ble_eq_true rfl) ?_
  intro p e s m args below meth c X hr hname
  generalize hF : ((fun r z => z = S ∧ ∃ v : Int32, r = some (.int v)) : Option Value → zS → Prop) = FQ
  change Zw p l e { frames := 1, cells := 0, slots := 0, locals := 80 * 1 } s m args below meth c G b 4 (MQ below (zQ G b FQ) args s 0 0 (fun q : Nat => b ≤ q)) 0 0 0 [some (.ref Q), some (.ref A), none, none] [] S
  obtain ⟨q_lt, q_o, q_line, q_unitOf, q_roundOf, q_leftTags, q_leftGuests, q_leftPreferred, q_ranked⟩ := id hQ
  obtain ⟨a_lt, a_o, a_quota, a_preferred, a_forGuests, a_applicantOf, a_size, a_guestCount, a_score, a_tickets, a_bits, a_party, a_wishCount, a_wishes⟩ := id hA
  have L_4 : ∀ u : Nat, ∀ (x2_4 : Int32) (x3_4 : Int32), (2147483648 - x3_4.toInt).toNat < u → Zw p l e { frames := 1, cells := 0, slots := 0, locals := 80 * 1 } s m args below meth c G b 4 (MQ below (zQ G b FQ) args s 0 0 (fun q : Nat => b ≤ q)) 0 0 4 [some (.ref (Q)), some (.ref (A)), some (.int x2_4), some (.int x3_4)] [] S := by
    intro u
    induction u with
    | zero => intro x2_4 x3_4 hm_4; exact absurd hm_4 (Nat.not_lt_zero _)
    | succ u_4 ih_4 =>
      intro x2_4 x3_4 hm_4
      have J_37 : ∀ (x2_37 : Int32) (x3_37 : Int32) (y0_37 : Int32) (y1_37 : Int32), ((2147483648 - x3_37.toInt).toNat < u_4 + 1) → (x3_37.toInt < 2147483647) → Zw p l e { frames := 1, cells := 0, slots := 0, locals := 80 * 1 } s m args below meth c G b 4 (MQ below (zQ G b FQ) args s 0 0 (fun q : Nat => b ≤ q)) 0 0 37 [some (.ref (Q)), some (.ref (A)), some (.int x2_37), some (.int x3_37)] [(.int y1_37), (.int y0_37)] S := by
        intro x2_37 x3_37 y0_37 y1_37 f0_37 f1_37
        refine a_iadd X dX5_tagsGiven_37 ?_
        refine a_istore_n X dX5_tagsGiven_38 (by decide) ?_
        refine a_iinc X dX5_tagsGiven_39 (by decide) rfl rfl ?_
        refine a_goto (tgt := 4) X dX5_tagsGiven_42 (by decide) ?_
        exact Zw.to2 (ih_4 _ _  (z_up f1_37 f0_37)) rfl rfl rfl
      refine a_iload_n X dX5_tagsGiven_4 rfl ?_
      refine a_aload_n X dX5_tagsGiven_5 rfl ?_
      refine a_geti X lf5_47 (by assumption) rfl dX5_tagsGiven_6 ?_
      refine a_icmp_ge (tgt := 45) X dX5_tagsGiven_9 (by decide) (fun h_9 => ?_) (fun h_9 => ?_)
      · refine a_iload_n X dX5_tagsGiven_45 rfl ?_
        refine a_iret X hr dX5_tagsGiven_46 ⟨by decide, by decide⟩ ?_
        subst hF
        exact ⟨rfl, ⟨_, rfl⟩⟩
      · refine a_iload_n X dX5_tagsGiven_12 rfl ?_
        refine a_aload_n X dX5_tagsGiven_13 rfl ?_
        refine a_getr X lf5_15 (by assumption) rfl (by omega) dX5_tagsGiven_14 ?_
        refine a_iload_n X dX5_tagsGiven_17 rfl ?_
        refine a_callSNv X dX5_tagsGiven_18 miX7_cell lm5_69 (c_cell (by assumption) (by first | decide | assumption)) rfl rfl (Nat.le_of_ble_eq_true rfl) ⟨by decide, by decide, by decide, by decide⟩ ?_
        refine a_iconst (v := -1) X dX5_tagsGiven_21 (by decide) ?_
        refine a_icmp_ne (tgt := 29) X dX5_tagsGiven_22 (by decide) (fun h_22 => ?_) (fun h_22 => ?_)
        · refine a_aload_n X dX5_tagsGiven_29 rfl ?_
          refine a_getr X lf5_106 (by assumption) rfl (by omega) dX5_tagsGiven_30 ?_
          refine a_iload_n X dX5_tagsGiven_33 rfl ?_
          refine a_callSNv X dX5_tagsGiven_34 miX7_cell lm5_69 (c_cell (by assumption) (by first | decide | assumption)) rfl rfl (Nat.le_of_ble_eq_true rfl) ⟨by decide, by decide, by decide, by decide⟩ ?_
          exact Zw.to2 (J_37 _ _ _ _ hm_4 (by first | assumption | exact z_lt (by assumption) | exact z_lt2 (by assumption))) rfl rfl rfl
        · refine a_iconst (v := 0) X dX5_tagsGiven_25 (by decide) ?_
          refine a_goto (tgt := 37) X dX5_tagsGiven_26 (by decide) ?_
          exact Zw.to2 (J_37 _ _ _ _ hm_4 (by first | assumption | exact z_lt (by assumption) | exact z_lt2 (by assumption))) rfl rfl rfl
  have H_4 : ∀ (x2_4 : Int32) (x3_4 : Int32), Zw p l e { frames := 1, cells := 0, slots := 0, locals := 80 * 1 } s m args below meth c G b 4 (MQ below (zQ G b FQ) args s 0 0 (fun q : Nat => b ≤ q)) 0 0 4 [some (.ref (Q)), some (.ref (A)), some (.int x2_4), some (.int x3_4)] [] S := fun x2_4 x3_4  => L_4 _ x2_4 x3_4  (Nat.lt_succ_self _)
  refine a_iconst (v := 0) X dX5_tagsGiven_0 (by decide) ?_
  refine a_istore_n X dX5_tagsGiven_1 (by decide) ?_
  refine a_iconst (v := 0) X dX5_tagsGiven_2 (by decide) ?_
  refine a_istore_n X dX5_tagsGiven_3 (by decide) ?_
  exact Zw.to2 (H_4 _ _ ) rfl rfl rfl
set_option maxRecDepth 100000 in
theorem s_X5_scoreBehind {l : Launch} {G : zG} {b : Nat} {S : zS} {P : Nat} {Q : Nat} {A : Nat} {v0 : Int32} {v1 : Int32} (hQ : LX5 S.1 Q) (rQ : P < Q ∧ Q + 8 ≤ P + 200) (hA : LX2 S.1 A) (rA : P < A ∧ A + 13 ≤ P + 200) : zM l G b yX5_scoreBehind cX5_scoreBehind 4 (some .int) 3 0 0 [.ref Q, .ref A, .int v0, .int v1] S (fun r z => z = S ∧ ∃ v : Int32, r = some (.int v)) := by
  refine zM.of miX5_scoreBehind (Nat.le_of_ble_eq_true rfl) ?_
  intro p e s m args below meth c X hr hname
  generalize hF : ((fun r z => z = S ∧ ∃ v : Int32, r = some (.int v)) : Option Value → zS → Prop) = FQ
  change Zw p l e { frames := 3, cells := 0, slots := 0, locals := 80 * 3 } s m args below meth c G b 4 (MQ below (zQ G b FQ) args s 0 0 (fun q : Nat => b ≤ q)) 0 0 0 [some (.ref Q), some (.ref A), some (.int v0), some (.int v1)] [] S
  obtain ⟨q_lt, q_o, q_line, q_unitOf, q_roundOf, q_leftTags, q_leftGuests, q_leftPreferred, q_ranked⟩ := id hQ
  obtain ⟨a_lt, a_o, a_quota, a_preferred, a_forGuests, a_applicantOf, a_size, a_guestCount, a_score, a_tickets, a_bits, a_party, a_wishCount, a_wishes⟩ := id hA
  have J_48 : ∀ (x2_48 : Int32) (x3_48 : Int32) (y0_48 : Int32), Zw p l e { frames := 3, cells := 0, slots := 0, locals := 80 * 3 } s m args below meth c G b 4 (MQ below (zQ G b FQ) args s 0 0 (fun q : Nat => b ≤ q)) 0 0 48 [some (.ref (Q)), some (.ref (A)), some (.int x2_48), some (.int x3_48)] [(.int y0_48)] S := by
    intro x2_48 x3_48 y0_48
    refine a_iret X hr dX5_scoreBehind_48 ⟨by decide, by decide⟩ ?_
    subst hF
    exact ⟨rfl, ⟨_, rfl⟩⟩
  refine a_aload_n X dX5_scoreBehind_0 rfl ?_
  refine a_getr X lf5_119 (by assumption) rfl (by omega) dX5_scoreBehind_1 ?_
  refine a_iload_n X dX5_scoreBehind_4 rfl ?_
  refine a_callSNv X dX5_scoreBehind_5 miX7_cell lm5_69 (c_cell (by assumption) (by first | decide | assumption)) rfl rfl (Nat.le_of_ble_eq_true rfl) ⟨by decide, by decide, by decide, by decide⟩ ?_
  refine a_if_ne (tgt := 13) X dX5_scoreBehind_8 (by decide) (fun h_8 => ?_) (fun h_8 => ?_)
  · refine a_aload_n X dX5_scoreBehind_13 rfl ?_
    refine a_getr X lf5_15 (by assumption) rfl (by omega) dX5_scoreBehind_14 ?_
    refine a_iload_n X dX5_scoreBehind_17 rfl ?_
    refine a_callSNv X dX5_scoreBehind_18 miX7_cell lm5_69 (c_cell (by assumption) (by first | decide | assumption)) rfl rfl (Nat.le_of_ble_eq_true rfl) ⟨by decide, by decide, by decide, by decide⟩ ?_
    refine a_iconst (v := -1) X dX5_scoreBehind_21 (by decide) ?_
    refine a_icmp_ne (tgt := 34) X dX5_scoreBehind_22 (by decide) (fun h_22 => ?_) (fun h_22 => ?_)
    · refine a_aload_n X dX5_scoreBehind_34 rfl ?_
      refine a_aload_n X dX5_scoreBehind_35 rfl ?_
      refine a_iload_n X dX5_scoreBehind_36 rfl ?_
      refine a_callVx X dX5_scoreBehind_37 miX5_hasFirst lm5_133 (s_X5_hasFirst (P := P) (by assumption) (by omega) (by assumption) (by omega)) (by assumption) rfl rfl rfl (Nat.le_of_ble_eq_true rfl) ⟨by decide, by decide, by decide, by decide⟩ (fun r_37 S_37 q_37 => ?_)
      obtain ⟨rfl, ⟨v_37, rfl, b_37⟩⟩ := q_37
      refine a_if_eq (tgt := 47) X dX5_scoreBehind_40 (by decide) (fun h_40 => ?_) (fun h_40 => ?_)
      · refine a_iload_n X dX5_scoreBehind_47 rfl ?_
        exact Zw.to2 (J_48 _ _ _ ) rfl rfl rfl
      · refine a_iconst (v := 0) X dX5_scoreBehind_43 (by decide) ?_
        refine a_goto (tgt := 48) X dX5_scoreBehind_44 (by decide) ?_
        exact Zw.to2 (J_48 _ _ _ ) rfl rfl rfl
    · refine a_iload_n X dX5_scoreBehind_25 rfl ?_
      refine a_iconst (v := 1) X dX5_scoreBehind_26 (by decide) ?_
      refine a_iadd X dX5_scoreBehind_27 ?_
      refine a_bipush (v := 20) X dX5_scoreBehind_28 (by decide) ?_
      refine a_mmin X lm5_128 zmath2 zmath0 zmathc2 ⟨by decide, Nat.le_of_ble_eq_true rfl, by decide, by decide⟩ dX5_scoreBehind_30 ?_
      refine a_iret X hr dX5_scoreBehind_33 ⟨by decide, by decide⟩ ?_
      subst hF
      exact ⟨rfl, ⟨_, rfl⟩⟩
  · refine a_iload_n X dX5_scoreBehind_11 rfl ?_
    refine a_iret X hr dX5_scoreBehind_12 ⟨by decide, by decide⟩ ?_
    subst hF
    exact ⟨rfl, ⟨_, rfl⟩⟩
set_option maxRecDepth 100000 in
theorem s_X0_record {l : Launch} {G : zG} {b : Nat} {S : zS} {P : Nat} {Q : Nat} {A : Nat} {v0 : Int64} (hQ : LX0 S.1 Q) (rQ : P < Q ∧ Q + 13 ≤ P + 200) (hA : LX2 S.1 A) (rA : P < A ∧ A + 13 ≤ P + 200) : zM l G b yX0_record cX0_record 7 none 1 0 0 [.ref Q, .ref A, .long v0] S (fun r z => ∃ M' N', z = (S.1, M', N') ∧ zK P S.2.1 M' ∧ r = none) := by
  refine zM.of miX0_record (Nat.le_of_ble_eq_true rfl) ?_
  intro p e s m args below meth c X hr hname
  generalize hF : ((fun r z => ∃ M' N', z = (S.1, M', N') ∧ zK P S.2.1 M' ∧ r = none) : Option Value → zS → Prop) = FQ
  change Zw p l e { frames := 1, cells := 0, slots := 0, locals := 80 * 1 } s m args below meth c G b 7 (MQ below (zQ G b FQ) args s 0 0 (fun q : Nat => b ≤ q)) 0 0 0 [some (.ref Q), some (.ref A), some (.long v0), none, none, none, none] [] S
  obtain ⟨q_lt, q_o, q_sets, q_seen, q_atUnit, q_early, q_result⟩ := id hQ
  obtain ⟨q_result_lt, q_result_o, q_result_line, q_result_unitOf, q_result_roundOf, q_result_leftTags, q_result_leftGuests, q_result_leftPreferred, q_result_ranked⟩ := id q_result
  obtain ⟨a_lt, a_o, a_quota, a_preferred, a_forGuests, a_applicantOf, a_size, a_guestCount, a_score, a_tickets, a_bits, a_party, a_wishCount, a_wishes⟩ := id hA
  have L_6 : ∀ u : Nat, ∀ (x2_6 : Int64) (x4_6 : Int32) (x5_6 : Int32) (x6_6 : Option Value) (M2 : Nat → Nat → Int32) (N2 : Nat → Nat → Int64), zK P S.2.1 M2 → (2147483648 - x5_6.toInt).toNat < u → Zw p l e { frames := 1, cells := 0, slots := 0, locals := 80 * 1 } s m args below meth c G b 7 (MQ below (zQ G b FQ) args s 0 0 (fun q : Nat => b ≤ q)) 0 0 6 [some (.ref (Q)), some (.ref (A)), some (.long x2_6), none, some (.int x4_6), some (.int x5_6), x6_6] [] (S.1, M2, N2) := by
    intro u
    induction u with
    | zero => intro x2_6 x4_6 x5_6 x6_6 M2_6 N2_6 k_6 hm_6; exact absurd hm_6 (Nat.not_lt_zero _)
    | succ u_6 ih_6 =>
      intro x2_6 x4_6 x5_6 x6_6 M2_6 N2_6 k_6 hm_6
      have J_88 : ∀ (x2_88 : Int64) (x4_88 : Int32) (x5_88 : Int32) (x6_88 : Int32) (M2 : Nat → Nat → Int32) (N2 : Nat → Nat → Int64), zK P S.2.1 M2 → ((2147483648 - x5_88.toInt).toNat < u_6 + 1) → (x5_88.toInt < 2147483647) → Zw p l e { frames := 1, cells := 0, slots := 0, locals := 80 * 1 } s m args below meth c G b 7 (MQ below (zQ G b FQ) args s 0 0 (fun q : Nat => b ≤ q)) 0 0 88 [some (.ref (Q)), some (.ref (A)), some (.long x2_88), none, some (.int x4_88), some (.int x5_88), some (.int x6_88)] [] (S.1, M2, N2) := by
        intro x2_88 x4_88 x5_88 x6_88 M2_88 N2_88 k_88 f0_88 f1_88
        refine a_iinc X dX0_record_88 (by decide) rfl rfl ?_
        refine a_goto (tgt := 6) X dX0_record_91 (by decide) ?_
        exact Zw.to2 (ih_6 _ _ _ _ _ _ (by (try dsimp only); repeat first | assumption | exact zK.rf | refine zK.zu ?_ (by omega) | refine zK.zu0 ?_ (by decide) | refine zK.zwr ?_ (by omega) | refine zK.zfil ?_ (by omega) | refine zK.zcpy ?_ (by omega) | refine zK.trans ?_ (by assumption) | dsimp only)  (z_up f1_88 f0_88)) rfl rfl rfl
      refine a_iload X dX0_record_6 rfl ?_
      refine a_aload_n X dX0_record_8 rfl ?_
      refine a_geti X lf0_40 (by assumption) rfl dX0_record_9 ?_
      refine a_icmp_ge (tgt := 94) X dX0_record_12 (by decide) (fun h_12 => ?_) (fun h_12 => ?_)
      · refine a_aload_n X dX0_record_94 rfl ?_
        refine a_getr X lf0_9 (by assumption) rfl (by omega) dX0_record_95 ?_
        refine a_iload X dX0_record_98 rfl ?_
        refine a_lload_n X dX0_record_100 rfl ?_
        refine a_callSNx X dX0_record_101 miX7_bigAdd lm0_80 (s_X7_bigAdd (P := P) (by assumption) (by first | decide | assumption) (by omega)) rfl rfl (Nat.le_of_ble_eq_true rfl) ⟨by decide, by decide, by decide, by decide⟩ (fun r_101 S_101 q_101 => ?_)
        obtain ⟨M_101, N_101, rfl, k_101, rfl⟩ := q_101
        refine a_aload_n X dX0_record_104 rfl ?_
        refine a_getr X lf0_15 (by assumption) rfl (by omega) dX0_record_105 ?_
        refine a_iload X dX0_record_108 rfl ?_
        refine a_iconst (v := 1) X dX0_record_110 (by decide) ?_
        refine a_callSNx X dX0_record_111 miX7_put lm0_73 (s_X7_put (P := P) (by assumption) (by first | decide | assumption) (by omega)) rfl rfl (Nat.le_of_ble_eq_true rfl) ⟨by decide, by decide, by decide, by decide⟩ (fun r_111 S_111 q_111 => ?_)
        obtain ⟨M_111, N_111, rfl, k_111, rfl⟩ := q_111
        refine a_vret X hr dX0_record_114 ⟨by decide, by decide⟩ ?_
        subst hF
        exact ⟨_, _, rfl, (by (try dsimp only); repeat first | assumption | exact zK.rf | refine zK.zu ?_ (by omega) | refine zK.zu0 ?_ (by decide) | refine zK.zwr ?_ (by omega) | refine zK.zfil ?_ (by omega) | refine zK.zcpy ?_ (by omega) | refine zK.trans ?_ (by assumption) | dsimp only), rfl⟩
      · refine a_aload_n X dX0_record_15 rfl ?_
        refine a_getr X lf0_28 (by assumption) rfl (by omega) dX0_record_16 ?_
        refine a_getr X lf0_77 (by assumption) rfl (by omega) dX0_record_19 ?_
        refine a_iload X dX0_record_22 rfl ?_
        refine a_callSNv X dX0_record_24 miX7_cell lm0_66 (c_cell (by assumption) (by first | decide | assumption)) rfl rfl (Nat.le_of_ble_eq_true rfl) ⟨by decide, by decide, by decide, by decide⟩ ?_
        refine a_istore X dX0_record_27 (by decide) ?_
        refine a_iload X dX0_record_29 rfl ?_
        refine a_iconst (v := -1) X dX0_record_31 (by decide) ?_
        refine a_icmp_ne (tgt := 38) X dX0_record_32 (by decide) (fun h_32 => ?_) (fun h_32 => ?_)
        · refine a_iload X dX0_record_38 rfl ?_
          refine a_iconst (v := 1) X dX0_record_40 (by decide) ?_
          refine a_iload X dX0_record_41 rfl ?_
          refine a_ishl X dX0_record_43 ?_
          refine a_ior X dX0_record_44 ?_
          refine a_istore X dX0_record_45 (by decide) ?_
          refine a_aload_n X dX0_record_47 rfl ?_
          refine a_getr X lf0_19 (by assumption) rfl (by omega) dX0_record_48 ?_
          refine a_iload X dX0_record_51 rfl ?_
          refine a_iconst (v := 5) X dX0_record_53 (by decide) ?_
          refine a_imul X dX0_record_54 ?_
          refine a_iload X dX0_record_55 rfl ?_
          refine a_iadd X dX0_record_57 ?_
          refine a_lload_n X dX0_record_58 rfl ?_
          refine a_callSNx X dX0_record_59 miX7_bigAdd lm0_80 (s_X7_bigAdd (P := P) (by assumption) (by first | decide | assumption) (by omega)) rfl rfl (Nat.le_of_ble_eq_true rfl) ⟨by decide, by decide, by decide, by decide⟩ (fun r_59 S_59 q_59 => ?_)
          obtain ⟨M_59, N_59, rfl, k_59, rfl⟩ := q_59
          refine a_aload_n X dX0_record_62 rfl ?_
          refine a_getr X lf0_28 (by assumption) rfl (by omega) dX0_record_63 ?_
          refine a_getr X lf0_84 (by assumption) rfl (by omega) dX0_record_66 ?_
          refine a_iload X dX0_record_69 rfl ?_
          refine a_callSNv X dX0_record_71 miX7_cell lm0_66 (c_cell (by assumption) (by first | decide | assumption)) rfl rfl (Nat.le_of_ble_eq_true rfl) ⟨by decide, by decide, by decide, by decide⟩ ?_
          refine a_iconst (v := 1) X dX0_record_74 (by decide) ?_
          refine a_icmp_ne (tgt := 88) X dX0_record_75 (by decide) (fun h_75 => ?_) (fun h_75 => ?_)
          · exact Zw.to2 (J_88 _ _ _ _ _ _ (by (try dsimp only); repeat first | assumption | exact zK.rf | refine zK.zu ?_ (by omega) | refine zK.zu0 ?_ (by decide) | refine zK.zwr ?_ (by omega) | refine zK.zfil ?_ (by omega) | refine zK.zcpy ?_ (by omega) | refine zK.trans ?_ (by assumption) | dsimp only) hm_6 (by first | assumption | exact z_lt (by assumption) | exact z_lt2 (by assumption))) rfl rfl rfl
          · refine a_aload_n X dX0_record_78 rfl ?_
            refine a_getr X lf0_22 (by assumption) rfl (by omega) dX0_record_79 ?_
            refine a_iload X dX0_record_82 rfl ?_
            refine a_lload_n X dX0_record_84 rfl ?_
            refine a_callSNx X dX0_record_85 miX7_bigAdd lm0_80 (s_X7_bigAdd (P := P) (by assumption) (by first | decide | assumption) (by omega)) rfl rfl (Nat.le_of_ble_eq_true rfl) ⟨by decide, by decide, by decide, by decide⟩ (fun r_85 S_85 q_85 => ?_)
            obtain ⟨M_85, N_85, rfl, k_85, rfl⟩ := q_85
            exact Zw.to2 (J_88 _ _ _ _ _ _ (by (try dsimp only); repeat first | assumption | exact zK.rf | refine zK.zu ?_ (by omega) | refine zK.zu0 ?_ (by decide) | refine zK.zwr ?_ (by omega) | refine zK.zfil ?_ (by omega) | refine zK.zcpy ?_ (by omega) | refine zK.trans ?_ (by assumption) | dsimp only) hm_6 (by first | assumption | exact z_lt (by assumption) | exact z_lt2 (by assumption))) rfl rfl rfl
        · refine a_goto (tgt := 88) X dX0_record_35 (by decide) ?_
          exact Zw.to2 (J_88 _ _ _ _ _ _ (by (try dsimp only); repeat first | assumption | exact zK.rf | refine zK.zu ?_ (by omega) | refine zK.zu0 ?_ (by decide) | refine zK.zwr ?_ (by omega) | refine zK.zfil ?_ (by omega) | refine zK.zcpy ?_ (by omega) | refine zK.trans ?_ (by assumption) | dsimp only) hm_6 (by first | assumption | exact z_lt (by assumption) | exact z_lt2 (by assumption))) rfl rfl rfl
  have H_6 : ∀ (x2_6 : Int64) (x4_6 : Int32) (x5_6 : Int32) (x6_6 : Option Value) (M2 : Nat → Nat → Int32) (N2 : Nat → Nat → Int64), zK P S.2.1 M2 → Zw p l e { frames := 1, cells := 0, slots := 0, locals := 80 * 1 } s m args below meth c G b 7 (MQ below (zQ G b FQ) args s 0 0 (fun q : Nat => b ≤ q)) 0 0 6 [some (.ref (Q)), some (.ref (A)), some (.long x2_6), none, some (.int x4_6), some (.int x5_6), x6_6] [] (S.1, M2, N2) := fun x2_6 x4_6 x5_6 x6_6 M2 N2 k  => L_6 _ x2_6 x4_6 x5_6 x6_6 M2 N2 k  (Nat.lt_succ_self _)
  refine a_iconst (v := 0) X dX0_record_0 (by decide) ?_
  refine a_istore X dX0_record_1 (by decide) ?_
  refine a_iconst (v := 0) X dX0_record_3 (by decide) ?_
  refine a_istore X dX0_record_4 (by decide) ?_
  exact Zw.to2 (H_6 _ _ _ _ _ _ (by (try dsimp only); repeat first | assumption | exact zK.rf | refine zK.zu ?_ (by omega) | refine zK.zu0 ?_ (by decide) | refine zK.zwr ?_ (by omega) | refine zK.zfil ?_ (by omega) | refine zK.zcpy ?_ (by omega) | refine zK.trans ?_ (by assumption) | dsimp only) ) rfl rfl rfl
set_option maxRecDepth 100000 in
theorem s_X0_allOf {l : Launch} {G : zG} {b : Nat} {S : zS} {P : Nat} {Q : Nat} {v0 : Int32} (hQ : LX0 S.1 Q) (rQ : P < Q ∧ Q + 13 ≤ P + 200) : zM l G b yX0_allOf cX0_allOf 5 (some .long) 1 0 0 [.ref Q, .int v0] S (fun r z => z = S ∧ ∃ v : Int64, r = some (.long v)) := by
  refine zM.of miX0_allOf (Nat.le_of_ble_eq_true rfl) ?_
  intro p e s m args below meth c X hr hname
  generalize hF : ((fun r z => z = S ∧ ∃ v : Int64, r = some (.long v)) : Option Value → zS → Prop) = FQ
  change Zw p l e { frames := 1, cells := 0, slots := 0, locals := 80 * 1 } s m args below meth c G b 5 (MQ below (zQ G b FQ) args s 0 0 (fun q : Nat => b ≤ q)) 0 0 0 [some (.ref Q), some (.int v0), none, none, none] [] S
  obtain ⟨q_lt, q_o, q_sets, q_seen, q_atUnit, q_early, q_result⟩ := id hQ
  obtain ⟨q_result_lt, q_result_o, q_result_line, q_result_unitOf, q_result_roundOf, q_result_leftTags, q_result_leftGuests, q_result_leftPreferred, q_result_ranked⟩ := id q_result
  have L_5 : ∀ u : Nat, ∀ (x1_5 : Int32) (x2_5 : Int64) (x4_5 : Int32), (2147483648 - x4_5.toInt).toNat < u → Zw p l e { frames := 1, cells := 0, slots := 0, locals := 80 * 1 } s m args below meth c G b 5 (MQ below (zQ G b FQ) args s 0 0 (fun q : Nat => b ≤ q)) 0 0 5 [some (.ref (Q)), some (.int x1_5), some (.long x2_5), none, some (.int x4_5)] [] S := by
    intro u
    induction u with
    | zero => intro x1_5 x2_5 x4_5 hm_5; exact absurd hm_5 (Nat.not_lt_zero _)
    | succ u_5 ih_5 =>
      intro x1_5 x2_5 x4_5 hm_5
      have J_33 : ∀ (x1_33 : Int32) (x2_33 : Int64) (x4_33 : Int32), ((2147483648 - x4_33.toInt).toNat < u_5 + 1) → (x4_33.toInt < 2147483647) → Zw p l e { frames := 1, cells := 0, slots := 0, locals := 80 * 1 } s m args below meth c G b 5 (MQ below (zQ G b FQ) args s 0 0 (fun q : Nat => b ≤ q)) 0 0 33 [some (.ref (Q)), some (.int x1_33), some (.long x2_33), none, some (.int x4_33)] [] S := by
        intro x1_33 x2_33 x4_33 f0_33 f1_33
        refine a_iinc X dX0_allOf_33 (by decide) rfl rfl ?_
        refine a_goto (tgt := 5) X dX0_allOf_36 (by decide) ?_
        exact Zw.to2 (ih_5 _ _ _  (z_up f1_33 f0_33)) rfl rfl rfl
      refine a_iload X dX0_allOf_5 rfl ?_
      refine a_sipush (v := 128) X dX0_allOf_7 (by decide) ?_
      refine a_icmp_ge (tgt := 39) X dX0_allOf_10 (by decide) (fun h_10 => ?_) (fun h_10 => ?_)
      · refine a_lload_n X dX0_allOf_39 rfl ?_
        refine a_lret X hr dX0_allOf_40 ⟨by decide, by decide⟩ ?_
        subst hF
        exact ⟨rfl, ⟨_, rfl⟩⟩
      · refine a_iload X dX0_allOf_13 rfl ?_
        refine a_iload_n X dX0_allOf_15 rfl ?_
        refine a_iand X dX0_allOf_16 ?_
        refine a_iload_n X dX0_allOf_17 rfl ?_
        refine a_icmp_ne (tgt := 33) X dX0_allOf_18 (by decide) (fun h_18 => ?_) (fun h_18 => ?_)
        · exact Zw.to2 (J_33 _ _ _ hm_5 (by first | assumption | exact z_lt (by assumption) | exact z_lt2 (by assumption))) rfl rfl rfl
        · refine a_lload_n X dX0_allOf_21 rfl ?_
          refine a_aload_n X dX0_allOf_22 rfl ?_
          refine a_getr X lf0_9 (by assumption) rfl (by omega) dX0_allOf_23 ?_
          refine a_iload X dX0_allOf_26 rfl ?_
          refine a_callSNv X dX0_allOf_28 miX7_bigCell lm0_87 (c_bigCell (by assumption) (by first | decide | assumption)) rfl rfl (Nat.le_of_ble_eq_true rfl) ⟨by decide, by decide, by decide, by decide⟩ ?_
          refine a_ladd X dX0_allOf_31 ?_
          refine a_lstore_n X dX0_allOf_32 (by decide) ?_
          exact Zw.to2 (J_33 _ _ _ hm_5 (by first | assumption | exact z_lt (by assumption) | exact z_lt2 (by assumption))) rfl rfl rfl
  have H_5 : ∀ (x1_5 : Int32) (x2_5 : Int64) (x4_5 : Int32), Zw p l e { frames := 1, cells := 0, slots := 0, locals := 80 * 1 } s m args below meth c G b 5 (MQ below (zQ G b FQ) args s 0 0 (fun q : Nat => b ≤ q)) 0 0 5 [some (.ref (Q)), some (.int x1_5), some (.long x2_5), none, some (.int x4_5)] [] S := fun x1_5 x2_5 x4_5  => L_5 _ x1_5 x2_5 x4_5  (Nat.lt_succ_self _)
  refine a_lconst (v := 0) X dX0_allOf_0 (by decide) ?_
  refine a_lstore_n X dX0_allOf_1 (by decide) ?_
  refine a_iconst (v := 0) X dX0_allOf_2 (by decide) ?_
  refine a_istore X dX0_allOf_3 (by decide) ?_
  exact Zw.to2 (H_5 _ _ _ ) rfl rfl rfl
set_option maxRecDepth 100000 in
theorem s_X0_always {l : Launch} {G : zG} {b : Nat} {S : zS} {P : Nat} {Q : Nat} (hQ : LX0 S.1 Q) (rQ : P < Q ∧ Q + 13 ≤ P + 200) : zM l G b yX0_always cX0_always 3 (some .int) 1 0 0 [.ref Q] S (fun r z => z = S ∧ ∃ v : Int32, r = some (.int v)) := by
  refine zM.of miX0_always (Nat.le_of_ble_eq_true rfl) ?_
  intro p e s m args below meth c X hr hname
  generalize hF : ((fun r z => z = S ∧ ∃ v : Int32, r = some (.int v)) : Option Value → zS → Prop) = FQ
  change Zw p l e { frames := 1, cells := 0, slots := 0, locals := 80 * 1 } s m args below meth c G b 3 (MQ below (zQ G b FQ) args s 0 0 (fun q : Nat => b ≤ q)) 0 0 0 [some (.ref Q), none, none] [] S
  obtain ⟨q_lt, q_o, q_sets, q_seen, q_atUnit, q_early, q_result⟩ := id hQ
  obtain ⟨q_result_lt, q_result_o, q_result_line, q_result_unitOf, q_result_roundOf, q_result_leftTags, q_result_leftGuests, q_result_leftPreferred, q_result_ranked⟩ := id q_result
  have L_5 : ∀ u : Nat, ∀ (x1_5 : Int32) (x2_5 : Int32), (2147483648 - x2_5.toInt).toNat < u → Zw p l e { frames := 1, cells := 0, slots := 0, locals := 80 * 1 } s m args below meth c G b 3 (MQ below (zQ G b FQ) args s 0 0 (fun q : Nat => b ≤ q)) 0 0 5 [some (.ref (Q)), some (.int x1_5), some (.int x2_5)] [] S := by
    intro u
    induction u with
    | zero => intro x1_5 x2_5 hm_5; exact absurd hm_5 (Nat.not_lt_zero _)
    | succ u_5 ih_5 =>
      intro x1_5 x2_5 hm_5
      have J_28 : ∀ (x1_28 : Int32) (x2_28 : Int32), ((2147483648 - x2_28.toInt).toNat < u_5 + 1) → (x2_28.toInt < 2147483647) → Zw p l e { frames := 1, cells := 0, slots := 0, locals := 80 * 1 } s m args below meth c G b 3 (MQ below (zQ G b FQ) args s 0 0 (fun q : Nat => b ≤ q)) 0 0 28 [some (.ref (Q)), some (.int x1_28), some (.int x2_28)] [] S := by
        intro x1_28 x2_28 f0_28 f1_28
        refine a_iinc X dX0_always_28 (by decide) rfl rfl ?_
        refine a_goto (tgt := 5) X dX0_always_31 (by decide) ?_
        exact Zw.to2 (ih_5 _ _  (z_up f1_28 f0_28)) rfl rfl rfl
      refine a_iload_n X dX0_always_5 rfl ?_
      refine a_sipush (v := 128) X dX0_always_6 (by decide) ?_
      refine a_icmp_ge (tgt := 34) X dX0_always_9 (by decide) (fun h_9 => ?_) (fun h_9 => ?_)
      · refine a_iload_n X dX0_always_34 rfl ?_
        refine a_iret X hr dX0_always_35 ⟨by decide, by decide⟩ ?_
        subst hF
        exact ⟨rfl, ⟨_, rfl⟩⟩
      · refine a_aload_n X dX0_always_12 rfl ?_
        refine a_getr X lf0_15 (by assumption) rfl (by omega) dX0_always_13 ?_
        refine a_iload_n X dX0_always_16 rfl ?_
        refine a_callSNv X dX0_always_17 miX7_cell lm0_66 (c_cell (by assumption) (by first | decide | assumption)) rfl rfl (Nat.le_of_ble_eq_true rfl) ⟨by decide, by decide, by decide, by decide⟩ ?_
        refine a_iconst (v := 1) X dX0_always_20 (by decide) ?_
        refine a_icmp_ne (tgt := 28) X dX0_always_21 (by decide) (fun h_21 => ?_) (fun h_21 => ?_)
        · exact Zw.to2 (J_28 _ _ hm_5 (by first | assumption | exact z_lt (by assumption) | exact z_lt2 (by assumption))) rfl rfl rfl
        · refine a_iload_n X dX0_always_24 rfl ?_
          refine a_iload_n X dX0_always_25 rfl ?_
          refine a_iand X dX0_always_26 ?_
          refine a_istore_n X dX0_always_27 (by decide) ?_
          exact Zw.to2 (J_28 _ _ hm_5 (by first | assumption | exact z_lt (by assumption) | exact z_lt2 (by assumption))) rfl rfl rfl
  have H_5 : ∀ (x1_5 : Int32) (x2_5 : Int32), Zw p l e { frames := 1, cells := 0, slots := 0, locals := 80 * 1 } s m args below meth c G b 3 (MQ below (zQ G b FQ) args s 0 0 (fun q : Nat => b ≤ q)) 0 0 5 [some (.ref (Q)), some (.int x1_5), some (.int x2_5)] [] S := fun x1_5 x2_5  => L_5 _ x1_5 x2_5  (Nat.lt_succ_self _)
  refine a_bipush (v := 127) X dX0_always_0 (by decide) ?_
  refine a_istore_n X dX0_always_2 (by decide) ?_
  refine a_iconst (v := 0) X dX0_always_3 (by decide) ?_
  refine a_istore_n X dX0_always_4 (by decide) ?_
  exact Zw.to2 (H_5 _ _ ) rfl rfl rfl
set_option maxRecDepth 100000 in
theorem s_X0_ever {l : Launch} {G : zG} {b : Nat} {S : zS} {P : Nat} {Q : Nat} (hQ : LX0 S.1 Q) (rQ : P < Q ∧ Q + 13 ≤ P + 200) : zM l G b yX0_ever cX0_ever 3 (some .int) 1 0 0 [.ref Q] S (fun r z => z = S ∧ ∃ v : Int32, r = some (.int v)) := by
  refine zM.of miX0_ever (Nat.le_of_ble_eq_true rfl) ?_
  intro p e s m args below meth c X hr hname
  generalize hF : ((fun r z => z = S ∧ ∃ v : Int32, r = some (.int v)) : Option Value → zS → Prop) = FQ
  change Zw p l e { frames := 1, cells := 0, slots := 0, locals := 80 * 1 } s m args below meth c G b 3 (MQ below (zQ G b FQ) args s 0 0 (fun q : Nat => b ≤ q)) 0 0 0 [some (.ref Q), none, none] [] S
  obtain ⟨q_lt, q_o, q_sets, q_seen, q_atUnit, q_early, q_result⟩ := id hQ
  obtain ⟨q_result_lt, q_result_o, q_result_line, q_result_unitOf, q_result_roundOf, q_result_leftTags, q_result_leftGuests, q_result_leftPreferred, q_result_ranked⟩ := id q_result
  have L_4 : ∀ u : Nat, ∀ (x1_4 : Int32) (x2_4 : Int32), (2147483648 - x2_4.toInt).toNat < u → Zw p l e { frames := 1, cells := 0, slots := 0, locals := 80 * 1 } s m args below meth c G b 3 (MQ below (zQ G b FQ) args s 0 0 (fun q : Nat => b ≤ q)) 0 0 4 [some (.ref (Q)), some (.int x1_4), some (.int x2_4)] [] S := by
    intro u
    induction u with
    | zero => intro x1_4 x2_4 hm_4; exact absurd hm_4 (Nat.not_lt_zero _)
    | succ u_4 ih_4 =>
      intro x1_4 x2_4 hm_4
      have J_27 : ∀ (x1_27 : Int32) (x2_27 : Int32), ((2147483648 - x2_27.toInt).toNat < u_4 + 1) → (x2_27.toInt < 2147483647) → Zw p l e { frames := 1, cells := 0, slots := 0, locals := 80 * 1 } s m args below meth c G b 3 (MQ below (zQ G b FQ) args s 0 0 (fun q : Nat => b ≤ q)) 0 0 27 [some (.ref (Q)), some (.int x1_27), some (.int x2_27)] [] S := by
        intro x1_27 x2_27 f0_27 f1_27
        refine a_iinc X dX0_ever_27 (by decide) rfl rfl ?_
        refine a_goto (tgt := 4) X dX0_ever_30 (by decide) ?_
        exact Zw.to2 (ih_4 _ _  (z_up f1_27 f0_27)) rfl rfl rfl
      refine a_iload_n X dX0_ever_4 rfl ?_
      refine a_sipush (v := 128) X dX0_ever_5 (by decide) ?_
      refine a_icmp_ge (tgt := 33) X dX0_ever_8 (by decide) (fun h_8 => ?_) (fun h_8 => ?_)
      · refine a_iload_n X dX0_ever_33 rfl ?_
        refine a_iret X hr dX0_ever_34 ⟨by decide, by decide⟩ ?_
        subst hF
        exact ⟨rfl, ⟨_, rfl⟩⟩
      · refine a_aload_n X dX0_ever_11 rfl ?_
        refine a_getr X lf0_15 (by assumption) rfl (by omega) dX0_ever_12 ?_
        refine a_iload_n X dX0_ever_15 rfl ?_
        refine a_callSNv X dX0_ever_16 miX7_cell lm0_66 (c_cell (by assumption) (by first | decide | assumption)) rfl rfl (Nat.le_of_ble_eq_true rfl) ⟨by decide, by decide, by decide, by decide⟩ ?_
        refine a_iconst (v := 1) X dX0_ever_19 (by decide) ?_
        refine a_icmp_ne (tgt := 27) X dX0_ever_20 (by decide) (fun h_20 => ?_) (fun h_20 => ?_)
        · exact Zw.to2 (J_27 _ _ hm_4 (by first | assumption | exact z_lt (by assumption) | exact z_lt2 (by assumption))) rfl rfl rfl
        · refine a_iload_n X dX0_ever_23 rfl ?_
          refine a_iload_n X dX0_ever_24 rfl ?_
          refine a_ior X dX0_ever_25 ?_
          refine a_istore_n X dX0_ever_26 (by decide) ?_
          exact Zw.to2 (J_27 _ _ hm_4 (by first | assumption | exact z_lt (by assumption) | exact z_lt2 (by assumption))) rfl rfl rfl
  have H_4 : ∀ (x1_4 : Int32) (x2_4 : Int32), Zw p l e { frames := 1, cells := 0, slots := 0, locals := 80 * 1 } s m args below meth c G b 3 (MQ below (zQ G b FQ) args s 0 0 (fun q : Nat => b ≤ q)) 0 0 4 [some (.ref (Q)), some (.int x1_4), some (.int x2_4)] [] S := fun x1_4 x2_4  => L_4 _ x1_4 x2_4  (Nat.lt_succ_self _)
  refine a_iconst (v := 0) X dX0_ever_0 (by decide) ?_
  refine a_istore_n X dX0_ever_1 (by decide) ?_
  refine a_iconst (v := 0) X dX0_ever_2 (by decide) ?_
  refine a_istore_n X dX0_ever_3 (by decide) ?_
  exact Zw.to2 (H_4 _ _ ) rfl rfl rfl
set_option maxRecDepth 100000 in
theorem s_X0_tagsOf {l : Launch} {G : zG} {b : Nat} {S : zS} {P : Nat} {Q : Nat} {v0 : Int32} (hQ : LX2 S.1 Q) (rQ : P < Q ∧ Q + 13 ≤ P + 200) : zM l G b yX0_tagsOf cX0_tagsOf 4 (some .int) 1 0 0 [.ref Q, .int v0] S (fun r z => z = S ∧ ∃ v : Int32, r = some (.int v)) := by
  refine zM.of miX0_tagsOf (Nat.le_of_ble_eq_true rfl) ?_
  intro p e s m args below meth c X hr hname
  generalize hF : ((fun r z => z = S ∧ ∃ v : Int32, r = some (.int v)) : Option Value → zS → Prop) = FQ
  change Zw p l e { frames := 1, cells := 0, slots := 0, locals := 80 * 1 } s m args below meth c G b 4 (MQ below (zQ G b FQ) args s 0 0 (fun q : Nat => b ≤ q)) 0 0 0 [some (.ref Q), some (.int v0), none, none] [] S
  obtain ⟨q_lt, q_o, q_quota, q_preferred, q_forGuests, q_applicantOf, q_size, q_guestCount, q_score, q_tickets, q_bits, q_party, q_wishCount, q_wishes⟩ := id hQ
  have L_4 : ∀ u : Nat, ∀ (x1_4 : Int32) (x2_4 : Int32) (x3_4 : Int32), (2147483648 - x3_4.toInt).toNat < u → Zw p l e { frames := 1, cells := 0, slots := 0, locals := 80 * 1 } s m args below meth c G b 4 (MQ below (zQ G b FQ) args s 0 0 (fun q : Nat => b ≤ q)) 0 0 4 [some (.ref (Q)), some (.int x1_4), some (.int x2_4), some (.int x3_4)] [] S := by
    intro u
    induction u with
    | zero => intro x1_4 x2_4 x3_4 hm_4; exact absurd hm_4 (Nat.not_lt_zero _)
    | succ u_4 ih_4 =>
      intro x1_4 x2_4 x3_4 hm_4
      have J_34 : ∀ (x1_34 : Int32) (x2_34 : Int32) (x3_34 : Int32) (y0_34 : Int32) (y1_34 : Int32), ((2147483648 - x3_34.toInt).toNat < u_4 + 1) → (x3_34.toInt < 2147483647) → Zw p l e { frames := 1, cells := 0, slots := 0, locals := 80 * 1 } s m args below meth c G b 4 (MQ below (zQ G b FQ) args s 0 0 (fun q : Nat => b ≤ q)) 0 0 34 [some (.ref (Q)), some (.int x1_34), some (.int x2_34), some (.int x3_34)] [(.int y1_34), (.int y0_34)] S := by
        intro x1_34 x2_34 x3_34 y0_34 y1_34 f0_34 f1_34
        refine a_iadd X dX0_tagsOf_34 ?_
        refine a_istore_n X dX0_tagsOf_35 (by decide) ?_
        refine a_iinc X dX0_tagsOf_36 (by decide) rfl rfl ?_
        refine a_goto (tgt := 4) X dX0_tagsOf_39 (by decide) ?_
        exact Zw.to2 (ih_4 _ _ _  (z_up f1_34 f0_34)) rfl rfl rfl
      refine a_iload_n X dX0_tagsOf_4 rfl ?_
      refine a_aload_n X dX0_tagsOf_5 rfl ?_
      refine a_geti X lf0_40 (by assumption) rfl dX0_tagsOf_6 ?_
      refine a_icmp_ge (tgt := 42) X dX0_tagsOf_9 (by decide) (fun h_9 => ?_) (fun h_9 => ?_)
      · refine a_iload_n X dX0_tagsOf_42 rfl ?_
        refine a_iret X hr dX0_tagsOf_43 ⟨by decide, by decide⟩ ?_
        subst hF
        exact ⟨rfl, ⟨_, rfl⟩⟩
      · refine a_iload_n X dX0_tagsOf_12 rfl ?_
        refine a_iload_n X dX0_tagsOf_13 rfl ?_
        refine a_iload_n X dX0_tagsOf_14 rfl ?_
        refine a_ishr X dX0_tagsOf_15 ?_
        refine a_iconst (v := 1) X dX0_tagsOf_16 (by decide) ?_
        refine a_iand X dX0_tagsOf_17 ?_
        refine a_iconst (v := 1) X dX0_tagsOf_18 (by decide) ?_
        refine a_icmp_ne (tgt := 33) X dX0_tagsOf_19 (by decide) (fun h_19 => ?_) (fun h_19 => ?_)
        · refine a_iconst (v := 0) X dX0_tagsOf_33 (by decide) ?_
          exact Zw.to2 (J_34 _ _ _ _ _ hm_4 (by first | assumption | exact z_lt (by assumption) | exact z_lt2 (by assumption))) rfl rfl rfl
        · refine a_aload_n X dX0_tagsOf_22 rfl ?_
          refine a_getr X lf0_108 (by assumption) rfl (by omega) dX0_tagsOf_23 ?_
          refine a_iload_n X dX0_tagsOf_26 rfl ?_
          refine a_callSNv X dX0_tagsOf_27 miX7_cell lm0_66 (c_cell (by assumption) (by first | decide | assumption)) rfl rfl (Nat.le_of_ble_eq_true rfl) ⟨by decide, by decide, by decide, by decide⟩ ?_
          refine a_goto (tgt := 34) X dX0_tagsOf_30 (by decide) ?_
          exact Zw.to2 (J_34 _ _ _ _ _ hm_4 (by first | assumption | exact z_lt (by assumption) | exact z_lt2 (by assumption))) rfl rfl rfl
  have H_4 : ∀ (x1_4 : Int32) (x2_4 : Int32) (x3_4 : Int32), Zw p l e { frames := 1, cells := 0, slots := 0, locals := 80 * 1 } s m args below meth c G b 4 (MQ below (zQ G b FQ) args s 0 0 (fun q : Nat => b ≤ q)) 0 0 4 [some (.ref (Q)), some (.int x1_4), some (.int x2_4), some (.int x3_4)] [] S := fun x1_4 x2_4 x3_4  => L_4 _ x1_4 x2_4 x3_4  (Nat.lt_succ_self _)
  refine a_iconst (v := 0) X dX0_tagsOf_0 (by decide) ?_
  refine a_istore_n X dX0_tagsOf_1 (by decide) ?_
  refine a_iconst (v := 0) X dX0_tagsOf_2 (by decide) ?_
  refine a_istore_n X dX0_tagsOf_3 (by decide) ?_
  exact Zw.to2 (H_4 _ _ _ ) rfl rfl rfl
set_option maxRecDepth 100000 in
theorem s_X0_fewestTags {l : Launch} {G : zG} {b : Nat} {S : zS} {P : Nat} {Q : Nat} {A : Nat} (hQ : LX0 S.1 Q) (rQ : P < Q ∧ Q + 13 ≤ P + 200) (hA : LX2 S.1 A) (rA : P < A ∧ A + 13 ≤ P + 200) : zM l G b yX0_fewestTags cX0_fewestTags 4 (some .int) 2 0 0 [.ref Q, .ref A] S (fun r z => z = S ∧ ∃ v : Int32, r = some (.int v)) := by
  refine zM.of miX0_fewestTags (Nat.le_of_ble_eq_true rfl) ?_
  intro p e s m args below meth c X hr hname
  generalize hF : ((fun r z => z = S ∧ ∃ v : Int32, r = some (.int v)) : Option Value → zS → Prop) = FQ
  change Zw p l e { frames := 2, cells := 0, slots := 0, locals := 80 * 2 } s m args below meth c G b 4 (MQ below (zQ G b FQ) args s 0 0 (fun q : Nat => b ≤ q)) 0 0 0 [some (.ref Q), some (.ref A), none, none] [] S
  obtain ⟨q_lt, q_o, q_sets, q_seen, q_atUnit, q_early, q_result⟩ := id hQ
  obtain ⟨q_result_lt, q_result_o, q_result_line, q_result_unitOf, q_result_roundOf, q_result_leftTags, q_result_leftGuests, q_result_leftPreferred, q_result_ranked⟩ := id q_result
  obtain ⟨a_lt, a_o, a_quota, a_preferred, a_forGuests, a_applicantOf, a_size, a_guestCount, a_score, a_tickets, a_bits, a_party, a_wishCount, a_wishes⟩ := id hA
  have L_5 : ∀ u : Nat, ∀ (x2_5 : Int32) (x3_5 : Int32), (2147483648 - x3_5.toInt).toNat < u → Zw p l e { frames := 2, cells := 0, slots := 0, locals := 80 * 2 } s m args below meth c G b 4 (MQ below (zQ G b FQ) args s 0 0 (fun q : Nat => b ≤ q)) 0 0 5 [some (.ref (Q)), some (.ref (A)), some (.int x2_5), some (.int x3_5)] [] S := by
    intro u
    induction u with
    | zero => intro x2_5 x3_5 hm_5; exact absurd hm_5 (Nat.not_lt_zero _)
    | succ u_5 ih_5 =>
      intro x2_5 x3_5 hm_5
      have J_34 : ∀ (x2_34 : Int32) (x3_34 : Int32), ((2147483648 - x3_34.toInt).toNat < u_5 + 1) → (x3_34.toInt < 2147483647) → Zw p l e { frames := 2, cells := 0, slots := 0, locals := 80 * 2 } s m args below meth c G b 4 (MQ below (zQ G b FQ) args s 0 0 (fun q : Nat => b ≤ q)) 0 0 34 [some (.ref (Q)), some (.ref (A)), some (.int x2_34), some (.int x3_34)] [] S := by
        intro x2_34 x3_34 f0_34 f1_34
        refine a_iinc X dX0_fewestTags_34 (by decide) rfl rfl ?_
        refine a_goto (tgt := 5) X dX0_fewestTags_37 (by decide) ?_
        exact Zw.to2 (ih_5 _ _  (z_up f1_34 f0_34)) rfl rfl rfl
      refine a_iload_n X dX0_fewestTags_5 rfl ?_
      refine a_sipush (v := 128) X dX0_fewestTags_6 (by decide) ?_
      refine a_icmp_ge (tgt := 40) X dX0_fewestTags_9 (by decide) (fun h_9 => ?_) (fun h_9 => ?_)
      · refine a_iload_n X dX0_fewestTags_40 rfl ?_
        refine a_iret X hr dX0_fewestTags_41 ⟨by decide, by decide⟩ ?_
        subst hF
        exact ⟨rfl, ⟨_, rfl⟩⟩
      · refine a_aload_n X dX0_fewestTags_12 rfl ?_
        refine a_getr X lf0_15 (by assumption) rfl (by omega) dX0_fewestTags_13 ?_
        refine a_iload_n X dX0_fewestTags_16 rfl ?_
        refine a_callSNv X dX0_fewestTags_17 miX7_cell lm0_66 (c_cell (by assumption) (by first | decide | assumption)) rfl rfl (Nat.le_of_ble_eq_true rfl) ⟨by decide, by decide, by decide, by decide⟩ ?_
        refine a_iconst (v := 1) X dX0_fewestTags_20 (by decide) ?_
        refine a_icmp_ne (tgt := 34) X dX0_fewestTags_21 (by decide) (fun h_21 => ?_) (fun h_21 => ?_)
        · exact Zw.to2 (J_34 _ _ hm_5 (by first | assumption | exact z_lt (by assumption) | exact z_lt2 (by assumption))) rfl rfl rfl
        · refine a_iload_n X dX0_fewestTags_24 rfl ?_
          refine a_aload_n X dX0_fewestTags_25 rfl ?_
          refine a_iload_n X dX0_fewestTags_26 rfl ?_
          refine a_callSx X dX0_fewestTags_27 miX0_tagsOf lm0_95 (s_X0_tagsOf (P := P) (by assumption) (by omega)) rfl rfl (Nat.le_of_ble_eq_true rfl) ⟨by decide, by decide, by decide, by decide⟩ (fun r_27 S_27 q_27 => ?_)
          obtain ⟨rfl, ⟨v_27, rfl⟩⟩ := q_27
          refine a_mmin X lm0_99 zmath2 zmath0 zmathc2 ⟨by decide, Nat.le_of_ble_eq_true rfl, by decide, by decide⟩ dX0_fewestTags_30 ?_
          refine a_istore_n X dX0_fewestTags_33 (by decide) ?_
          exact Zw.to2 (J_34 _ _ hm_5 (by first | assumption | exact z_lt (by assumption) | exact z_lt2 (by assumption))) rfl rfl rfl
  have H_5 : ∀ (x2_5 : Int32) (x3_5 : Int32), Zw p l e { frames := 2, cells := 0, slots := 0, locals := 80 * 2 } s m args below meth c G b 4 (MQ below (zQ G b FQ) args s 0 0 (fun q : Nat => b ≤ q)) 0 0 5 [some (.ref (Q)), some (.ref (A)), some (.int x2_5), some (.int x3_5)] [] S := fun x2_5 x3_5  => L_5 _ x2_5 x3_5  (Nat.lt_succ_self _)
  refine a_bipush (v := 10) X dX0_fewestTags_0 (by decide) ?_
  refine a_istore_n X dX0_fewestTags_2 (by decide) ?_
  refine a_iconst (v := 0) X dX0_fewestTags_3 (by decide) ?_
  refine a_istore_n X dX0_fewestTags_4 (by decide) ?_
  exact Zw.to2 (H_5 _ _ ) rfl rfl rfl
set_option maxRecDepth 100000 in
theorem s_X0_mostTags {l : Launch} {G : zG} {b : Nat} {S : zS} {P : Nat} {Q : Nat} {A : Nat} (hQ : LX0 S.1 Q) (rQ : P < Q ∧ Q + 13 ≤ P + 200) (hA : LX2 S.1 A) (rA : P < A ∧ A + 13 ≤ P + 200) : zM l G b yX0_mostTags cX0_mostTags 4 (some .int) 2 0 0 [.ref Q, .ref A] S (fun r z => z = S ∧ ∃ v : Int32, r = some (.int v)) := by
  refine zM.of miX0_mostTags (Nat.le_of_ble_eq_true rfl) ?_
  intro p e s m args below meth c X hr hname
  generalize hF : ((fun r z => z = S ∧ ∃ v : Int32, r = some (.int v)) : Option Value → zS → Prop) = FQ
  change Zw p l e { frames := 2, cells := 0, slots := 0, locals := 80 * 2 } s m args below meth c G b 4 (MQ below (zQ G b FQ) args s 0 0 (fun q : Nat => b ≤ q)) 0 0 0 [some (.ref Q), some (.ref A), none, none] [] S
  obtain ⟨q_lt, q_o, q_sets, q_seen, q_atUnit, q_early, q_result⟩ := id hQ
  obtain ⟨q_result_lt, q_result_o, q_result_line, q_result_unitOf, q_result_roundOf, q_result_leftTags, q_result_leftGuests, q_result_leftPreferred, q_result_ranked⟩ := id q_result
  obtain ⟨a_lt, a_o, a_quota, a_preferred, a_forGuests, a_applicantOf, a_size, a_guestCount, a_score, a_tickets, a_bits, a_party, a_wishCount, a_wishes⟩ := id hA
  have L_4 : ∀ u : Nat, ∀ (x2_4 : Int32) (x3_4 : Int32), (2147483648 - x3_4.toInt).toNat < u → Zw p l e { frames := 2, cells := 0, slots := 0, locals := 80 * 2 } s m args below meth c G b 4 (MQ below (zQ G b FQ) args s 0 0 (fun q : Nat => b ≤ q)) 0 0 4 [some (.ref (Q)), some (.ref (A)), some (.int x2_4), some (.int x3_4)] [] S := by
    intro u
    induction u with
    | zero => intro x2_4 x3_4 hm_4; exact absurd hm_4 (Nat.not_lt_zero _)
    | succ u_4 ih_4 =>
      intro x2_4 x3_4 hm_4
      have J_33 : ∀ (x2_33 : Int32) (x3_33 : Int32), ((2147483648 - x3_33.toInt).toNat < u_4 + 1) → (x3_33.toInt < 2147483647) → Zw p l e { frames := 2, cells := 0, slots := 0, locals := 80 * 2 } s m args below meth c G b 4 (MQ below (zQ G b FQ) args s 0 0 (fun q : Nat => b ≤ q)) 0 0 33 [some (.ref (Q)), some (.ref (A)), some (.int x2_33), some (.int x3_33)] [] S := by
        intro x2_33 x3_33 f0_33 f1_33
        refine a_iinc X dX0_mostTags_33 (by decide) rfl rfl ?_
        refine a_goto (tgt := 4) X dX0_mostTags_36 (by decide) ?_
        exact Zw.to2 (ih_4 _ _  (z_up f1_33 f0_33)) rfl rfl rfl
      refine a_iload_n X dX0_mostTags_4 rfl ?_
      refine a_sipush (v := 128) X dX0_mostTags_5 (by decide) ?_
      refine a_icmp_ge (tgt := 39) X dX0_mostTags_8 (by decide) (fun h_8 => ?_) (fun h_8 => ?_)
      · refine a_iload_n X dX0_mostTags_39 rfl ?_
        refine a_iret X hr dX0_mostTags_40 ⟨by decide, by decide⟩ ?_
        subst hF
        exact ⟨rfl, ⟨_, rfl⟩⟩
      · refine a_aload_n X dX0_mostTags_11 rfl ?_
        refine a_getr X lf0_15 (by assumption) rfl (by omega) dX0_mostTags_12 ?_
        refine a_iload_n X dX0_mostTags_15 rfl ?_
        refine a_callSNv X dX0_mostTags_16 miX7_cell lm0_66 (c_cell (by assumption) (by first | decide | assumption)) rfl rfl (Nat.le_of_ble_eq_true rfl) ⟨by decide, by decide, by decide, by decide⟩ ?_
        refine a_iconst (v := 1) X dX0_mostTags_19 (by decide) ?_
        refine a_icmp_ne (tgt := 33) X dX0_mostTags_20 (by decide) (fun h_20 => ?_) (fun h_20 => ?_)
        · exact Zw.to2 (J_33 _ _ hm_4 (by first | assumption | exact z_lt (by assumption) | exact z_lt2 (by assumption))) rfl rfl rfl
        · refine a_iload_n X dX0_mostTags_23 rfl ?_
          refine a_aload_n X dX0_mostTags_24 rfl ?_
          refine a_iload_n X dX0_mostTags_25 rfl ?_
          refine a_callSx X dX0_mostTags_26 miX0_tagsOf lm0_95 (s_X0_tagsOf (P := P) (by assumption) (by omega)) rfl rfl (Nat.le_of_ble_eq_true rfl) ⟨by decide, by decide, by decide, by decide⟩ (fun r_26 S_26 q_26 => ?_)
          obtain ⟨rfl, ⟨v_26, rfl⟩⟩ := q_26
          refine a_mmax X lm0_105 zmath1 zmath0 zmathc1 ⟨by decide, Nat.le_of_ble_eq_true rfl, by decide, by decide⟩ dX0_mostTags_29 ?_
          refine a_istore_n X dX0_mostTags_32 (by decide) ?_
          exact Zw.to2 (J_33 _ _ hm_4 (by first | assumption | exact z_lt (by assumption) | exact z_lt2 (by assumption))) rfl rfl rfl
  have H_4 : ∀ (x2_4 : Int32) (x3_4 : Int32), Zw p l e { frames := 2, cells := 0, slots := 0, locals := 80 * 2 } s m args below meth c G b 4 (MQ below (zQ G b FQ) args s 0 0 (fun q : Nat => b ≤ q)) 0 0 4 [some (.ref (Q)), some (.ref (A)), some (.int x2_4), some (.int x3_4)] [] S := fun x2_4 x3_4  => L_4 _ x2_4 x3_4  (Nat.lt_succ_self _)
  refine a_iconst (v := 0) X dX0_mostTags_0 (by decide) ?_
  refine a_istore_n X dX0_mostTags_1 (by decide) ?_
  refine a_iconst (v := 0) X dX0_mostTags_2 (by decide) ?_
  refine a_istore_n X dX0_mostTags_3 (by decide) ?_
  exact Zw.to2 (H_4 _ _ ) rfl rfl rfl
set_option maxRecDepth 100000 in
theorem s_X0_certainUnit {l : Launch} {G : zG} {b : Nat} {S : zS} {P : Nat} {Q : Nat} {v0 : Int32} {v1 : Int32} (hQ : LX0 S.1 Q) (rQ : P < Q ∧ Q + 13 ≤ P + 200) : zM l G b yX0_certainUnit cX0_certainUnit 3 (some .long) 1 0 0 [.ref Q, .int v0, .int v1] S (fun r z => z = S ∧ ∃ v : Int64, r = some (.long v)) := by
  refine zM.of miX0_certainUnit (Nat.le_of_ble_eq_true rfl) ?_
  intro p e s m args below meth c X hr hname
  generalize hF : ((fun r z => z = S ∧ ∃ v : Int64, r = some (.long v)) : Option Value → zS → Prop) = FQ
  change Zw p l e { frames := 1, cells := 0, slots := 0, locals := 80 * 1 } s m args below meth c G b 3 (MQ below (zQ G b FQ) args s 0 0 (fun q : Nat => b ≤ q)) 0 0 0 [some (.ref Q), some (.int v0), some (.int v1)] [] S
  obtain ⟨q_lt, q_o, q_sets, q_seen, q_atUnit, q_early, q_result⟩ := id hQ
  obtain ⟨q_result_lt, q_result_o, q_result_line, q_result_unitOf, q_result_roundOf, q_result_leftTags, q_result_leftGuests, q_result_leftPreferred, q_result_ranked⟩ := id q_result
  refine a_aload_n X dX0_certainUnit_0 rfl ?_
  refine a_getr X lf0_19 (by assumption) rfl (by omega) dX0_certainUnit_1 ?_
  refine a_iload_n X dX0_certainUnit_4 rfl ?_
  refine a_iconst (v := 5) X dX0_certainUnit_5 (by decide) ?_
  refine a_imul X dX0_certainUnit_6 ?_
  refine a_iload_n X dX0_certainUnit_7 rfl ?_
  refine a_iadd X dX0_certainUnit_8 ?_
  refine a_callSNv X dX0_certainUnit_9 miX7_bigCell lm0_87 (c_bigCell (by assumption) (by first | decide | assumption)) rfl rfl (Nat.le_of_ble_eq_true rfl) ⟨by decide, by decide, by decide, by decide⟩ ?_
  refine a_lret X hr dX0_certainUnit_12 ⟨by decide, by decide⟩ ?_
  subst hF
  exact ⟨rfl, ⟨_, rfl⟩⟩
set_option maxRecDepth 100000 in
theorem s_X0_anyUnit {l : Launch} {G : zG} {b : Nat} {S : zS} {P : Nat} {Q : Nat} {v0 : Int32} (hQ : LX0 S.1 Q) (rQ : P < Q ∧ Q + 13 ≤ P + 200) : zM l G b yX0_anyUnit cX0_anyUnit 2 (some .long) 2 0 0 [.ref Q, .int v0] S (fun r z => z = S ∧ ∃ v : Int64, r = some (.long v)) := by
  refine zM.of miX0_anyUnit (Nat.le_of_ble_eq_true rfl) ?_
  intro p e s m args below meth c X hr hname
  generalize hF : ((fun r z => z = S ∧ ∃ v : Int64, r = some (.long v)) : Option Value → zS → Prop) = FQ
  change Zw p l e { frames := 2, cells := 0, slots := 0, locals := 80 * 2 } s m args below meth c G b 2 (MQ below (zQ G b FQ) args s 0 0 (fun q : Nat => b ≤ q)) 0 0 0 [some (.ref Q), some (.int v0)] [] S
  obtain ⟨q_lt, q_o, q_sets, q_seen, q_atUnit, q_early, q_result⟩ := id hQ
  obtain ⟨q_result_lt, q_result_o, q_result_line, q_result_unitOf, q_result_roundOf, q_result_leftTags, q_result_leftGuests, q_result_leftPreferred, q_result_ranked⟩ := id q_result
  refine a_aload_n X dX0_anyUnit_0 rfl ?_
  refine a_iconst (v := 1) X dX0_anyUnit_1 (by decide) ?_
  refine a_iload_n X dX0_anyUnit_2 rfl ?_
  refine a_ishl X dX0_anyUnit_3 ?_
  refine a_callVx X dX0_anyUnit_4 miX0_allOf lm0_91 (s_X0_allOf (P := P) (by assumption) (by omega)) (by assumption) rfl rfl rfl (Nat.le_of_ble_eq_true rfl) ⟨by decide, by decide, by decide, by decide⟩ (fun r_4 S_4 q_4 => ?_)
  obtain ⟨rfl, ⟨v_4, rfl⟩⟩ := q_4
  refine a_lret X hr dX0_anyUnit_7 ⟨by decide, by decide⟩ ?_
  subst hF
  exact ⟨rfl, ⟨_, rfl⟩⟩
set_option maxRecDepth 100000 in
theorem s_X4_addUnit {l : Launch} {G : zG} {b : Nat} {S : zS} {P : Nat} {Q : Nat} {v0 : Int32} (hQ : LX4 S.1 Q) (rQ : P < Q ∧ Q + 8 ≤ P + 200) : zM l G b yX4_addUnit cX4_addUnit 2 none 1 0 0 [.ref Q, .int v0] S (fun r z => ∃ M' N', z = (S.1, M', N') ∧ zK P S.2.1 M' ∧ r = none) := by
  refine zM.of miX4_addUnit (Nat.le_of_ble_eq_true rfl) ?_
  intro p e s m args below meth c X hr hname
  generalize hF : ((fun r z => ∃ M' N', z = (S.1, M', N') ∧ zK P S.2.1 M' ∧ r = none) : Option Value → zS → Prop) = FQ
  change Zw p l e { frames := 1, cells := 0, slots := 0, locals := 80 * 1 } s m args below meth c G b 2 (MQ below (zQ G b FQ) args s 0 0 (fun q : Nat => b ≤ q)) 0 0 0 [some (.ref Q), some (.int v0)] [] S
  obtain ⟨q_lt, q_o, q_quota, q_score, q_guest, q_party, q_wishCount, q_wishes, q_has⟩ := id hQ
  refine a_aload_n X dX4_addUnit_0 rfl ?_
  refine a_getr X lf4_9 (by assumption) rfl (by omega) dX4_addUnit_1 ?_
  refine a_aload_n X dX4_addUnit_4 rfl ?_
  refine a_geti X lf4_33 (by assumption) rfl dX4_addUnit_5 ?_
  refine a_iload_n X dX4_addUnit_8 rfl ?_
  refine a_callSNx X dX4_addUnit_9 miX7_put lm4_63 (s_X7_put (P := P) (by assumption) (by first | decide | assumption) (by omega)) rfl rfl (Nat.le_of_ble_eq_true rfl) ⟨by decide, by decide, by decide, by decide⟩ (fun r_9 S_9 q_9 => ?_)
  obtain ⟨M_9, N_9, rfl, k_9, rfl⟩ := q_9
  refine a_aload_n X dX4_addUnit_12 rfl ?_
  refine a_dup X dX4_addUnit_13 rfl ?_
  refine a_geti X lf4_33 (by assumption) rfl dX4_addUnit_14 ?_
  refine a_iconst (v := 1) X dX4_addUnit_17 (by decide) ?_
  refine a_iadd X dX4_addUnit_18 ?_
  refine a_puti X lf4_33 (by assumption) rfl dX4_addUnit_19 ?_
  refine a_vret X hr dX4_addUnit_22 ⟨by decide, by decide⟩ ?_
  subst hF
  exact ⟨_, _, rfl, (by (try dsimp only); repeat first | assumption | exact zK.rf | refine zK.zu ?_ (by omega) | refine zK.zu0 ?_ (by decide) | refine zK.zwr ?_ (by omega) | refine zK.zfil ?_ (by omega) | refine zK.zcpy ?_ (by omega) | refine zK.trans ?_ (by assumption) | dsimp only), rfl⟩
set_option maxRecDepth 100000 in
theorem s_X4_addHunter {l : Launch} {G : zG} {b : Nat} {S : zS} {P : Nat} {Q : Nat} {v0 : Int32} {v1 : Int32} (hQ : LX4 S.1 Q) (rQ : P < Q ∧ Q + 8 ≤ P + 200) (bv1 : v1 = 0 ∨ v1 = 1) : zM l G b yX4_addHunter cX4_addHunter 3 none 1 0 0 [.ref Q, .int v0, .int v1] S (fun r z => ∃ M' N', z = (S.1, M', N') ∧ zK P S.2.1 M' ∧ r = none) := by
  refine zM.of miX4_addHunter (Nat.le_of_ble_eq_true rfl) ?_
  intro p e s m args below meth c X hr hname
  generalize hF : ((fun r z => ∃ M' N', z = (S.1, M', N') ∧ zK P S.2.1 M' ∧ r = none) : Option Value → zS → Prop) = FQ
  change Zw p l e { frames := 1, cells := 0, slots := 0, locals := 80 * 1 } s m args below meth c G b 3 (MQ below (zQ G b FQ) args s 0 0 (fun q : Nat => b ≤ q)) 0 0 0 [some (.ref Q), some (.int v0), some (.int v1)] [] S
  obtain ⟨q_lt, q_o, q_quota, q_score, q_guest, q_party, q_wishCount, q_wishes, q_has⟩ := id hQ
  have J_29 : ∀ (x1_29 : Int32) (x2_29 : Int32) (y1_29 : Int32) (y2_29 : Int32) (M2 : Nat → Nat → Int32) (N2 : Nat → Nat → Int64), zK P S.2.1 M2 → (x2_29 = 0 ∨ x2_29 = 1) → (y2_29 = 0 ∨ y2_29 = 1) → Zw p l e { frames := 1, cells := 0, slots := 0, locals := 80 * 1 } s m args below meth c G b 3 (MQ below (zQ G b FQ) args s 0 0 (fun q : Nat => b ≤ q)) 0 0 29 [some (.ref (Q)), some (.int x1_29), some (.int x2_29)] [(.int y2_29), (.int y1_29), (.ref (Q + 3))] (S.1, M2, N2) := by
    intro x1_29 x2_29 y1_29 y2_29 M2_29 N2_29 k_29 f0_29 f1_29
    refine a_callSNx X dX4_addHunter_29 miX7_put lm4_63 (s_X7_put (P := P) (by assumption) (by first | decide | assumption) (by omega)) rfl rfl (Nat.le_of_ble_eq_true rfl) ⟨by decide, by decide, by decide, by decide⟩ (fun r_29 S_29 q_29 => ?_)
    obtain ⟨M_29, N_29, rfl, k_29, rfl⟩ := q_29
    refine a_aload_n X dX4_addHunter_32 rfl ?_
    refine a_dup X dX4_addHunter_33 rfl ?_
    refine a_geti X lf4_37 (by assumption) rfl dX4_addHunter_34 ?_
    refine a_iconst (v := 1) X dX4_addHunter_37 (by decide) ?_
    refine a_iadd X dX4_addHunter_38 ?_
    refine a_puti X lf4_37 (by assumption) rfl dX4_addHunter_39 ?_
    refine a_vret X hr dX4_addHunter_42 ⟨by decide, by decide⟩ ?_
    subst hF
    exact ⟨_, _, rfl, (by (try dsimp only); repeat first | assumption | exact zK.rf | refine zK.zu ?_ (by omega) | refine zK.zu0 ?_ (by decide) | refine zK.zwr ?_ (by omega) | refine zK.zfil ?_ (by omega) | refine zK.zcpy ?_ (by omega) | refine zK.trans ?_ (by assumption) | dsimp only), rfl⟩
  refine a_aload_n X dX4_addHunter_0 rfl ?_
  refine a_getr X lf4_15 (by assumption) rfl (by omega) dX4_addHunter_1 ?_
  refine a_aload_n X dX4_addHunter_4 rfl ?_
  refine a_geti X lf4_37 (by assumption) rfl dX4_addHunter_5 ?_
  refine a_iload_n X dX4_addHunter_8 rfl ?_
  refine a_callSNx X dX4_addHunter_9 miX7_put lm4_63 (s_X7_put (P := P) (by assumption) (by first | decide | assumption) (by omega)) rfl rfl (Nat.le_of_ble_eq_true rfl) ⟨by decide, by decide, by decide, by decide⟩ (fun r_9 S_9 q_9 => ?_)
  obtain ⟨M_9, N_9, rfl, k_9, rfl⟩ := q_9
  refine a_aload_n X dX4_addHunter_12 rfl ?_
  refine a_getr X lf4_18 (by assumption) rfl (by omega) dX4_addHunter_13 ?_
  refine a_aload_n X dX4_addHunter_16 rfl ?_
  refine a_geti X lf4_37 (by assumption) rfl dX4_addHunter_17 ?_
  refine a_iload_n X dX4_addHunter_20 rfl ?_
  refine a_if_eq (tgt := 28) X dX4_addHunter_21 (by decide) (fun h_21 => ?_) (fun h_21 => ?_)
  · refine a_iconst (v := 0) X dX4_addHunter_28 (by decide) ?_
    exact Zw.to2 (J_29 _ _ _ _ _ _ (by (try dsimp only); repeat first | assumption | exact zK.rf | refine zK.zu ?_ (by omega) | refine zK.zu0 ?_ (by decide) | refine zK.zwr ?_ (by omega) | refine zK.zfil ?_ (by omega) | refine zK.zcpy ?_ (by omega) | refine zK.trans ?_ (by assumption) | dsimp only) (by first | exact Or.inl rfl | exact Or.inr rfl | assumption) (by first | exact Or.inl rfl | exact Or.inr rfl | assumption)) rfl rfl rfl
  · refine a_iconst (v := 1) X dX4_addHunter_24 (by decide) ?_
    refine a_goto (tgt := 29) X dX4_addHunter_25 (by decide) ?_
    exact Zw.to2 (J_29 _ _ _ _ _ _ (by (try dsimp only); repeat first | assumption | exact zK.rf | refine zK.zu ?_ (by omega) | refine zK.zu0 ?_ (by decide) | refine zK.zwr ?_ (by omega) | refine zK.zfil ?_ (by omega) | refine zK.zcpy ?_ (by omega) | refine zK.trans ?_ (by assumption) | dsimp only) (by first | exact Or.inl rfl | exact Or.inr rfl | assumption) (by first | exact Or.inl rfl | exact Or.inr rfl | assumption)) rfl rfl rfl
set_option maxRecDepth 100000 in
theorem s_X4_addParty {l : Launch} {G : zG} {b : Nat} {S : zS} {P : Nat} {Q : Nat} {v0 : Int32} (hQ : LX4 S.1 Q) (rQ : P < Q ∧ Q + 8 ≤ P + 200) : zM l G b yX4_addParty cX4_addParty 3 none 1 0 0 [.ref Q, .int v0] S (fun r z => ∃ M' N', z = (S.1, M', N') ∧ zK P S.2.1 M' ∧ r = none) := by
  refine zM.of miX4_addParty (Nat.le_of_ble_eq_true rfl) ?_
  intro p e s m args below meth c X hr hname
  generalize hF : ((fun r z => ∃ M' N', z = (S.1, M', N') ∧ zK P S.2.1 M' ∧ r = none) : Option Value → zS → Prop) = FQ
  change Zw p l e { frames := 1, cells := 0, slots := 0, locals := 80 * 1 } s m args below meth c G b 3 (MQ below (zQ G b FQ) args s 0 0 (fun q : Nat => b ≤ q)) 0 0 0 [some (.ref Q), some (.int v0), none] [] S
  obtain ⟨q_lt, q_o, q_quota, q_score, q_guest, q_party, q_wishCount, q_wishes, q_has⟩ := id hQ
  have L_2 : ∀ u : Nat, ∀ (x1_2 : Int32) (x2_2 : Int32) (M2 : Nat → Nat → Int32) (N2 : Nat → Nat → Int64), zK P S.2.1 M2 → (2147483648 - x2_2.toInt).toNat < u → Zw p l e { frames := 1, cells := 0, slots := 0, locals := 80 * 1 } s m args below meth c G b 3 (MQ below (zQ G b FQ) args s 0 0 (fun q : Nat => b ≤ q)) 0 0 2 [some (.ref (Q)), some (.int x1_2), some (.int x2_2)] [] (S.1, M2, N2) := by
    intro u
    induction u with
    | zero => intro x1_2 x2_2 M2_2 N2_2 k_2 hm_2; exact absurd hm_2 (Nat.not_lt_zero _)
    | succ u_2 ih_2 =>
      intro x1_2 x2_2 M2_2 N2_2 k_2 hm_2
      have J_31 : ∀ (x1_31 : Int32) (x2_31 : Int32) (M2 : Nat → Nat → Int32) (N2 : Nat → Nat → Int64), zK P S.2.1 M2 → ((2147483648 - x2_31.toInt).toNat < u_2 + 1) → (x2_31.toInt < 2147483647) → Zw p l e { frames := 1, cells := 0, slots := 0, locals := 80 * 1 } s m args below meth c G b 3 (MQ below (zQ G b FQ) args s 0 0 (fun q : Nat => b ≤ q)) 0 0 31 [some (.ref (Q)), some (.int x1_31), some (.int x2_31)] [] (S.1, M2, N2) := by
        intro x1_31 x2_31 M2_31 N2_31 k_31 f0_31 f1_31
        refine a_iinc X dX4_addParty_31 (by decide) rfl rfl ?_
        refine a_goto (tgt := 2) X dX4_addParty_34 (by decide) ?_
        exact Zw.to2 (ih_2 _ _ _ _ (by (try dsimp only); repeat first | assumption | exact zK.rf | refine zK.zu ?_ (by omega) | refine zK.zu0 ?_ (by decide) | refine zK.zwr ?_ (by omega) | refine zK.zfil ?_ (by omega) | refine zK.zcpy ?_ (by omega) | refine zK.trans ?_ (by assumption) | dsimp only)  (z_up f1_31 f0_31)) rfl rfl rfl
      refine a_iload_n X dX4_addParty_2 rfl ?_
      refine a_aload_n X dX4_addParty_3 rfl ?_
      refine a_geti X lf4_37 (by assumption) rfl dX4_addParty_4 ?_
      refine a_icmp_ge (tgt := 37) X dX4_addParty_7 (by decide) (fun h_7 => ?_) (fun h_7 => ?_)
      · refine a_aload_n X dX4_addParty_37 rfl ?_
        refine a_dup X dX4_addParty_38 rfl ?_
        refine a_geti X lf4_40 (by assumption) rfl dX4_addParty_39 ?_
        refine a_iconst (v := 1) X dX4_addParty_42 (by decide) ?_
        refine a_iadd X dX4_addParty_43 ?_
        refine a_puti X lf4_40 (by assumption) rfl dX4_addParty_44 ?_
        refine a_vret X hr dX4_addParty_47 ⟨by decide, by decide⟩ ?_
        subst hF
        exact ⟨_, _, rfl, (by (try dsimp only); repeat first | assumption | exact zK.rf | refine zK.zu ?_ (by omega) | refine zK.zu0 ?_ (by decide) | refine zK.zwr ?_ (by omega) | refine zK.zfil ?_ (by omega) | refine zK.zcpy ?_ (by omega) | refine zK.trans ?_ (by assumption) | dsimp only), rfl⟩
      · refine a_iload_n X dX4_addParty_10 rfl ?_
        refine a_iload_n X dX4_addParty_11 rfl ?_
        refine a_ishr X dX4_addParty_12 ?_
        refine a_iconst (v := 1) X dX4_addParty_13 (by decide) ?_
        refine a_iand X dX4_addParty_14 ?_
        refine a_iconst (v := 1) X dX4_addParty_15 (by decide) ?_
        refine a_icmp_ne (tgt := 31) X dX4_addParty_16 (by decide) (fun h_16 => ?_) (fun h_16 => ?_)
        · exact Zw.to2 (J_31 _ _ _ _ (by (try dsimp only); repeat first | assumption | exact zK.rf | refine zK.zu ?_ (by omega) | refine zK.zu0 ?_ (by decide) | refine zK.zwr ?_ (by omega) | refine zK.zfil ?_ (by omega) | refine zK.zcpy ?_ (by omega) | refine zK.trans ?_ (by assumption) | dsimp only) hm_2 (by first | assumption | exact z_lt (by assumption) | exact z_lt2 (by assumption))) rfl rfl rfl
        · refine a_aload_n X dX4_addParty_19 rfl ?_
          refine a_getr X lf4_21 (by assumption) rfl (by omega) dX4_addParty_20 ?_
          refine a_iload_n X dX4_addParty_23 rfl ?_
          refine a_aload_n X dX4_addParty_24 rfl ?_
          refine a_geti X lf4_40 (by assumption) rfl dX4_addParty_25 ?_
          refine a_callSNx X dX4_addParty_28 miX7_put lm4_63 (s_X7_put (P := P) (by assumption) (by first | decide | assumption) (by omega)) rfl rfl (Nat.le_of_ble_eq_true rfl) ⟨by decide, by decide, by decide, by decide⟩ (fun r_28 S_28 q_28 => ?_)
          obtain ⟨M_28, N_28, rfl, k_28, rfl⟩ := q_28
          exact Zw.to2 (J_31 _ _ _ _ (by (try dsimp only); repeat first | assumption | exact zK.rf | refine zK.zu ?_ (by omega) | refine zK.zu0 ?_ (by decide) | refine zK.zwr ?_ (by omega) | refine zK.zfil ?_ (by omega) | refine zK.zcpy ?_ (by omega) | refine zK.trans ?_ (by assumption) | dsimp only) hm_2 (by first | assumption | exact z_lt (by assumption) | exact z_lt2 (by assumption))) rfl rfl rfl
  have H_2 : ∀ (x1_2 : Int32) (x2_2 : Int32) (M2 : Nat → Nat → Int32) (N2 : Nat → Nat → Int64), zK P S.2.1 M2 → Zw p l e { frames := 1, cells := 0, slots := 0, locals := 80 * 1 } s m args below meth c G b 3 (MQ below (zQ G b FQ) args s 0 0 (fun q : Nat => b ≤ q)) 0 0 2 [some (.ref (Q)), some (.int x1_2), some (.int x2_2)] [] (S.1, M2, N2) := fun x1_2 x2_2 M2 N2 k  => L_2 _ x1_2 x2_2 M2 N2 k  (Nat.lt_succ_self _)
  refine a_iconst (v := 0) X dX4_addParty_0 (by decide) ?_
  refine a_istore_n X dX4_addParty_1 (by decide) ?_
  exact Zw.to2 (H_2 _ _ _ _ (by (try dsimp only); repeat first | assumption | exact zK.rf | refine zK.zu ?_ (by omega) | refine zK.zu0 ?_ (by decide) | refine zK.zwr ?_ (by omega) | refine zK.zfil ?_ (by omega) | refine zK.zcpy ?_ (by omega) | refine zK.trans ?_ (by assumption) | dsimp only) ) rfl rfl rfl
set_option maxRecDepth 100000 in
theorem s_X4_wishFor {l : Launch} {G : zG} {b : Nat} {S : zS} {P : Nat} {Q : Nat} {v0 : Int32} {v1 : Int32} {v2 : Int32} {v3 : Int32} (hQ : LX4 S.1 Q) (rQ : P < Q ∧ Q + 8 ≤ P + 200) : zM l G b yX4_wishFor cX4_wishFor 7 none 1 0 0 [.ref Q, .int v0, .int v1, .int v2, .int v3] S (fun r z => ∃ M' N', z = (S.1, M', N') ∧ zK P S.2.1 M' ∧ r = none) := by
  refine zM.of miX4_wishFor (Nat.le_of_ble_eq_true rfl) ?_
  intro p e s m args below meth c X hr hname
  generalize hF : ((fun r z => ∃ M' N', z = (S.1, M', N') ∧ zK P S.2.1 M' ∧ r = none) : Option Value → zS → Prop) = FQ
  change Zw p l e { frames := 1, cells := 0, slots := 0, locals := 80 * 1 } s m args below meth c G b 7 (MQ below (zQ G b FQ) args s 0 0 (fun q : Nat => b ≤ q)) 0 0 0 [some (.ref Q), some (.int v0), some (.int v1), some (.int v2), some (.int v3), none, none] [] S
  obtain ⟨q_lt, q_o, q_quota, q_score, q_guest, q_party, q_wishCount, q_wishes, q_has⟩ := id hQ
  have L_38 : ∀ u : Nat, ∀ (x1_38 : Int32) (x2_38 : Int32) (x3_38 : Int32) (x4_38 : Int32) (x5_38 : Int32) (x6_38 : Int32) (M2 : Nat → Nat → Int32) (N2 : Nat → Nat → Int64), zK P S.2.1 M2 → (2147483648 - x6_38.toInt).toNat < u → Zw p l e { frames := 1, cells := 0, slots := 0, locals := 80 * 1 } s m args below meth c G b 7 (MQ below (zQ G b FQ) args s 0 0 (fun q : Nat => b ≤ q)) 0 0 38 [some (.ref (Q)), some (.int x1_38), some (.int x2_38), some (.int x3_38), some (.int x4_38), some (.int x5_38), some (.int x6_38)] [] (S.1, M2, N2) := by
    intro u
    induction u with
    | zero => intro x1_38 x2_38 x3_38 x4_38 x5_38 x6_38 M2_38 N2_38 k_38 hm_38; exact absurd hm_38 (Nat.not_lt_zero _)
    | succ u_38 ih_38 =>
      intro x1_38 x2_38 x3_38 x4_38 x5_38 x6_38 M2_38 N2_38 k_38 hm_38
      have J_109 : ∀ (x1_109 : Int32) (x2_109 : Int32) (x3_109 : Int32) (x4_109 : Int32) (x5_109 : Int32) (x6_109 : Int32) (M2 : Nat → Nat → Int32) (N2 : Nat → Nat → Int64), zK P S.2.1 M2 → ((2147483648 - x6_109.toInt).toNat < u_38 + 1) → (x6_109.toInt < 2147483647) → Zw p l e { frames := 1, cells := 0, slots := 0, locals := 80 * 1 } s m args below meth c G b 7 (MQ below (zQ G b FQ) args s 0 0 (fun q : Nat => b ≤ q)) 0 0 109 [some (.ref (Q)), some (.int x1_109), some (.int x2_109), some (.int x3_109), some (.int x4_109), some (.int x5_109), some (.int x6_109)] [] (S.1, M2, N2) := by
        intro x1_109 x2_109 x3_109 x4_109 x5_109 x6_109 M2_109 N2_109 k_109 f0_109 f1_109
        refine a_iinc X dX4_wishFor_109 (by decide) rfl rfl ?_
        refine a_goto (tgt := 38) X dX4_wishFor_112 (by decide) ?_
        exact Zw.to2 (ih_38 _ _ _ _ _ _ _ _ (by (try dsimp only); repeat first | assumption | exact zK.rf | refine zK.zu ?_ (by omega) | refine zK.zu0 ?_ (by decide) | refine zK.zwr ?_ (by omega) | refine zK.zfil ?_ (by omega) | refine zK.zcpy ?_ (by omega) | refine zK.trans ?_ (by assumption) | dsimp only)  (z_up f1_109 f0_109)) rfl rfl rfl
      refine a_iload X dX4_wishFor_38 rfl ?_
      refine a_aload_n X dX4_wishFor_40 rfl ?_
      refine a_geti X lf4_37 (by assumption) rfl dX4_wishFor_41 ?_
      refine a_icmp_ge (tgt := 115) X dX4_wishFor_44 (by decide) (fun h_44 => ?_) (fun h_44 => ?_)
      · refine a_vret X hr dX4_wishFor_115 ⟨by decide, by decide⟩ ?_
        subst hF
        exact ⟨_, _, rfl, (by (try dsimp only); repeat first | assumption | exact zK.rf | refine zK.zu ?_ (by omega) | refine zK.zu0 ?_ (by decide) | refine zK.zwr ?_ (by omega) | refine zK.zfil ?_ (by omega) | refine zK.zcpy ?_ (by omega) | refine zK.trans ?_ (by assumption) | dsimp only), rfl⟩
      · refine a_iload_n X dX4_wishFor_47 rfl ?_
        refine a_iload X dX4_wishFor_48 rfl ?_
        refine a_ishr X dX4_wishFor_50 ?_
        refine a_iconst (v := 1) X dX4_wishFor_51 (by decide) ?_
        refine a_iand X dX4_wishFor_52 ?_
        refine a_iconst (v := 1) X dX4_wishFor_53 (by decide) ?_
        refine a_icmp_ne (tgt := 109) X dX4_wishFor_54 (by decide) (fun h_54 => ?_) (fun h_54 => ?_)
        · exact Zw.to2 (J_109 _ _ _ _ _ _ _ _ (by (try dsimp only); repeat first | assumption | exact zK.rf | refine zK.zu ?_ (by omega) | refine zK.zu0 ?_ (by decide) | refine zK.zwr ?_ (by omega) | refine zK.zfil ?_ (by omega) | refine zK.zcpy ?_ (by omega) | refine zK.trans ?_ (by assumption) | dsimp only) hm_38 (by first | assumption | exact z_lt (by assumption) | exact z_lt2 (by assumption))) rfl rfl rfl
        · refine a_aload_n X dX4_wishFor_57 rfl ?_
          refine a_getr X lf4_24 (by assumption) rfl (by omega) dX4_wishFor_58 ?_
          refine a_iload X dX4_wishFor_61 rfl ?_
          refine a_iload X dX4_wishFor_63 rfl ?_
          refine a_callSNx X dX4_wishFor_65 miX7_put lm4_63 (s_X7_put (P := P) (by assumption) (by first | decide | assumption) (by omega)) rfl rfl (Nat.le_of_ble_eq_true rfl) ⟨by decide, by decide, by decide, by decide⟩ (fun r_65 S_65 q_65 => ?_)
          obtain ⟨M_65, N_65, rfl, k_65, rfl⟩ := q_65
          refine a_aload_n X dX4_wishFor_68 rfl ?_
          refine a_getr X lf4_27 (by assumption) rfl (by omega) dX4_wishFor_69 ?_
          refine a_iload X dX4_wishFor_72 rfl ?_
          refine a_iconst (v := 3) X dX4_wishFor_74 (by decide) ?_
          refine a_imul X dX4_wishFor_75 ?_
          refine a_iload_n X dX4_wishFor_76 rfl ?_
          refine a_callSNx X dX4_wishFor_77 miX7_put lm4_63 (s_X7_put (P := P) (by assumption) (by first | decide | assumption) (by omega)) rfl rfl (Nat.le_of_ble_eq_true rfl) ⟨by decide, by decide, by decide, by decide⟩ (fun r_77 S_77 q_77 => ?_)
          obtain ⟨M_77, N_77, rfl, k_77, rfl⟩ := q_77
          refine a_aload_n X dX4_wishFor_80 rfl ?_
          refine a_getr X lf4_27 (by assumption) rfl (by omega) dX4_wishFor_81 ?_
          refine a_iload X dX4_wishFor_84 rfl ?_
          refine a_iconst (v := 3) X dX4_wishFor_86 (by decide) ?_
          refine a_imul X dX4_wishFor_87 ?_
          refine a_iconst (v := 1) X dX4_wishFor_88 (by decide) ?_
          refine a_iadd X dX4_wishFor_89 ?_
          refine a_iload_n X dX4_wishFor_90 rfl ?_
          refine a_callSNx X dX4_wishFor_91 miX7_put lm4_63 (s_X7_put (P := P) (by assumption) (by first | decide | assumption) (by omega)) rfl rfl (Nat.le_of_ble_eq_true rfl) ⟨by decide, by decide, by decide, by decide⟩ (fun r_91 S_91 q_91 => ?_)
          obtain ⟨M_91, N_91, rfl, k_91, rfl⟩ := q_91
          refine a_aload_n X dX4_wishFor_94 rfl ?_
          refine a_getr X lf4_27 (by assumption) rfl (by omega) dX4_wishFor_95 ?_
          refine a_iload X dX4_wishFor_98 rfl ?_
          refine a_iconst (v := 3) X dX4_wishFor_100 (by decide) ?_
          refine a_imul X dX4_wishFor_101 ?_
          refine a_iconst (v := 2) X dX4_wishFor_102 (by decide) ?_
          refine a_iadd X dX4_wishFor_103 ?_
          refine a_iload X dX4_wishFor_104 rfl ?_
          refine a_callSNx X dX4_wishFor_106 miX7_put lm4_63 (s_X7_put (P := P) (by assumption) (by first | decide | assumption) (by omega)) rfl rfl (Nat.le_of_ble_eq_true rfl) ⟨by decide, by decide, by decide, by decide⟩ (fun r_106 S_106 q_106 => ?_)
          obtain ⟨M_106, N_106, rfl, k_106, rfl⟩ := q_106
          exact Zw.to2 (J_109 _ _ _ _ _ _ _ _ (by (try dsimp only); repeat first | assumption | exact zK.rf | refine zK.zu ?_ (by omega) | refine zK.zu0 ?_ (by decide) | refine zK.zwr ?_ (by omega) | refine zK.zfil ?_ (by omega) | refine zK.zcpy ?_ (by omega) | refine zK.trans ?_ (by assumption) | dsimp only) hm_38 (by first | assumption | exact z_lt (by assumption) | exact z_lt2 (by assumption))) rfl rfl rfl
  have H_38 : ∀ (x1_38 : Int32) (x2_38 : Int32) (x3_38 : Int32) (x4_38 : Int32) (x5_38 : Int32) (x6_38 : Int32) (M2 : Nat → Nat → Int32) (N2 : Nat → Nat → Int64), zK P S.2.1 M2 → Zw p l e { frames := 1, cells := 0, slots := 0, locals := 80 * 1 } s m args below meth c G b 7 (MQ below (zQ G b FQ) args s 0 0 (fun q : Nat => b ≤ q)) 0 0 38 [some (.ref (Q)), some (.int x1_38), some (.int x2_38), some (.int x3_38), some (.int x4_38), some (.int x5_38), some (.int x6_38)] [] (S.1, M2, N2) := fun x1_38 x2_38 x3_38 x4_38 x5_38 x6_38 M2 N2 k  => L_38 _ x1_38 x2_38 x3_38 x4_38 x5_38 x6_38 M2 N2 k  (Nat.lt_succ_self _)
  have J_32 : ∀ (x1_32 : Int32) (x2_32 : Int32) (x3_32 : Int32) (x4_32 : Int32) (x5_32 : Option Value) (x6_32 : Option Value) (y0_32 : Int32) (y1_32 : Int32) (M2 : Nat → Nat → Int32) (N2 : Nat → Nat → Int64), zK P S.2.1 M2 → (y1_32 = 0 ∨ y1_32 = 1) → Zw p l e { frames := 1, cells := 0, slots := 0, locals := 80 * 1 } s m args below meth c G b 7 (MQ below (zQ G b FQ) args s 0 0 (fun q : Nat => b ≤ q)) 0 0 32 [some (.ref (Q)), some (.int x1_32), some (.int x2_32), some (.int x3_32), some (.int x4_32), x5_32, x6_32] [(.int y1_32), (.int y0_32)] (S.1, M2, N2) := by
    intro x1_32 x2_32 x3_32 x4_32 x5_32 x6_32 y0_32 y1_32 M2_32 N2_32 k_32 f0_32
    refine a_iadd X dX4_wishFor_32 ?_
    refine a_istore X dX4_wishFor_33 (by decide) ?_
    refine a_iconst (v := 0) X dX4_wishFor_35 (by decide) ?_
    refine a_istore X dX4_wishFor_36 (by decide) ?_
    exact Zw.to2 (H_38 _ _ _ _ _ _ _ _ (by (try dsimp only); repeat first | assumption | exact zK.rf | refine zK.zu ?_ (by omega) | refine zK.zu0 ?_ (by decide) | refine zK.zwr ?_ (by omega) | refine zK.zfil ?_ (by omega) | refine zK.zcpy ?_ (by omega) | refine zK.trans ?_ (by assumption) | dsimp only) ) rfl rfl rfl
  have J_20 : ∀ (x1_20 : Int32) (x2_20 : Int32) (x3_20 : Int32) (x4_20 : Int32) (x5_20 : Option Value) (x6_20 : Option Value) (y0_20 : Int32) (y1_20 : Int32) (M2 : Nat → Nat → Int32) (N2 : Nat → Nat → Int64), zK P S.2.1 M2 → (y0_20 = 0 ∨ y0_20 = 1) → (y1_20 = 0 ∨ y1_20 = 1) → Zw p l e { frames := 1, cells := 0, slots := 0, locals := 80 * 1 } s m args below meth c G b 7 (MQ below (zQ G b FQ) args s 0 0 (fun q : Nat => b ≤ q)) 0 0 20 [some (.ref (Q)), some (.int x1_20), some (.int x2_20), some (.int x3_20), some (.int x4_20), x5_20, x6_20] [(.int y1_20), (.int y0_20)] (S.1, M2, N2) := by
    intro x1_20 x2_20 x3_20 x4_20 x5_20 x6_20 y0_20 y1_20 M2_20 N2_20 k_20 f0_20 f1_20
    refine a_iadd X dX4_wishFor_20 ?_
    refine a_iload X dX4_wishFor_21 rfl ?_
    refine a_iconst (v := -1) X dX4_wishFor_23 (by decide) ?_
    refine a_icmp_ne (tgt := 31) X dX4_wishFor_24 (by decide) (fun h_24 => ?_) (fun h_24 => ?_)
    · refine a_iconst (v := 1) X dX4_wishFor_31 (by decide) ?_
      exact Zw.to2 (J_32 _ _ _ _ _ _ _ _ _ _ (by (try dsimp only); repeat first | assumption | exact zK.rf | refine zK.zu ?_ (by omega) | refine zK.zu0 ?_ (by decide) | refine zK.zwr ?_ (by omega) | refine zK.zfil ?_ (by omega) | refine zK.zcpy ?_ (by omega) | refine zK.trans ?_ (by assumption) | dsimp only) (by first | exact Or.inl rfl | exact Or.inr rfl | assumption)) rfl rfl rfl
    · refine a_iconst (v := 0) X dX4_wishFor_27 (by decide) ?_
      refine a_goto (tgt := 32) X dX4_wishFor_28 (by decide) ?_
      exact Zw.to2 (J_32 _ _ _ _ _ _ _ _ _ _ (by (try dsimp only); repeat first | assumption | exact zK.rf | refine zK.zu ?_ (by omega) | refine zK.zu0 ?_ (by decide) | refine zK.zwr ?_ (by omega) | refine zK.zfil ?_ (by omega) | refine zK.zcpy ?_ (by omega) | refine zK.trans ?_ (by assumption) | dsimp only) (by first | exact Or.inl rfl | exact Or.inr rfl | assumption)) rfl rfl rfl
  have J_10 : ∀ (x1_10 : Int32) (x2_10 : Int32) (x3_10 : Int32) (x4_10 : Int32) (x5_10 : Option Value) (x6_10 : Option Value) (y0_10 : Int32) (M2 : Nat → Nat → Int32) (N2 : Nat → Nat → Int64), zK P S.2.1 M2 → (y0_10 = 0 ∨ y0_10 = 1) → Zw p l e { frames := 1, cells := 0, slots := 0, locals := 80 * 1 } s m args below meth c G b 7 (MQ below (zQ G b FQ) args s 0 0 (fun q : Nat => b ≤ q)) 0 0 10 [some (.ref (Q)), some (.int x1_10), some (.int x2_10), some (.int x3_10), some (.int x4_10), x5_10, x6_10] [(.int y0_10)] (S.1, M2, N2) := by
    intro x1_10 x2_10 x3_10 x4_10 x5_10 x6_10 y0_10 M2_10 N2_10 k_10 f0_10
    refine a_iload_n X dX4_wishFor_10 rfl ?_
    refine a_iconst (v := -1) X dX4_wishFor_11 (by decide) ?_
    refine a_icmp_ne (tgt := 19) X dX4_wishFor_12 (by decide) (fun h_12 => ?_) (fun h_12 => ?_)
    · refine a_iconst (v := 1) X dX4_wishFor_19 (by decide) ?_
      exact Zw.to2 (J_20 _ _ _ _ _ _ _ _ _ _ (by (try dsimp only); repeat first | assumption | exact zK.rf | refine zK.zu ?_ (by omega) | refine zK.zu0 ?_ (by decide) | refine zK.zwr ?_ (by omega) | refine zK.zfil ?_ (by omega) | refine zK.zcpy ?_ (by omega) | refine zK.trans ?_ (by assumption) | dsimp only) (by first | exact Or.inl rfl | exact Or.inr rfl | assumption) (by first | exact Or.inl rfl | exact Or.inr rfl | assumption)) rfl rfl rfl
    · refine a_iconst (v := 0) X dX4_wishFor_15 (by decide) ?_
      refine a_goto (tgt := 20) X dX4_wishFor_16 (by decide) ?_
      exact Zw.to2 (J_20 _ _ _ _ _ _ _ _ _ _ (by (try dsimp only); repeat first | assumption | exact zK.rf | refine zK.zu ?_ (by omega) | refine zK.zu0 ?_ (by decide) | refine zK.zwr ?_ (by omega) | refine zK.zfil ?_ (by omega) | refine zK.zcpy ?_ (by omega) | refine zK.trans ?_ (by assumption) | dsimp only) (by first | exact Or.inl rfl | exact Or.inr rfl | assumption) (by first | exact Or.inl rfl | exact Or.inr rfl | assumption)) rfl rfl rfl
  refine a_iload_n X dX4_wishFor_0 rfl ?_
  refine a_iconst (v := -1) X dX4_wishFor_1 (by decide) ?_
  refine a_icmp_ne (tgt := 9) X dX4_wishFor_2 (by decide) (fun h_2 => ?_) (fun h_2 => ?_)
  · refine a_iconst (v := 1) X dX4_wishFor_9 (by decide) ?_
    exact Zw.to2 (J_10 _ _ _ _ _ _ _ _ _ (by (try dsimp only); repeat first | assumption | exact zK.rf | refine zK.zu ?_ (by omega) | refine zK.zu0 ?_ (by decide) | refine zK.zwr ?_ (by omega) | refine zK.zfil ?_ (by omega) | refine zK.zcpy ?_ (by omega) | refine zK.trans ?_ (by assumption) | dsimp only) (by first | exact Or.inl rfl | exact Or.inr rfl | assumption)) rfl rfl rfl
  · refine a_iconst (v := 0) X dX4_wishFor_5 (by decide) ?_
    refine a_goto (tgt := 10) X dX4_wishFor_6 (by decide) ?_
    exact Zw.to2 (J_10 _ _ _ _ _ _ _ _ _ (by (try dsimp only); repeat first | assumption | exact zK.rf | refine zK.zu ?_ (by omega) | refine zK.zu0 ?_ (by decide) | refine zK.zwr ?_ (by omega) | refine zK.zfil ?_ (by omega) | refine zK.zcpy ?_ (by omega) | refine zK.trans ?_ (by assumption) | dsimp only) (by first | exact Or.inl rfl | exact Or.inr rfl | assumption)) rfl rfl rfl
set_option maxRecDepth 100000 in
theorem s_X4_dissolve {l : Launch} {G : zG} {b : Nat} {S : zS} {P : Nat} {Q : Nat} {v0 : Int32} (hQ : LX4 S.1 Q) (rQ : P < Q ∧ Q + 8 ≤ P + 200) : zM l G b yX4_dissolve cX4_dissolve 4 none 1 0 0 [.ref Q, .int v0] S (fun r z => ∃ M' N', z = (S.1, M', N') ∧ zK P S.2.1 M' ∧ r = none) := by
  refine zM.of miX4_dissolve (Nat.le_of_ble_eq_true rfl) ?_
  intro p e s m args below meth c X hr hname
  generalize hF : ((fun r z => ∃ M' N', z = (S.1, M', N') ∧ zK P S.2.1 M' ∧ r = none) : Option Value → zS → Prop) = FQ
  change Zw p l e { frames := 1, cells := 0, slots := 0, locals := 80 * 1 } s m args below meth c G b 4 (MQ below (zQ G b FQ) args s 0 0 (fun q : Nat => b ≤ q)) 0 0 0 [some (.ref Q), some (.int v0), none, none] [] S
  obtain ⟨q_lt, q_o, q_quota, q_score, q_guest, q_party, q_wishCount, q_wishes, q_has⟩ := id hQ
  have L_2 : ∀ u : Nat, ∀ (x1_2 : Int32) (x2_2 : Int32) (x3_2 : Option Value) (M2 : Nat → Nat → Int32) (N2 : Nat → Nat → Int64), zK P S.2.1 M2 → (2147483648 - x2_2.toInt).toNat < u → Zw p l e { frames := 1, cells := 0, slots := 0, locals := 80 * 1 } s m args below meth c G b 4 (MQ below (zQ G b FQ) args s 0 0 (fun q : Nat => b ≤ q)) 0 0 2 [some (.ref (Q)), some (.int x1_2), some (.int x2_2), x3_2] [] (S.1, M2, N2) := by
    intro u
    induction u with
    | zero => intro x1_2 x2_2 x3_2 M2_2 N2_2 k_2 hm_2; exact absurd hm_2 (Nat.not_lt_zero _)
    | succ u_2 ih_2 =>
      intro x1_2 x2_2 x3_2 M2_2 N2_2 k_2 hm_2
      have J_52 : ∀ (x1_52 : Int32) (x2_52 : Int32) (x3_52 : Int32) (M2 : Nat → Nat → Int32) (N2 : Nat → Nat → Int64), zK P S.2.1 M2 → ((2147483648 - x2_52.toInt).toNat < u_2 + 1) → (x2_52.toInt < 2147483647) → Zw p l e { frames := 1, cells := 0, slots := 0, locals := 80 * 1 } s m args below meth c G b 4 (MQ below (zQ G b FQ) args s 0 0 (fun q : Nat => b ≤ q)) 0 0 52 [some (.ref (Q)), some (.int x1_52), some (.int x2_52), some (.int x3_52)] [] (S.1, M2, N2) := by
        intro x1_52 x2_52 x3_52 M2_52 N2_52 k_52 f0_52 f1_52
        refine a_iinc X dX4_dissolve_52 (by decide) rfl rfl ?_
        refine a_goto (tgt := 2) X dX4_dissolve_55 (by decide) ?_
        exact Zw.to2 (ih_2 _ _ _ _ _ (by (try dsimp only); repeat first | assumption | exact zK.rf | refine zK.zu ?_ (by omega) | refine zK.zu0 ?_ (by decide) | refine zK.zwr ?_ (by omega) | refine zK.zfil ?_ (by omega) | refine zK.zcpy ?_ (by omega) | refine zK.trans ?_ (by assumption) | dsimp only)  (z_up f1_52 f0_52)) rfl rfl rfl
      refine a_iload_n X dX4_dissolve_2 rfl ?_
      refine a_aload_n X dX4_dissolve_3 rfl ?_
      refine a_geti X lf4_37 (by assumption) rfl dX4_dissolve_4 ?_
      refine a_icmp_ge (tgt := 58) X dX4_dissolve_7 (by decide) (fun h_7 => ?_) (fun h_7 => ?_)
      · refine a_aload_n X dX4_dissolve_58 rfl ?_
        refine a_dup X dX4_dissolve_59 rfl ?_
        refine a_geti X lf4_40 (by assumption) rfl dX4_dissolve_60 ?_
        refine a_iconst (v := 1) X dX4_dissolve_63 (by decide) ?_
        refine a_isub X dX4_dissolve_64 ?_
        refine a_puti X lf4_40 (by assumption) rfl dX4_dissolve_65 ?_
        refine a_vret X hr dX4_dissolve_68 ⟨by decide, by decide⟩ ?_
        subst hF
        exact ⟨_, _, rfl, (by (try dsimp only); repeat first | assumption | exact zK.rf | refine zK.zu ?_ (by omega) | refine zK.zu0 ?_ (by decide) | refine zK.zwr ?_ (by omega) | refine zK.zfil ?_ (by omega) | refine zK.zcpy ?_ (by omega) | refine zK.trans ?_ (by assumption) | dsimp only), rfl⟩
      · refine a_aload_n X dX4_dissolve_10 rfl ?_
        refine a_getr X lf4_21 (by assumption) rfl (by omega) dX4_dissolve_11 ?_
        refine a_iload_n X dX4_dissolve_14 rfl ?_
        refine a_callSNv X dX4_dissolve_15 miX7_cell lm4_67 (c_cell (by assumption) (by first | decide | assumption)) rfl rfl (Nat.le_of_ble_eq_true rfl) ⟨by decide, by decide, by decide, by decide⟩ ?_
        refine a_istore_n X dX4_dissolve_18 (by decide) ?_
        refine a_iload_n X dX4_dissolve_19 rfl ?_
        refine a_iload_n X dX4_dissolve_20 rfl ?_
        refine a_icmp_ne (tgt := 36) X dX4_dissolve_21 (by decide) (fun h_21 => ?_) (fun h_21 => ?_)
        · refine a_iload_n X dX4_dissolve_36 rfl ?_
          refine a_iload_n X dX4_dissolve_37 rfl ?_
          refine a_icmp_le (tgt := 52) X dX4_dissolve_38 (by decide) (fun h_38 => ?_) (fun h_38 => ?_)
          · exact Zw.to2 (J_52 _ _ _ _ _ (by (try dsimp only); repeat first | assumption | exact zK.rf | refine zK.zu ?_ (by omega) | refine zK.zu0 ?_ (by decide) | refine zK.zwr ?_ (by omega) | refine zK.zfil ?_ (by omega) | refine zK.zcpy ?_ (by omega) | refine zK.trans ?_ (by assumption) | dsimp only) hm_2 (by first | assumption | exact z_lt (by assumption) | exact z_lt2 (by assumption))) rfl rfl rfl
          · refine a_aload_n X dX4_dissolve_41 rfl ?_
            refine a_getr X lf4_21 (by assumption) rfl (by omega) dX4_dissolve_42 ?_
            refine a_iload_n X dX4_dissolve_45 rfl ?_
            refine a_iload_n X dX4_dissolve_46 rfl ?_
            refine a_iconst (v := 1) X dX4_dissolve_47 (by decide) ?_
            refine a_isub X dX4_dissolve_48 ?_
            refine a_callSNx X dX4_dissolve_49 miX7_put lm4_63 (s_X7_put (P := P) (by assumption) (by first | decide | assumption) (by omega)) rfl rfl (Nat.le_of_ble_eq_true rfl) ⟨by decide, by decide, by decide, by decide⟩ (fun r_49 S_49 q_49 => ?_)
            obtain ⟨M_49, N_49, rfl, k_49, rfl⟩ := q_49
            exact Zw.to2 (J_52 _ _ _ _ _ (by (try dsimp only); repeat first | assumption | exact zK.rf | refine zK.zu ?_ (by omega) | refine zK.zu0 ?_ (by decide) | refine zK.zwr ?_ (by omega) | refine zK.zfil ?_ (by omega) | refine zK.zcpy ?_ (by omega) | refine zK.trans ?_ (by assumption) | dsimp only) hm_2 (by first | assumption | exact z_lt (by assumption) | exact z_lt2 (by assumption))) rfl rfl rfl
        · refine a_aload_n X dX4_dissolve_24 rfl ?_
          refine a_getr X lf4_21 (by assumption) rfl (by omega) dX4_dissolve_25 ?_
          refine a_iload_n X dX4_dissolve_28 rfl ?_
          refine a_iconst (v := -1) X dX4_dissolve_29 (by decide) ?_
          refine a_callSNx X dX4_dissolve_30 miX7_put lm4_63 (s_X7_put (P := P) (by assumption) (by first | decide | assumption) (by omega)) rfl rfl (Nat.le_of_ble_eq_true rfl) ⟨by decide, by decide, by decide, by decide⟩ (fun r_30 S_30 q_30 => ?_)
          obtain ⟨M_30, N_30, rfl, k_30, rfl⟩ := q_30
          refine a_goto (tgt := 52) X dX4_dissolve_33 (by decide) ?_
          exact Zw.to2 (J_52 _ _ _ _ _ (by (try dsimp only); repeat first | assumption | exact zK.rf | refine zK.zu ?_ (by omega) | refine zK.zu0 ?_ (by decide) | refine zK.zwr ?_ (by omega) | refine zK.zfil ?_ (by omega) | refine zK.zcpy ?_ (by omega) | refine zK.trans ?_ (by assumption) | dsimp only) hm_2 (by first | assumption | exact z_lt (by assumption) | exact z_lt2 (by assumption))) rfl rfl rfl
  have H_2 : ∀ (x1_2 : Int32) (x2_2 : Int32) (x3_2 : Option Value) (M2 : Nat → Nat → Int32) (N2 : Nat → Nat → Int64), zK P S.2.1 M2 → Zw p l e { frames := 1, cells := 0, slots := 0, locals := 80 * 1 } s m args below meth c G b 4 (MQ below (zQ G b FQ) args s 0 0 (fun q : Nat => b ≤ q)) 0 0 2 [some (.ref (Q)), some (.int x1_2), some (.int x2_2), x3_2] [] (S.1, M2, N2) := fun x1_2 x2_2 x3_2 M2 N2 k  => L_2 _ x1_2 x2_2 x3_2 M2 N2 k  (Nat.lt_succ_self _)
  refine a_iconst (v := 0) X dX4_dissolve_0 (by decide) ?_
  refine a_istore_n X dX4_dissolve_1 (by decide) ?_
  exact Zw.to2 (H_2 _ _ _ _ _ (by (try dsimp only); repeat first | assumption | exact zK.rf | refine zK.zu ?_ (by omega) | refine zK.zu0 ?_ (by decide) | refine zK.zwr ?_ (by omega) | refine zK.zfil ?_ (by omega) | refine zK.zcpy ?_ (by omega) | refine zK.trans ?_ (by assumption) | dsimp only) ) rfl rfl rfl
set_option maxRecDepth 100000 in
theorem s_X4_live {l : Launch} {G : zG} {b : Nat} {S : zS} {P : Nat} {Q : Nat} {A : Nat} {B : Nat} (hQ : LX4 S.1 Q) (rQ : P < Q ∧ Q + 8 ≤ P + 200) (hA : LX2 S.1 A) (rA : P < A ∧ A + 13 ≤ P + 200) (hB : LX5 S.1 B) (rB : P < B ∧ B + 8 ≤ P + 200) : zM l G b yX4_live cX4_live 5 none 4 0 0 [.ref Q, .ref A, .ref B] S (fun r z => ∃ M' N', z = (S.1, M', N') ∧ zK P S.2.1 M' ∧ r = none) := by
  refine zM.of miX4_live (Nat.le_of_ble_eq_true rfl) ?_
  intro p e s m args below meth c X hr hname
  generalize hF : ((fun r z => ∃ M' N', z = (S.1, M', N') ∧ zK P S.2.1 M' ∧ r = none) : Option Value → zS → Prop) = FQ
  change Zw p l e { frames := 4, cells := 0, slots := 0, locals := 80 * 4 } s m args below meth c G b 5 (MQ below (zQ G b FQ) args s 0 0 (fun q : Nat => b ≤ q)) 0 0 0 [some (.ref Q), some (.ref A), some (.ref B), none, none] [] S
  obtain ⟨q_lt, q_o, q_quota, q_score, q_guest, q_party, q_wishCount, q_wishes, q_has⟩ := id hQ
  obtain ⟨a_lt, a_o, a_quota, a_preferred, a_forGuests, a_applicantOf, a_size, a_guestCount, a_score, a_tickets, a_bits, a_party, a_wishCount, a_wishes⟩ := id hA
  obtain ⟨b_lt, b_o, b_line, b_unitOf, b_roundOf, b_leftTags, b_leftGuests, b_leftPreferred, b_ranked⟩ := id hB
  have L_2 : ∀ u : Nat, ∀ (x3_2 : Int32) (x4_2 : Option Value) (M2 : Nat → Nat → Int32) (N2 : Nat → Nat → Int64), zK P S.2.1 M2 → (2147483648 - x3_2.toInt).toNat < u → Zw p l e { frames := 4, cells := 0, slots := 0, locals := 80 * 4 } s m args below meth c G b 5 (MQ below (zQ G b FQ) args s 0 0 (fun q : Nat => b ≤ q)) 0 0 2 [some (.ref (Q)), some (.ref (A)), some (.ref (B)), some (.int x3_2), x4_2] [] (S.1, M2, N2) := by
    intro u
    induction u with
    | zero => intro x3_2 x4_2 M2_2 N2_2 k_2 hm_2; exact absurd hm_2 (Nat.not_lt_zero _)
    | succ u_2 ih_2 =>
      intro x3_2 x4_2 M2_2 N2_2 k_2 hm_2
      refine a_iload_n X dX4_live_2 rfl ?_
      refine a_aload_n X dX4_live_3 rfl ?_
      refine a_geti X lf4_37 (by assumption) rfl dX4_live_4 ?_
      refine a_icmp_ge (tgt := 66) X dX4_live_7 (by decide) (fun h_7 => ?_) (fun h_7 => ?_)
      · refine a_vret X hr dX4_live_66 ⟨by decide, by decide⟩ ?_
        subst hF
        exact ⟨_, _, rfl, (by (try dsimp only); repeat first | assumption | exact zK.rf | refine zK.zu ?_ (by omega) | refine zK.zu0 ?_ (by decide) | refine zK.zwr ?_ (by omega) | refine zK.zfil ?_ (by omega) | refine zK.zcpy ?_ (by omega) | refine zK.trans ?_ (by assumption) | dsimp only), rfl⟩
      · refine a_aload_n X dX4_live_10 rfl ?_
        refine a_getr X lf4_79 (by assumption) rfl (by omega) dX4_live_11 ?_
        refine a_iload_n X dX4_live_14 rfl ?_
        refine a_callSNv X dX4_live_15 miX7_cell lm4_67 (c_cell (by assumption) (by first | decide | assumption)) rfl rfl (Nat.le_of_ble_eq_true rfl) ⟨by decide, by decide, by decide, by decide⟩ ?_
        refine a_istore X dX4_live_18 (by decide) ?_
        refine a_aload_n X dX4_live_20 rfl ?_
        refine a_getr X lf4_15 (by assumption) rfl (by omega) dX4_live_21 ?_
        refine a_iload_n X dX4_live_24 rfl ?_
        refine a_aload_n X dX4_live_25 rfl ?_
        refine a_aload_n X dX4_live_26 rfl ?_
        refine a_iload X dX4_live_27 rfl ?_
        refine a_aload_n X dX4_live_29 rfl ?_
        refine a_getr X lf4_15 (by assumption) rfl (by omega) dX4_live_30 ?_
        refine a_iload_n X dX4_live_33 rfl ?_
        refine a_callSNv X dX4_live_34 miX7_cell lm4_67 (c_cell (by assumption) (by first | decide | assumption)) rfl rfl (Nat.le_of_ble_eq_true rfl) ⟨by decide, by decide, by decide, by decide⟩ ?_
        refine a_callVx X dX4_live_37 miX5_scoreBehind lm4_84 (s_X5_scoreBehind (P := P) (by assumption) (by omega) (by assumption) (by omega)) (by assumption) rfl rfl rfl (Nat.le_of_ble_eq_true rfl) ⟨by decide, by decide, by decide, by decide⟩ (fun r_37 S_37 q_37 => ?_)
        obtain ⟨rfl, ⟨v_37, rfl⟩⟩ := q_37
        refine a_callSNx X dX4_live_40 miX7_put lm4_63 (s_X7_put (P := P) (by assumption) (by first | decide | assumption) (by omega)) rfl rfl (Nat.le_of_ble_eq_true rfl) ⟨by decide, by decide, by decide, by decide⟩ (fun r_40 S_40 q_40 => ?_)
        obtain ⟨M_40, N_40, rfl, k_40, rfl⟩ := q_40
        refine a_aload_n X dX4_live_43 rfl ?_
        refine a_getr X lf4_30 (by assumption) rfl (by omega) dX4_live_44 ?_
        refine a_iload_n X dX4_live_47 rfl ?_
        refine a_aload_n X dX4_live_48 rfl ?_
        refine a_getr X lf4_90 (by assumption) rfl (by omega) dX4_live_49 ?_
        refine a_iload X dX4_live_52 rfl ?_
        refine a_callSNv X dX4_live_54 miX7_cell lm4_67 (c_cell (by assumption) (by first | decide | assumption)) rfl rfl (Nat.le_of_ble_eq_true rfl) ⟨by decide, by decide, by decide, by decide⟩ ?_
        refine a_callSNx X dX4_live_57 miX7_put lm4_63 (s_X7_put (P := P) (by assumption) (by first | decide | assumption) (by omega)) rfl rfl (Nat.le_of_ble_eq_true rfl) ⟨by decide, by decide, by decide, by decide⟩ (fun r_57 S_57 q_57 => ?_)
        obtain ⟨M_57, N_57, rfl, k_57, rfl⟩ := q_57
        refine a_iinc X dX4_live_60 (by decide) rfl rfl ?_
        refine a_goto (tgt := 2) X dX4_live_63 (by decide) ?_
        exact Zw.to2 (ih_2 _ _ _ _ (by (try dsimp only); repeat first | assumption | exact zK.rf | refine zK.zu ?_ (by omega) | refine zK.zu0 ?_ (by decide) | refine zK.zwr ?_ (by omega) | refine zK.zfil ?_ (by omega) | refine zK.zcpy ?_ (by omega) | refine zK.trans ?_ (by assumption) | dsimp only)  (z_up (by first | assumption | exact z_lt (by assumption) | exact z_lt2 (by assumption)) hm_2)) rfl rfl rfl
  have H_2 : ∀ (x3_2 : Int32) (x4_2 : Option Value) (M2 : Nat → Nat → Int32) (N2 : Nat → Nat → Int64), zK P S.2.1 M2 → Zw p l e { frames := 4, cells := 0, slots := 0, locals := 80 * 4 } s m args below meth c G b 5 (MQ below (zQ G b FQ) args s 0 0 (fun q : Nat => b ≤ q)) 0 0 2 [some (.ref (Q)), some (.ref (A)), some (.ref (B)), some (.int x3_2), x4_2] [] (S.1, M2, N2) := fun x3_2 x4_2 M2 N2 k  => L_2 _ x3_2 x4_2 M2 N2 k  (Nat.lt_succ_self _)
  refine a_iconst (v := 0) X dX4_live_0 (by decide) ?_
  refine a_istore_n X dX4_live_1 (by decide) ?_
  exact Zw.to2 (H_2 _ _ _ _ (by (try dsimp only); repeat first | assumption | exact zK.rf | refine zK.zu ?_ (by omega) | refine zK.zu0 ?_ (by decide) | refine zK.zwr ?_ (by omega) | refine zK.zfil ?_ (by omega) | refine zK.zcpy ?_ (by omega) | refine zK.trans ?_ (by assumption) | dsimp only) ) rfl rfl rfl
set_option maxRecDepth 100000 in
theorem s_X4_clear {l : Launch} {G : zG} {b : Nat} {S : zS} {P : Nat} {Q : Nat} (hQ : LX4 S.1 Q) (rQ : P < Q ∧ Q + 8 ≤ P + 200) : zM l G b yX4_clear cX4_clear 1 none 1 0 0 [.ref Q] S (fun r z => ∃ M' N', z = (S.1, M', N') ∧ zK P S.2.1 M' ∧ r = none) := by
  refine zM.of miX4_clear (Nat.le_of_ble_eq_true rfl) ?_
  intro p e s m args below meth c X hr hname
  generalize hF : ((fun r z => ∃ M' N', z = (S.1, M', N') ∧ zK P S.2.1 M' ∧ r = none) : Option Value → zS → Prop) = FQ
  change Zw p l e { frames := 1, cells := 0, slots := 0, locals := 80 * 1 } s m args below meth c G b 1 (MQ below (zQ G b FQ) args s 0 0 (fun q : Nat => b ≤ q)) 0 0 0 [some (.ref Q)] [] S
  obtain ⟨q_lt, q_o, q_quota, q_score, q_guest, q_party, q_wishCount, q_wishes, q_has⟩ := id hQ
  refine a_aload_n X dX4_clear_0 rfl ?_
  refine a_iconst (v := 0) X dX4_clear_1 (by decide) ?_
  refine a_puti X lf4_33 (by assumption) rfl dX4_clear_2 ?_
  refine a_aload_n X dX4_clear_5 rfl ?_
  refine a_iconst (v := 0) X dX4_clear_6 (by decide) ?_
  refine a_puti X lf4_37 (by assumption) rfl dX4_clear_7 ?_
  refine a_aload_n X dX4_clear_10 rfl ?_
  refine a_iconst (v := 0) X dX4_clear_11 (by decide) ?_
  refine a_puti X lf4_40 (by assumption) rfl dX4_clear_12 ?_
  refine a_aload_n X dX4_clear_15 rfl ?_
  refine a_iconst (v := 0) X dX4_clear_16 (by decide) ?_
  refine a_puti X lf4_43 (by assumption) rfl dX4_clear_17 ?_
  refine a_aload_n X dX4_clear_20 rfl ?_
  refine a_iconst (v := 0) X dX4_clear_21 (by decide) ?_
  refine a_puti X lf4_46 (by assumption) rfl dX4_clear_22 ?_
  refine a_aload_n X dX4_clear_25 rfl ?_
  refine a_bipush (v := 100) X dX4_clear_26 (by decide) ?_
  refine a_puti X lf4_49 (by assumption) rfl dX4_clear_28 ?_
  refine a_aload_n X dX4_clear_31 rfl ?_
  refine a_iconst (v := 0) X dX4_clear_32 (by decide) ?_
  refine a_puti X lf4_52 (by assumption) rfl dX4_clear_33 ?_
  refine a_aload_n X dX4_clear_36 rfl ?_
  refine a_getr X lf4_9 (by assumption) rfl (by omega) dX4_clear_37 ?_
  refine a_iconst (v := 0) X dX4_clear_40 (by decide) ?_
  refine a_callSNx X dX4_clear_41 miX7_fill lm4_55 (s_X7_fill (P := P) (by assumption) (by first | decide | assumption) (by omega)) rfl rfl (Nat.le_of_ble_eq_true rfl) ⟨by decide, by decide, by decide, by decide⟩ (fun r_41 S_41 q_41 => ?_)
  obtain ⟨M_41, N_41, rfl, k_41, rfl⟩ := q_41
  refine a_aload_n X dX4_clear_44 rfl ?_
  refine a_getr X lf4_15 (by assumption) rfl (by omega) dX4_clear_45 ?_
  refine a_iconst (v := 0) X dX4_clear_48 (by decide) ?_
  refine a_callSNx X dX4_clear_49 miX7_fill lm4_55 (s_X7_fill (P := P) (by assumption) (by first | decide | assumption) (by omega)) rfl rfl (Nat.le_of_ble_eq_true rfl) ⟨by decide, by decide, by decide, by decide⟩ (fun r_49 S_49 q_49 => ?_)
  obtain ⟨M_49, N_49, rfl, k_49, rfl⟩ := q_49
  refine a_aload_n X dX4_clear_52 rfl ?_
  refine a_getr X lf4_18 (by assumption) rfl (by omega) dX4_clear_53 ?_
  refine a_iconst (v := 0) X dX4_clear_56 (by decide) ?_
  refine a_callSNx X dX4_clear_57 miX7_fill lm4_55 (s_X7_fill (P := P) (by assumption) (by first | decide | assumption) (by omega)) rfl rfl (Nat.le_of_ble_eq_true rfl) ⟨by decide, by decide, by decide, by decide⟩ (fun r_57 S_57 q_57 => ?_)
  obtain ⟨M_57, N_57, rfl, k_57, rfl⟩ := q_57
  refine a_aload_n X dX4_clear_60 rfl ?_
  refine a_getr X lf4_21 (by assumption) rfl (by omega) dX4_clear_61 ?_
  refine a_iconst (v := -1) X dX4_clear_64 (by decide) ?_
  refine a_callSNx X dX4_clear_65 miX7_fill lm4_55 (s_X7_fill (P := P) (by assumption) (by first | decide | assumption) (by omega)) rfl rfl (Nat.le_of_ble_eq_true rfl) ⟨by decide, by decide, by decide, by decide⟩ (fun r_65 S_65 q_65 => ?_)
  obtain ⟨M_65, N_65, rfl, k_65, rfl⟩ := q_65
  refine a_aload_n X dX4_clear_68 rfl ?_
  refine a_getr X lf4_24 (by assumption) rfl (by omega) dX4_clear_69 ?_
  refine a_iconst (v := 0) X dX4_clear_72 (by decide) ?_
  refine a_callSNx X dX4_clear_73 miX7_fill lm4_55 (s_X7_fill (P := P) (by assumption) (by first | decide | assumption) (by omega)) rfl rfl (Nat.le_of_ble_eq_true rfl) ⟨by decide, by decide, by decide, by decide⟩ (fun r_73 S_73 q_73 => ?_)
  obtain ⟨M_73, N_73, rfl, k_73, rfl⟩ := q_73
  refine a_aload_n X dX4_clear_76 rfl ?_
  refine a_getr X lf4_27 (by assumption) rfl (by omega) dX4_clear_77 ?_
  refine a_iconst (v := -1) X dX4_clear_80 (by decide) ?_
  refine a_callSNx X dX4_clear_81 miX7_fill lm4_55 (s_X7_fill (P := P) (by assumption) (by first | decide | assumption) (by omega)) rfl rfl (Nat.le_of_ble_eq_true rfl) ⟨by decide, by decide, by decide, by decide⟩ (fun r_81 S_81 q_81 => ?_)
  obtain ⟨M_81, N_81, rfl, k_81, rfl⟩ := q_81
  refine a_aload_n X dX4_clear_84 rfl ?_
  refine a_getr X lf4_30 (by assumption) rfl (by omega) dX4_clear_85 ?_
  refine a_iconst (v := -1) X dX4_clear_88 (by decide) ?_
  refine a_callSNx X dX4_clear_89 miX7_fill lm4_55 (s_X7_fill (P := P) (by assumption) (by first | decide | assumption) (by omega)) rfl rfl (Nat.le_of_ble_eq_true rfl) ⟨by decide, by decide, by decide, by decide⟩ (fun r_89 S_89 q_89 => ?_)
  obtain ⟨M_89, N_89, rfl, k_89, rfl⟩ := q_89
  refine a_vret X hr dX4_clear_92 ⟨by decide, by decide⟩ ?_
  subst hF
  exact ⟨_, _, rfl, (by (try dsimp only); repeat first | assumption | exact zK.rf | refine zK.zu ?_ (by omega) | refine zK.zu0 ?_ (by decide) | refine zK.zwr ?_ (by omega) | refine zK.zfil ?_ (by omega) | refine zK.zcpy ?_ (by omega) | refine zK.trans ?_ (by assumption) | dsimp only), rfl⟩
set_option maxRecDepth 100000 in
theorem s_X4_take {l : Launch} {G : zG} {b : Nat} {S : zS} {P : Nat} {Q : Nat} {A : Nat} (hQ : LX4 S.1 Q) (rQ : P < Q ∧ Q + 8 ≤ P + 200) (hA : LX4 S.1 A) (rA : P < A ∧ A + 8 ≤ P + 200) : zM l G b yX4_take cX4_take 2 none 2 0 0 [.ref Q, .ref A] S (fun r z => ∃ M' N', z = (S.1, M', N') ∧ zK P S.2.1 M' ∧ r = none) := by
  refine zM.of miX4_take (Nat.le_of_ble_eq_true rfl) ?_
  intro p e s m args below meth c X hr hname
  generalize hF : ((fun r z => ∃ M' N', z = (S.1, M', N') ∧ zK P S.2.1 M' ∧ r = none) : Option Value → zS → Prop) = FQ
  change Zw p l e { frames := 2, cells := 0, slots := 0, locals := 80 * 2 } s m args below meth c G b 2 (MQ below (zQ G b FQ) args s 0 0 (fun q : Nat => b ≤ q)) 0 0 0 [some (.ref Q), some (.ref A)] [] S
  obtain ⟨q_lt, q_o, q_quota, q_score, q_guest, q_party, q_wishCount, q_wishes, q_has⟩ := id hQ
  obtain ⟨a_lt, a_o, a_quota, a_score, a_guest, a_party, a_wishCount, a_wishes, a_has⟩ := id hA
  refine a_aload_n X dX4_take_0 rfl ?_
  refine a_aload_n X dX4_take_1 rfl ?_
  refine a_geti X lf4_33 (by assumption) rfl dX4_take_2 ?_
  refine a_puti X lf4_33 (by assumption) rfl dX4_take_5 ?_
  refine a_aload_n X dX4_take_8 rfl ?_
  refine a_aload_n X dX4_take_9 rfl ?_
  refine a_geti X lf4_37 (by assumption) rfl dX4_take_10 ?_
  refine a_puti X lf4_37 (by assumption) rfl dX4_take_13 ?_
  refine a_aload_n X dX4_take_16 rfl ?_
  refine a_aload_n X dX4_take_17 rfl ?_
  refine a_geti X lf4_40 (by assumption) rfl dX4_take_18 ?_
  refine a_puti X lf4_40 (by assumption) rfl dX4_take_21 ?_
  refine a_aload_n X dX4_take_24 rfl ?_
  refine a_aload_n X dX4_take_25 rfl ?_
  refine a_geti X lf4_43 (by assumption) rfl dX4_take_26 ?_
  refine a_puti X lf4_43 (by assumption) rfl dX4_take_29 ?_
  refine a_aload_n X dX4_take_32 rfl ?_
  refine a_aload_n X dX4_take_33 rfl ?_
  refine a_geti X lf4_46 (by assumption) rfl dX4_take_34 ?_
  refine a_puti X lf4_46 (by assumption) rfl dX4_take_37 ?_
  refine a_aload_n X dX4_take_40 rfl ?_
  refine a_aload_n X dX4_take_41 rfl ?_
  refine a_geti X lf4_49 (by assumption) rfl dX4_take_42 ?_
  refine a_puti X lf4_49 (by assumption) rfl dX4_take_45 ?_
  refine a_aload_n X dX4_take_48 rfl ?_
  refine a_aload_n X dX4_take_49 rfl ?_
  refine a_geti X lf4_52 (by assumption) rfl dX4_take_50 ?_
  refine a_puti X lf4_52 (by assumption) rfl dX4_take_53 ?_
  refine a_aload_n X dX4_take_56 rfl ?_
  refine a_getr X lf4_9 (by assumption) rfl (by omega) dX4_take_57 ?_
  refine a_aload_n X dX4_take_60 rfl ?_
  refine a_getr X lf4_9 (by assumption) rfl (by omega) dX4_take_61 ?_
  refine a_callSNx X dX4_take_64 miX7_copy lm4_59 (s_X7_copy (P := P) (by assumption) (by assumption) (by first | decide | assumption) (by first | decide | assumption) (by omega) (by omega)) rfl rfl (Nat.le_of_ble_eq_true rfl) ⟨by decide, by decide, by decide, by decide⟩ (fun r_64 S_64 q_64 => ?_)
  obtain ⟨M_64, N_64, rfl, k_64, rfl⟩ := q_64
  refine a_aload_n X dX4_take_67 rfl ?_
  refine a_getr X lf4_15 (by assumption) rfl (by omega) dX4_take_68 ?_
  refine a_aload_n X dX4_take_71 rfl ?_
  refine a_getr X lf4_15 (by assumption) rfl (by omega) dX4_take_72 ?_
  refine a_callSNx X dX4_take_75 miX7_copy lm4_59 (s_X7_copy (P := P) (by assumption) (by assumption) (by first | decide | assumption) (by first | decide | assumption) (by omega) (by omega)) rfl rfl (Nat.le_of_ble_eq_true rfl) ⟨by decide, by decide, by decide, by decide⟩ (fun r_75 S_75 q_75 => ?_)
  obtain ⟨M_75, N_75, rfl, k_75, rfl⟩ := q_75
  refine a_aload_n X dX4_take_78 rfl ?_
  refine a_getr X lf4_18 (by assumption) rfl (by omega) dX4_take_79 ?_
  refine a_aload_n X dX4_take_82 rfl ?_
  refine a_getr X lf4_18 (by assumption) rfl (by omega) dX4_take_83 ?_
  refine a_callSNx X dX4_take_86 miX7_copy lm4_59 (s_X7_copy (P := P) (by assumption) (by assumption) (by first | decide | assumption) (by first | decide | assumption) (by omega) (by omega)) rfl rfl (Nat.le_of_ble_eq_true rfl) ⟨by decide, by decide, by decide, by decide⟩ (fun r_86 S_86 q_86 => ?_)
  obtain ⟨M_86, N_86, rfl, k_86, rfl⟩ := q_86
  refine a_aload_n X dX4_take_89 rfl ?_
  refine a_getr X lf4_21 (by assumption) rfl (by omega) dX4_take_90 ?_
  refine a_aload_n X dX4_take_93 rfl ?_
  refine a_getr X lf4_21 (by assumption) rfl (by omega) dX4_take_94 ?_
  refine a_callSNx X dX4_take_97 miX7_copy lm4_59 (s_X7_copy (P := P) (by assumption) (by assumption) (by first | decide | assumption) (by first | decide | assumption) (by omega) (by omega)) rfl rfl (Nat.le_of_ble_eq_true rfl) ⟨by decide, by decide, by decide, by decide⟩ (fun r_97 S_97 q_97 => ?_)
  obtain ⟨M_97, N_97, rfl, k_97, rfl⟩ := q_97
  refine a_aload_n X dX4_take_100 rfl ?_
  refine a_getr X lf4_24 (by assumption) rfl (by omega) dX4_take_101 ?_
  refine a_aload_n X dX4_take_104 rfl ?_
  refine a_getr X lf4_24 (by assumption) rfl (by omega) dX4_take_105 ?_
  refine a_callSNx X dX4_take_108 miX7_copy lm4_59 (s_X7_copy (P := P) (by assumption) (by assumption) (by first | decide | assumption) (by first | decide | assumption) (by omega) (by omega)) rfl rfl (Nat.le_of_ble_eq_true rfl) ⟨by decide, by decide, by decide, by decide⟩ (fun r_108 S_108 q_108 => ?_)
  obtain ⟨M_108, N_108, rfl, k_108, rfl⟩ := q_108
  refine a_aload_n X dX4_take_111 rfl ?_
  refine a_getr X lf4_27 (by assumption) rfl (by omega) dX4_take_112 ?_
  refine a_aload_n X dX4_take_115 rfl ?_
  refine a_getr X lf4_27 (by assumption) rfl (by omega) dX4_take_116 ?_
  refine a_callSNx X dX4_take_119 miX7_copy lm4_59 (s_X7_copy (P := P) (by assumption) (by assumption) (by first | decide | assumption) (by first | decide | assumption) (by omega) (by omega)) rfl rfl (Nat.le_of_ble_eq_true rfl) ⟨by decide, by decide, by decide, by decide⟩ (fun r_119 S_119 q_119 => ?_)
  obtain ⟨M_119, N_119, rfl, k_119, rfl⟩ := q_119
  refine a_aload_n X dX4_take_122 rfl ?_
  refine a_getr X lf4_30 (by assumption) rfl (by omega) dX4_take_123 ?_
  refine a_aload_n X dX4_take_126 rfl ?_
  refine a_getr X lf4_30 (by assumption) rfl (by omega) dX4_take_127 ?_
  refine a_callSNx X dX4_take_130 miX7_copy lm4_59 (s_X7_copy (P := P) (by assumption) (by assumption) (by first | decide | assumption) (by first | decide | assumption) (by omega) (by omega)) rfl rfl (Nat.le_of_ble_eq_true rfl) ⟨by decide, by decide, by decide, by decide⟩ (fun r_130 S_130 q_130 => ?_)
  obtain ⟨M_130, N_130, rfl, k_130, rfl⟩ := q_130
  refine a_vret X hr dX4_take_133 ⟨by decide, by decide⟩ ?_
  subst hF
  exact ⟨_, _, rfl, (by (try dsimp only); repeat first | assumption | exact zK.rf | refine zK.zu ?_ (by omega) | refine zK.zu0 ?_ (by decide) | refine zK.zwr ?_ (by omega) | refine zK.zfil ?_ (by omega) | refine zK.zcpy ?_ (by omega) | refine zK.trans ?_ (by assumption) | dsimp only), rfl⟩
set_option maxRecDepth 100000 in
theorem s_X4_join {l : Launch} {G : zG} {b : Nat} {S : zS} {P : Nat} {Q : Nat} {v0 : Int32} {v1 : Int32} (hQ : LX4 S.1 Q) (rQ : P < Q ∧ Q + 8 ≤ P + 200) : zM l G b yX4_join cX4_join 4 none 2 0 0 [.ref Q, .int v0, .int v1] S (fun r z => ∃ M' N', z = (S.1, M', N') ∧ zK P S.2.1 M' ∧ r = none) := by
  refine zM.of miX4_join (Nat.le_of_ble_eq_true rfl) ?_
  intro p e s m args below meth c X hr hname
  generalize hF : ((fun r z => ∃ M' N', z = (S.1, M', N') ∧ zK P S.2.1 M' ∧ r = none) : Option Value → zS → Prop) = FQ
  change Zw p l e { frames := 2, cells := 0, slots := 0, locals := 80 * 2 } s m args below meth c G b 4 (MQ below (zQ G b FQ) args s 0 0 (fun q : Nat => b ≤ q)) 0 0 0 [some (.ref Q), some (.int v0), some (.int v1), none] [] S
  obtain ⟨q_lt, q_o, q_quota, q_score, q_guest, q_party, q_wishCount, q_wishes, q_has⟩ := id hQ
  refine a_iload_n X dX4_join_0 rfl ?_
  refine a_iconst (v := 3) X dX4_join_1 (by decide) ?_
  refine a_imul X dX4_join_2 ?_
  refine a_istore_n X dX4_join_3 (by decide) ?_
  refine a_aload_n X dX4_join_4 rfl ?_
  refine a_iconst (v := 1) X dX4_join_5 (by decide) ?_
  refine a_iload_n X dX4_join_6 rfl ?_
  refine a_ishl X dX4_join_7 ?_
  refine a_aload_n X dX4_join_8 rfl ?_
  refine a_getr X lf4_27 (by assumption) rfl (by omega) dX4_join_9 ?_
  refine a_iload_n X dX4_join_12 rfl ?_
  refine a_callSNv X dX4_join_13 miX7_cell lm4_67 (c_cell (by assumption) (by first | decide | assumption)) rfl rfl (Nat.le_of_ble_eq_true rfl) ⟨by decide, by decide, by decide, by decide⟩ ?_
  refine a_aload_n X dX4_join_16 rfl ?_
  refine a_getr X lf4_27 (by assumption) rfl (by omega) dX4_join_17 ?_
  refine a_iload_n X dX4_join_20 rfl ?_
  refine a_iconst (v := 1) X dX4_join_21 (by decide) ?_
  refine a_iadd X dX4_join_22 ?_
  refine a_callSNv X dX4_join_23 miX7_cell lm4_67 (c_cell (by assumption) (by first | decide | assumption)) rfl rfl (Nat.le_of_ble_eq_true rfl) ⟨by decide, by decide, by decide, by decide⟩ ?_
  refine a_aload_n X dX4_join_26 rfl ?_
  refine a_getr X lf4_27 (by assumption) rfl (by omega) dX4_join_27 ?_
  refine a_iload_n X dX4_join_30 rfl ?_
  refine a_iconst (v := 2) X dX4_join_31 (by decide) ?_
  refine a_iadd X dX4_join_32 ?_
  refine a_callSNv X dX4_join_33 miX7_cell lm4_67 (c_cell (by assumption) (by first | decide | assumption)) rfl rfl (Nat.le_of_ble_eq_true rfl) ⟨by decide, by decide, by decide, by decide⟩ ?_
  refine a_callVx X dX4_join_36 miX4_wishFor lm4_71 (s_X4_wishFor (P := P) (by assumption) (by omega)) (by assumption) rfl rfl rfl (Nat.le_of_ble_eq_true rfl) ⟨by decide, by decide, by decide, by decide⟩ (fun r_36 S_36 q_36 => ?_)
  obtain ⟨M_36, N_36, rfl, k_36, rfl⟩ := q_36
  refine a_aload_n X dX4_join_39 rfl ?_
  refine a_iconst (v := 1) X dX4_join_40 (by decide) ?_
  refine a_iload_n X dX4_join_41 rfl ?_
  refine a_ishl X dX4_join_42 ?_
  refine a_iconst (v := 1) X dX4_join_43 (by decide) ?_
  refine a_iload_n X dX4_join_44 rfl ?_
  refine a_ishl X dX4_join_45 ?_
  refine a_ior X dX4_join_46 ?_
  refine a_callVx X dX4_join_47 miX4_addParty lm4_75 (s_X4_addParty (P := P) (by assumption) (by omega)) (by assumption) rfl rfl rfl (Nat.le_of_ble_eq_true rfl) ⟨by decide, by decide, by decide, by decide⟩ (fun r_47 S_47 q_47 => ?_)
  obtain ⟨M_47, N_47, rfl, k_47, rfl⟩ := q_47
  refine a_vret X hr dX4_join_50 ⟨by decide, by decide⟩ ?_
  subst hF
  exact ⟨_, _, rfl, (by (try dsimp only); repeat first | assumption | exact zK.rf | refine zK.zu ?_ (by omega) | refine zK.zu0 ?_ (by decide) | refine zK.zwr ?_ (by omega) | refine zK.zfil ?_ (by omega) | refine zK.zcpy ?_ (by omega) | refine zK.trans ?_ (by assumption) | dsimp only), rfl⟩
set_option maxRecDepth 100000 in
theorem s_X6_note {l : Launch} {G : zG} {b : Nat} {S : zS} {P : Nat} {Q : Nat} {v0 : Int32} {v1 : Int32} (hQ : LX6 S.1 Q) (rQ : P < Q ∧ Q + 33 ≤ P + 200) : zM l G b yX6_note cX6_note 4 none 3 0 0 [.ref Q, .int v0, .int v1] S (fun r z => ∃ M' N', z = (S.1, M', N') ∧ zK P S.2.1 M' ∧ r = none) := by
  refine zM.of miX6_note (Nat.le_of_ble_eq_true rfl) ?_
  intro p e s m args below meth c X hr hname
  generalize hF : ((fun r z => ∃ M' N', z = (S.1, M', N') ∧ zK P S.2.1 M' ∧ r = none) : Option Value → zS → Prop) = FQ
  change Zw p l e { frames := 3, cells := 0, slots := 0, locals := 80 * 3 } s m args below meth c G b 4 (MQ below (zQ G b FQ) args s 0 0 (fun q : Nat => b ≤ q)) 0 0 0 [some (.ref Q), some (.int v0), some (.int v1), none] [] S
  obtain ⟨q_lt, q_o, q_times, q_firstWish, q_dry, q_list, q_pool, q_result⟩ := id hQ
  obtain ⟨q_list_lt, q_list_o, q_list_quota, q_list_score, q_list_guest, q_list_party, q_list_wishCount, q_list_wishes, q_list_has⟩ := id q_list
  obtain ⟨q_pool_lt, q_pool_o, q_pool_quota, q_pool_preferred, q_pool_forGuests, q_pool_applicantOf, q_pool_size, q_pool_guestCount, q_pool_score, q_pool_tickets, q_pool_bits, q_pool_party, q_pool_wishCount, q_pool_wishes⟩ := id q_pool
  obtain ⟨q_result_lt, q_result_o, q_result_line, q_result_unitOf, q_result_roundOf, q_result_leftTags, q_result_leftGuests, q_result_leftPreferred, q_result_ranked⟩ := id q_result
  have J_109 : ∀ (x1_109 : Int32) (x2_109 : Int32) (x3_109 : Int32) (M2 : Nat → Nat → Int32) (N2 : Nat → Nat → Int64), zK P S.2.1 M2 → Zw p l e { frames := 3, cells := 0, slots := 0, locals := 80 * 3 } s m args below meth c G b 4 (MQ below (zQ G b FQ) args s 0 0 (fun q : Nat => b ≤ q)) 0 0 109 [some (.ref (Q)), some (.int x1_109), some (.int x2_109), some (.int x3_109)] [] (S.1, M2, N2) := by
    intro x1_109 x2_109 x3_109 M2_109 N2_109 k_109
    refine a_vret X hr dX6_note_109 ⟨by decide, by decide⟩ ?_
    subst hF
    exact ⟨_, _, rfl, (by (try dsimp only); repeat first | assumption | exact zK.rf | refine zK.zu ?_ (by omega) | refine zK.zu0 ?_ (by decide) | refine zK.zwr ?_ (by omega) | refine zK.zfil ?_ (by omega) | refine zK.zcpy ?_ (by omega) | refine zK.trans ?_ (by assumption) | dsimp only), rfl⟩
  refine a_aload_n X dX6_note_0 rfl ?_
  refine a_getr X lf6_31 (by assumption) rfl (by omega) dX6_note_1 ?_
  refine a_getr X lf6_79 (by assumption) rfl (by omega) dX6_note_4 ?_
  refine a_iload_n X dX6_note_7 rfl ?_
  refine a_callSNv X dX6_note_8 miX7_cell lm6_82 (c_cell (by assumption) (by first | decide | assumption)) rfl rfl (Nat.le_of_ble_eq_true rfl) ⟨by decide, by decide, by decide, by decide⟩ ?_
  refine a_istore_n X dX6_note_11 (by decide) ?_
  refine a_aload_n X dX6_note_12 rfl ?_
  refine a_getr X lf6_38 (by assumption) rfl (by omega) dX6_note_13 ?_
  refine a_getr X lf6_86 (by assumption) rfl (by omega) dX6_note_16 ?_
  refine a_iload_n X dX6_note_19 rfl ?_
  refine a_callSNv X dX6_note_20 miX7_cell lm6_82 (c_cell (by assumption) (by first | decide | assumption)) rfl rfl (Nat.le_of_ble_eq_true rfl) ⟨by decide, by decide, by decide, by decide⟩ ?_
  refine a_iconst (v := -1) X dX6_note_23 (by decide) ?_
  refine a_icmp_ne (tgt := 56) X dX6_note_24 (by decide) (fun h_24 => ?_) (fun h_24 => ?_)
  · refine a_aload_n X dX6_note_56 rfl ?_
    refine a_getr X lf6_18 (by assumption) rfl (by omega) dX6_note_57 ?_
    refine a_iload_n X dX6_note_60 rfl ?_
    refine a_iconst (v := 0) X dX6_note_61 (by decide) ?_
    refine a_callSNx X dX6_note_62 miX7_put lm6_99 (s_X7_put (P := P) (by assumption) (by first | decide | assumption) (by omega)) rfl rfl (Nat.le_of_ble_eq_true rfl) ⟨by decide, by decide, by decide, by decide⟩ (fun r_62 S_62 q_62 => ?_)
    obtain ⟨M_62, N_62, rfl, k_62, rfl⟩ := q_62
    refine a_aload_n X dX6_note_65 rfl ?_
    refine a_getr X lf6_9 (by assumption) rfl (by omega) dX6_note_66 ?_
    refine a_iload_n X dX6_note_69 rfl ?_
    refine a_iconst (v := 1) X dX6_note_70 (by decide) ?_
    refine a_callSNx X dX6_note_71 miX7_add lm6_89 (s_X7_add (P := P) (by assumption) (by first | decide | assumption) (by omega)) rfl rfl (Nat.le_of_ble_eq_true rfl) ⟨by decide, by decide, by decide, by decide⟩ (fun r_71 S_71 q_71 => ?_)
    obtain ⟨M_71, N_71, rfl, k_71, rfl⟩ := q_71
    refine a_aload_n X dX6_note_74 rfl ?_
    refine a_getr X lf6_38 (by assumption) rfl (by omega) dX6_note_75 ?_
    refine a_aload_n X dX6_note_78 rfl ?_
    refine a_getr X lf6_31 (by assumption) rfl (by omega) dX6_note_79 ?_
    refine a_iload_n X dX6_note_82 rfl ?_
    refine a_callVx X dX6_note_83 miX5_hasFirst lm6_102 (s_X5_hasFirst (P := P) (by assumption) (by omega) (by assumption) (by omega)) (by assumption) rfl rfl rfl (Nat.le_of_ble_eq_true rfl) ⟨by decide, by decide, by decide, by decide⟩ (fun r_83 S_83 q_83 => ?_)
    obtain ⟨rfl, ⟨v_83, rfl, b_83⟩⟩ := q_83
    refine a_if_eq (tgt := 109) X dX6_note_86 (by decide) (fun h_86 => ?_) (fun h_86 => ?_)
    · exact Zw.to2 (J_109 _ _ _ _ _ (by (try dsimp only); repeat first | assumption | exact zK.rf | refine zK.zu ?_ (by omega) | refine zK.zu0 ?_ (by decide) | refine zK.zwr ?_ (by omega) | refine zK.zfil ?_ (by omega) | refine zK.zcpy ?_ (by omega) | refine zK.trans ?_ (by assumption) | dsimp only) ) rfl rfl rfl
    · refine a_aload_n X dX6_note_89 rfl ?_
      refine a_getr X lf6_15 (by assumption) rfl (by omega) dX6_note_90 ?_
      refine a_iload_n X dX6_note_93 rfl ?_
      refine a_callSNv X dX6_note_94 miX7_cell lm6_82 (c_cell (by assumption) (by first | decide | assumption)) rfl rfl (Nat.le_of_ble_eq_true rfl) ⟨by decide, by decide, by decide, by decide⟩ ?_
      refine a_if_ne (tgt := 109) X dX6_note_97 (by decide) (fun h_97 => ?_) (fun h_97 => ?_)
      · exact Zw.to2 (J_109 _ _ _ _ _ (by (try dsimp only); repeat first | assumption | exact zK.rf | refine zK.zu ?_ (by omega) | refine zK.zu0 ?_ (by decide) | refine zK.zwr ?_ (by omega) | refine zK.zfil ?_ (by omega) | refine zK.zcpy ?_ (by omega) | refine zK.trans ?_ (by assumption) | dsimp only) ) rfl rfl rfl
      · refine a_aload_n X dX6_note_100 rfl ?_
        refine a_getr X lf6_15 (by assumption) rfl (by omega) dX6_note_101 ?_
        refine a_iload_n X dX6_note_104 rfl ?_
        refine a_iload_n X dX6_note_105 rfl ?_
        refine a_callSNx X dX6_note_106 miX7_put lm6_99 (s_X7_put (P := P) (by assumption) (by first | decide | assumption) (by omega)) rfl rfl (Nat.le_of_ble_eq_true rfl) ⟨by decide, by decide, by decide, by decide⟩ (fun r_106 S_106 q_106 => ?_)
        obtain ⟨M_106, N_106, rfl, k_106, rfl⟩ := q_106
        exact Zw.to2 (J_109 _ _ _ _ _ (by (try dsimp only); repeat first | assumption | exact zK.rf | refine zK.zu ?_ (by omega) | refine zK.zu0 ?_ (by decide) | refine zK.zwr ?_ (by omega) | refine zK.zfil ?_ (by omega) | refine zK.zcpy ?_ (by omega) | refine zK.trans ?_ (by assumption) | dsimp only) ) rfl rfl rfl
  · refine a_aload_n X dX6_note_27 rfl ?_
    refine a_getr X lf6_18 (by assumption) rfl (by omega) dX6_note_28 ?_
    refine a_iload_n X dX6_note_31 rfl ?_
    refine a_iconst (v := 1) X dX6_note_32 (by decide) ?_
    refine a_callSNx X dX6_note_33 miX7_add lm6_89 (s_X7_add (P := P) (by assumption) (by first | decide | assumption) (by omega)) rfl rfl (Nat.le_of_ble_eq_true rfl) ⟨by decide, by decide, by decide, by decide⟩ (fun r_33 S_33 q_33 => ?_)
    obtain ⟨M_33, N_33, rfl, k_33, rfl⟩ := q_33
    refine a_aload_n X dX6_note_36 rfl ?_
    refine a_aload_n X dX6_note_37 rfl ?_
    refine a_geti X lf6_46 (by assumption) rfl dX6_note_38 ?_
    refine a_aload_n X dX6_note_41 rfl ?_
    refine a_getr X lf6_18 (by assumption) rfl (by omega) dX6_note_42 ?_
    refine a_iload_n X dX6_note_45 rfl ?_
    refine a_callSNv X dX6_note_46 miX7_cell lm6_82 (c_cell (by assumption) (by first | decide | assumption)) rfl rfl (Nat.le_of_ble_eq_true rfl) ⟨by decide, by decide, by decide, by decide⟩ ?_
    refine a_mmax X lm6_93 zmath1 zmath0 zmathc1 ⟨by decide, Nat.le_of_ble_eq_true rfl, by decide, by decide⟩ dX6_note_49 ?_
    refine a_puti X lf6_46 (by assumption) rfl dX6_note_52 ?_
    refine a_vret X hr dX6_note_55 ⟨by decide, by decide⟩ ?_
    subst hF
    exact ⟨_, _, rfl, (by (try dsimp only); repeat first | assumption | exact zK.rf | refine zK.zu ?_ (by omega) | refine zK.zu0 ?_ (by decide) | refine zK.zwr ?_ (by omega) | refine zK.zfil ?_ (by omega) | refine zK.zcpy ?_ (by omega) | refine zK.trans ?_ (by assumption) | dsimp only), rfl⟩
set_option maxRecDepth 100000 in
theorem s_X6_unserved {l : Launch} {G : zG} {b : Nat} {S : zS} {P : Nat} {Q : Nat} {v0 : Int32} (hQ : LX6 S.1 Q) (rQ : P < Q ∧ Q + 33 ≤ P + 200) : zM l G b yX6_unserved cX6_unserved 4 (some .int) 1 0 0 [.ref Q, .int v0] S (fun r z => z = S ∧ ∃ v : Int32, r = some (.int v)) := by
  refine zM.of miX6_unserved (Nat.le_of_ble_eq_true rfl) ?_
  intro p e s m args below meth c X hr hname
  generalize hF : ((fun r z => z = S ∧ ∃ v : Int32, r = some (.int v)) : Option Value → zS → Prop) = FQ
  change Zw p l e { frames := 1, cells := 0, slots := 0, locals := 80 * 1 } s m args below meth c G b 4 (MQ below (zQ G b FQ) args s 0 0 (fun q : Nat => b ≤ q)) 0 0 0 [some (.ref Q), some (.int v0), none, none] [] S
  obtain ⟨q_lt, q_o, q_times, q_firstWish, q_dry, q_list, q_pool, q_result⟩ := id hQ
  obtain ⟨q_list_lt, q_list_o, q_list_quota, q_list_score, q_list_guest, q_list_party, q_list_wishCount, q_list_wishes, q_list_has⟩ := id q_list
  obtain ⟨q_pool_lt, q_pool_o, q_pool_quota, q_pool_preferred, q_pool_forGuests, q_pool_applicantOf, q_pool_size, q_pool_guestCount, q_pool_score, q_pool_tickets, q_pool_bits, q_pool_party, q_pool_wishCount, q_pool_wishes⟩ := id q_pool
  obtain ⟨q_result_lt, q_result_o, q_result_line, q_result_unitOf, q_result_roundOf, q_result_leftTags, q_result_leftGuests, q_result_leftPreferred, q_result_ranked⟩ := id q_result
  have L_4 : ∀ u : Nat, ∀ (x1_4 : Int32) (x2_4 : Int32) (x3_4 : Int32), (2147483648 - x3_4.toInt).toNat < u → Zw p l e { frames := 1, cells := 0, slots := 0, locals := 80 * 1 } s m args below meth c G b 4 (MQ below (zQ G b FQ) args s 0 0 (fun q : Nat => b ≤ q)) 0 0 4 [some (.ref (Q)), some (.int x1_4), some (.int x2_4), some (.int x3_4)] [] S := by
    intro u
    induction u with
    | zero => intro x1_4 x2_4 x3_4 hm_4; exact absurd hm_4 (Nat.not_lt_zero _)
    | succ u_4 ih_4 =>
      intro x1_4 x2_4 x3_4 hm_4
      have J_28 : ∀ (x1_28 : Int32) (x2_28 : Int32) (x3_28 : Int32) (y0_28 : Int32) (y1_28 : Int32), ((2147483648 - x3_28.toInt).toNat < u_4 + 1) → (x3_28.toInt < 2147483647) → Zw p l e { frames := 1, cells := 0, slots := 0, locals := 80 * 1 } s m args below meth c G b 4 (MQ below (zQ G b FQ) args s 0 0 (fun q : Nat => b ≤ q)) 0 0 28 [some (.ref (Q)), some (.int x1_28), some (.int x2_28), some (.int x3_28)] [(.int y1_28), (.int y0_28)] S := by
        intro x1_28 x2_28 x3_28 y0_28 y1_28 f0_28 f1_28
        refine a_ior X dX6_unserved_28 ?_
        refine a_istore_n X dX6_unserved_29 (by decide) ?_
        refine a_iinc X dX6_unserved_30 (by decide) rfl rfl ?_
        refine a_goto (tgt := 4) X dX6_unserved_33 (by decide) ?_
        exact Zw.to2 (ih_4 _ _ _  (z_up f1_28 f0_28)) rfl rfl rfl
      refine a_iload_n X dX6_unserved_4 rfl ?_
      refine a_iload_n X dX6_unserved_5 rfl ?_
      refine a_icmp_ge (tgt := 36) X dX6_unserved_6 (by decide) (fun h_6 => ?_) (fun h_6 => ?_)
      · refine a_iload_n X dX6_unserved_36 rfl ?_
        refine a_iret X hr dX6_unserved_37 ⟨by decide, by decide⟩ ?_
        subst hF
        exact ⟨rfl, ⟨_, rfl⟩⟩
      · refine a_iload_n X dX6_unserved_9 rfl ?_
        refine a_aload_n X dX6_unserved_10 rfl ?_
        refine a_getr X lf6_9 (by assumption) rfl (by omega) dX6_unserved_11 ?_
        refine a_iload_n X dX6_unserved_14 rfl ?_
        refine a_callSNv X dX6_unserved_15 miX7_cell lm6_82 (c_cell (by assumption) (by first | decide | assumption)) rfl rfl (Nat.le_of_ble_eq_true rfl) ⟨by decide, by decide, by decide, by decide⟩ ?_
        refine a_if_ne (tgt := 27) X dX6_unserved_18 (by decide) (fun h_18 => ?_) (fun h_18 => ?_)
        · refine a_iconst (v := 0) X dX6_unserved_27 (by decide) ?_
          exact Zw.to2 (J_28 _ _ _ _ _ hm_4 (by first | assumption | exact z_lt (by assumption) | exact z_lt2 (by assumption))) rfl rfl rfl
        · refine a_iconst (v := 1) X dX6_unserved_21 (by decide) ?_
          refine a_iload_n X dX6_unserved_22 rfl ?_
          refine a_ishl X dX6_unserved_23 ?_
          refine a_goto (tgt := 28) X dX6_unserved_24 (by decide) ?_
          exact Zw.to2 (J_28 _ _ _ _ _ hm_4 (by first | assumption | exact z_lt (by assumption) | exact z_lt2 (by assumption))) rfl rfl rfl
  have H_4 : ∀ (x1_4 : Int32) (x2_4 : Int32) (x3_4 : Int32), Zw p l e { frames := 1, cells := 0, slots := 0, locals := 80 * 1 } s m args below meth c G b 4 (MQ below (zQ G b FQ) args s 0 0 (fun q : Nat => b ≤ q)) 0 0 4 [some (.ref (Q)), some (.int x1_4), some (.int x2_4), some (.int x3_4)] [] S := fun x1_4 x2_4 x3_4  => L_4 _ x1_4 x2_4 x3_4  (Nat.lt_succ_self _)
  refine a_iconst (v := 0) X dX6_unserved_0 (by decide) ?_
  refine a_istore_n X dX6_unserved_1 (by decide) ?_
  refine a_iconst (v := 0) X dX6_unserved_2 (by decide) ?_
  refine a_istore_n X dX6_unserved_3 (by decide) ?_
  exact Zw.to2 (H_4 _ _ _ ) rfl rfl rfl
set_option maxRecDepth 100000 in
theorem s_X3_isBlank {l : Launch} {G : zG} {b : Nat} {S : zS} {P : Nat} {v0 : Int32}  : zM l G b yX3_isBlank cX3_isBlank 1 (some .boolean) 0 0 0 [.int v0] S (fun r z => z = S ∧ ∃ v : Int32, r = some (.int v) ∧ (v = 0 ∨ v = 1)) := by
  refine zM.of miX3_isBlank (Nat.le_of_ble_eq_true rfl) ?_
  intro p e s m args below meth c X hr hname
  generalize hF : ((fun r z => z = S ∧ ∃ v : Int32, r = some (.int v) ∧ (v = 0 ∨ v = 1)) : Option Value → zS → Prop) = FQ
  change Zw p l e { frames := 0, cells := 0, slots := 0, locals := 80 * 0 } s m args below meth c G b 1 (MQ below (zQ G b FQ) args s 0 0 (fun q : Nat => b ≤ q)) 0 0 0 [some (.int v0)] [] S
  have J_17 : ∀ (x0_17 : Int32) (y0_17 : Int32), (y0_17 = 0 ∨ y0_17 = 1) → Zw p l e { frames := 0, cells := 0, slots := 0, locals := 80 * 0 } s m args below meth c G b 1 (MQ below (zQ G b FQ) args s 0 0 (fun q : Nat => b ≤ q)) 0 0 17 [some (.int x0_17)] [(.int y0_17)] S := by
    intro x0_17 y0_17 f0_17
    refine a_zret X (by first | exact Or.inl rfl | exact Or.inr rfl | assumption) hr dX3_isBlank_17 ⟨by decide, by decide⟩ ?_
    subst hF
    exact ⟨rfl, ⟨_, rfl, (by first | exact Or.inl rfl | exact Or.inr rfl | assumption)⟩⟩
  have J_12 : ∀ (x0_12 : Int32), Zw p l e { frames := 0, cells := 0, slots := 0, locals := 80 * 0 } s m args below meth c G b 1 (MQ below (zQ G b FQ) args s 0 0 (fun q : Nat => b ≤ q)) 0 0 12 [some (.int x0_12)] [] S := by
    intro x0_12
    refine a_iconst (v := 1) X dX3_isBlank_12 (by decide) ?_
    refine a_goto (tgt := 17) X dX3_isBlank_13 (by decide) ?_
    exact Zw.to2 (J_17 _ _ (by first | exact Or.inl rfl | exact Or.inr rfl | assumption)) rfl rfl rfl
  refine a_iload_n X dX3_isBlank_0 rfl ?_
  refine a_bipush (v := 10) X dX3_isBlank_1 (by decide) ?_
  refine a_icmp_eq (tgt := 12) X dX3_isBlank_3 (by decide) (fun h_3 => ?_) (fun h_3 => ?_)
  · exact Zw.to2 (J_12 _ ) rfl rfl rfl
  · refine a_iload_n X dX3_isBlank_6 rfl ?_
    refine a_bipush (v := 32) X dX3_isBlank_7 (by decide) ?_
    refine a_icmp_ne (tgt := 16) X dX3_isBlank_9 (by decide) (fun h_9 => ?_) (fun h_9 => ?_)
    · refine a_iconst (v := 0) X dX3_isBlank_16 (by decide) ?_
      exact Zw.to2 (J_17 _ _ (by first | exact Or.inl rfl | exact Or.inr rfl | assumption)) rfl rfl rfl
    · exact Zw.to2 (J_12 _ ) rfl rfl rfl
set_option maxRecDepth 100000 in
theorem s_X3_isLetter {l : Launch} {G : zG} {b : Nat} {S : zS} {P : Nat} {v0 : Int32}  : zM l G b yX3_isLetter cX3_isLetter 1 (some .boolean) 0 0 0 [.int v0] S (fun r z => z = S ∧ ∃ v : Int32, r = some (.int v) ∧ (v = 0 ∨ v = 1)) := by
  refine zM.of miX3_isLetter (Nat.le_of_ble_eq_true rfl) ?_
  intro p e s m args below meth c X hr hname
  generalize hF : ((fun r z => z = S ∧ ∃ v : Int32, r = some (.int v) ∧ (v = 0 ∨ v = 1)) : Option Value → zS → Prop) = FQ
  change Zw p l e { frames := 0, cells := 0, slots := 0, locals := 80 * 0 } s m args below meth c G b 1 (MQ below (zQ G b FQ) args s 0 0 (fun q : Nat => b ≤ q)) 0 0 0 [some (.int v0)] [] S
  have J_17 : ∀ (x0_17 : Int32) (y0_17 : Int32), (y0_17 = 0 ∨ y0_17 = 1) → Zw p l e { frames := 0, cells := 0, slots := 0, locals := 80 * 0 } s m args below meth c G b 1 (MQ below (zQ G b FQ) args s 0 0 (fun q : Nat => b ≤ q)) 0 0 17 [some (.int x0_17)] [(.int y0_17)] S := by
    intro x0_17 y0_17 f0_17
    refine a_zret X (by first | exact Or.inl rfl | exact Or.inr rfl | assumption) hr dX3_isLetter_17 ⟨by decide, by decide⟩ ?_
    subst hF
    exact ⟨rfl, ⟨_, rfl, (by first | exact Or.inl rfl | exact Or.inr rfl | assumption)⟩⟩
  have J_16 : ∀ (x0_16 : Int32), Zw p l e { frames := 0, cells := 0, slots := 0, locals := 80 * 0 } s m args below meth c G b 1 (MQ below (zQ G b FQ) args s 0 0 (fun q : Nat => b ≤ q)) 0 0 16 [some (.int x0_16)] [] S := by
    intro x0_16
    refine a_iconst (v := 0) X dX3_isLetter_16 (by decide) ?_
    exact Zw.to2 (J_17 _ _ (by first | exact Or.inl rfl | exact Or.inr rfl | assumption)) rfl rfl rfl
  refine a_iload_n X dX3_isLetter_0 rfl ?_
  refine a_bipush (v := 97) X dX3_isLetter_1 (by decide) ?_
  refine a_icmp_lt (tgt := 16) X dX3_isLetter_3 (by decide) (fun h_3 => ?_) (fun h_3 => ?_)
  · exact Zw.to2 (J_16 _ ) rfl rfl rfl
  · refine a_iload_n X dX3_isLetter_6 rfl ?_
    refine a_bipush (v := 122) X dX3_isLetter_7 (by decide) ?_
    refine a_icmp_gt (tgt := 16) X dX3_isLetter_9 (by decide) (fun h_9 => ?_) (fun h_9 => ?_)
    · exact Zw.to2 (J_16 _ ) rfl rfl rfl
    · refine a_iconst (v := 1) X dX3_isLetter_12 (by decide) ?_
      refine a_goto (tgt := 17) X dX3_isLetter_13 (by decide) ?_
      exact Zw.to2 (J_17 _ _ (by first | exact Or.inl rfl | exact Or.inr rfl | assumption)) rfl rfl rfl
set_option maxRecDepth 100000 in
theorem s_X3_isDigit {l : Launch} {G : zG} {b : Nat} {S : zS} {P : Nat} {v0 : Int32}  : zM l G b yX3_isDigit cX3_isDigit 1 (some .boolean) 0 0 0 [.int v0] S (fun r z => z = S ∧ ∃ v : Int32, r = some (.int v) ∧ (v = 0 ∨ v = 1)) := by
  refine zM.of miX3_isDigit (Nat.le_of_ble_eq_true rfl) ?_
  intro p e s m args below meth c X hr hname
  generalize hF : ((fun r z => z = S ∧ ∃ v : Int32, r = some (.int v) ∧ (v = 0 ∨ v = 1)) : Option Value → zS → Prop) = FQ
  change Zw p l e { frames := 0, cells := 0, slots := 0, locals := 80 * 0 } s m args below meth c G b 1 (MQ below (zQ G b FQ) args s 0 0 (fun q : Nat => b ≤ q)) 0 0 0 [some (.int v0)] [] S
  have J_17 : ∀ (x0_17 : Int32) (y0_17 : Int32), (y0_17 = 0 ∨ y0_17 = 1) → Zw p l e { frames := 0, cells := 0, slots := 0, locals := 80 * 0 } s m args below meth c G b 1 (MQ below (zQ G b FQ) args s 0 0 (fun q : Nat => b ≤ q)) 0 0 17 [some (.int x0_17)] [(.int y0_17)] S := by
    intro x0_17 y0_17 f0_17
    refine a_zret X (by first | exact Or.inl rfl | exact Or.inr rfl | assumption) hr dX3_isDigit_17 ⟨by decide, by decide⟩ ?_
    subst hF
    exact ⟨rfl, ⟨_, rfl, (by first | exact Or.inl rfl | exact Or.inr rfl | assumption)⟩⟩
  have J_16 : ∀ (x0_16 : Int32), Zw p l e { frames := 0, cells := 0, slots := 0, locals := 80 * 0 } s m args below meth c G b 1 (MQ below (zQ G b FQ) args s 0 0 (fun q : Nat => b ≤ q)) 0 0 16 [some (.int x0_16)] [] S := by
    intro x0_16
    refine a_iconst (v := 0) X dX3_isDigit_16 (by decide) ?_
    exact Zw.to2 (J_17 _ _ (by first | exact Or.inl rfl | exact Or.inr rfl | assumption)) rfl rfl rfl
  refine a_iload_n X dX3_isDigit_0 rfl ?_
  refine a_bipush (v := 48) X dX3_isDigit_1 (by decide) ?_
  refine a_icmp_lt (tgt := 16) X dX3_isDigit_3 (by decide) (fun h_3 => ?_) (fun h_3 => ?_)
  · exact Zw.to2 (J_16 _ ) rfl rfl rfl
  · refine a_iload_n X dX3_isDigit_6 rfl ?_
    refine a_bipush (v := 57) X dX3_isDigit_7 (by decide) ?_
    refine a_icmp_gt (tgt := 16) X dX3_isDigit_9 (by decide) (fun h_9 => ?_) (fun h_9 => ?_)
    · exact Zw.to2 (J_16 _ ) rfl rfl rfl
    · refine a_iconst (v := 1) X dX3_isDigit_12 (by decide) ?_
      refine a_goto (tgt := 17) X dX3_isDigit_13 (by decide) ?_
      exact Zw.to2 (J_17 _ _ (by first | exact Or.inl rfl | exact Or.inr rfl | assumption)) rfl rfl rfl
set_option maxRecDepth 100000 in
theorem s_X3_find {l : Launch} {G : zG} {b : Nat} {S : zS} {P : Nat} {Q : Nat} {nQ : Nat} {v0 : Int32} {v1 : Int64} (hQ : S.1[Q]? = some (3, nQ, [])) (lQ : nQ < 2 ^ 31) : zM l G b yX3_find cX3_find 5 (some .int) 1 0 0 [.ref Q, .int v0, .long v1] S (fun r z => z = S ∧ ∃ v : Int32, r = some (.int v)) := by
  refine zM.of miX3_find (Nat.le_of_ble_eq_true rfl) ?_
  intro p e s m args below meth c X hr hname
  generalize hF : ((fun r z => z = S ∧ ∃ v : Int32, r = some (.int v)) : Option Value → zS → Prop) = FQ
  change Zw p l e { frames := 1, cells := 0, slots := 0, locals := 80 * 1 } s m args below meth c G b 5 (MQ below (zQ G b FQ) args s 0 0 (fun q : Nat => b ≤ q)) 0 0 0 [some (.ref Q), some (.int v0), some (.long v1), none, none] [] S
  have L_3 : ∀ u : Nat, ∀ (x1_3 : Int32) (x2_3 : Int64) (x4_3 : Int32), (2147483648 - x4_3.toInt).toNat < u → Zw p l e { frames := 1, cells := 0, slots := 0, locals := 80 * 1 } s m args below meth c G b 5 (MQ below (zQ G b FQ) args s 0 0 (fun q : Nat => b ≤ q)) 0 0 3 [some (.ref (Q)), some (.int x1_3), some (.long x2_3), none, some (.int x4_3)] [] S := by
    intro u
    induction u with
    | zero => intro x1_3 x2_3 x4_3 hm_3; exact absurd hm_3 (Nat.not_lt_zero _)
    | succ u_3 ih_3 =>
      intro x1_3 x2_3 x4_3 hm_3
      refine a_iload X dX3_find_3 rfl ?_
      refine a_iload_n X dX3_find_5 rfl ?_
      refine a_icmp_ge (tgt := 29) X dX3_find_6 (by decide) (fun h_6 => ?_) (fun h_6 => ?_)
      · refine a_iconst (v := -1) X dX3_find_29 (by decide) ?_
        refine a_iret X hr dX3_find_30 ⟨by decide, by decide⟩ ?_
        subst hF
        exact ⟨rfl, ⟨_, rfl⟩⟩
      · refine a_aload_n X dX3_find_9 rfl ?_
        refine a_iload X dX3_find_10 rfl ?_
        refine a_callSNv X dX3_find_12 miX7_bigCell lm3_246 (c_bigCell (by assumption) (by first | decide | assumption)) rfl rfl (Nat.le_of_ble_eq_true rfl) ⟨by decide, by decide, by decide, by decide⟩ ?_
        refine a_lload_n X dX3_find_15 rfl ?_
        refine a_lcmp X dX3_find_16 ?_
        refine a_if_ne (tgt := 23) X dX3_find_17 (by decide) (fun h_17 => ?_) (fun h_17 => ?_)
        · refine a_iinc X dX3_find_23 (by decide) rfl rfl ?_
          refine a_goto (tgt := 3) X dX3_find_26 (by decide) ?_
          exact Zw.to2 (ih_3 _ _ _  (z_up (by first | assumption | exact z_lt (by assumption) | exact z_lt2 (by assumption)) hm_3)) rfl rfl rfl
        · refine a_iload X dX3_find_20 rfl ?_
          refine a_iret X hr dX3_find_22 ⟨by decide, by decide⟩ ?_
          subst hF
          exact ⟨rfl, ⟨_, rfl⟩⟩
  have H_3 : ∀ (x1_3 : Int32) (x2_3 : Int64) (x4_3 : Int32), Zw p l e { frames := 1, cells := 0, slots := 0, locals := 80 * 1 } s m args below meth c G b 5 (MQ below (zQ G b FQ) args s 0 0 (fun q : Nat => b ≤ q)) 0 0 3 [some (.ref (Q)), some (.int x1_3), some (.long x2_3), none, some (.int x4_3)] [] S := fun x1_3 x2_3 x4_3  => L_3 _ x1_3 x2_3 x4_3  (Nat.lt_succ_self _)
  refine a_iconst (v := 0) X dX3_find_0 (by decide) ?_
  refine a_istore X dX3_find_1 (by decide) ?_
  exact Zw.to2 (H_3 _ _ _ ) rfl rfl rfl
set_option maxRecDepth 100000 in
theorem s_X3_isTaken {l : Launch} {G : zG} {b : Nat} {S : zS} {P : Nat} {Q : Nat} {v0 : Int64} (hQ : LX3 S.1 Q) (rQ : P < Q ∧ Q + 14 ≤ P + 200) : zM l G b yX3_isTaken cX3_isTaken 3 (some .boolean) 2 0 0 [.ref Q, .long v0] S (fun r z => z = S ∧ ∃ v : Int32, r = some (.int v) ∧ (v = 0 ∨ v = 1)) := by
  refine zM.of miX3_isTaken (Nat.le_of_ble_eq_true rfl) ?_
  intro p e s m args below meth c X hr hname
  generalize hF : ((fun r z => z = S ∧ ∃ v : Int32, r = some (.int v) ∧ (v = 0 ∨ v = 1)) : Option Value → zS → Prop) = FQ
  change Zw p l e { frames := 2, cells := 0, slots := 0, locals := 80 * 2 } s m args below meth c G b 3 (MQ below (zQ G b FQ) args s 0 0 (fun q : Nat => b ≤ q)) 0 0 0 [some (.ref Q), some (.long v0), none] [] S
  obtain ⟨q_lt, q_o, q_draft, q_text, q_unitNames, q_hunterNames, q_partyNames, q_asked⟩ := id hQ
  obtain ⟨q_draft_lt, q_draft_o, q_draft_quota, q_draft_score, q_draft_guest, q_draft_party, q_draft_wishCount, q_draft_wishes, q_draft_has⟩ := id q_draft
  have J_62 : ∀ (x1_62 : Int64) (y0_62 : Int32), (y0_62 = 0 ∨ y0_62 = 1) → Zw p l e { frames := 2, cells := 0, slots := 0, locals := 80 * 2 } s m args below meth c G b 3 (MQ below (zQ G b FQ) args s 0 0 (fun q : Nat => b ≤ q)) 0 0 62 [some (.ref (Q)), some (.long x1_62), none] [(.int y0_62)] S := by
    intro x1_62 y0_62 f0_62
    refine a_zret X (by first | exact Or.inl rfl | exact Or.inr rfl | assumption) hr dX3_isTaken_62 ⟨by decide, by decide⟩ ?_
    subst hF
    exact ⟨rfl, ⟨_, rfl, (by first | exact Or.inl rfl | exact Or.inr rfl | assumption)⟩⟩
  have J_57 : ∀ (x1_57 : Int64), Zw p l e { frames := 2, cells := 0, slots := 0, locals := 80 * 2 } s m args below meth c G b 3 (MQ below (zQ G b FQ) args s 0 0 (fun q : Nat => b ≤ q)) 0 0 57 [some (.ref (Q)), some (.long x1_57), none] [] S := by
    intro x1_57
    refine a_iconst (v := 1) X dX3_isTaken_57 (by decide) ?_
    refine a_goto (tgt := 62) X dX3_isTaken_58 (by decide) ?_
    exact Zw.to2 (J_62 _ _ (by first | exact Or.inl rfl | exact Or.inr rfl | assumption)) rfl rfl rfl
  refine a_aload_n X dX3_isTaken_0 rfl ?_
  refine a_getr X lf3_29 (by assumption) rfl (by omega) dX3_isTaken_1 ?_
  refine a_aload_n X dX3_isTaken_4 rfl ?_
  refine a_getr X lf3_12 (by assumption) rfl (by omega) dX3_isTaken_5 ?_
  refine a_geti X lf3_142 (by assumption) rfl dX3_isTaken_8 ?_
  refine a_lload_n X dX3_isTaken_11 rfl ?_
  refine a_callSx X dX3_isTaken_12 miX3_find lm3_202 (s_X3_find (P := P) (by assumption) (by first | assumption | decide)) rfl rfl (Nat.le_of_ble_eq_true rfl) ⟨by decide, by decide, by decide, by decide⟩ (fun r_12 S_12 q_12 => ?_)
  obtain ⟨rfl, ⟨v_12, rfl⟩⟩ := q_12
  refine a_iconst (v := -1) X dX3_isTaken_15 (by decide) ?_
  refine a_icmp_ne (tgt := 57) X dX3_isTaken_16 (by decide) (fun h_16 => ?_) (fun h_16 => ?_)
  · exact Zw.to2 (J_57 _ ) rfl rfl rfl
  · refine a_aload_n X dX3_isTaken_19 rfl ?_
    refine a_getr X lf3_33 (by assumption) rfl (by omega) dX3_isTaken_20 ?_
    refine a_aload_n X dX3_isTaken_23 rfl ?_
    refine a_getr X lf3_12 (by assumption) rfl (by omega) dX3_isTaken_24 ?_
    refine a_geti X lf3_151 (by assumption) rfl dX3_isTaken_27 ?_
    refine a_lload_n X dX3_isTaken_30 rfl ?_
    refine a_callSx X dX3_isTaken_31 miX3_find lm3_202 (s_X3_find (P := P) (by assumption) (by first | assumption | decide)) rfl rfl (Nat.le_of_ble_eq_true rfl) ⟨by decide, by decide, by decide, by decide⟩ (fun r_31 S_31 q_31 => ?_)
    obtain ⟨rfl, ⟨v_31, rfl⟩⟩ := q_31
    refine a_iconst (v := -1) X dX3_isTaken_34 (by decide) ?_
    refine a_icmp_ne (tgt := 57) X dX3_isTaken_35 (by decide) (fun h_35 => ?_) (fun h_35 => ?_)
    · exact Zw.to2 (J_57 _ ) rfl rfl rfl
    · refine a_aload_n X dX3_isTaken_38 rfl ?_
      refine a_getr X lf3_36 (by assumption) rfl (by omega) dX3_isTaken_39 ?_
      refine a_aload_n X dX3_isTaken_42 rfl ?_
      refine a_getr X lf3_12 (by assumption) rfl (by omega) dX3_isTaken_43 ?_
      refine a_geti X lf3_157 (by assumption) rfl dX3_isTaken_46 ?_
      refine a_lload_n X dX3_isTaken_49 rfl ?_
      refine a_callSx X dX3_isTaken_50 miX3_find lm3_202 (s_X3_find (P := P) (by assumption) (by first | assumption | decide)) rfl rfl (Nat.le_of_ble_eq_true rfl) ⟨by decide, by decide, by decide, by decide⟩ (fun r_50 S_50 q_50 => ?_)
      obtain ⟨rfl, ⟨v_50, rfl⟩⟩ := q_50
      refine a_iconst (v := -1) X dX3_isTaken_53 (by decide) ?_
      refine a_icmp_eq (tgt := 61) X dX3_isTaken_54 (by decide) (fun h_54 => ?_) (fun h_54 => ?_)
      · refine a_iconst (v := 0) X dX3_isTaken_61 (by decide) ?_
        exact Zw.to2 (J_62 _ _ (by first | exact Or.inl rfl | exact Or.inr rfl | assumption)) rfl rfl rfl
      · exact Zw.to2 (J_57 _ ) rfl rfl rfl
set_option maxRecDepth 100000 in
theorem s_X3_isFree {l : Launch} {G : zG} {b : Nat} {S : zS} {P : Nat} {Q : Nat} {v0 : Int32} (hQ : LX3 S.1 Q) (rQ : P < Q ∧ Q + 14 ≤ P + 200) : zM l G b yX3_isFree cX3_isFree 2 (some .boolean) 1 0 0 [.ref Q, .int v0] S (fun r z => z = S ∧ ∃ v : Int32, r = some (.int v) ∧ (v = 0 ∨ v = 1)) := by
  refine zM.of miX3_isFree (Nat.le_of_ble_eq_true rfl) ?_
  intro p e s m args below meth c X hr hname
  generalize hF : ((fun r z => z = S ∧ ∃ v : Int32, r = some (.int v) ∧ (v = 0 ∨ v = 1)) : Option Value → zS → Prop) = FQ
  change Zw p l e { frames := 1, cells := 0, slots := 0, locals := 80 * 1 } s m args below meth c G b 2 (MQ below (zQ G b FQ) args s 0 0 (fun q : Nat => b ≤ q)) 0 0 0 [some (.ref Q), some (.int v0)] [] S
  obtain ⟨q_lt, q_o, q_draft, q_text, q_unitNames, q_hunterNames, q_partyNames, q_asked⟩ := id hQ
  obtain ⟨q_draft_lt, q_draft_o, q_draft_quota, q_draft_score, q_draft_guest, q_draft_party, q_draft_wishCount, q_draft_wishes, q_draft_has⟩ := id q_draft
  have J_39 : ∀ (x1_39 : Int32) (y0_39 : Int32), (y0_39 = 0 ∨ y0_39 = 1) → Zw p l e { frames := 1, cells := 0, slots := 0, locals := 80 * 1 } s m args below meth c G b 2 (MQ below (zQ G b FQ) args s 0 0 (fun q : Nat => b ≤ q)) 0 0 39 [some (.ref (Q)), some (.int x1_39)] [(.int y0_39)] S := by
    intro x1_39 y0_39 f0_39
    refine a_zret X (by first | exact Or.inl rfl | exact Or.inr rfl | assumption) hr dX3_isFree_39 ⟨by decide, by decide⟩ ?_
    subst hF
    exact ⟨rfl, ⟨_, rfl, (by first | exact Or.inl rfl | exact Or.inr rfl | assumption)⟩⟩
  have J_38 : ∀ (x1_38 : Int32), Zw p l e { frames := 1, cells := 0, slots := 0, locals := 80 * 1 } s m args below meth c G b 2 (MQ below (zQ G b FQ) args s 0 0 (fun q : Nat => b ≤ q)) 0 0 38 [some (.ref (Q)), some (.int x1_38)] [] S := by
    intro x1_38
    refine a_iconst (v := 0) X dX3_isFree_38 (by decide) ?_
    exact Zw.to2 (J_39 _ _ (by first | exact Or.inl rfl | exact Or.inr rfl | assumption)) rfl rfl rfl
  refine a_iload_n X dX3_isFree_0 rfl ?_
  refine a_iconst (v := -1) X dX3_isFree_1 (by decide) ?_
  refine a_icmp_eq (tgt := 38) X dX3_isFree_2 (by decide) (fun h_2 => ?_) (fun h_2 => ?_)
  · exact Zw.to2 (J_38 _ ) rfl rfl rfl
  · refine a_aload_n X dX3_isFree_5 rfl ?_
    refine a_getr X lf3_12 (by assumption) rfl (by omega) dX3_isFree_6 ?_
    refine a_getr X lf3_250 (by assumption) rfl (by omega) dX3_isFree_9 ?_
    refine a_iload_n X dX3_isFree_12 rfl ?_
    refine a_callSNv X dX3_isFree_13 miX7_cell lm3_81 (c_cell (by assumption) (by first | decide | assumption)) rfl rfl (Nat.le_of_ble_eq_true rfl) ⟨by decide, by decide, by decide, by decide⟩ ?_
    refine a_iconst (v := -1) X dX3_isFree_16 (by decide) ?_
    refine a_icmp_ne (tgt := 38) X dX3_isFree_17 (by decide) (fun h_17 => ?_) (fun h_17 => ?_)
    · exact Zw.to2 (J_38 _ ) rfl rfl rfl
    · refine a_aload_n X dX3_isFree_20 rfl ?_
      refine a_getr X lf3_12 (by assumption) rfl (by omega) dX3_isFree_21 ?_
      refine a_getr X lf3_252 (by assumption) rfl (by omega) dX3_isFree_24 ?_
      refine a_iload_n X dX3_isFree_27 rfl ?_
      refine a_callSNv X dX3_isFree_28 miX7_cell lm3_81 (c_cell (by assumption) (by first | decide | assumption)) rfl rfl (Nat.le_of_ble_eq_true rfl) ⟨by decide, by decide, by decide, by decide⟩ ?_
      refine a_if_ne (tgt := 38) X dX3_isFree_31 (by decide) (fun h_31 => ?_) (fun h_31 => ?_)
      · exact Zw.to2 (J_38 _ ) rfl rfl rfl
      · refine a_iconst (v := 1) X dX3_isFree_34 (by decide) ?_
        refine a_goto (tgt := 39) X dX3_isFree_35 (by decide) ?_
        exact Zw.to2 (J_39 _ _ (by first | exact Or.inl rfl | exact Or.inr rfl | assumption)) rfl rfl rfl
set_option maxRecDepth 100000 in
theorem s_X3_asker {l : Launch} {G : zG} {b : Nat} {S : zS} {P : Nat} {Q : Nat} (hQ : LX3 S.1 Q) (rQ : P < Q ∧ Q + 14 ≤ P + 200) : zM l G b yX3_asker cX3_asker 5 (some .int) 2 0 0 [.ref Q] S (fun r z => z = S ∧ ∃ v : Int32, r = some (.int v)) := by
  refine zM.of miX3_asker (Nat.le_of_ble_eq_true rfl) ?_
  intro p e s m args below meth c X hr hname
  generalize hF : ((fun r z => z = S ∧ ∃ v : Int32, r = some (.int v)) : Option Value → zS → Prop) = FQ
  change Zw p l e { frames := 2, cells := 0, slots := 0, locals := 80 * 2 } s m args below meth c G b 5 (MQ below (zQ G b FQ) args s 0 0 (fun q : Nat => b ≤ q)) 0 0 0 [some (.ref Q), none, none, none, none] [] S
  obtain ⟨q_lt, q_o, q_draft, q_text, q_unitNames, q_hunterNames, q_partyNames, q_asked⟩ := id hQ
  obtain ⟨q_draft_lt, q_draft_o, q_draft_quota, q_draft_score, q_draft_guest, q_draft_party, q_draft_wishCount, q_draft_wishes, q_draft_has⟩ := id q_draft
  have J_116 : ∀ (x1_116 : Int32) (x2_116 : Int32) (x3_116 : Int32) (x4_116 : Int32), Zw p l e { frames := 2, cells := 0, slots := 0, locals := 80 * 2 } s m args below meth c G b 5 (MQ below (zQ G b FQ) args s 0 0 (fun q : Nat => b ≤ q)) 0 0 116 [some (.ref (Q)), some (.int x1_116), some (.int x2_116), some (.int x3_116), some (.int x4_116)] [] S := by
    intro x1_116 x2_116 x3_116 x4_116
    refine a_iload_n X dX3_asker_116 rfl ?_
    refine a_iret X hr dX3_asker_117 ⟨by decide, by decide⟩ ?_
    subst hF
    exact ⟨rfl, ⟨_, rfl⟩⟩
  have L_55 : ∀ u : Nat, ∀ (x1_55 : Int32) (x2_55 : Int32) (x3_55 : Int32) (x4_55 : Int32), (2147483648 - x4_55.toInt).toNat < u → Zw p l e { frames := 2, cells := 0, slots := 0, locals := 80 * 2 } s m args below meth c G b 5 (MQ below (zQ G b FQ) args s 0 0 (fun q : Nat => b ≤ q)) 0 0 55 [some (.ref (Q)), some (.int x1_55), some (.int x2_55), some (.int x3_55), some (.int x4_55)] [] S := by
    intro u
    induction u with
    | zero => intro x1_55 x2_55 x3_55 x4_55 hm_55; exact absurd hm_55 (Nat.not_lt_zero _)
    | succ u_55 ih_55 =>
      intro x1_55 x2_55 x3_55 x4_55 hm_55
      have J_110 : ∀ (x1_110 : Int32) (x2_110 : Int32) (x3_110 : Int32) (x4_110 : Int32), ((2147483648 - x4_110.toInt).toNat < u_55 + 1) → (x4_110.toInt < 2147483647) → Zw p l e { frames := 2, cells := 0, slots := 0, locals := 80 * 2 } s m args below meth c G b 5 (MQ below (zQ G b FQ) args s 0 0 (fun q : Nat => b ≤ q)) 0 0 110 [some (.ref (Q)), some (.int x1_110), some (.int x2_110), some (.int x3_110), some (.int x4_110)] [] S := by
        intro x1_110 x2_110 x3_110 x4_110 f0_110 f1_110
        refine a_iinc X dX3_asker_110 (by decide) rfl rfl ?_
        refine a_goto (tgt := 55) X dX3_asker_113 (by decide) ?_
        exact Zw.to2 (ih_55 _ _ _ _  (z_up f1_110 f0_110)) rfl rfl rfl
      refine a_iload_n X dX3_asker_55 rfl ?_
      refine a_iconst (v := -1) X dX3_asker_56 (by decide) ?_
      refine a_icmp_eq (tgt := 116) X dX3_asker_57 (by decide) (fun h_57 => ?_) (fun h_57 => ?_)
      · exact Zw.to2 (J_116 _ _ _ _ ) rfl rfl rfl
      · refine a_iload X dX3_asker_60 rfl ?_
        refine a_aload_n X dX3_asker_62 rfl ?_
        refine a_getr X lf3_12 (by assumption) rfl (by omega) dX3_asker_63 ?_
        refine a_geti X lf3_151 (by assumption) rfl dX3_asker_66 ?_
        refine a_icmp_ge (tgt := 116) X dX3_asker_69 (by decide) (fun h_69 => ?_) (fun h_69 => ?_)
        · exact Zw.to2 (J_116 _ _ _ _ ) rfl rfl rfl
        · refine a_aload_n X dX3_asker_72 rfl ?_
          refine a_getr X lf3_12 (by assumption) rfl (by omega) dX3_asker_73 ?_
          refine a_getr X lf3_250 (by assumption) rfl (by omega) dX3_asker_76 ?_
          refine a_iload X dX3_asker_79 rfl ?_
          refine a_callSNv X dX3_asker_81 miX7_cell lm3_81 (c_cell (by assumption) (by first | decide | assumption)) rfl rfl (Nat.le_of_ble_eq_true rfl) ⟨by decide, by decide, by decide, by decide⟩ ?_
          refine a_iload_n X dX3_asker_84 rfl ?_
          refine a_icmp_ne (tgt := 110) X dX3_asker_85 (by decide) (fun h_85 => ?_) (fun h_85 => ?_)
          · exact Zw.to2 (J_110 _ _ _ _ hm_55 (by first | assumption | exact z_lt (by assumption) | exact z_lt2 (by assumption))) rfl rfl rfl
          · refine a_aload_n X dX3_asker_88 rfl ?_
            refine a_getr X lf3_12 (by assumption) rfl (by omega) dX3_asker_89 ?_
            refine a_getr X lf3_252 (by assumption) rfl (by omega) dX3_asker_92 ?_
            refine a_iload X dX3_asker_95 rfl ?_
            refine a_callSNv X dX3_asker_97 miX7_cell lm3_81 (c_cell (by assumption) (by first | decide | assumption)) rfl rfl (Nat.le_of_ble_eq_true rfl) ⟨by decide, by decide, by decide, by decide⟩ ?_
            refine a_if_ne (tgt := 110) X dX3_asker_100 (by decide) (fun h_100 => ?_) (fun h_100 => ?_)
            · exact Zw.to2 (J_110 _ _ _ _ hm_55 (by first | assumption | exact z_lt (by assumption) | exact z_lt2 (by assumption))) rfl rfl rfl
            · refine a_iload_n X dX3_asker_103 rfl ?_
              refine a_iconst (v := 1) X dX3_asker_104 (by decide) ?_
              refine a_iload X dX3_asker_105 rfl ?_
              refine a_ishl X dX3_asker_107 ?_
              refine a_ior X dX3_asker_108 ?_
              refine a_istore_n X dX3_asker_109 (by decide) ?_
              exact Zw.to2 (J_110 _ _ _ _ hm_55 (by first | assumption | exact z_lt (by assumption) | exact z_lt2 (by assumption))) rfl rfl rfl
  have H_55 : ∀ (x1_55 : Int32) (x2_55 : Int32) (x3_55 : Int32) (x4_55 : Int32), Zw p l e { frames := 2, cells := 0, slots := 0, locals := 80 * 2 } s m args below meth c G b 5 (MQ below (zQ G b FQ) args s 0 0 (fun q : Nat => b ≤ q)) 0 0 55 [some (.ref (Q)), some (.int x1_55), some (.int x2_55), some (.int x3_55), some (.int x4_55)] [] S := fun x1_55 x2_55 x3_55 x4_55  => L_55 _ x1_55 x2_55 x3_55 x4_55  (Nat.lt_succ_self _)
  refine a_aload_n X dX3_asker_0 rfl ?_
  refine a_getr X lf3_33 (by assumption) rfl (by omega) dX3_asker_1 ?_
  refine a_aload_n X dX3_asker_4 rfl ?_
  refine a_getr X lf3_12 (by assumption) rfl (by omega) dX3_asker_5 ?_
  refine a_geti X lf3_151 (by assumption) rfl dX3_asker_8 ?_
  refine a_aload_n X dX3_asker_11 rfl ?_
  refine a_getl X lf3_104 (by assumption) rfl dX3_asker_12 ?_
  refine a_callSx X dX3_asker_15 miX3_find lm3_202 (s_X3_find (P := P) (by assumption) (by first | assumption | decide)) rfl rfl (Nat.le_of_ble_eq_true rfl) ⟨by decide, by decide, by decide, by decide⟩ (fun r_15 S_15 q_15 => ?_)
  obtain ⟨rfl, ⟨v_15, rfl⟩⟩ := q_15
  refine a_istore_n X dX3_asker_18 (by decide) ?_
  refine a_aload_n X dX3_asker_19 rfl ?_
  refine a_iload_n X dX3_asker_20 rfl ?_
  refine a_callVx X dX3_asker_21 miX3_isFree lm3_206 (s_X3_isFree (P := P) (by assumption) (by omega)) (by assumption) rfl rfl rfl (Nat.le_of_ble_eq_true rfl) ⟨by decide, by decide, by decide, by decide⟩ (fun r_21 S_21 q_21 => ?_)
  obtain ⟨rfl, ⟨v_21, rfl, b_21⟩⟩ := q_21
  refine a_if_eq (tgt := 31) X dX3_asker_24 (by decide) (fun h_24 => ?_) (fun h_24 => ?_)
  · refine a_aload_n X dX3_asker_31 rfl ?_
    refine a_getr X lf3_36 (by assumption) rfl (by omega) dX3_asker_32 ?_
    refine a_aload_n X dX3_asker_35 rfl ?_
    refine a_getr X lf3_12 (by assumption) rfl (by omega) dX3_asker_36 ?_
    refine a_geti X lf3_157 (by assumption) rfl dX3_asker_39 ?_
    refine a_aload_n X dX3_asker_42 rfl ?_
    refine a_getl X lf3_104 (by assumption) rfl dX3_asker_43 ?_
    refine a_callSx X dX3_asker_46 miX3_find lm3_202 (s_X3_find (P := P) (by assumption) (by first | assumption | decide)) rfl rfl (Nat.le_of_ble_eq_true rfl) ⟨by decide, by decide, by decide, by decide⟩ (fun r_46 S_46 q_46 => ?_)
    obtain ⟨rfl, ⟨v_46, rfl⟩⟩ := q_46
    refine a_istore_n X dX3_asker_49 (by decide) ?_
    refine a_iconst (v := 0) X dX3_asker_50 (by decide) ?_
    refine a_istore_n X dX3_asker_51 (by decide) ?_
    refine a_iconst (v := 0) X dX3_asker_52 (by decide) ?_
    refine a_istore X dX3_asker_53 (by decide) ?_
    exact Zw.to2 (H_55 _ _ _ _ ) rfl rfl rfl
  · refine a_iconst (v := 1) X dX3_asker_27 (by decide) ?_
    refine a_iload_n X dX3_asker_28 rfl ?_
    refine a_ishl X dX3_asker_29 ?_
    refine a_iret X hr dX3_asker_30 ⟨by decide, by decide⟩ ?_
    subst hF
    exact ⟨rfl, ⟨_, rfl⟩⟩
set_option maxRecDepth 100000 in
theorem s_X3_fail {l : Launch} {G : zG} {b : Nat} {S : zS} {P : Nat} {Q : Nat} {v0 : Int32} (hQ : LX3 S.1 Q) (rQ : P < Q ∧ Q + 14 ≤ P + 200) : zM l G b yX3_fail cX3_fail 2 (some .boolean) 0 0 0 [.ref Q, .int v0] S (fun r z => ∃ M' N', z = (S.1, M', N') ∧ zK P S.2.1 M' ∧ ∃ v : Int32, r = some (.int v) ∧ (v = 0 ∨ v = 1)) := by
  refine zM.of miX3_fail (Nat.le_of_ble_eq_true rfl) ?_
  intro p e s m args below meth c X hr hname
  generalize hF : ((fun r z => ∃ M' N', z = (S.1, M', N') ∧ zK P S.2.1 M' ∧ ∃ v : Int32, r = some (.int v) ∧ (v = 0 ∨ v = 1)) : Option Value → zS → Prop) = FQ
  change Zw p l e { frames := 0, cells := 0, slots := 0, locals := 80 * 0 } s m args below meth c G b 2 (MQ below (zQ G b FQ) args s 0 0 (fun q : Nat => b ≤ q)) 0 0 0 [some (.ref Q), some (.int v0)] [] S
  obtain ⟨q_lt, q_o, q_draft, q_text, q_unitNames, q_hunterNames, q_partyNames, q_asked⟩ := id hQ
  obtain ⟨q_draft_lt, q_draft_o, q_draft_quota, q_draft_score, q_draft_guest, q_draft_party, q_draft_wishCount, q_draft_wishes, q_draft_has⟩ := id q_draft
  have J_14 : ∀ (x1_14 : Int32) (y1_14 : Int32) (M2 : Nat → Nat → Int32) (N2 : Nat → Nat → Int64), zK P S.2.1 M2 → Zw p l e { frames := 0, cells := 0, slots := 0, locals := 80 * 0 } s m args below meth c G b 2 (MQ below (zQ G b FQ) args s 0 0 (fun q : Nat => b ≤ q)) 0 0 14 [some (.ref (Q)), some (.int x1_14)] [(.int y1_14), (.ref (Q))] (S.1, M2, N2) := by
    intro x1_14 y1_14 M2_14 N2_14 k_14
    refine a_puti X lf3_18 (by assumption) rfl dX3_fail_14 ?_
    refine a_aload_n X dX3_fail_17 rfl ?_
    refine a_aload_n X dX3_fail_18 rfl ?_
    refine a_geti X lf3_89 (by assumption) rfl dX3_fail_19 ?_
    refine a_puti X lf3_22 (by assumption) rfl dX3_fail_22 ?_
    refine a_iconst (v := 0) X dX3_fail_25 (by decide) ?_
    refine a_zret X (by first | exact Or.inl rfl | exact Or.inr rfl | assumption) hr dX3_fail_26 ⟨by decide, by decide⟩ ?_
    subst hF
    exact ⟨_, _, rfl, (by (try dsimp only); repeat first | assumption | exact zK.rf | refine zK.zu ?_ (by omega) | refine zK.zu0 ?_ (by decide) | refine zK.zwr ?_ (by omega) | refine zK.zfil ?_ (by omega) | refine zK.zcpy ?_ (by omega) | refine zK.trans ?_ (by assumption) | dsimp only), ⟨_, rfl, (by first | exact Or.inl rfl | exact Or.inr rfl | assumption)⟩⟩
  refine a_aload_n X dX3_fail_0 rfl ?_
  refine a_aload_n X dX3_fail_1 rfl ?_
  refine a_geti X lf3_74 (by assumption) rfl dX3_fail_2 ?_
  refine a_iconst (v := 4) X dX3_fail_5 (by decide) ?_
  refine a_icmp_ne (tgt := 13) X dX3_fail_6 (by decide) (fun h_6 => ?_) (fun h_6 => ?_)
  · refine a_iload_n X dX3_fail_13 rfl ?_
    exact Zw.to2 (J_14 _ _ _ _ (by (try dsimp only); repeat first | assumption | exact zK.rf | refine zK.zu ?_ (by omega) | refine zK.zu0 ?_ (by decide) | refine zK.zwr ?_ (by omega) | refine zK.zfil ?_ (by omega) | refine zK.zcpy ?_ (by omega) | refine zK.trans ?_ (by assumption) | dsimp only) ) rfl rfl rfl
  · refine a_iconst (v := 1) X dX3_fail_9 (by decide) ?_
    refine a_goto (tgt := 14) X dX3_fail_10 (by decide) ?_
    exact Zw.to2 (J_14 _ _ _ _ (by (try dsimp only); repeat first | assumption | exact zK.rf | refine zK.zu ?_ (by omega) | refine zK.zu0 ?_ (by decide) | refine zK.zwr ?_ (by omega) | refine zK.zfil ?_ (by omega) | refine zK.zcpy ?_ (by omega) | refine zK.trans ?_ (by assumption) | dsimp only) ) rfl rfl rfl
