/-- rows outside P .. P + 199 are as they were, and so is slot 1 of row P -/
def zK (P : Nat) (M M' : Nat → Nat → Int32) : Prop := (∀ a : Nat, a < P ∨ P + 200 ≤ a → M' a = M a) ∧ M' P 1 = M P 1
theorem zK.rf {P : Nat} {M : Nat → Nat → Int32} : zK P M M := ⟨fun _ _ => rfl, rfl⟩
theorem zK.trans {P : Nat} {M M' M2 : Nat → Nat → Int32} (h : zK P M M') (h' : zK P M' M2) : zK P M M2 := ⟨fun a ha => (h'.1 a ha).trans (h.1 a ha), h'.2.trans h.2⟩
theorem zK.zu {P a k : Nat} {v : Int32} {M M' : Nat → Nat → Int32} (h : zK P M M') (ha : P < a ∧ a < P + 200) : zK P M (zu M' a k v) := ⟨fun c hc => (zu_row (by omega)).trans (h.1 c hc), (zu_ne (by omega)).trans h.2⟩
theorem zK.zu0 {P k : Nat} {v : Int32} {M M' : Nat → Nat → Int32} (h : zK P M M') (hk : k ≠ 1) : zK P M (_root_.Jvm.Pilot.@@N@@.zu M' P k v) := ⟨fun c hc => (zu_row (by omega)).trans (h.1 c hc), (zu_ne (fun q => hk q.2.symm)).trans h.2⟩
theorem zK.zwr {P a n : Nat} {i v : Int32} {M M' : Nat → Nat → Int32} (h : zK P M M') (ha : P < a ∧ a < P + 200) : zK P M (zwr M' a n i v) := ⟨fun c hc => (zwr_row (by omega)).trans (h.1 c hc), by rw [zwr_row (by omega)]; exact h.2⟩
theorem zK.zfil {P a n : Nat} {v : Int32} {M M' : Nat → Nat → Int32} (h : zK P M M') (ha : P < a ∧ a < P + 200) : zK P M (zfil M' a n v) := ⟨fun c hc => (zfil_row (by omega)).trans (h.1 c hc), by rw [zfil_row (by omega)]; exact h.2⟩
theorem zK.zcpy {P a n : Nat} {f : Nat → Int32} {M M' : Nat → Nat → Int32} (h : zK P M M') (ha : P < a ∧ a < P + 200) : zK P M (zcpy M' a n f) := ⟨fun c hc => (zcpy_row (by omega)).trans (h.1 c hc), by rw [zcpy_row (by omega)]; exact h.2⟩
theorem z_lt {x E : Int32} (h : ¬ E ≤ x) : x.toInt < 2147483647 := by
  have h1 := Int32.lt_iff_toInt_lt.mp (Int32.not_le.mp h)
  have h2 := Int32.toInt_le E
  have h3 : Int32.maxValue.toInt = 2147483647 := by decide
  omega
theorem z_lt2 {x E : Int32} (h : x < E) : x.toInt < 2147483647 := z_lt (Int32.not_le.mpr h)
theorem z_lt3 {x E : Int32} (h : ¬ E < x) (hE : E.toInt < 2147483647) : x.toInt < 2147483647 := by
  have h1 := Int32.le_iff_toInt_le.mp (Int32.not_lt.mp h)
  omega
theorem z_up {x : Int32} {u : Nat} (h : x.toInt < 2147483647) (hm : (2147483648 - x.toInt).toNat < u + 1) : (2147483648 - (x + Int32.ofInt 1).toInt).toNat < u := by
  have h1 := Int32.le_toInt x
  have e1 : (Int32.ofInt 1).toInt = 1 := by decide
  rw [Int32.toInt_add, e1, Int.bmod_def]
  omega
theorem z_or01 {x y : Int32} (h : x = 0 ∨ x = 1) (h' : y = 0 ∨ y = 1) : x ||| y = 0 ∨ x ||| y = 1 := by
  rcases h with rfl | rfl <;> rcases h' with rfl | rfl <;> decide
theorem z_nzl {x : Int32} (h : ¬ x ≤ 0) : ¬ x.toInt64 = 0 := by
  have h1 := Int32.lt_iff_toInt_lt.mp (Int32.not_le.mp h)
  intro q
  have h2 := congrArg Int64.toInt q
  rw [Int32.toInt_toInt64] at h2
  have e0 : (0 : Int32).toInt = 0 := by decide
  have e1 : (0 : Int64).toInt = 0 := by decide
  omega
theorem z_gt {x : Int32} (h : ¬ x ≤ 0) : 0 < x.toInt := by
  have h1 := Int32.lt_iff_toInt_lt.mp (Int32.not_le.mp h)
  have e0 : (0 : Int32).toInt = 0 := by decide
  omega
theorem z_dn {x : Int32} {u : Nat} (h : 0 < x.toInt) (hm : x.toInt.toNat < u + 1) : (x + Int32.ofInt (-1)).toInt.toNat < u := by
  have h1 := Int32.toInt_le x
  have e1 : (Int32.ofInt (-1)).toInt = -1 := by decide
  rw [Int32.toInt_add, e1, Int.bmod_def]
  omega

theorem s_X7_put {l : Launch} {G : zG} {b : Nat} {S : zS} {P A n : Nat} {fs : List (Nat × Nat)} {i : Int32} {x : Int32} (hA : S.1[A]? = some (1, n, fs)) (hn : n < 2 ^ 31) (rA : P < A ∧ A < P + 200) : zM l G b yX7_put cX7_put 3 none 0 0 0 [.ref A, .int i, .int x] S (fun r z => ∃ M' N', z = (S.1, M', N') ∧ zK P S.2.1 M' ∧ r = none) :=
  (c_put hA hn).weaken (fun r z h => ⟨_, _, h.2, zK.rf.zwr rA, h.1⟩)
theorem s_X7_bigPut {l : Launch} {G : zG} {b : Nat} {S : zS} {P A n : Nat} {fs : List (Nat × Nat)} {i : Int32} {x : Int64} (hA : S.1[A]? = some (3, n, fs)) (hn : n < 2 ^ 31) (rA : P < A ∧ A < P + 200) : zM l G b yX7_bigPut cX7_bigPut 4 none 0 0 0 [.ref A, .int i, .long x] S (fun r z => ∃ M' N', z = (S.1, M', N') ∧ zK P S.2.1 M' ∧ r = none) :=
  (c_bigPut hA hn).weaken (fun r z h => ⟨_, _, h.2, zK.rf, h.1⟩)
theorem s_X7_add {l : Launch} {G : zG} {b : Nat} {S : zS} {P A n : Nat} {fs : List (Nat × Nat)} {i : Int32} {x : Int32} (hA : S.1[A]? = some (1, n, fs)) (hn : n < 2 ^ 31) (rA : P < A ∧ A < P + 200) : zM l G b yX7_add cX7_add 3 none 0 0 0 [.ref A, .int i, .int x] S (fun r z => ∃ M' N', z = (S.1, M', N') ∧ zK P S.2.1 M' ∧ r = none) :=
  (c_add hA hn).weaken (fun r z h => ⟨_, _, h.2, zK.rf.zwr rA, h.1⟩)
theorem s_X7_bigAdd {l : Launch} {G : zG} {b : Nat} {S : zS} {P A n : Nat} {fs : List (Nat × Nat)} {i : Int32} {x : Int64} (hA : S.1[A]? = some (3, n, fs)) (hn : n < 2 ^ 31) (rA : P < A ∧ A < P + 200) : zM l G b yX7_bigAdd cX7_bigAdd 4 none 0 0 0 [.ref A, .int i, .long x] S (fun r z => ∃ M' N', z = (S.1, M', N') ∧ zK P S.2.1 M' ∧ r = none) :=
  (c_bigAdd hA hn).weaken (fun r z h => ⟨_, _, h.2, zK.rf, h.1⟩)
theorem s_X7_fill {l : Launch} {G : zG} {b : Nat} {S : zS} {P A n : Nat} {fs : List (Nat × Nat)} {x : Int32} (hA : S.1[A]? = some (1, n, fs)) (hn : n < 2 ^ 31) (rA : P < A ∧ A < P + 200) : zM l G b yX7_fill cX7_fill 3 none 0 0 0 [.ref A, .int x] S (fun r z => ∃ M' N', z = (S.1, M', N') ∧ zK P S.2.1 M' ∧ r = none) :=
  (c_fill hA hn).weaken (fun r z h => ⟨_, _, h.2, zK.rf.zfil rA, h.1⟩)
theorem s_X7_bigFill {l : Launch} {G : zG} {b : Nat} {S : zS} {P A n : Nat} {fs : List (Nat × Nat)} {x : Int64} (hA : S.1[A]? = some (3, n, fs)) (hn : n < 2 ^ 31) (rA : P < A ∧ A < P + 200) : zM l G b yX7_bigFill cX7_bigFill 4 none 0 0 0 [.ref A, .long x] S (fun r z => ∃ M' N', z = (S.1, M', N') ∧ zK P S.2.1 M' ∧ r = none) :=
  (c_bigFill hA hn).weaken (fun r z h => ⟨_, _, h.2, zK.rf, h.1⟩)
theorem s_X7_copy {l : Launch} {G : zG} {b : Nat} {S : zS} {P A F2 n n2 : Nat} {fs f2 : List (Nat × Nat)} (hF : S.1[F2]? = some (1, n2, f2)) (hA : S.1[A]? = some (1, n, fs)) (hn : n < 2 ^ 31) (hn2 : n2 < 2 ^ 31) (hne : F2 ≠ A) (rA : P < A ∧ A < P + 200) : zM l G b yX7_copy cX7_copy 3 none 1 0 0 [.ref F2, .ref A] S (fun r z => ∃ M' N', z = (S.1, M', N') ∧ zK P S.2.1 M' ∧ r = none) :=
  (c_copy hA hF hn hn2 hne).weaken (fun r z h => ⟨_, _, h.2, zK.rf.zcpy rA, h.1⟩)
set_option maxRecDepth 100000 in
theorem s_X2_wish {l : Launch} {G : zG} {b : Nat} {S : zS} {P : Nat} {Q : Nat} {v0 : Int32} {v1 : Int32} (hQ : LX2 S.1 Q) (rQ : P < Q ∧ Q + 13 ≤ P + 200) : zM l G b yX2_wish cX2_wish 3 (some .int) 1 0 0 [.ref Q, .int v0, .int v1] S (fun r z => z = S ∧ ∃ v : Int32, r = some (.int v)) := by
  refine zM.of miX2_wish (Nat.le_of_ble_eq_true rfl) ?_
  intro p e s m args below meth c X hr hname
  generalize hF : ((fun r z => z = S ∧ ∃ v : Int32, r = some (.int v)) : Option Value → zS → Prop) = FQ
  change Zw p l e { frames := 1, cells := 0, slots := 0, locals := 80 * 1 } s m args below meth c G b 3 (MQ below (zQ G b FQ) args s 0 0 (fun q : Nat => b ≤ q)) 0 0 0 [some (.ref Q), some (.int v0), some (.int v1)] [] S
  obtain ⟨q_lt, q_o, q_quota, q_preferred, q_forGuests, q_applicantOf, q_size, q_guestCount, q_score, q_tickets, q_bits, q_party, q_wishCount, q_wishes⟩ := id hQ
  refine a_aload_n X dX2_wish_0 rfl ?_
  refine a_getr X lf2_45 (by assumption) rfl (by omega) dX2_wish_1 ?_
  refine a_iload_n X dX2_wish_4 rfl ?_
  refine a_iconst (v := 3) X dX2_wish_5 (by decide) ?_
  refine a_imul X dX2_wish_6 ?_
  refine a_iload_n X dX2_wish_7 rfl ?_
  refine a_iadd X dX2_wish_8 ?_
  refine a_callSNv X dX2_wish_9 miX7_cell lm2_62 (c_cell (by assumption) (by first | decide | assumption)) rfl rfl (Nat.le_of_ble_eq_true rfl) ⟨by decide, by decide, by decide, by decide⟩ ?_
  refine a_iret X hr dX2_wish_12 ⟨by decide, by decide⟩ ?_
  subst hF
  exact ⟨rfl, ⟨_, rfl⟩⟩
set_option maxRecDepth 100000 in
theorem s_X2_rankOf {l : Launch} {G : zG} {b : Nat} {S : zS} {P : Nat} {Q : Nat} {v0 : Int32} {v1 : Int32} (hQ : LX2 S.1 Q) (rQ : P < Q ∧ Q + 13 ≤ P + 200) : zM l G b yX2_rankOf cX2_rankOf 4 (some .int) 2 0 0 [.ref Q, .int v0, .int v1] S (fun r z => z = S ∧ ∃ v : Int32, r = some (.int v)) := by
  refine zM.of miX2_rankOf (Nat.le_of_ble_eq_true rfl) ?_
  intro p e s m args below meth c X hr hname
  generalize hF : ((fun r z => z = S ∧ ∃ v : Int32, r = some (.int v)) : Option Value → zS → Prop) = FQ
  change Zw p l e { frames := 2, cells := 0, slots := 0, locals := 80 * 2 } s m args below meth c G b 4 (MQ below (zQ G b FQ) args s 0 0 (fun q : Nat => b ≤ q)) 0 0 0 [some (.ref Q), some (.int v0), some (.int v1), none] [] S
  obtain ⟨q_lt, q_o, q_quota, q_preferred, q_forGuests, q_applicantOf, q_size, q_guestCount, q_score, q_tickets, q_bits, q_party, q_wishCount, q_wishes⟩ := id hQ
  have L_2 : ∀ u : Nat, ∀ (x1_2 : Int32) (x2_2 : Int32) (x3_2 : Int32), (2147483648 - x3_2.toInt).toNat < u → Zw p l e { frames := 2, cells := 0, slots := 0, locals := 80 * 2 } s m args below meth c G b 4 (MQ below (zQ G b FQ) args s 0 0 (fun q : Nat => b ≤ q)) 0 0 2 [some (.ref (Q)), some (.int x1_2), some (.int x2_2), some (.int x3_2)] [] S := by
    intro u
    induction u with
    | zero => intro x1_2 x2_2 x3_2 hm_2; exact absurd hm_2 (Nat.not_lt_zero _)
    | succ u_2 ih_2 =>
      intro x1_2 x2_2 x3_2 hm_2
      refine a_iload_n X dX2_rankOf_2 rfl ?_
      refine a_aload_n X dX2_rankOf_3 rfl ?_
      refine a_getr X lf2_42 (by assumption) rfl (by omega) dX2_rankOf_4 ?_
      refine a_iload_n X dX2_rankOf_7 rfl ?_
      refine a_callSNv X dX2_rankOf_8 miX7_cell lm2_62 (c_cell (by assumption) (by first | decide | assumption)) rfl rfl (Nat.le_of_ble_eq_true rfl) ⟨by decide, by decide, by decide, by decide⟩ ?_
      refine a_icmp_ge (tgt := 32) X dX2_rankOf_11 (by decide) (fun h_11 => ?_) (fun h_11 => ?_)
      · refine a_iconst (v := -1) X dX2_rankOf_32 (by decide) ?_
        refine a_iret X hr dX2_rankOf_33 ⟨by decide, by decide⟩ ?_
        subst hF
        exact ⟨rfl, ⟨_, rfl⟩⟩
      · refine a_aload_n X dX2_rankOf_14 rfl ?_
        refine a_iload_n X dX2_rankOf_15 rfl ?_
        refine a_iload_n X dX2_rankOf_16 rfl ?_
        refine a_callVx X dX2_rankOf_17 miX2_wish lm2_115 (s_X2_wish (P := P) (by assumption) (by omega)) (by assumption) rfl rfl rfl (Nat.le_of_ble_eq_true rfl) ⟨by decide, by decide, by decide, by decide⟩ (fun r_17 S_17 q_17 => ?_)
        obtain ⟨rfl, ⟨v_17, rfl⟩⟩ := q_17
        refine a_iload_n X dX2_rankOf_20 rfl ?_
        refine a_icmp_ne (tgt := 26) X dX2_rankOf_21 (by decide) (fun h_21 => ?_) (fun h_21 => ?_)
        · refine a_iinc X dX2_rankOf_26 (by decide) rfl rfl ?_
          refine a_goto (tgt := 2) X dX2_rankOf_29 (by decide) ?_
          exact Zw.to2 (ih_2 _ _ _  (z_up (by first | assumption | exact z_lt (by assumption) | exact z_lt2 (by assumption) | exact z_lt3 (by assumption) (by decide)) hm_2)) rfl rfl rfl
        · refine a_iload_n X dX2_rankOf_24 rfl ?_
          refine a_iret X hr dX2_rankOf_25 ⟨by decide, by decide⟩ ?_
          subst hF
          exact ⟨rfl, ⟨_, rfl⟩⟩
  have H_2 : ∀ (x1_2 : Int32) (x2_2 : Int32) (x3_2 : Int32), Zw p l e { frames := 2, cells := 0, slots := 0, locals := 80 * 2 } s m args below meth c G b 4 (MQ below (zQ G b FQ) args s 0 0 (fun q : Nat => b ≤ q)) 0 0 2 [some (.ref (Q)), some (.int x1_2), some (.int x2_2), some (.int x3_2)] [] S := fun x1_2 x2_2 x3_2  => L_2 _ x1_2 x2_2 x3_2  (Nat.lt_succ_self _)
  refine a_iconst (v := 0) X dX2_rankOf_0 (by decide) ?_
  refine a_istore_n X dX2_rankOf_1 (by decide) ?_
  exact Zw.to2 (H_2 _ _ _ ) rfl rfl rfl
set_option maxRecDepth 100000 in
theorem s_X2_fits {l : Launch} {G : zG} {b : Nat} {S : zS} {P : Nat} {Q : Nat} {v0 : Int32} {v1 : Int32} {v2 : Int32} (hQ : LX2 S.1 Q) (rQ : P < Q ∧ Q + 13 ≤ P + 200) : zM l G b yX2_fits cX2_fits 4 (some .boolean) 1 0 0 [.ref Q, .int v0, .int v1, .int v2] S (fun r z => z = S ∧ ∃ v : Int32, r = some (.int v) ∧ (v = 0 ∨ v = 1)) := by
  refine zM.of miX2_fits (Nat.le_of_ble_eq_true rfl) ?_
  intro p e s m args below meth c X hr hname
  generalize hF : ((fun r z => z = S ∧ ∃ v : Int32, r = some (.int v) ∧ (v = 0 ∨ v = 1)) : Option Value → zS → Prop) = FQ
  change Zw p l e { frames := 1, cells := 0, slots := 0, locals := 80 * 1 } s m args below meth c G b 4 (MQ below (zQ G b FQ) args s 0 0 (fun q : Nat => b ≤ q)) 0 0 0 [some (.ref Q), some (.int v0), some (.int v1), some (.int v2)] [] S
  obtain ⟨q_lt, q_o, q_quota, q_preferred, q_forGuests, q_applicantOf, q_size, q_guestCount, q_score, q_tickets, q_bits, q_party, q_wishCount, q_wishes⟩ := id hQ
  have J_29 : ∀ (x1_29 : Int32) (x2_29 : Int32) (x3_29 : Int32) (y0_29 : Int32), (y0_29 = 0 ∨ y0_29 = 1) → Zw p l e { frames := 1, cells := 0, slots := 0, locals := 80 * 1 } s m args below meth c G b 4 (MQ below (zQ G b FQ) args s 0 0 (fun q : Nat => b ≤ q)) 0 0 29 [some (.ref (Q)), some (.int x1_29), some (.int x2_29), some (.int x3_29)] [(.int y0_29)] S := by
    intro x1_29 x2_29 x3_29 y0_29 f0_29
    refine a_zret X (by first | exact Or.inl rfl | exact Or.inr rfl | assumption) hr dX2_fits_29 ⟨by decide, by decide⟩ ?_
    subst hF
    exact ⟨rfl, ⟨_, rfl, (by first | exact Or.inl rfl | exact Or.inr rfl | assumption | ((try dsimp only); (repeat rw [zwr_row (by omega)]); assumption))⟩⟩
  have J_28 : ∀ (x1_28 : Int32) (x2_28 : Int32) (x3_28 : Int32), Zw p l e { frames := 1, cells := 0, slots := 0, locals := 80 * 1 } s m args below meth c G b 4 (MQ below (zQ G b FQ) args s 0 0 (fun q : Nat => b ≤ q)) 0 0 28 [some (.ref (Q)), some (.int x1_28), some (.int x2_28), some (.int x3_28)] [] S := by
    intro x1_28 x2_28 x3_28
    refine a_iconst (v := 0) X dX2_fits_28 (by decide) ?_
    exact Zw.to2 (J_29 _ _ _ _ (by first | exact Or.inl rfl | exact Or.inr rfl | assumption | ((try dsimp only); (repeat rw [zwr_row (by omega)]); assumption))) rfl rfl rfl
  refine a_aload_n X dX2_fits_0 rfl ?_
  refine a_getr X lf2_24 (by assumption) rfl (by omega) dX2_fits_1 ?_
  refine a_iload_n X dX2_fits_4 rfl ?_
  refine a_callSNv X dX2_fits_5 miX7_cell lm2_62 (c_cell (by assumption) (by first | decide | assumption)) rfl rfl (Nat.le_of_ble_eq_true rfl) ⟨by decide, by decide, by decide, by decide⟩ ?_
  refine a_iload_n X dX2_fits_8 rfl ?_
  refine a_icmp_gt (tgt := 28) X dX2_fits_9 (by decide) (fun h_9 => ?_) (fun h_9 => ?_)
  · exact Zw.to2 (J_28 _ _ _ ) rfl rfl rfl
  · refine a_aload_n X dX2_fits_12 rfl ?_
    refine a_getr X lf2_27 (by assumption) rfl (by omega) dX2_fits_13 ?_
    refine a_iload_n X dX2_fits_16 rfl ?_
    refine a_callSNv X dX2_fits_17 miX7_cell lm2_62 (c_cell (by assumption) (by first | decide | assumption)) rfl rfl (Nat.le_of_ble_eq_true rfl) ⟨by decide, by decide, by decide, by decide⟩ ?_
    refine a_iload_n X dX2_fits_20 rfl ?_
    refine a_icmp_gt (tgt := 28) X dX2_fits_21 (by decide) (fun h_21 => ?_) (fun h_21 => ?_)
    · exact Zw.to2 (J_28 _ _ _ ) rfl rfl rfl
    · refine a_iconst (v := 1) X dX2_fits_24 (by decide) ?_
      refine a_goto (tgt := 29) X dX2_fits_25 (by decide) ?_
      exact Zw.to2 (J_29 _ _ _ _ (by first | exact Or.inl rfl | exact Or.inr rfl | assumption | ((try dsimp only); (repeat rw [zwr_row (by omega)]); assumption))) rfl rfl rfl
set_option maxRecDepth 100000 in
theorem s_X2_firstApplicants {l : Launch} {G : zG} {b : Nat} {S : zS} {P : Nat} {Q : Nat} {v0 : Int32} (hQ : LX2 S.1 Q) (rQ : P < Q ∧ Q + 13 ≤ P + 200) : zM l G b yX2_firstApplicants cX2_firstApplicants 4 (some .int) 3 0 0 [.ref Q, .int v0] S (fun r z => z = S ∧ ∃ v : Int32, r = some (.int v)) := by
  refine zM.of miX2_firstApplicants (Nat.le_of_ble_eq_true rfl) ?_
  intro p e s m args below meth c X hr hname
  generalize hF : ((fun r z => z = S ∧ ∃ v : Int32, r = some (.int v)) : Option Value → zS → Prop) = FQ
  change Zw p l e { frames := 3, cells := 0, slots := 0, locals := 80 * 3 } s m args below meth c G b 4 (MQ below (zQ G b FQ) args s 0 0 (fun q : Nat => b ≤ q)) 0 0 0 [some (.ref Q), some (.int v0), none, none] [] S
  obtain ⟨q_lt, q_o, q_quota, q_preferred, q_forGuests, q_applicantOf, q_size, q_guestCount, q_score, q_tickets, q_bits, q_party, q_wishCount, q_wishes⟩ := id hQ
  have L_4 : ∀ u : Nat, ∀ (x1_4 : Int32) (x2_4 : Int32) (x3_4 : Int32), (2147483648 - x3_4.toInt).toNat < u → Zw p l e { frames := 3, cells := 0, slots := 0, locals := 80 * 3 } s m args below meth c G b 4 (MQ below (zQ G b FQ) args s 0 0 (fun q : Nat => b ≤ q)) 0 0 4 [some (.ref (Q)), some (.int x1_4), some (.int x2_4), some (.int x3_4)] [] S := by
    intro u
    induction u with
    | zero => intro x1_4 x2_4 x3_4 hm_4; exact absurd hm_4 (Nat.not_lt_zero _)
    | succ u_4 ih_4 =>
      intro x1_4 x2_4 x3_4 hm_4
      have J_27 : ∀ (x1_27 : Int32) (x2_27 : Int32) (x3_27 : Int32) (y0_27 : Int32) (y1_27 : Int32), (y1_27 = 0 ∨ y1_27 = 1) → ((2147483648 - x3_27.toInt).toNat < u_4 + 1) → (x3_27.toInt < 2147483647) → Zw p l e { frames := 3, cells := 0, slots := 0, locals := 80 * 3 } s m args below meth c G b 4 (MQ below (zQ G b FQ) args s 0 0 (fun q : Nat => b ≤ q)) 0 0 27 [some (.ref (Q)), some (.int x1_27), some (.int x2_27), some (.int x3_27)] [(.int y1_27), (.int y0_27)] S := by
        intro x1_27 x2_27 x3_27 y0_27 y1_27 f0_27 f1_27 f2_27
        refine a_iadd X dX2_firstApplicants_27 ?_
        refine a_istore_n X dX2_firstApplicants_28 (by decide) ?_
        refine a_iinc X dX2_firstApplicants_29 (by decide) rfl rfl ?_
        refine a_goto (tgt := 4) X dX2_firstApplicants_32 (by decide) ?_
        exact Zw.to2 (ih_4 _ _ _  (z_up f2_27 f1_27)) rfl rfl rfl
      refine a_iload_n X dX2_firstApplicants_4 rfl ?_
      refine a_aload_n X dX2_firstApplicants_5 rfl ?_
      refine a_geti X lf2_52 (by assumption) rfl dX2_firstApplicants_6 ?_
      refine a_icmp_ge (tgt := 35) X dX2_firstApplicants_9 (by decide) (fun h_9 => ?_) (fun h_9 => ?_)
      · refine a_iload_n X dX2_firstApplicants_35 rfl ?_
        refine a_iret X hr dX2_firstApplicants_36 ⟨by decide, by decide⟩ ?_
        subst hF
        exact ⟨rfl, ⟨_, rfl⟩⟩
      · refine a_iload_n X dX2_firstApplicants_12 rfl ?_
        refine a_aload_n X dX2_firstApplicants_13 rfl ?_
        refine a_iload_n X dX2_firstApplicants_14 rfl ?_
        refine a_iload_n X dX2_firstApplicants_15 rfl ?_
        refine a_callVx X dX2_firstApplicants_16 miX2_rankOf lm2_119 (s_X2_rankOf (P := P) (by assumption) (by omega)) (by assumption) rfl rfl rfl (Nat.le_of_ble_eq_true rfl) ⟨by decide, by decide, by decide, by decide⟩ (fun r_16 S_16 q_16 => ?_)
        obtain ⟨rfl, ⟨v_16, rfl⟩⟩ := q_16
        refine a_if_ne (tgt := 26) X dX2_firstApplicants_19 (by decide) (fun h_19 => ?_) (fun h_19 => ?_)
        · refine a_iconst (v := 0) X dX2_firstApplicants_26 (by decide) ?_
          exact Zw.to2 (J_27 _ _ _ _ _ (by first | exact Or.inl rfl | exact Or.inr rfl | assumption | ((try dsimp only); (repeat rw [zwr_row (by omega)]); assumption)) hm_4 (by first | assumption | exact z_lt (by assumption) | exact z_lt2 (by assumption) | exact z_lt3 (by assumption) (by decide))) rfl rfl rfl
        · refine a_iconst (v := 1) X dX2_firstApplicants_22 (by decide) ?_
          refine a_goto (tgt := 27) X dX2_firstApplicants_23 (by decide) ?_
          exact Zw.to2 (J_27 _ _ _ _ _ (by first | exact Or.inl rfl | exact Or.inr rfl | assumption | ((try dsimp only); (repeat rw [zwr_row (by omega)]); assumption)) hm_4 (by first | assumption | exact z_lt (by assumption) | exact z_lt2 (by assumption) | exact z_lt3 (by assumption) (by decide))) rfl rfl rfl
  have H_4 : ∀ (x1_4 : Int32) (x2_4 : Int32) (x3_4 : Int32), Zw p l e { frames := 3, cells := 0, slots := 0, locals := 80 * 3 } s m args below meth c G b 4 (MQ below (zQ G b FQ) args s 0 0 (fun q : Nat => b ≤ q)) 0 0 4 [some (.ref (Q)), some (.int x1_4), some (.int x2_4), some (.int x3_4)] [] S := fun x1_4 x2_4 x3_4  => L_4 _ x1_4 x2_4 x3_4  (Nat.lt_succ_self _)
  refine a_iconst (v := 0) X dX2_firstApplicants_0 (by decide) ?_
  refine a_istore_n X dX2_firstApplicants_1 (by decide) ?_
  refine a_iconst (v := 0) X dX2_firstApplicants_2 (by decide) ?_
  refine a_istore_n X dX2_firstApplicants_3 (by decide) ?_
  exact Zw.to2 (H_4 _ _ _ ) rfl rfl rfl
set_option maxRecDepth 100000 in
theorem s_X2_firstHunters {l : Launch} {G : zG} {b : Nat} {S : zS} {P : Nat} {Q : Nat} {v0 : Int32} (hQ : LX2 S.1 Q) (rQ : P < Q ∧ Q + 13 ≤ P + 200) : zM l G b yX2_firstHunters cX2_firstHunters 4 (some .int) 3 0 0 [.ref Q, .int v0] S (fun r z => z = S ∧ ∃ v : Int32, r = some (.int v)) := by
  refine zM.of miX2_firstHunters (Nat.le_of_ble_eq_true rfl) ?_
  intro p e s m args below meth c X hr hname
  generalize hF : ((fun r z => z = S ∧ ∃ v : Int32, r = some (.int v)) : Option Value → zS → Prop) = FQ
  change Zw p l e { frames := 3, cells := 0, slots := 0, locals := 80 * 3 } s m args below meth c G b 4 (MQ below (zQ G b FQ) args s 0 0 (fun q : Nat => b ≤ q)) 0 0 0 [some (.ref Q), some (.int v0), none, none] [] S
  obtain ⟨q_lt, q_o, q_quota, q_preferred, q_forGuests, q_applicantOf, q_size, q_guestCount, q_score, q_tickets, q_bits, q_party, q_wishCount, q_wishes⟩ := id hQ
  have L_4 : ∀ u : Nat, ∀ (x1_4 : Int32) (x2_4 : Int32) (x3_4 : Int32), (2147483648 - x3_4.toInt).toNat < u → Zw p l e { frames := 3, cells := 0, slots := 0, locals := 80 * 3 } s m args below meth c G b 4 (MQ below (zQ G b FQ) args s 0 0 (fun q : Nat => b ≤ q)) 0 0 4 [some (.ref (Q)), some (.int x1_4), some (.int x2_4), some (.int x3_4)] [] S := by
    intro u
    induction u with
    | zero => intro x1_4 x2_4 x3_4 hm_4; exact absurd hm_4 (Nat.not_lt_zero _)
    | succ u_4 ih_4 =>
      intro x1_4 x2_4 x3_4 hm_4
      have J_34 : ∀ (x1_34 : Int32) (x2_34 : Int32) (x3_34 : Int32) (y0_34 : Int32) (y1_34 : Int32), ((2147483648 - x3_34.toInt).toNat < u_4 + 1) → (x3_34.toInt < 2147483647) → Zw p l e { frames := 3, cells := 0, slots := 0, locals := 80 * 3 } s m args below meth c G b 4 (MQ below (zQ G b FQ) args s 0 0 (fun q : Nat => b ≤ q)) 0 0 34 [some (.ref (Q)), some (.int x1_34), some (.int x2_34), some (.int x3_34)] [(.int y1_34), (.int y0_34)] S := by
        intro x1_34 x2_34 x3_34 y0_34 y1_34 f0_34 f1_34
        refine a_iadd X dX2_firstHunters_34 ?_
        refine a_istore_n X dX2_firstHunters_35 (by decide) ?_
        refine a_iinc X dX2_firstHunters_36 (by decide) rfl rfl ?_
        refine a_goto (tgt := 4) X dX2_firstHunters_39 (by decide) ?_
        exact Zw.to2 (ih_4 _ _ _  (z_up f1_34 f0_34)) rfl rfl rfl
      refine a_iload_n X dX2_firstHunters_4 rfl ?_
      refine a_aload_n X dX2_firstHunters_5 rfl ?_
      refine a_geti X lf2_52 (by assumption) rfl dX2_firstHunters_6 ?_
      refine a_icmp_ge (tgt := 42) X dX2_firstHunters_9 (by decide) (fun h_9 => ?_) (fun h_9 => ?_)
      · refine a_iload_n X dX2_firstHunters_42 rfl ?_
        refine a_iret X hr dX2_firstHunters_43 ⟨by decide, by decide⟩ ?_
        subst hF
        exact ⟨rfl, ⟨_, rfl⟩⟩
      · refine a_iload_n X dX2_firstHunters_12 rfl ?_
        refine a_aload_n X dX2_firstHunters_13 rfl ?_
        refine a_iload_n X dX2_firstHunters_14 rfl ?_
        refine a_iload_n X dX2_firstHunters_15 rfl ?_
        refine a_callVx X dX2_firstHunters_16 miX2_rankOf lm2_119 (s_X2_rankOf (P := P) (by assumption) (by omega)) (by assumption) rfl rfl rfl (Nat.le_of_ble_eq_true rfl) ⟨by decide, by decide, by decide, by decide⟩ (fun r_16 S_16 q_16 => ?_)
        obtain ⟨rfl, ⟨v_16, rfl⟩⟩ := q_16
        refine a_if_ne (tgt := 33) X dX2_firstHunters_19 (by decide) (fun h_19 => ?_) (fun h_19 => ?_)
        · refine a_iconst (v := 0) X dX2_firstHunters_33 (by decide) ?_
          exact Zw.to2 (J_34 _ _ _ _ _ hm_4 (by first | assumption | exact z_lt (by assumption) | exact z_lt2 (by assumption) | exact z_lt3 (by assumption) (by decide))) rfl rfl rfl
        · refine a_aload_n X dX2_firstHunters_22 rfl ?_
          refine a_getr X lf2_24 (by assumption) rfl (by omega) dX2_firstHunters_23 ?_
          refine a_iload_n X dX2_firstHunters_26 rfl ?_
          refine a_callSNv X dX2_firstHunters_27 miX7_cell lm2_62 (c_cell (by assumption) (by first | decide | assumption)) rfl rfl (Nat.le_of_ble_eq_true rfl) ⟨by decide, by decide, by decide, by decide⟩ ?_
          refine a_goto (tgt := 34) X dX2_firstHunters_30 (by decide) ?_
          exact Zw.to2 (J_34 _ _ _ _ _ hm_4 (by first | assumption | exact z_lt (by assumption) | exact z_lt2 (by assumption) | exact z_lt3 (by assumption) (by decide))) rfl rfl rfl
  have H_4 : ∀ (x1_4 : Int32) (x2_4 : Int32) (x3_4 : Int32), Zw p l e { frames := 3, cells := 0, slots := 0, locals := 80 * 3 } s m args below meth c G b 4 (MQ below (zQ G b FQ) args s 0 0 (fun q : Nat => b ≤ q)) 0 0 4 [some (.ref (Q)), some (.int x1_4), some (.int x2_4), some (.int x3_4)] [] S := fun x1_4 x2_4 x3_4  => L_4 _ x1_4 x2_4 x3_4  (Nat.lt_succ_self _)
  refine a_iconst (v := 0) X dX2_firstHunters_0 (by decide) ?_
  refine a_istore_n X dX2_firstHunters_1 (by decide) ?_
  refine a_iconst (v := 0) X dX2_firstHunters_2 (by decide) ?_
  refine a_istore_n X dX2_firstHunters_3 (by decide) ?_
  exact Zw.to2 (H_4 _ _ _ ) rfl rfl rfl
set_option maxRecDepth 100000 in
theorem s_X2_askers {l : Launch} {G : zG} {b : Nat} {S : zS} {P : Nat} {Q : Nat} {v0 : Int32} (hQ : LX2 S.1 Q) (rQ : P < Q ∧ Q + 13 ≤ P + 200) : zM l G b yX2_askers cX2_askers 4 (some .int) 3 0 0 [.ref Q, .int v0] S (fun r z => z = S ∧ ∃ v : Int32, r = some (.int v)) := by
  refine zM.of miX2_askers (Nat.le_of_ble_eq_true rfl) ?_
  intro p e s m args below meth c X hr hname
  generalize hF : ((fun r z => z = S ∧ ∃ v : Int32, r = some (.int v)) : Option Value → zS → Prop) = FQ
  change Zw p l e { frames := 3, cells := 0, slots := 0, locals := 80 * 3 } s m args below meth c G b 4 (MQ below (zQ G b FQ) args s 0 0 (fun q : Nat => b ≤ q)) 0 0 0 [some (.ref Q), some (.int v0), none, none] [] S
  obtain ⟨q_lt, q_o, q_quota, q_preferred, q_forGuests, q_applicantOf, q_size, q_guestCount, q_score, q_tickets, q_bits, q_party, q_wishCount, q_wishes⟩ := id hQ
  have L_4 : ∀ u : Nat, ∀ (x1_4 : Int32) (x2_4 : Int32) (x3_4 : Int32), (2147483648 - x3_4.toInt).toNat < u → Zw p l e { frames := 3, cells := 0, slots := 0, locals := 80 * 3 } s m args below meth c G b 4 (MQ below (zQ G b FQ) args s 0 0 (fun q : Nat => b ≤ q)) 0 0 4 [some (.ref (Q)), some (.int x1_4), some (.int x2_4), some (.int x3_4)] [] S := by
    intro u
    induction u with
    | zero => intro x1_4 x2_4 x3_4 hm_4; exact absurd hm_4 (Nat.not_lt_zero _)
    | succ u_4 ih_4 =>
      intro x1_4 x2_4 x3_4 hm_4
      have J_28 : ∀ (x1_28 : Int32) (x2_28 : Int32) (x3_28 : Int32) (y0_28 : Int32) (y1_28 : Int32), (y1_28 = 0 ∨ y1_28 = 1) → ((2147483648 - x3_28.toInt).toNat < u_4 + 1) → (x3_28.toInt < 2147483647) → Zw p l e { frames := 3, cells := 0, slots := 0, locals := 80 * 3 } s m args below meth c G b 4 (MQ below (zQ G b FQ) args s 0 0 (fun q : Nat => b ≤ q)) 0 0 28 [some (.ref (Q)), some (.int x1_28), some (.int x2_28), some (.int x3_28)] [(.int y1_28), (.int y0_28)] S := by
        intro x1_28 x2_28 x3_28 y0_28 y1_28 f0_28 f1_28 f2_28
        refine a_iadd X dX2_askers_28 ?_
        refine a_istore_n X dX2_askers_29 (by decide) ?_
        refine a_iinc X dX2_askers_30 (by decide) rfl rfl ?_
        refine a_goto (tgt := 4) X dX2_askers_33 (by decide) ?_
        exact Zw.to2 (ih_4 _ _ _  (z_up f2_28 f1_28)) rfl rfl rfl
      refine a_iload_n X dX2_askers_4 rfl ?_
      refine a_aload_n X dX2_askers_5 rfl ?_
      refine a_geti X lf2_52 (by assumption) rfl dX2_askers_6 ?_
      refine a_icmp_ge (tgt := 36) X dX2_askers_9 (by decide) (fun h_9 => ?_) (fun h_9 => ?_)
      · refine a_iload_n X dX2_askers_36 rfl ?_
        refine a_iret X hr dX2_askers_37 ⟨by decide, by decide⟩ ?_
        subst hF
        exact ⟨rfl, ⟨_, rfl⟩⟩
      · refine a_iload_n X dX2_askers_12 rfl ?_
        refine a_aload_n X dX2_askers_13 rfl ?_
        refine a_iload_n X dX2_askers_14 rfl ?_
        refine a_iload_n X dX2_askers_15 rfl ?_
        refine a_callVx X dX2_askers_16 miX2_rankOf lm2_119 (s_X2_rankOf (P := P) (by assumption) (by omega)) (by assumption) rfl rfl rfl (Nat.le_of_ble_eq_true rfl) ⟨by decide, by decide, by decide, by decide⟩ (fun r_16 S_16 q_16 => ?_)
        obtain ⟨rfl, ⟨v_16, rfl⟩⟩ := q_16
        refine a_iconst (v := -1) X dX2_askers_19 (by decide) ?_
        refine a_icmp_ne (tgt := 27) X dX2_askers_20 (by decide) (fun h_20 => ?_) (fun h_20 => ?_)
        · refine a_iconst (v := 1) X dX2_askers_27 (by decide) ?_
          exact Zw.to2 (J_28 _ _ _ _ _ (by first | exact Or.inl rfl | exact Or.inr rfl | assumption | ((try dsimp only); (repeat rw [zwr_row (by omega)]); assumption)) hm_4 (by first | assumption | exact z_lt (by assumption) | exact z_lt2 (by assumption) | exact z_lt3 (by assumption) (by decide))) rfl rfl rfl
        · refine a_iconst (v := 0) X dX2_askers_23 (by decide) ?_
          refine a_goto (tgt := 28) X dX2_askers_24 (by decide) ?_
          exact Zw.to2 (J_28 _ _ _ _ _ (by first | exact Or.inl rfl | exact Or.inr rfl | assumption | ((try dsimp only); (repeat rw [zwr_row (by omega)]); assumption)) hm_4 (by first | assumption | exact z_lt (by assumption) | exact z_lt2 (by assumption) | exact z_lt3 (by assumption) (by decide))) rfl rfl rfl
  have H_4 : ∀ (x1_4 : Int32) (x2_4 : Int32) (x3_4 : Int32), Zw p l e { frames := 3, cells := 0, slots := 0, locals := 80 * 3 } s m args below meth c G b 4 (MQ below (zQ G b FQ) args s 0 0 (fun q : Nat => b ≤ q)) 0 0 4 [some (.ref (Q)), some (.int x1_4), some (.int x2_4), some (.int x3_4)] [] S := fun x1_4 x2_4 x3_4  => L_4 _ x1_4 x2_4 x3_4  (Nat.lt_succ_self _)
  refine a_iconst (v := 0) X dX2_askers_0 (by decide) ?_
  refine a_istore_n X dX2_askers_1 (by decide) ?_
  refine a_iconst (v := 0) X dX2_askers_2 (by decide) ?_
  refine a_istore_n X dX2_askers_3 (by decide) ?_
  exact Zw.to2 (H_4 _ _ _ ) rfl rfl rfl
set_option maxRecDepth 100000 in
theorem s_X2_open {l : Launch} {G : zG} {b : Nat} {S : zS} {P : Nat} {Q : Nat} {v0 : Int32} (hQ : LX2 S.1 Q) (rQ : P < Q ∧ Q + 13 ≤ P + 200) : zM l G b yX2_open cX2_open 2 none 1 0 0 [.ref Q, .int v0] S (fun r z => ∃ M' N', z = (S.1, M', N') ∧ zK P S.2.1 M' ∧ r = none) := by
  refine zM.of miX2_open (Nat.le_of_ble_eq_true rfl) ?_
  intro p e s m args below meth c X hr hname
  generalize hF : ((fun r z => ∃ M' N', z = (S.1, M', N') ∧ zK P S.2.1 M' ∧ r = none) : Option Value → zS → Prop) = FQ
  change Zw p l e { frames := 1, cells := 0, slots := 0, locals := 80 * 1 } s m args below meth c G b 2 (MQ below (zQ G b FQ) args s 0 0 (fun q : Nat => b ≤ q)) 0 0 0 [some (.ref Q), some (.int v0)] [] S
  obtain ⟨q_lt, q_o, q_quota, q_preferred, q_forGuests, q_applicantOf, q_size, q_guestCount, q_score, q_tickets, q_bits, q_party, q_wishCount, q_wishes⟩ := id hQ
  refine a_aload_n X dX2_open_0 rfl ?_
  refine a_getr X lf2_24 (by assumption) rfl (by omega) dX2_open_1 ?_
  refine a_aload_n X dX2_open_4 rfl ?_
  refine a_geti X lf2_52 (by assumption) rfl dX2_open_5 ?_
  refine a_iconst (v := 0) X dX2_open_8 (by decide) ?_
  refine a_callSNx X dX2_open_9 miX7_put lm2_96 (s_X7_put (P := P) (by assumption) (by first | decide | assumption) (by omega)) rfl rfl (Nat.le_of_ble_eq_true rfl) ⟨by decide, by decide, by decide, by decide⟩ (fun r_9 S_9 q_9 => ?_)
  obtain ⟨M_9, N_9, rfl, k_9, rfl⟩ := q_9
  refine a_aload_n X dX2_open_12 rfl ?_
  refine a_getr X lf2_27 (by assumption) rfl (by omega) dX2_open_13 ?_
  refine a_aload_n X dX2_open_16 rfl ?_
  refine a_geti X lf2_52 (by assumption) rfl dX2_open_17 ?_
  refine a_iconst (v := 0) X dX2_open_20 (by decide) ?_
  refine a_callSNx X dX2_open_21 miX7_put lm2_96 (s_X7_put (P := P) (by assumption) (by first | decide | assumption) (by omega)) rfl rfl (Nat.le_of_ble_eq_true rfl) ⟨by decide, by decide, by decide, by decide⟩ (fun r_21 S_21 q_21 => ?_)
  obtain ⟨M_21, N_21, rfl, k_21, rfl⟩ := q_21
  refine a_aload_n X dX2_open_24 rfl ?_
  refine a_getr X lf2_30 (by assumption) rfl (by omega) dX2_open_25 ?_
  refine a_aload_n X dX2_open_28 rfl ?_
  refine a_geti X lf2_52 (by assumption) rfl dX2_open_29 ?_
  refine a_iconst (v := 0) X dX2_open_32 (by decide) ?_
  refine a_callSNx X dX2_open_33 miX7_put lm2_96 (s_X7_put (P := P) (by assumption) (by first | decide | assumption) (by omega)) rfl rfl (Nat.le_of_ble_eq_true rfl) ⟨by decide, by decide, by decide, by decide⟩ (fun r_33 S_33 q_33 => ?_)
  obtain ⟨M_33, N_33, rfl, k_33, rfl⟩ := q_33
  refine a_aload_n X dX2_open_36 rfl ?_
  refine a_getr X lf2_36 (by assumption) rfl (by omega) dX2_open_37 ?_
  refine a_aload_n X dX2_open_40 rfl ?_
  refine a_geti X lf2_52 (by assumption) rfl dX2_open_41 ?_
  refine a_iconst (v := 0) X dX2_open_44 (by decide) ?_
  refine a_callSNx X dX2_open_45 miX7_put lm2_96 (s_X7_put (P := P) (by assumption) (by first | decide | assumption) (by omega)) rfl rfl (Nat.le_of_ble_eq_true rfl) ⟨by decide, by decide, by decide, by decide⟩ (fun r_45 S_45 q_45 => ?_)
  obtain ⟨M_45, N_45, rfl, k_45, rfl⟩ := q_45
  refine a_aload_n X dX2_open_48 rfl ?_
  refine a_getr X lf2_39 (by assumption) rfl (by omega) dX2_open_49 ?_
  refine a_aload_n X dX2_open_52 rfl ?_
  refine a_geti X lf2_52 (by assumption) rfl dX2_open_53 ?_
  refine a_iload_n X dX2_open_56 rfl ?_
  refine a_callSNx X dX2_open_57 miX7_put lm2_96 (s_X7_put (P := P) (by assumption) (by first | decide | assumption) (by omega)) rfl rfl (Nat.le_of_ble_eq_true rfl) ⟨by decide, by decide, by decide, by decide⟩ (fun r_57 S_57 q_57 => ?_)
  obtain ⟨M_57, N_57, rfl, k_57, rfl⟩ := q_57
  refine a_aload_n X dX2_open_60 rfl ?_
  refine a_dup X dX2_open_61 rfl ?_
  refine a_geti X lf2_52 (by assumption) rfl dX2_open_62 ?_
  refine a_iconst (v := 1) X dX2_open_65 (by decide) ?_
  refine a_iadd X dX2_open_66 ?_
  refine a_puti X lf2_52 (by assumption) rfl dX2_open_67 ?_
  refine a_vret X hr dX2_open_70 ⟨by decide, by decide⟩ ?_
  subst hF
  exact ⟨_, _, rfl, (by (try dsimp only); repeat first | assumption | exact zK.rf | refine zK.zu ?_ (by omega) | refine zK.zu0 ?_ (by decide) | refine zK.zwr ?_ (by omega) | refine zK.zfil ?_ (by omega) | refine zK.zcpy ?_ (by omega) | refine zK.trans ?_ (by assumption) | dsimp only), rfl⟩
set_option maxRecDepth 100000 in
theorem s_X2_join {l : Launch} {G : zG} {b : Nat} {S : zS} {P : Nat} {Q : Nat} {A : Nat} {v0 : Int32} (hQ : LX2 S.1 Q) (rQ : P < Q ∧ Q + 13 ≤ P + 200) (hA : LX4 S.1 A) (rA : P < A ∧ A + 8 ≤ P + 200) : zM l G b yX2_join cX2_join 5 none 1 0 0 [.ref Q, .ref A, .int v0] S (fun r z => ∃ M' N', z = (S.1, M', N') ∧ zK P S.2.1 M' ∧ r = none) := by
  refine zM.of miX2_join (Nat.le_of_ble_eq_true rfl) ?_
  intro p e s m args below meth c X hr hname
  generalize hF : ((fun r z => ∃ M' N', z = (S.1, M', N') ∧ zK P S.2.1 M' ∧ r = none) : Option Value → zS → Prop) = FQ
  change Zw p l e { frames := 1, cells := 0, slots := 0, locals := 80 * 1 } s m args below meth c G b 5 (MQ below (zQ G b FQ) args s 0 0 (fun q : Nat => b ≤ q)) 0 0 0 [some (.ref Q), some (.ref A), some (.int v0), none, none] [] S
  obtain ⟨q_lt, q_o, q_quota, q_preferred, q_forGuests, q_applicantOf, q_size, q_guestCount, q_score, q_tickets, q_bits, q_party, q_wishCount, q_wishes⟩ := id hQ
  obtain ⟨a_lt, a_o, a_quota, a_score, a_guest, a_party, a_wishCount, a_wishes, a_has⟩ := id hA
  have L_87 : ∀ u : Nat, ∀ (x2_87 : Int32) (x3_87 : Int32) (x4_87 : Int32) (M2 : Nat → Nat → Int32) (N2 : Nat → Nat → Int64), zK P S.2.1 M2 → (2147483648 - x4_87.toInt).toNat < u → Zw p l e { frames := 1, cells := 0, slots := 0, locals := 80 * 1 } s m args below meth c G b 5 (MQ below (zQ G b FQ) args s 0 0 (fun q : Nat => b ≤ q)) 0 0 87 [some (.ref (Q)), some (.ref (A)), some (.int x2_87), some (.int x3_87), some (.int x4_87)] [] (S.1, M2, N2) := by
    intro u
    induction u with
    | zero => intro x2_87 x3_87 x4_87 M2_87 N2_87 k_87 hm_87; exact absurd hm_87 (Nat.not_lt_zero _)
    | succ u_87 ih_87 =>
      intro x2_87 x3_87 x4_87 M2_87 N2_87 k_87 hm_87
      refine a_iload X dX2_join_87 rfl ?_
      refine a_iconst (v := 3) X dX2_join_89 (by decide) ?_
      refine a_icmp_ge (tgt := 125) X dX2_join_90 (by decide) (fun h_90 => ?_) (fun h_90 => ?_)
      · refine a_vret X hr dX2_join_125 ⟨by decide, by decide⟩ ?_
        subst hF
        exact ⟨_, _, rfl, (by (try dsimp only); repeat first | assumption | exact zK.rf | refine zK.zu ?_ (by omega) | refine zK.zu0 ?_ (by decide) | refine zK.zwr ?_ (by omega) | refine zK.zfil ?_ (by omega) | refine zK.zcpy ?_ (by omega) | refine zK.trans ?_ (by assumption) | dsimp only), rfl⟩
      · refine a_aload_n X dX2_join_93 rfl ?_
        refine a_getr X lf2_45 (by assumption) rfl (by omega) dX2_join_94 ?_
        refine a_iload_n X dX2_join_97 rfl ?_
        refine a_iconst (v := 3) X dX2_join_98 (by decide) ?_
        refine a_imul X dX2_join_99 ?_
        refine a_iload X dX2_join_100 rfl ?_
        refine a_iadd X dX2_join_102 ?_
        refine a_aload_n X dX2_join_103 rfl ?_
        refine a_getr X lf2_114 (by assumption) rfl (by omega) dX2_join_104 ?_
        refine a_iload_n X dX2_join_107 rfl ?_
        refine a_iconst (v := 3) X dX2_join_108 (by decide) ?_
        refine a_imul X dX2_join_109 ?_
        refine a_iload X dX2_join_110 rfl ?_
        refine a_iadd X dX2_join_112 ?_
        refine a_callSNv X dX2_join_113 miX7_cell lm2_62 (c_cell (by assumption) (by first | decide | assumption)) rfl rfl (Nat.le_of_ble_eq_true rfl) ⟨by decide, by decide, by decide, by decide⟩ ?_
        refine a_callSNx X dX2_join_116 miX7_put lm2_96 (s_X7_put (P := P) (by assumption) (by first | decide | assumption) (by omega)) rfl rfl (Nat.le_of_ble_eq_true rfl) ⟨by decide, by decide, by decide, by decide⟩ (fun r_116 S_116 q_116 => ?_)
        obtain ⟨M_116, N_116, rfl, k_116, rfl⟩ := q_116
        refine a_iinc X dX2_join_119 (by decide) rfl rfl ?_
        refine a_goto (tgt := 87) X dX2_join_122 (by decide) ?_
        exact Zw.to2 (ih_87 _ _ _ _ _ (by (try dsimp only); repeat first | assumption | exact zK.rf | refine zK.zu ?_ (by omega) | refine zK.zu0 ?_ (by decide) | refine zK.zwr ?_ (by omega) | refine zK.zfil ?_ (by omega) | refine zK.zcpy ?_ (by omega) | refine zK.trans ?_ (by assumption) | dsimp only)  (z_up (by first | assumption | exact z_lt (by assumption) | exact z_lt2 (by assumption) | exact z_lt3 (by assumption) (by decide)) hm_87)) rfl rfl rfl
  have H_87 : ∀ (x2_87 : Int32) (x3_87 : Int32) (x4_87 : Int32) (M2 : Nat → Nat → Int32) (N2 : Nat → Nat → Int64), zK P S.2.1 M2 → Zw p l e { frames := 1, cells := 0, slots := 0, locals := 80 * 1 } s m args below meth c G b 5 (MQ below (zQ G b FQ) args s 0 0 (fun q : Nat => b ≤ q)) 0 0 87 [some (.ref (Q)), some (.ref (A)), some (.int x2_87), some (.int x3_87), some (.int x4_87)] [] (S.1, M2, N2) := fun x2_87 x3_87 x4_87 M2 N2 k  => L_87 _ x2_87 x3_87 x4_87 M2 N2 k  (Nat.lt_succ_self _)
  refine a_aload_n X dX2_join_0 rfl ?_
  refine a_geti X lf2_52 (by assumption) rfl dX2_join_1 ?_
  refine a_iconst (v := 1) X dX2_join_4 (by decide) ?_
  refine a_isub X dX2_join_5 ?_
  refine a_istore_n X dX2_join_6 (by decide) ?_
  refine a_aload_n X dX2_join_7 rfl ?_
  refine a_getr X lf2_21 (by assumption) rfl (by omega) dX2_join_8 ?_
  refine a_iload_n X dX2_join_11 rfl ?_
  refine a_iload_n X dX2_join_12 rfl ?_
  refine a_callSNx X dX2_join_13 miX7_put lm2_96 (s_X7_put (P := P) (by assumption) (by first | decide | assumption) (by omega)) rfl rfl (Nat.le_of_ble_eq_true rfl) ⟨by decide, by decide, by decide, by decide⟩ (fun r_13 S_13 q_13 => ?_)
  obtain ⟨M_13, N_13, rfl, k_13, rfl⟩ := q_13
  refine a_aload_n X dX2_join_16 rfl ?_
  refine a_getr X lf2_24 (by assumption) rfl (by omega) dX2_join_17 ?_
  refine a_iload_n X dX2_join_20 rfl ?_
  refine a_iconst (v := 1) X dX2_join_21 (by decide) ?_
  refine a_callSNx X dX2_join_22 miX7_add lm2_106 (s_X7_add (P := P) (by assumption) (by first | decide | assumption) (by omega)) rfl rfl (Nat.le_of_ble_eq_true rfl) ⟨by decide, by decide, by decide, by decide⟩ (fun r_22 S_22 q_22 => ?_)
  obtain ⟨M_22, N_22, rfl, k_22, rfl⟩ := q_22
  refine a_aload_n X dX2_join_25 rfl ?_
  refine a_getr X lf2_27 (by assumption) rfl (by omega) dX2_join_26 ?_
  refine a_iload_n X dX2_join_29 rfl ?_
  refine a_aload_n X dX2_join_30 rfl ?_
  refine a_getr X lf2_109 (by assumption) rfl (by omega) dX2_join_31 ?_
  refine a_iload_n X dX2_join_34 rfl ?_
  refine a_callSNv X dX2_join_35 miX7_cell lm2_62 (c_cell (by assumption) (by first | decide | assumption)) rfl rfl (Nat.le_of_ble_eq_true rfl) ⟨by decide, by decide, by decide, by decide⟩ ?_
  refine a_callSNx X dX2_join_38 miX7_add lm2_106 (s_X7_add (P := P) (by assumption) (by first | decide | assumption) (by omega)) rfl rfl (Nat.le_of_ble_eq_true rfl) ⟨by decide, by decide, by decide, by decide⟩ (fun r_38 S_38 q_38 => ?_)
  obtain ⟨M_38, N_38, rfl, k_38, rfl⟩ := q_38
  refine a_aload_n X dX2_join_41 rfl ?_
  refine a_getr X lf2_30 (by assumption) rfl (by omega) dX2_join_42 ?_
  refine a_iload_n X dX2_join_45 rfl ?_
  refine a_aload_n X dX2_join_46 rfl ?_
  refine a_getr X lf2_112 (by assumption) rfl (by omega) dX2_join_47 ?_
  refine a_iload_n X dX2_join_50 rfl ?_
  refine a_callSNv X dX2_join_51 miX7_cell lm2_62 (c_cell (by assumption) (by first | decide | assumption)) rfl rfl (Nat.le_of_ble_eq_true rfl) ⟨by decide, by decide, by decide, by decide⟩ ?_
  refine a_callSNx X dX2_join_54 miX7_add lm2_106 (s_X7_add (P := P) (by assumption) (by first | decide | assumption) (by omega)) rfl rfl (Nat.le_of_ble_eq_true rfl) ⟨by decide, by decide, by decide, by decide⟩ (fun r_54 S_54 q_54 => ?_)
  obtain ⟨M_54, N_54, rfl, k_54, rfl⟩ := q_54
  refine a_aload_n X dX2_join_57 rfl ?_
  refine a_getr X lf2_36 (by assumption) rfl (by omega) dX2_join_58 ?_
  refine a_iload_n X dX2_join_61 rfl ?_
  refine a_iconst (v := 1) X dX2_join_62 (by decide) ?_
  refine a_iload_n X dX2_join_63 rfl ?_
  refine a_ishl X dX2_join_64 ?_
  refine a_callSNx X dX2_join_65 miX7_add lm2_106 (s_X7_add (P := P) (by assumption) (by first | decide | assumption) (by omega)) rfl rfl (Nat.le_of_ble_eq_true rfl) ⟨by decide, by decide, by decide, by decide⟩ (fun r_65 S_65 q_65 => ?_)
  obtain ⟨M_65, N_65, rfl, k_65, rfl⟩ := q_65
  refine a_aload_n X dX2_join_68 rfl ?_
  refine a_getr X lf2_42 (by assumption) rfl (by omega) dX2_join_69 ?_
  refine a_iload_n X dX2_join_72 rfl ?_
  refine a_aload_n X dX2_join_73 rfl ?_
  refine a_getr X lf2_113 (by assumption) rfl (by omega) dX2_join_74 ?_
  refine a_iload_n X dX2_join_77 rfl ?_
  refine a_callSNv X dX2_join_78 miX7_cell lm2_62 (c_cell (by assumption) (by first | decide | assumption)) rfl rfl (Nat.le_of_ble_eq_true rfl) ⟨by decide, by decide, by decide, by decide⟩ ?_
  refine a_callSNx X dX2_join_81 miX7_put lm2_96 (s_X7_put (P := P) (by assumption) (by first | decide | assumption) (by omega)) rfl rfl (Nat.le_of_ble_eq_true rfl) ⟨by decide, by decide, by decide, by decide⟩ (fun r_81 S_81 q_81 => ?_)
  obtain ⟨M_81, N_81, rfl, k_81, rfl⟩ := q_81
  refine a_iconst (v := 0) X dX2_join_84 (by decide) ?_
  refine a_istore X dX2_join_85 (by decide) ?_
  exact Zw.to2 (H_87 _ _ _ _ _ (by (try dsimp only); repeat first | assumption | exact zK.rf | refine zK.zu ?_ (by omega) | refine zK.zu0 ?_ (by decide) | refine zK.zwr ?_ (by omega) | refine zK.zfil ?_ (by omega) | refine zK.zcpy ?_ (by omega) | refine zK.trans ?_ (by assumption) | dsimp only) ) rfl rfl rfl
set_option maxRecDepth 100000 in
theorem s_X2_close {l : Launch} {G : zG} {b : Nat} {S : zS} {P : Nat} {Q : Nat} {v0 : Int32} {v1 : Int32} (hQ : LX2 S.1 Q) (rQ : P < Q ∧ Q + 13 ≤ P + 200) : zM l G b yX2_close cX2_close 5 none 1 0 0 [.ref Q, .int v0, .int v1] S (fun r z => ∃ M' N', z = (S.1, M', N') ∧ zK P S.2.1 M' ∧ r = none) := by
  refine zM.of miX2_close (Nat.le_of_ble_eq_true rfl) ?_
  intro p e s m args below meth c X hr hname
  generalize hF : ((fun r z => ∃ M' N', z = (S.1, M', N') ∧ zK P S.2.1 M' ∧ r = none) : Option Value → zS → Prop) = FQ
  change Zw p l e { frames := 1, cells := 0, slots := 0, locals := 80 * 1 } s m args below meth c G b 5 (MQ below (zQ G b FQ) args s 0 0 (fun q : Nat => b ≤ q)) 0 0 0 [some (.ref Q), some (.int v0), some (.int v1), none, none] [] S
  obtain ⟨q_lt, q_o, q_quota, q_preferred, q_forGuests, q_applicantOf, q_size, q_guestCount, q_score, q_tickets, q_bits, q_party, q_wishCount, q_wishes⟩ := id hQ
  have J_72 : ∀ (x1_72 : Int32) (x2_72 : Int32) (x3_72 : Int32) (x4_72 : Int32) (y1_72 : Int32) (y2_72 : Int32) (M2 : Nat → Nat → Int32) (N2 : Nat → Nat → Int64), zK P S.2.1 M2 → Zw p l e { frames := 1, cells := 0, slots := 0, locals := 80 * 1 } s m args below meth c G b 5 (MQ below (zQ G b FQ) args s 0 0 (fun q : Nat => b ≤ q)) 0 0 72 [some (.ref (Q)), some (.int x1_72), some (.int x2_72), some (.int x3_72), some (.int x4_72)] [(.int y2_72), (.int y1_72), (.ref (Q + 8))] (S.1, M2, N2) := by
    intro x1_72 x2_72 x3_72 x4_72 y1_72 y2_72 M2_72 N2_72 k_72
    refine a_callSNx X dX2_close_72 miX7_put lm2_96 (s_X7_put (P := P) (by assumption) (by first | decide | assumption) (by omega)) rfl rfl (Nat.le_of_ble_eq_true rfl) ⟨by decide, by decide, by decide, by decide⟩ (fun r_72 S_72 q_72 => ?_)
    obtain ⟨M_72, N_72, rfl, k_72, rfl⟩ := q_72
    refine a_vret X hr dX2_close_75 ⟨by decide, by decide⟩ ?_
    subst hF
    exact ⟨_, _, rfl, (by (try dsimp only); repeat first | assumption | exact zK.rf | refine zK.zu ?_ (by omega) | refine zK.zu0 ?_ (by decide) | refine zK.zwr ?_ (by omega) | refine zK.zfil ?_ (by omega) | refine zK.zcpy ?_ (by omega) | refine zK.trans ?_ (by assumption) | dsimp only), rfl⟩
  have J_27 : ∀ (x1_27 : Int32) (x2_27 : Int32) (x3_27 : Int32) (x4_27 : Option Value) (y0_27 : Int32) (M2 : Nat → Nat → Int32) (N2 : Nat → Nat → Int64), zK P S.2.1 M2 → Zw p l e { frames := 1, cells := 0, slots := 0, locals := 80 * 1 } s m args below meth c G b 5 (MQ below (zQ G b FQ) args s 0 0 (fun q : Nat => b ≤ q)) 0 0 27 [some (.ref (Q)), some (.int x1_27), some (.int x2_27), some (.int x3_27), x4_27] [(.int y0_27)] (S.1, M2, N2) := by
    intro x1_27 x2_27 x3_27 x4_27 y0_27 M2_27 N2_27 k_27
    refine a_istore X dX2_close_27 (by decide) ?_
    refine a_aload_n X dX2_close_29 rfl ?_
    refine a_getr X lf2_30 (by assumption) rfl (by omega) dX2_close_30 ?_
    refine a_iload_n X dX2_close_33 rfl ?_
    refine a_iload X dX2_close_34 rfl ?_
    refine a_callSNx X dX2_close_36 miX7_put lm2_96 (s_X7_put (P := P) (by assumption) (by first | decide | assumption) (by omega)) rfl rfl (Nat.le_of_ble_eq_true rfl) ⟨by decide, by decide, by decide, by decide⟩ (fun r_36 S_36 q_36 => ?_)
    obtain ⟨M_36, N_36, rfl, k_36, rfl⟩ := q_36
    refine a_aload_n X dX2_close_39 rfl ?_
    refine a_getr X lf2_33 (by assumption) rfl (by omega) dX2_close_40 ?_
    refine a_iload_n X dX2_close_43 rfl ?_
    refine a_iload_n X dX2_close_44 rfl ?_
    refine a_iconst (v := 2) X dX2_close_45 (by decide) ?_
    refine a_icmp_ne (tgt := 59) X dX2_close_46 (by decide) (fun h_46 => ?_) (fun h_46 => ?_)
    · refine a_iload_n X dX2_close_59 rfl ?_
      refine a_iconst (v := 1) X dX2_close_60 (by decide) ?_
      refine a_icmp_ne (tgt := 71) X dX2_close_61 (by decide) (fun h_61 => ?_) (fun h_61 => ?_)
      · refine a_iconst (v := 1) X dX2_close_71 (by decide) ?_
        exact Zw.to2 (J_72 _ _ _ _ _ _ _ _ (by (try dsimp only); repeat first | assumption | exact zK.rf | refine zK.zu ?_ (by omega) | refine zK.zu0 ?_ (by decide) | refine zK.zwr ?_ (by omega) | refine zK.zfil ?_ (by omega) | refine zK.zcpy ?_ (by omega) | refine zK.trans ?_ (by assumption) | dsimp only) ) rfl rfl rfl
      · refine a_iconst (v := 1) X dX2_close_64 (by decide) ?_
        refine a_iload X dX2_close_65 rfl ?_
        refine a_iadd X dX2_close_67 ?_
        refine a_goto (tgt := 72) X dX2_close_68 (by decide) ?_
        exact Zw.to2 (J_72 _ _ _ _ _ _ _ _ (by (try dsimp only); repeat first | assumption | exact zK.rf | refine zK.zu ?_ (by omega) | refine zK.zu0 ?_ (by decide) | refine zK.zwr ?_ (by omega) | refine zK.zfil ?_ (by omega) | refine zK.zcpy ?_ (by omega) | refine zK.trans ?_ (by assumption) | dsimp only) ) rfl rfl rfl
    · refine a_iconst (v := 1) X dX2_close_49 (by decide) ?_
      refine a_iload X dX2_close_50 rfl ?_
      refine a_iload X dX2_close_52 rfl ?_
      refine a_imul X dX2_close_54 ?_
      refine a_iadd X dX2_close_55 ?_
      refine a_goto (tgt := 72) X dX2_close_56 (by decide) ?_
      exact Zw.to2 (J_72 _ _ _ _ _ _ _ _ (by (try dsimp only); repeat first | assumption | exact zK.rf | refine zK.zu ?_ (by omega) | refine zK.zu0 ?_ (by decide) | refine zK.zwr ?_ (by omega) | refine zK.zfil ?_ (by omega) | refine zK.zcpy ?_ (by omega) | refine zK.trans ?_ (by assumption) | dsimp only) ) rfl rfl rfl
  refine a_aload_n X dX2_close_0 rfl ?_
  refine a_getr X lf2_24 (by assumption) rfl (by omega) dX2_close_1 ?_
  refine a_iload_n X dX2_close_4 rfl ?_
  refine a_callSNv X dX2_close_5 miX7_cell lm2_62 (c_cell (by assumption) (by first | decide | assumption)) rfl rfl (Nat.le_of_ble_eq_true rfl) ⟨by decide, by decide, by decide, by decide⟩ ?_
  refine a_istore_n X dX2_close_8 (by decide) ?_
  refine a_iload_n X dX2_close_9 rfl ?_
  refine a_if_ne (tgt := 17) X dX2_close_10 (by decide) (fun h_10 => ?_) (fun h_10 => ?_)
  · refine a_aload_n X dX2_close_17 rfl ?_
    refine a_getr X lf2_30 (by assumption) rfl (by omega) dX2_close_18 ?_
    refine a_iload_n X dX2_close_21 rfl ?_
    refine a_callSNv X dX2_close_22 miX7_cell lm2_62 (c_cell (by assumption) (by first | decide | assumption)) rfl rfl (Nat.le_of_ble_eq_true rfl) ⟨by decide, by decide, by decide, by decide⟩ ?_
    refine a_iload_n X dX2_close_25 rfl ?_
    refine a_idiv X dX2_close_26 (by first | assumption | decide | exact z_nzl (by assumption)) ?_
    exact Zw.to2 (J_27 _ _ _ _ _ _ _ (by (try dsimp only); repeat first | assumption | exact zK.rf | refine zK.zu ?_ (by omega) | refine zK.zu0 ?_ (by decide) | refine zK.zwr ?_ (by omega) | refine zK.zfil ?_ (by omega) | refine zK.zcpy ?_ (by omega) | refine zK.trans ?_ (by assumption) | dsimp only) ) rfl rfl rfl
  · refine a_iconst (v := 0) X dX2_close_13 (by decide) ?_
    refine a_goto (tgt := 27) X dX2_close_14 (by decide) ?_
    exact Zw.to2 (J_27 _ _ _ _ _ _ _ (by (try dsimp only); repeat first | assumption | exact zK.rf | refine zK.zu ?_ (by omega) | refine zK.zu0 ?_ (by decide) | refine zK.zwr ?_ (by omega) | refine zK.zfil ?_ (by omega) | refine zK.zcpy ?_ (by omega) | refine zK.trans ?_ (by assumption) | dsimp only) ) rfl rfl rfl
set_option maxRecDepth 100000 in
theorem s_X2_gatherUnits {l : Launch} {G : zG} {b : Nat} {S : zS} {P : Nat} {Q : Nat} {A : Nat} (hQ : LX2 S.1 Q) (rQ : P < Q ∧ Q + 13 ≤ P + 200) (hA : LX4 S.1 A) (rA : P < A ∧ A + 8 ≤ P + 200) : zM l G b yX2_gatherUnits cX2_gatherUnits 4 none 1 0 0 [.ref Q, .ref A] S (fun r z => ∃ M' N', z = (S.1, M', N') ∧ zK P S.2.1 M' ∧ r = none) := by
  refine zM.of miX2_gatherUnits (Nat.le_of_ble_eq_true rfl) ?_
  intro p e s m args below meth c X hr hname
  generalize hF : ((fun r z => ∃ M' N', z = (S.1, M', N') ∧ zK P S.2.1 M' ∧ r = none) : Option Value → zS → Prop) = FQ
  change Zw p l e { frames := 1, cells := 0, slots := 0, locals := 80 * 1 } s m args below meth c G b 4 (MQ below (zQ G b FQ) args s 0 0 (fun q : Nat => b ≤ q)) 0 0 0 [some (.ref Q), some (.ref A), none, none] [] S
  obtain ⟨q_lt, q_o, q_quota, q_preferred, q_forGuests, q_applicantOf, q_size, q_guestCount, q_score, q_tickets, q_bits, q_party, q_wishCount, q_wishes⟩ := id hQ
  obtain ⟨a_lt, a_o, a_quota, a_score, a_guest, a_party, a_wishCount, a_wishes, a_has⟩ := id hA
  have L_15 : ∀ u : Nat, ∀ (x2_15 : Int32) (x3_15 : Option Value) (M2 : Nat → Nat → Int32) (N2 : Nat → Nat → Int64), zK P S.2.1 M2 → (M2 Q 3 = 0 ∨ M2 Q 3 = 1) → (2147483648 - x2_15.toInt).toNat < u → Zw p l e { frames := 1, cells := 0, slots := 0, locals := 80 * 1 } s m args below meth c G b 4 (MQ below (zQ G b FQ) args s 0 0 (fun q : Nat => b ≤ q)) 0 0 15 [some (.ref (Q)), some (.ref (A)), some (.int x2_15), x3_15] [] (S.1, M2, N2) := by
    intro u
    induction u with
    | zero => intro x2_15 x3_15 M2_15 N2_15 k_15 f0_15 hm_15; exact absurd hm_15 (Nat.not_lt_zero _)
    | succ u_15 ih_15 =>
      intro x2_15 x3_15 M2_15 N2_15 k_15 f0_15 hm_15
      have J_96 : ∀ (x2_96 : Int32) (x3_96 : Int32) (y1_96 : Int32) (y2_96 : Int32) (M2 : Nat → Nat → Int32) (N2 : Nat → Nat → Int64), zK P S.2.1 M2 → (y1_96 = 0 ∨ y1_96 = 1) → (y2_96 = 0 ∨ y2_96 = 1) → ((2147483648 - x2_96.toInt).toNat < u_15 + 1) → (x2_96.toInt < 2147483647) → (M2 Q 3 = 0 ∨ M2 Q 3 = 1) → Zw p l e { frames := 1, cells := 0, slots := 0, locals := 80 * 1 } s m args below meth c G b 4 (MQ below (zQ G b FQ) args s 0 0 (fun q : Nat => b ≤ q)) 0 0 96 [some (.ref (Q)), some (.ref (A)), some (.int x2_96), some (.int x3_96)] [(.int y2_96), (.int y1_96), (.ref (Q))] (S.1, M2, N2) := by
        intro x2_96 x3_96 y1_96 y2_96 M2_96 N2_96 k_96 f0_96 f1_96 f2_96 f3_96 f4_96
        refine a_ior X dX2_gatherUnits_96 ?_
        refine a_putz X (z_or01 (by assumption) (by assumption)) lf2_91 (by assumption) rfl dX2_gatherUnits_97 ?_
        refine a_iinc X dX2_gatherUnits_100 (by decide) rfl rfl ?_
        refine a_goto (tgt := 15) X dX2_gatherUnits_103 (by decide) ?_
        exact Zw.to2 (ih_15 _ _ _ _ (by (try dsimp only); repeat first | assumption | exact zK.rf | refine zK.zu ?_ (by omega) | refine zK.zu0 ?_ (by decide) | refine zK.zwr ?_ (by omega) | refine zK.zfil ?_ (by omega) | refine zK.zcpy ?_ (by omega) | refine zK.trans ?_ (by assumption) | dsimp only) (by first | assumption | ((try dsimp only); (repeat rw [zwr_row (by omega)]); first | assumption | (rw [zu_eq]; first | exact Or.inl rfl | exact z_or01 (by assumption) (by assumption)))) (z_up f3_96 f2_96)) rfl rfl rfl
      refine a_iload_n X dX2_gatherUnits_15 rfl ?_
      refine a_aload_n X dX2_gatherUnits_16 rfl ?_
      refine a_geti X lf2_90 (by assumption) rfl dX2_gatherUnits_17 ?_
      refine a_icmp_ge (tgt := 106) X dX2_gatherUnits_20 (by decide) (fun h_20 => ?_) (fun h_20 => ?_)
      · refine a_vret X hr dX2_gatherUnits_106 ⟨by decide, by decide⟩ ?_
        subst hF
        exact ⟨_, _, rfl, (by (try dsimp only); repeat first | assumption | exact zK.rf | refine zK.zu ?_ (by omega) | refine zK.zu0 ?_ (by decide) | refine zK.zwr ?_ (by omega) | refine zK.zfil ?_ (by omega) | refine zK.zcpy ?_ (by omega) | refine zK.trans ?_ (by assumption) | dsimp only), rfl⟩
      · refine a_aload_n X dX2_gatherUnits_23 rfl ?_
        refine a_getr X lf2_95 (by assumption) rfl (by omega) dX2_gatherUnits_24 ?_
        refine a_iload_n X dX2_gatherUnits_27 rfl ?_
        refine a_callSNv X dX2_gatherUnits_28 miX7_cell lm2_62 (c_cell (by assumption) (by first | decide | assumption)) rfl rfl (Nat.le_of_ble_eq_true rfl) ⟨by decide, by decide, by decide, by decide⟩ ?_
        refine a_istore_n X dX2_gatherUnits_31 (by decide) ?_
        refine a_aload_n X dX2_gatherUnits_32 rfl ?_
        refine a_getr X lf2_9 (by assumption) rfl (by omega) dX2_gatherUnits_33 ?_
        refine a_iload_n X dX2_gatherUnits_36 rfl ?_
        refine a_iload_n X dX2_gatherUnits_37 rfl ?_
        refine a_callSNu X dX2_gatherUnits_38 miX7_put lm2_96 (c_put (by assumption) (by decide)) rfl rfl (Nat.le_of_ble_eq_true rfl) ⟨by decide, by decide, by decide, by decide⟩ ?_
        refine a_aload_n X dX2_gatherUnits_41 rfl ?_
        refine a_getr X lf2_15 (by assumption) rfl (by omega) dX2_gatherUnits_42 ?_
        refine a_iload_n X dX2_gatherUnits_45 rfl ?_
        refine a_iload_n X dX2_gatherUnits_46 rfl ?_
        refine a_aload_n X dX2_gatherUnits_47 rfl ?_
        refine a_geti X lf2_100 (by assumption) rfl dX2_gatherUnits_48 ?_
        refine a_imul X dX2_gatherUnits_51 ?_
        refine a_bipush (v := 100) X dX2_gatherUnits_52 (by decide) ?_
        refine a_idiv X dX2_gatherUnits_54 (by first | assumption | decide | exact z_nzl (by assumption)) ?_
        refine a_callSNu X dX2_gatherUnits_55 miX7_put lm2_96 (c_put (by assumption) (by decide)) rfl rfl (Nat.le_of_ble_eq_true rfl) ⟨by decide, by decide, by decide, by decide⟩ ?_
        refine a_aload_n X dX2_gatherUnits_58 rfl ?_
        refine a_getr X lf2_18 (by assumption) rfl (by omega) dX2_gatherUnits_59 ?_
        refine a_iload_n X dX2_gatherUnits_62 rfl ?_
        refine a_iload_n X dX2_gatherUnits_63 rfl ?_
        refine a_aload_n X dX2_gatherUnits_64 rfl ?_
        refine a_geti X lf2_103 (by assumption) rfl dX2_gatherUnits_65 ?_
        refine a_imul X dX2_gatherUnits_68 ?_
        refine a_bipush (v := 100) X dX2_gatherUnits_69 (by decide) ?_
        refine a_idiv X dX2_gatherUnits_71 (by first | assumption | decide | exact z_nzl (by assumption)) ?_
        refine a_callSNu X dX2_gatherUnits_72 miX7_put lm2_96 (c_put (by assumption) (by decide)) rfl rfl (Nat.le_of_ble_eq_true rfl) ⟨by decide, by decide, by decide, by decide⟩ ?_
        refine a_aload_n X dX2_gatherUnits_75 rfl ?_
        refine a_dup X dX2_gatherUnits_76 rfl ?_
        refine a_geti X lf2_91 (by assumption) rfl dX2_gatherUnits_77 ?_
        refine a_aload_n X dX2_gatherUnits_80 rfl ?_
        refine a_getr X lf2_15 (by assumption) rfl (by omega) dX2_gatherUnits_81 ?_
        refine a_iload_n X dX2_gatherUnits_84 rfl ?_
        refine a_callSNv X dX2_gatherUnits_85 miX7_cell lm2_62 (c_cell (by assumption) (by first | decide | assumption)) rfl rfl (Nat.le_of_ble_eq_true rfl) ⟨by decide, by decide, by decide, by decide⟩ ?_
        refine a_if_le (tgt := 95) X dX2_gatherUnits_88 (by decide) (fun h_88 => ?_) (fun h_88 => ?_)
        · refine a_iconst (v := 0) X dX2_gatherUnits_95 (by decide) ?_
          exact Zw.to2 (J_96 _ _ _ _ _ _ (by (try dsimp only); repeat first | assumption | exact zK.rf | refine zK.zu ?_ (by omega) | refine zK.zu0 ?_ (by decide) | refine zK.zwr ?_ (by omega) | refine zK.zfil ?_ (by omega) | refine zK.zcpy ?_ (by omega) | refine zK.trans ?_ (by assumption) | dsimp only) (by first | exact Or.inl rfl | exact Or.inr rfl | assumption | ((try dsimp only); (repeat rw [zwr_row (by omega)]); assumption)) (by first | exact Or.inl rfl | exact Or.inr rfl | assumption | ((try dsimp only); (repeat rw [zwr_row (by omega)]); assumption)) hm_15 (by first | assumption | exact z_lt (by assumption) | exact z_lt2 (by assumption) | exact z_lt3 (by assumption) (by decide)) (by first | assumption | ((try dsimp only); (repeat rw [zwr_row (by omega)]); first | assumption | (rw [zu_eq]; first | exact Or.inl rfl | exact z_or01 (by assumption) (by assumption))))) rfl rfl rfl
        · refine a_iconst (v := 1) X dX2_gatherUnits_91 (by decide) ?_
          refine a_goto (tgt := 96) X dX2_gatherUnits_92 (by decide) ?_
          exact Zw.to2 (J_96 _ _ _ _ _ _ (by (try dsimp only); repeat first | assumption | exact zK.rf | refine zK.zu ?_ (by omega) | refine zK.zu0 ?_ (by decide) | refine zK.zwr ?_ (by omega) | refine zK.zfil ?_ (by omega) | refine zK.zcpy ?_ (by omega) | refine zK.trans ?_ (by assumption) | dsimp only) (by first | exact Or.inl rfl | exact Or.inr rfl | assumption | ((try dsimp only); (repeat rw [zwr_row (by omega)]); assumption)) (by first | exact Or.inl rfl | exact Or.inr rfl | assumption | ((try dsimp only); (repeat rw [zwr_row (by omega)]); assumption)) hm_15 (by first | assumption | exact z_lt (by assumption) | exact z_lt2 (by assumption) | exact z_lt3 (by assumption) (by decide)) (by first | assumption | ((try dsimp only); (repeat rw [zwr_row (by omega)]); first | assumption | (rw [zu_eq]; first | exact Or.inl rfl | exact z_or01 (by assumption) (by assumption))))) rfl rfl rfl
  have H_15 : ∀ (x2_15 : Int32) (x3_15 : Option Value) (M2 : Nat → Nat → Int32) (N2 : Nat → Nat → Int64), zK P S.2.1 M2 → (M2 Q 3 = 0 ∨ M2 Q 3 = 1) → Zw p l e { frames := 1, cells := 0, slots := 0, locals := 80 * 1 } s m args below meth c G b 4 (MQ below (zQ G b FQ) args s 0 0 (fun q : Nat => b ≤ q)) 0 0 15 [some (.ref (Q)), some (.ref (A)), some (.int x2_15), x3_15] [] (S.1, M2, N2) := fun x2_15 x3_15 M2 N2 k f0 => L_15 _ x2_15 x3_15 M2 N2 k f0 (Nat.lt_succ_self _)
  refine a_aload_n X dX2_gatherUnits_0 rfl ?_
  refine a_aload_n X dX2_gatherUnits_1 rfl ?_
  refine a_geti X lf2_87 (by assumption) rfl dX2_gatherUnits_2 ?_
  refine a_puti X lf2_90 (by assumption) rfl dX2_gatherUnits_5 ?_
  refine a_aload_n X dX2_gatherUnits_8 rfl ?_
  refine a_iconst (v := 0) X dX2_gatherUnits_9 (by decide) ?_
  refine a_putz X (Or.inl rfl) lf2_91 (by assumption) rfl dX2_gatherUnits_10 ?_
  refine a_iconst (v := 0) X dX2_gatherUnits_13 (by decide) ?_
  refine a_istore_n X dX2_gatherUnits_14 (by decide) ?_
  exact Zw.to2 (H_15 _ _ _ _ (by (try dsimp only); repeat first | assumption | exact zK.rf | refine zK.zu ?_ (by omega) | refine zK.zu0 ?_ (by decide) | refine zK.zwr ?_ (by omega) | refine zK.zfil ?_ (by omega) | refine zK.zcpy ?_ (by omega) | refine zK.trans ?_ (by assumption) | dsimp only) (by first | assumption | ((try dsimp only); (repeat rw [zwr_row (by omega)]); first | assumption | (rw [zu_eq]; first | exact Or.inl rfl | exact z_or01 (by assumption) (by assumption))))) rfl rfl rfl
set_option maxRecDepth 100000 in
theorem s_X2_gather {l : Launch} {G : zG} {b : Nat} {S : zS} {P : Nat} {Q : Nat} {A : Nat} (hQ : LX2 S.1 Q) (rQ : P < Q ∧ Q + 13 ≤ P + 200) (hA : LX4 S.1 A) (rA : P < A ∧ A + 8 ≤ P + 200) : zM l G b yX2_gather cX2_gather 4 none 2 0 0 [.ref Q, .ref A] S (fun r z => ∃ M' N', z = (S.1, M', N') ∧ zK P S.2.1 M' ∧ r = none) := by
  refine zM.of miX2_gather (Nat.le_of_ble_eq_true rfl) ?_
  intro p e s m args below meth c X hr hname
  generalize hF : ((fun r z => ∃ M' N', z = (S.1, M', N') ∧ zK P S.2.1 M' ∧ r = none) : Option Value → zS → Prop) = FQ
  change Zw p l e { frames := 2, cells := 0, slots := 0, locals := 80 * 2 } s m args below meth c G b 4 (MQ below (zQ G b FQ) args s 0 0 (fun q : Nat => b ≤ q)) 0 0 0 [some (.ref Q), some (.ref A), none, none] [] S
  obtain ⟨q_lt, q_o, q_quota, q_preferred, q_forGuests, q_applicantOf, q_size, q_guestCount, q_score, q_tickets, q_bits, q_party, q_wishCount, q_wishes⟩ := id hQ
  obtain ⟨a_lt, a_o, a_quota, a_score, a_guest, a_party, a_wishCount, a_wishes, a_has⟩ := id hA
  have L_111 : ∀ u : Nat, ∀ (x2_111 : Int32) (x3_111 : Option Value) (M2 : Nat → Nat → Int32) (N2 : Nat → Nat → Int64), zK P S.2.1 M2 → (2147483648 - x2_111.toInt).toNat < u → Zw p l e { frames := 2, cells := 0, slots := 0, locals := 80 * 2 } s m args below meth c G b 4 (MQ below (zQ G b FQ) args s 0 0 (fun q : Nat => b ≤ q)) 0 0 111 [some (.ref (Q)), some (.ref (A)), some (.int x2_111), x3_111] [] (S.1, M2, N2) := by
    intro u
    induction u with
    | zero => intro x2_111 x3_111 M2_111 N2_111 k_111 hm_111; exact absurd hm_111 (Nat.not_lt_zero _)
    | succ u_111 ih_111 =>
      intro x2_111 x3_111 M2_111 N2_111 k_111 hm_111
      refine a_iload_n X dX2_gather_111 rfl ?_
      refine a_aload_n X dX2_gather_112 rfl ?_
      refine a_geti X lf2_52 (by assumption) rfl dX2_gather_113 ?_
      refine a_icmp_ge (tgt := 151) X dX2_gather_116 (by decide) (fun h_116 => ?_) (fun h_116 => ?_)
      · refine a_vret X hr dX2_gather_151 ⟨by decide, by decide⟩ ?_
        subst hF
        exact ⟨_, _, rfl, (by (try dsimp only); repeat first | assumption | exact zK.rf | refine zK.zu ?_ (by omega) | refine zK.zu0 ?_ (by decide) | refine zK.zwr ?_ (by omega) | refine zK.zfil ?_ (by omega) | refine zK.zcpy ?_ (by omega) | refine zK.trans ?_ (by assumption) | dsimp only), rfl⟩
      · refine a_aload_n X dX2_gather_119 rfl ?_
        refine a_iload_n X dX2_gather_120 rfl ?_
        refine a_aload_n X dX2_gather_121 rfl ?_
        refine a_geti X lf2_80 (by assumption) rfl dX2_gather_122 ?_
        refine a_callVx X dX2_gather_125 miX2_close lm2_83 (s_X2_close (P := P) (by assumption) (by omega)) (by assumption) rfl rfl rfl (Nat.le_of_ble_eq_true rfl) ⟨by decide, by decide, by decide, by decide⟩ (fun r_125 S_125 q_125 => ?_)
        obtain ⟨M_125, N_125, rfl, k_125, rfl⟩ := q_125
        refine a_aload_n X dX2_gather_128 rfl ?_
        refine a_dup X dX2_gather_129 rfl ?_
        refine a_geti X lf2_77 (by assumption) rfl dX2_gather_130 ?_
        refine a_aload_n X dX2_gather_133 rfl ?_
        refine a_getr X lf2_33 (by assumption) rfl (by omega) dX2_gather_134 ?_
        refine a_iload_n X dX2_gather_137 rfl ?_
        refine a_callSNv X dX2_gather_138 miX7_cell lm2_62 (c_cell (by assumption) (by first | decide | assumption)) rfl rfl (Nat.le_of_ble_eq_true rfl) ⟨by decide, by decide, by decide, by decide⟩ ?_
        refine a_iadd X dX2_gather_141 ?_
        refine a_puti X lf2_77 (by assumption) rfl dX2_gather_142 ?_
        refine a_iinc X dX2_gather_145 (by decide) rfl rfl ?_
        refine a_goto (tgt := 111) X dX2_gather_148 (by decide) ?_
        exact Zw.to2 (ih_111 _ _ _ _ (by (try dsimp only); repeat first | assumption | exact zK.rf | refine zK.zu ?_ (by omega) | refine zK.zu0 ?_ (by decide) | refine zK.zwr ?_ (by omega) | refine zK.zfil ?_ (by omega) | refine zK.zcpy ?_ (by omega) | refine zK.trans ?_ (by assumption) | dsimp only)  (z_up (by first | assumption | exact z_lt (by assumption) | exact z_lt2 (by assumption) | exact z_lt3 (by assumption) (by decide)) hm_111)) rfl rfl rfl
  have H_111 : ∀ (x2_111 : Int32) (x3_111 : Option Value) (M2 : Nat → Nat → Int32) (N2 : Nat → Nat → Int64), zK P S.2.1 M2 → Zw p l e { frames := 2, cells := 0, slots := 0, locals := 80 * 2 } s m args below meth c G b 4 (MQ below (zQ G b FQ) args s 0 0 (fun q : Nat => b ≤ q)) 0 0 111 [some (.ref (Q)), some (.ref (A)), some (.int x2_111), x3_111] [] (S.1, M2, N2) := fun x2_111 x3_111 M2 N2 k  => L_111 _ x2_111 x3_111 M2 N2 k  (Nat.lt_succ_self _)
  have L_51 : ∀ u : Nat, ∀ (x2_51 : Int32) (x3_51 : Option Value) (M2 : Nat → Nat → Int32) (N2 : Nat → Nat → Int64), zK P S.2.1 M2 → (2147483648 - x2_51.toInt).toNat < u → Zw p l e { frames := 2, cells := 0, slots := 0, locals := 80 * 2 } s m args below meth c G b 4 (MQ below (zQ G b FQ) args s 0 0 (fun q : Nat => b ≤ q)) 0 0 51 [some (.ref (Q)), some (.ref (A)), some (.int x2_51), x3_51] [] (S.1, M2, N2) := by
    intro u
    induction u with
    | zero => intro x2_51 x3_51 M2_51 N2_51 k_51 hm_51; exact absurd hm_51 (Nat.not_lt_zero _)
    | succ u_51 ih_51 =>
      intro x2_51 x3_51 M2_51 N2_51 k_51 hm_51
      have L_66 : ∀ u : Nat, ∀ (x2_66 : Int32) (x3_66 : Int32) (M2 : Nat → Nat → Int32) (N2 : Nat → Nat → Int64), zK P S.2.1 M2 → ((2147483648 - x2_66.toInt).toNat < u_51 + 1) → (x2_66.toInt < 2147483647) → (2147483648 - x3_66.toInt).toNat < u → Zw p l e { frames := 2, cells := 0, slots := 0, locals := 80 * 2 } s m args below meth c G b 4 (MQ below (zQ G b FQ) args s 0 0 (fun q : Nat => b ≤ q)) 0 0 66 [some (.ref (Q)), some (.ref (A)), some (.int x2_66), some (.int x3_66)] [] (S.1, M2, N2) := by
        intro u
        induction u with
        | zero => intro x2_66 x3_66 M2_66 N2_66 k_66 f0_66 f1_66 hm_66; exact absurd hm_66 (Nat.not_lt_zero _)
        | succ u_66 ih_66 =>
          intro x2_66 x3_66 M2_66 N2_66 k_66 f0_66 f1_66 hm_66
          have J_92 : ∀ (x2_92 : Int32) (x3_92 : Int32) (M2 : Nat → Nat → Int32) (N2 : Nat → Nat → Int64), zK P S.2.1 M2 → ((2147483648 - x2_92.toInt).toNat < u_51 + 1) → (x2_92.toInt < 2147483647) → ((2147483648 - x3_92.toInt).toNat < u_66 + 1) → (x3_92.toInt < 2147483647) → Zw p l e { frames := 2, cells := 0, slots := 0, locals := 80 * 2 } s m args below meth c G b 4 (MQ below (zQ G b FQ) args s 0 0 (fun q : Nat => b ≤ q)) 0 0 92 [some (.ref (Q)), some (.ref (A)), some (.int x2_92), some (.int x3_92)] [] (S.1, M2, N2) := by
            intro x2_92 x3_92 M2_92 N2_92 k_92 f0_92 f1_92 f2_92 f3_92
            refine a_iinc X dX2_gather_92 (by decide) rfl rfl ?_
            refine a_goto (tgt := 66) X dX2_gather_95 (by decide) ?_
            exact Zw.to2 (ih_66 _ _ _ _ (by (try dsimp only); repeat first | assumption | exact zK.rf | refine zK.zu ?_ (by omega) | refine zK.zu0 ?_ (by decide) | refine zK.zwr ?_ (by omega) | refine zK.zfil ?_ (by omega) | refine zK.zcpy ?_ (by omega) | refine zK.trans ?_ (by assumption) | dsimp only) f0_92 f1_92 (z_up f3_92 f2_92)) rfl rfl rfl
          refine a_iload_n X dX2_gather_66 rfl ?_
          refine a_aload_n X dX2_gather_67 rfl ?_
          refine a_geti X lf2_56 (by assumption) rfl dX2_gather_68 ?_
          refine a_icmp_ge (tgt := 98) X dX2_gather_71 (by decide) (fun h_71 => ?_) (fun h_71 => ?_)
          · refine a_iinc X dX2_gather_98 (by decide) rfl rfl ?_
            refine a_goto (tgt := 51) X dX2_gather_101 (by decide) ?_
            exact Zw.to2 (ih_51 _ _ _ _ (by (try dsimp only); repeat first | assumption | exact zK.rf | refine zK.zu ?_ (by omega) | refine zK.zu0 ?_ (by decide) | refine zK.zwr ?_ (by omega) | refine zK.zfil ?_ (by omega) | refine zK.zcpy ?_ (by omega) | refine zK.trans ?_ (by assumption) | dsimp only)  (z_up f1_66 f0_66)) rfl rfl rfl
          · refine a_aload_n X dX2_gather_74 rfl ?_
            refine a_getr X lf2_61 (by assumption) rfl (by omega) dX2_gather_75 ?_
            refine a_iload_n X dX2_gather_78 rfl ?_
            refine a_callSNv X dX2_gather_79 miX7_cell lm2_62 (c_cell (by assumption) (by first | decide | assumption)) rfl rfl (Nat.le_of_ble_eq_true rfl) ⟨by decide, by decide, by decide, by decide⟩ ?_
            refine a_iload_n X dX2_gather_82 rfl ?_
            refine a_icmp_ne (tgt := 92) X dX2_gather_83 (by decide) (fun h_83 => ?_) (fun h_83 => ?_)
            · exact Zw.to2 (J_92 _ _ _ _ (by (try dsimp only); repeat first | assumption | exact zK.rf | refine zK.zu ?_ (by omega) | refine zK.zu0 ?_ (by decide) | refine zK.zwr ?_ (by omega) | refine zK.zfil ?_ (by omega) | refine zK.zcpy ?_ (by omega) | refine zK.trans ?_ (by assumption) | dsimp only) f0_66 f1_66 hm_66 (by first | assumption | exact z_lt (by assumption) | exact z_lt2 (by assumption) | exact z_lt3 (by assumption) (by decide))) rfl rfl rfl
            · refine a_aload_n X dX2_gather_86 rfl ?_
              refine a_aload_n X dX2_gather_87 rfl ?_
              refine a_iload_n X dX2_gather_88 rfl ?_
              refine a_callVx X dX2_gather_89 miX2_join lm2_70 (s_X2_join (P := P) (by assumption) (by omega) (by assumption) (by omega)) (by assumption) rfl rfl rfl (Nat.le_of_ble_eq_true rfl) ⟨by decide, by decide, by decide, by decide⟩ (fun r_89 S_89 q_89 => ?_)
              obtain ⟨M_89, N_89, rfl, k_89, rfl⟩ := q_89
              exact Zw.to2 (J_92 _ _ _ _ (by (try dsimp only); repeat first | assumption | exact zK.rf | refine zK.zu ?_ (by omega) | refine zK.zu0 ?_ (by decide) | refine zK.zwr ?_ (by omega) | refine zK.zfil ?_ (by omega) | refine zK.zcpy ?_ (by omega) | refine zK.trans ?_ (by assumption) | dsimp only) f0_66 f1_66 hm_66 (by first | assumption | exact z_lt (by assumption) | exact z_lt2 (by assumption) | exact z_lt3 (by assumption) (by decide))) rfl rfl rfl
      have H_66 : ∀ (x2_66 : Int32) (x3_66 : Int32) (M2 : Nat → Nat → Int32) (N2 : Nat → Nat → Int64), zK P S.2.1 M2 → ((2147483648 - x2_66.toInt).toNat < u_51 + 1) → (x2_66.toInt < 2147483647) → Zw p l e { frames := 2, cells := 0, slots := 0, locals := 80 * 2 } s m args below meth c G b 4 (MQ below (zQ G b FQ) args s 0 0 (fun q : Nat => b ≤ q)) 0 0 66 [some (.ref (Q)), some (.ref (A)), some (.int x2_66), some (.int x3_66)] [] (S.1, M2, N2) := fun x2_66 x3_66 M2 N2 k f0 f1 => L_66 _ x2_66 x3_66 M2 N2 k f0 f1 (Nat.lt_succ_self _)
      refine a_iload_n X dX2_gather_51 rfl ?_
      refine a_aload_n X dX2_gather_52 rfl ?_
      refine a_geti X lf2_74 (by assumption) rfl dX2_gather_53 ?_
      refine a_icmp_ge (tgt := 104) X dX2_gather_56 (by decide) (fun h_56 => ?_) (fun h_56 => ?_)
      · refine a_aload_n X dX2_gather_104 rfl ?_
        refine a_iconst (v := 0) X dX2_gather_105 (by decide) ?_
        refine a_puti X lf2_77 (by assumption) rfl dX2_gather_106 ?_
        refine a_iconst (v := 0) X dX2_gather_109 (by decide) ?_
        refine a_istore_n X dX2_gather_110 (by decide) ?_
        exact Zw.to2 (H_111 _ _ _ _ (by (try dsimp only); repeat first | assumption | exact zK.rf | refine zK.zu ?_ (by omega) | refine zK.zu0 ?_ (by decide) | refine zK.zwr ?_ (by omega) | refine zK.zfil ?_ (by omega) | refine zK.zcpy ?_ (by omega) | refine zK.trans ?_ (by assumption) | dsimp only) ) rfl rfl rfl
      · refine a_aload_n X dX2_gather_59 rfl ?_
        refine a_iload_n X dX2_gather_60 rfl ?_
        refine a_callVx X dX2_gather_61 miX2_open lm2_66 (s_X2_open (P := P) (by assumption) (by omega)) (by assumption) rfl rfl rfl (Nat.le_of_ble_eq_true rfl) ⟨by decide, by decide, by decide, by decide⟩ (fun r_61 S_61 q_61 => ?_)
        obtain ⟨M_61, N_61, rfl, k_61, rfl⟩ := q_61
        refine a_iconst (v := 0) X dX2_gather_64 (by decide) ?_
        refine a_istore_n X dX2_gather_65 (by decide) ?_
        exact Zw.to2 (H_66 _ _ _ _ (by (try dsimp only); repeat first | assumption | exact zK.rf | refine zK.zu ?_ (by omega) | refine zK.zu0 ?_ (by decide) | refine zK.zwr ?_ (by omega) | refine zK.zfil ?_ (by omega) | refine zK.zcpy ?_ (by omega) | refine zK.trans ?_ (by assumption) | dsimp only) hm_51 (by first | assumption | exact z_lt (by assumption) | exact z_lt2 (by assumption) | exact z_lt3 (by assumption) (by decide))) rfl rfl rfl
  have H_51 : ∀ (x2_51 : Int32) (x3_51 : Option Value) (M2 : Nat → Nat → Int32) (N2 : Nat → Nat → Int64), zK P S.2.1 M2 → Zw p l e { frames := 2, cells := 0, slots := 0, locals := 80 * 2 } s m args below meth c G b 4 (MQ below (zQ G b FQ) args s 0 0 (fun q : Nat => b ≤ q)) 0 0 51 [some (.ref (Q)), some (.ref (A)), some (.int x2_51), x3_51] [] (S.1, M2, N2) := fun x2_51 x3_51 M2 N2 k  => L_51 _ x2_51 x3_51 M2 N2 k  (Nat.lt_succ_self _)
  have L_12 : ∀ u : Nat, ∀ (x2_12 : Int32) (x3_12 : Option Value) (M2 : Nat → Nat → Int32) (N2 : Nat → Nat → Int64), zK P S.2.1 M2 → (2147483648 - x2_12.toInt).toNat < u → Zw p l e { frames := 2, cells := 0, slots := 0, locals := 80 * 2 } s m args below meth c G b 4 (MQ below (zQ G b FQ) args s 0 0 (fun q : Nat => b ≤ q)) 0 0 12 [some (.ref (Q)), some (.ref (A)), some (.int x2_12), x3_12] [] (S.1, M2, N2) := by
    intro u
    induction u with
    | zero => intro x2_12 x3_12 M2_12 N2_12 k_12 hm_12; exact absurd hm_12 (Nat.not_lt_zero _)
    | succ u_12 ih_12 =>
      intro x2_12 x3_12 M2_12 N2_12 k_12 hm_12
      have J_43 : ∀ (x2_43 : Int32) (x3_43 : Option Value) (M2 : Nat → Nat → Int32) (N2 : Nat → Nat → Int64), zK P S.2.1 M2 → ((2147483648 - x2_43.toInt).toNat < u_12 + 1) → (x2_43.toInt < 2147483647) → Zw p l e { frames := 2, cells := 0, slots := 0, locals := 80 * 2 } s m args below meth c G b 4 (MQ below (zQ G b FQ) args s 0 0 (fun q : Nat => b ≤ q)) 0 0 43 [some (.ref (Q)), some (.ref (A)), some (.int x2_43), x3_43] [] (S.1, M2, N2) := by
        intro x2_43 x3_43 M2_43 N2_43 k_43 f0_43 f1_43
        refine a_iinc X dX2_gather_43 (by decide) rfl rfl ?_
        refine a_goto (tgt := 12) X dX2_gather_46 (by decide) ?_
        exact Zw.to2 (ih_12 _ _ _ _ (by (try dsimp only); repeat first | assumption | exact zK.rf | refine zK.zu ?_ (by omega) | refine zK.zu0 ?_ (by decide) | refine zK.zwr ?_ (by omega) | refine zK.zfil ?_ (by omega) | refine zK.zcpy ?_ (by omega) | refine zK.trans ?_ (by assumption) | dsimp only)  (z_up f1_43 f0_43)) rfl rfl rfl
      refine a_iload_n X dX2_gather_12 rfl ?_
      refine a_aload_n X dX2_gather_13 rfl ?_
      refine a_geti X lf2_56 (by assumption) rfl dX2_gather_14 ?_
      refine a_icmp_ge (tgt := 49) X dX2_gather_17 (by decide) (fun h_17 => ?_) (fun h_17 => ?_)
      · refine a_iconst (v := 0) X dX2_gather_49 (by decide) ?_
        refine a_istore_n X dX2_gather_50 (by decide) ?_
        exact Zw.to2 (H_51 _ _ _ _ (by (try dsimp only); repeat first | assumption | exact zK.rf | refine zK.zu ?_ (by omega) | refine zK.zu0 ?_ (by decide) | refine zK.zwr ?_ (by omega) | refine zK.zfil ?_ (by omega) | refine zK.zcpy ?_ (by omega) | refine zK.trans ?_ (by assumption) | dsimp only) ) rfl rfl rfl
      · refine a_aload_n X dX2_gather_20 rfl ?_
        refine a_getr X lf2_61 (by assumption) rfl (by omega) dX2_gather_21 ?_
        refine a_iload_n X dX2_gather_24 rfl ?_
        refine a_callSNv X dX2_gather_25 miX7_cell lm2_62 (c_cell (by assumption) (by first | decide | assumption)) rfl rfl (Nat.le_of_ble_eq_true rfl) ⟨by decide, by decide, by decide, by decide⟩ ?_
        refine a_iconst (v := -1) X dX2_gather_28 (by decide) ?_
        refine a_icmp_ne (tgt := 43) X dX2_gather_29 (by decide) (fun h_29 => ?_) (fun h_29 => ?_)
        · exact Zw.to2 (J_43 _ _ _ _ (by (try dsimp only); repeat first | assumption | exact zK.rf | refine zK.zu ?_ (by omega) | refine zK.zu0 ?_ (by decide) | refine zK.zwr ?_ (by omega) | refine zK.zfil ?_ (by omega) | refine zK.zcpy ?_ (by omega) | refine zK.trans ?_ (by assumption) | dsimp only) hm_12 (by first | assumption | exact z_lt (by assumption) | exact z_lt2 (by assumption) | exact z_lt3 (by assumption) (by decide))) rfl rfl rfl
        · refine a_aload_n X dX2_gather_32 rfl ?_
          refine a_iconst (v := -1) X dX2_gather_33 (by decide) ?_
          refine a_callVx X dX2_gather_34 miX2_open lm2_66 (s_X2_open (P := P) (by assumption) (by omega)) (by assumption) rfl rfl rfl (Nat.le_of_ble_eq_true rfl) ⟨by decide, by decide, by decide, by decide⟩ (fun r_34 S_34 q_34 => ?_)
          obtain ⟨M_34, N_34, rfl, k_34, rfl⟩ := q_34
          refine a_aload_n X dX2_gather_37 rfl ?_
          refine a_aload_n X dX2_gather_38 rfl ?_
          refine a_iload_n X dX2_gather_39 rfl ?_
          refine a_callVx X dX2_gather_40 miX2_join lm2_70 (s_X2_join (P := P) (by assumption) (by omega) (by assumption) (by omega)) (by assumption) rfl rfl rfl (Nat.le_of_ble_eq_true rfl) ⟨by decide, by decide, by decide, by decide⟩ (fun r_40 S_40 q_40 => ?_)
          obtain ⟨M_40, N_40, rfl, k_40, rfl⟩ := q_40
          exact Zw.to2 (J_43 _ _ _ _ (by (try dsimp only); repeat first | assumption | exact zK.rf | refine zK.zu ?_ (by omega) | refine zK.zu0 ?_ (by decide) | refine zK.zwr ?_ (by omega) | refine zK.zfil ?_ (by omega) | refine zK.zcpy ?_ (by omega) | refine zK.trans ?_ (by assumption) | dsimp only) hm_12 (by first | assumption | exact z_lt (by assumption) | exact z_lt2 (by assumption) | exact z_lt3 (by assumption) (by decide))) rfl rfl rfl
  have H_12 : ∀ (x2_12 : Int32) (x3_12 : Option Value) (M2 : Nat → Nat → Int32) (N2 : Nat → Nat → Int64), zK P S.2.1 M2 → Zw p l e { frames := 2, cells := 0, slots := 0, locals := 80 * 2 } s m args below meth c G b 4 (MQ below (zQ G b FQ) args s 0 0 (fun q : Nat => b ≤ q)) 0 0 12 [some (.ref (Q)), some (.ref (A)), some (.int x2_12), x3_12] [] (S.1, M2, N2) := fun x2_12 x3_12 M2 N2 k  => L_12 _ x2_12 x3_12 M2 N2 k  (Nat.lt_succ_self _)
  refine a_aload_n X dX2_gather_0 rfl ?_
  refine a_aload_n X dX2_gather_1 rfl ?_
  refine a_callVx X dX2_gather_2 miX2_gatherUnits lm2_48 (s_X2_gatherUnits (P := P) (by assumption) (by omega) (by assumption) (by omega)) (by assumption) rfl rfl rfl (Nat.le_of_ble_eq_true rfl) ⟨by decide, by decide, by decide, by decide⟩ (fun r_2 S_2 q_2 => ?_)
  obtain ⟨M_2, N_2, rfl, k_2, rfl⟩ := q_2
  refine a_aload_n X dX2_gather_5 rfl ?_
  refine a_iconst (v := 0) X dX2_gather_6 (by decide) ?_
  refine a_puti X lf2_52 (by assumption) rfl dX2_gather_7 ?_
  refine a_iconst (v := 0) X dX2_gather_10 (by decide) ?_
  refine a_istore_n X dX2_gather_11 (by decide) ?_
  exact Zw.to2 (H_12 _ _ _ _ (by (try dsimp only); repeat first | assumption | exact zK.rf | refine zK.zu ?_ (by omega) | refine zK.zu0 ?_ (by decide) | refine zK.zwr ?_ (by omega) | refine zK.zfil ?_ (by omega) | refine zK.zcpy ?_ (by omega) | refine zK.trans ?_ (by assumption) | dsimp only) ) rfl rfl rfl
set_option maxRecDepth 100000 in
theorem s_X5_holderOf {l : Launch} {G : zG} {b : Nat} {S : zS} {P : Nat} {Q : Nat} {v0 : Int32} {v1 : Int32} (hQ : LX2 S.1 Q) (rQ : P < Q ∧ Q + 13 ≤ P + 200) : zM l G b yX5_holderOf cX5_holderOf 5 (some .int) 1 0 0 [.ref Q, .int v0, .int v1] S (fun r z => z = S ∧ ∃ v : Int32, r = some (.int v)) := by
  refine zM.of miX5_holderOf (Nat.le_of_ble_eq_true rfl) ?_
  intro p e s m args below meth c X hr hname
  generalize hF : ((fun r z => z = S ∧ ∃ v : Int32, r = some (.int v)) : Option Value → zS → Prop) = FQ
  change Zw p l e { frames := 1, cells := 0, slots := 0, locals := 80 * 1 } s m args below meth c G b 5 (MQ below (zQ G b FQ) args s 0 0 (fun q : Nat => b ≤ q)) 0 0 0 [some (.ref Q), some (.int v0), some (.int v1), none, none] [] S
  obtain ⟨q_lt, q_o, q_quota, q_preferred, q_forGuests, q_applicantOf, q_size, q_guestCount, q_score, q_tickets, q_bits, q_party, q_wishCount, q_wishes⟩ := id hQ
  have L_5 : ∀ u : Nat, ∀ (x1_5 : Int32) (x2_5 : Int32) (x3_5 : Int32) (x4_5 : Int32), (2147483648 - x4_5.toInt).toNat < u → Zw p l e { frames := 1, cells := 0, slots := 0, locals := 80 * 1 } s m args below meth c G b 5 (MQ below (zQ G b FQ) args s 0 0 (fun q : Nat => b ≤ q)) 0 0 5 [some (.ref (Q)), some (.int x1_5), some (.int x2_5), some (.int x3_5), some (.int x4_5)] [] S := by
    intro u
    induction u with
    | zero => intro x1_5 x2_5 x3_5 x4_5 hm_5; exact absurd hm_5 (Nat.not_lt_zero _)
    | succ u_5 ih_5 =>
      intro x1_5 x2_5 x3_5 x4_5 hm_5
      have J_44 : ∀ (x1_44 : Int32) (x2_44 : Int32) (x3_44 : Int32) (x4_44 : Int32), ((2147483648 - x4_44.toInt).toNat < u_5 + 1) → (x4_44.toInt < 2147483647) → Zw p l e { frames := 1, cells := 0, slots := 0, locals := 80 * 1 } s m args below meth c G b 5 (MQ below (zQ G b FQ) args s 0 0 (fun q : Nat => b ≤ q)) 0 0 44 [some (.ref (Q)), some (.int x1_44), some (.int x2_44), some (.int x3_44), some (.int x4_44)] [] S := by
        intro x1_44 x2_44 x3_44 x4_44 f0_44 f1_44
        refine a_iinc X dX5_holderOf_44 (by decide) rfl rfl ?_
        refine a_goto (tgt := 5) X dX5_holderOf_47 (by decide) ?_
        exact Zw.to2 (ih_5 _ _ _ _  (z_up f1_44 f0_44)) rfl rfl rfl
      refine a_iload X dX5_holderOf_5 rfl ?_
      refine a_aload_n X dX5_holderOf_7 rfl ?_
      refine a_geti X lf5_47 (by assumption) rfl dX5_holderOf_8 ?_
      refine a_icmp_ge (tgt := 50) X dX5_holderOf_11 (by decide) (fun h_11 => ?_) (fun h_11 => ?_)
      · refine a_iconst (v := 0) X dX5_holderOf_50 (by decide) ?_
        refine a_iret X hr dX5_holderOf_51 ⟨by decide, by decide⟩ ?_
        subst hF
        exact ⟨rfl, ⟨_, rfl⟩⟩
      · refine a_iload_n X dX5_holderOf_14 rfl ?_
        refine a_iload X dX5_holderOf_15 rfl ?_
        refine a_ishr X dX5_holderOf_17 ?_
        refine a_iconst (v := 1) X dX5_holderOf_18 (by decide) ?_
        refine a_iand X dX5_holderOf_19 ?_
        refine a_iconst (v := 1) X dX5_holderOf_20 (by decide) ?_
        refine a_icmp_ne (tgt := 44) X dX5_holderOf_21 (by decide) (fun h_21 => ?_) (fun h_21 => ?_)
        · exact Zw.to2 (J_44 _ _ _ _ hm_5 (by first | assumption | exact z_lt (by assumption) | exact z_lt2 (by assumption) | exact z_lt3 (by assumption) (by decide))) rfl rfl rfl
        · refine a_iload_n X dX5_holderOf_24 rfl ?_
          refine a_aload_n X dX5_holderOf_25 rfl ?_
          refine a_getr X lf5_66 (by assumption) rfl (by omega) dX5_holderOf_26 ?_
          refine a_iload X dX5_holderOf_29 rfl ?_
          refine a_callSNv X dX5_holderOf_31 miX7_cell lm5_69 (c_cell (by assumption) (by first | decide | assumption)) rfl rfl (Nat.le_of_ble_eq_true rfl) ⟨by decide, by decide, by decide, by decide⟩ ?_
          refine a_iadd X dX5_holderOf_34 ?_
          refine a_istore_n X dX5_holderOf_35 (by decide) ?_
          refine a_iload_n X dX5_holderOf_36 rfl ?_
          refine a_iload_n X dX5_holderOf_37 rfl ?_
          refine a_icmp_le (tgt := 44) X dX5_holderOf_38 (by decide) (fun h_38 => ?_) (fun h_38 => ?_)
          · exact Zw.to2 (J_44 _ _ _ _ hm_5 (by first | assumption | exact z_lt (by assumption) | exact z_lt2 (by assumption) | exact z_lt3 (by assumption) (by decide))) rfl rfl rfl
          · refine a_iload X dX5_holderOf_41 rfl ?_
            refine a_iret X hr dX5_holderOf_43 ⟨by decide, by decide⟩ ?_
            subst hF
            exact ⟨rfl, ⟨_, rfl⟩⟩
  have H_5 : ∀ (x1_5 : Int32) (x2_5 : Int32) (x3_5 : Int32) (x4_5 : Int32), Zw p l e { frames := 1, cells := 0, slots := 0, locals := 80 * 1 } s m args below meth c G b 5 (MQ below (zQ G b FQ) args s 0 0 (fun q : Nat => b ≤ q)) 0 0 5 [some (.ref (Q)), some (.int x1_5), some (.int x2_5), some (.int x3_5), some (.int x4_5)] [] S := fun x1_5 x2_5 x3_5 x4_5  => L_5 _ x1_5 x2_5 x3_5 x4_5  (Nat.lt_succ_self _)
  refine a_iconst (v := 0) X dX5_holderOf_0 (by decide) ?_
  refine a_istore_n X dX5_holderOf_1 (by decide) ?_
  refine a_iconst (v := 0) X dX5_holderOf_2 (by decide) ?_
  refine a_istore X dX5_holderOf_3 (by decide) ?_
  exact Zw.to2 (H_5 _ _ _ _ ) rfl rfl rfl
set_option maxRecDepth 100000 in
theorem s_X5_lineUp {l : Launch} {G : zG} {b : Nat} {S : zS} {P : Nat} {Q : Nat} {A : Nat} {v0 : Int32} (hQ : LX5 S.1 Q) (rQ : P < Q ∧ Q + 8 ≤ P + 200) (hA : LX2 S.1 A) (rA : P < A ∧ A + 13 ≤ P + 200) : zM l G b yX5_lineUp cX5_lineUp 9 none 2 0 0 [.ref Q, .ref A, .int v0] S (fun r z => ∃ M' N', z = (S.1, M', N') ∧ zK P S.2.1 M' ∧ r = none) := by
  refine zM.of miX5_lineUp (Nat.le_of_ble_eq_true rfl) ?_
  intro p e s m args below meth c X hr hname
  generalize hF : ((fun r z => ∃ M' N', z = (S.1, M', N') ∧ zK P S.2.1 M' ∧ r = none) : Option Value → zS → Prop) = FQ
  change Zw p l e { frames := 2, cells := 0, slots := 0, locals := 80 * 2 } s m args below meth c G b 9 (MQ below (zQ G b FQ) args s 0 0 (fun q : Nat => b ≤ q)) 0 0 0 [some (.ref Q), some (.ref A), some (.int v0), none, none, none, none, none, none] [] S
  obtain ⟨q_lt, q_o, q_line, q_unitOf, q_roundOf, q_leftTags, q_leftGuests, q_leftPreferred, q_ranked⟩ := id hQ
  obtain ⟨a_lt, a_o, a_quota, a_preferred, a_forGuests, a_applicantOf, a_size, a_guestCount, a_score, a_tickets, a_bits, a_party, a_wishCount, a_wishes⟩ := id hA
  have J_110 : ∀ (x2_110 : Int32) (x3_110 : Int64) (x5_110 : Int32) (x6_110 : Int32) (x7_110 : Int32) (x8_110 : Option Value) (M2 : Nat → Nat → Int32) (N2 : Nat → Nat → Int64), zK P S.2.1 M2 → Zw p l e { frames := 2, cells := 0, slots := 0, locals := 80 * 2 } s m args below meth c G b 9 (MQ below (zQ G b FQ) args s 0 0 (fun q : Nat => b ≤ q)) 0 0 110 [some (.ref (Q)), some (.ref (A)), some (.int x2_110), some (.long x3_110), none, some (.int x5_110), some (.int x6_110), some (.int x7_110), x8_110] [] (S.1, M2, N2) := by
    intro x2_110 x3_110 x5_110 x6_110 x7_110 x8_110 M2_110 N2_110 k_110
    refine a_vret X hr dX5_lineUp_110 ⟨by decide, by decide⟩ ?_
    subst hF
    exact ⟨_, _, rfl, (by (try dsimp only); repeat first | assumption | exact zK.rf | refine zK.zu ?_ (by omega) | refine zK.zu0 ?_ (by decide) | refine zK.zwr ?_ (by omega) | refine zK.zfil ?_ (by omega) | refine zK.zcpy ?_ (by omega) | refine zK.trans ?_ (by assumption) | dsimp only), rfl⟩
  have L_22 : ∀ u : Nat, ∀ (x2_22 : Int32) (x3_22 : Int64) (x5_22 : Int32) (x6_22 : Int32) (x7_22 : Int32) (x8_22 : Option Value) (M2 : Nat → Nat → Int32) (N2 : Nat → Nat → Int64), zK P S.2.1 M2 → (2147483648 - x7_22.toInt).toNat < u → Zw p l e { frames := 2, cells := 0, slots := 0, locals := 80 * 2 } s m args below meth c G b 9 (MQ below (zQ G b FQ) args s 0 0 (fun q : Nat => b ≤ q)) 0 0 22 [some (.ref (Q)), some (.ref (A)), some (.int x2_22), some (.long x3_22), none, some (.int x5_22), some (.int x6_22), some (.int x7_22), x8_22] [] (S.1, M2, N2) := by
    intro u
    induction u with
    | zero => intro x2_22 x3_22 x5_22 x6_22 x7_22 x8_22 M2_22 N2_22 k_22 hm_22; exact absurd hm_22 (Nat.not_lt_zero _)
    | succ u_22 ih_22 =>
      intro x2_22 x3_22 x5_22 x6_22 x7_22 x8_22 M2_22 N2_22 k_22 hm_22
      refine a_iload X dX5_lineUp_22 rfl ?_
      refine a_aload_n X dX5_lineUp_24 rfl ?_
      refine a_geti X lf5_47 (by assumption) rfl dX5_lineUp_25 ?_
      refine a_icmp_ge (tgt := 110) X dX5_lineUp_28 (by decide) (fun h_28 => ?_) (fun h_28 => ?_)
      · exact Zw.to2 (J_110 _ _ _ _ _ _ _ _ (by (try dsimp only); repeat first | assumption | exact zK.rf | refine zK.zu ?_ (by omega) | refine zK.zu0 ?_ (by decide) | refine zK.zwr ?_ (by omega) | refine zK.zfil ?_ (by omega) | refine zK.zcpy ?_ (by omega) | refine zK.trans ?_ (by assumption) | dsimp only) ) rfl rfl rfl
      · refine a_iload X dX5_lineUp_31 rfl ?_
        refine a_if_le (tgt := 110) X dX5_lineUp_33 (by decide) (fun h_33 => ?_) (fun h_33 => ?_)
        · exact Zw.to2 (J_110 _ _ _ _ _ _ _ _ (by (try dsimp only); repeat first | assumption | exact zK.rf | refine zK.zu ?_ (by omega) | refine zK.zu0 ?_ (by decide) | refine zK.zwr ?_ (by omega) | refine zK.zfil ?_ (by omega) | refine zK.zcpy ?_ (by omega) | refine zK.trans ?_ (by assumption) | dsimp only) ) rfl rfl rfl
        · refine a_ldc2 X dX5_lineUp_36 lk5_50 ?_
          refine a_lload_n X dX5_lineUp_39 rfl ?_
          refine a_lmul X dX5_lineUp_40 ?_
          refine a_ldc2 X dX5_lineUp_41 lk5_52 ?_
          refine a_ladd X dX5_lineUp_44 ?_
          refine a_ldc2 X dX5_lineUp_45 lk5_54 ?_
          refine a_lrem X dX5_lineUp_48 (by first | assumption | decide | exact z_nzl (by assumption)) ?_
          refine a_lstore_n X dX5_lineUp_49 (by decide) ?_
          refine a_aload_n X dX5_lineUp_50 rfl ?_
          refine a_iload X dX5_lineUp_51 rfl ?_
          refine a_lload_n X dX5_lineUp_53 rfl ?_
          refine a_ldc2 X dX5_lineUp_54 lk5_56 ?_
          refine a_ldiv X dX5_lineUp_57 (by first | assumption | decide | exact z_nzl (by assumption)) ?_
          refine a_iload X dX5_lineUp_58 rfl ?_
          refine a_i2l X dX5_lineUp_60 ?_
          refine a_lrem X dX5_lineUp_61 (by first | assumption | decide | exact z_nzl (by assumption)) ?_
          refine a_l2i X dX5_lineUp_62 ?_
          refine a_callSx X dX5_lineUp_63 miX5_holderOf lm5_58 (s_X5_holderOf (P := P) (by assumption) (by omega)) rfl rfl (Nat.le_of_ble_eq_true rfl) ⟨by decide, by decide, by decide, by decide⟩ (fun r_63 S_63 q_63 => ?_)
          obtain ⟨rfl, ⟨v_63, rfl⟩⟩ := q_63
          refine a_istore X dX5_lineUp_66 (by decide) ?_
          refine a_aload_n X dX5_lineUp_68 rfl ?_
          refine a_getr X lf5_9 (by assumption) rfl (by omega) dX5_lineUp_69 ?_
          refine a_iload X dX5_lineUp_72 rfl ?_
          refine a_iload X dX5_lineUp_74 rfl ?_
          refine a_callSNx X dX5_lineUp_76 miX7_put lm5_62 (s_X7_put (P := P) (by assumption) (by first | decide | assumption) (by omega)) rfl rfl (Nat.le_of_ble_eq_true rfl) ⟨by decide, by decide, by decide, by decide⟩ (fun r_76 S_76 q_76 => ?_)
          obtain ⟨M_76, N_76, rfl, k_76, rfl⟩ := q_76
          refine a_iload X dX5_lineUp_79 rfl ?_
          refine a_iconst (v := 1) X dX5_lineUp_81 (by decide) ?_
          refine a_iload X dX5_lineUp_82 rfl ?_
          refine a_ishl X dX5_lineUp_84 ?_
          refine a_iconst (v := -1) X dX5_lineUp_85 (by decide) ?_
          refine a_ixor X dX5_lineUp_86 ?_
          refine a_iand X dX5_lineUp_87 ?_
          refine a_istore X dX5_lineUp_88 (by decide) ?_
          refine a_iload X dX5_lineUp_90 rfl ?_
          refine a_aload_n X dX5_lineUp_92 rfl ?_
          refine a_getr X lf5_66 (by assumption) rfl (by omega) dX5_lineUp_93 ?_
          refine a_iload X dX5_lineUp_96 rfl ?_
          refine a_callSNv X dX5_lineUp_98 miX7_cell lm5_69 (c_cell (by assumption) (by first | decide | assumption)) rfl rfl (Nat.le_of_ble_eq_true rfl) ⟨by decide, by decide, by decide, by decide⟩ ?_
          refine a_isub X dX5_lineUp_101 ?_
          refine a_istore X dX5_lineUp_102 (by decide) ?_
          refine a_iinc X dX5_lineUp_104 (by decide) rfl rfl ?_
          refine a_goto (tgt := 22) X dX5_lineUp_107 (by decide) ?_
          exact Zw.to2 (ih_22 _ _ _ _ _ _ _ _ (by (try dsimp only); repeat first | assumption | exact zK.rf | refine zK.zu ?_ (by omega) | refine zK.zu0 ?_ (by decide) | refine zK.zwr ?_ (by omega) | refine zK.zfil ?_ (by omega) | refine zK.zcpy ?_ (by omega) | refine zK.trans ?_ (by assumption) | dsimp only)  (z_up (by first | assumption | exact z_lt (by assumption) | exact z_lt2 (by assumption) | exact z_lt3 (by assumption) (by decide)) hm_22)) rfl rfl rfl
  have H_22 : ∀ (x2_22 : Int32) (x3_22 : Int64) (x5_22 : Int32) (x6_22 : Int32) (x7_22 : Int32) (x8_22 : Option Value) (M2 : Nat → Nat → Int32) (N2 : Nat → Nat → Int64), zK P S.2.1 M2 → Zw p l e { frames := 2, cells := 0, slots := 0, locals := 80 * 2 } s m args below meth c G b 9 (MQ below (zQ G b FQ) args s 0 0 (fun q : Nat => b ≤ q)) 0 0 22 [some (.ref (Q)), some (.ref (A)), some (.int x2_22), some (.long x3_22), none, some (.int x5_22), some (.int x6_22), some (.int x7_22), x8_22] [] (S.1, M2, N2) := fun x2_22 x3_22 x5_22 x6_22 x7_22 x8_22 M2 N2 k  => L_22 _ x2_22 x3_22 x5_22 x6_22 x7_22 x8_22 M2 N2 k  (Nat.lt_succ_self _)
  refine a_iload_n X dX5_lineUp_0 rfl ?_
  refine a_i2l X dX5_lineUp_1 ?_
  refine a_lstore_n X dX5_lineUp_2 (by decide) ?_
  refine a_aload_n X dX5_lineUp_3 rfl ?_
  refine a_geti X lf5_41 (by assumption) rfl dX5_lineUp_4 ?_
  refine a_istore X dX5_lineUp_7 (by decide) ?_
  refine a_iconst (v := 1) X dX5_lineUp_9 (by decide) ?_
  refine a_aload_n X dX5_lineUp_10 rfl ?_
  refine a_geti X lf5_47 (by assumption) rfl dX5_lineUp_11 ?_
  refine a_ishl X dX5_lineUp_14 ?_
  refine a_iconst (v := 1) X dX5_lineUp_15 (by decide) ?_
  refine a_isub X dX5_lineUp_16 ?_
  refine a_istore X dX5_lineUp_17 (by decide) ?_
  refine a_iconst (v := 0) X dX5_lineUp_19 (by decide) ?_
  refine a_istore X dX5_lineUp_20 (by decide) ?_
  exact Zw.to2 (H_22 _ _ _ _ _ _ _ _ (by (try dsimp only); repeat first | assumption | exact zK.rf | refine zK.zu ?_ (by omega) | refine zK.zu0 ?_ (by decide) | refine zK.zwr ?_ (by omega) | refine zK.zfil ?_ (by omega) | refine zK.zcpy ?_ (by omega) | refine zK.trans ?_ (by assumption) | dsimp only) ) rfl rfl rfl
set_option maxRecDepth 100000 in
theorem s_X5_hasFirst {l : Launch} {G : zG} {b : Nat} {S : zS} {P : Nat} {Q : Nat} {A : Nat} {v0 : Int32} (hQ : LX5 S.1 Q) (rQ : P < Q ∧ Q + 8 ≤ P + 200) (hA : LX2 S.1 A) (rA : P < A ∧ A + 13 ≤ P + 200) : zM l G b yX5_hasFirst cX5_hasFirst 3 (some .boolean) 2 0 0 [.ref Q, .ref A, .int v0] S (fun r z => z = S ∧ ∃ v : Int32, r = some (.int v) ∧ (v = 0 ∨ v = 1)) := by
  refine zM.of miX5_hasFirst (Nat.le_of_ble_eq_true rfl) ?_
  intro p e s m args below meth c X hr hname
  generalize hF : ((fun r z => z = S ∧ ∃ v : Int32, r = some (.int v) ∧ (v = 0 ∨ v = 1)) : Option Value → zS → Prop) = FQ
  change Zw p l e { frames := 2, cells := 0, slots := 0, locals := 80 * 2 } s m args below meth c G b 3 (MQ below (zQ G b FQ) args s 0 0 (fun q : Nat => b ≤ q)) 0 0 0 [some (.ref Q), some (.ref A), some (.int v0)] [] S
  obtain ⟨q_lt, q_o, q_line, q_unitOf, q_roundOf, q_leftTags, q_leftGuests, q_leftPreferred, q_ranked⟩ := id hQ
  obtain ⟨a_lt, a_o, a_quota, a_preferred, a_forGuests, a_applicantOf, a_size, a_guestCount, a_score, a_tickets, a_bits, a_party, a_wishCount, a_wishes⟩ := id hA
  have J_34 : ∀ (x2_34 : Int32) (y0_34 : Int32), (y0_34 = 0 ∨ y0_34 = 1) → Zw p l e { frames := 2, cells := 0, slots := 0, locals := 80 * 2 } s m args below meth c G b 3 (MQ below (zQ G b FQ) args s 0 0 (fun q : Nat => b ≤ q)) 0 0 34 [some (.ref (Q)), some (.ref (A)), some (.int x2_34)] [(.int y0_34)] S := by
    intro x2_34 y0_34 f0_34
    refine a_zret X (by first | exact Or.inl rfl | exact Or.inr rfl | assumption) hr dX5_hasFirst_34 ⟨by decide, by decide⟩ ?_
    subst hF
    exact ⟨rfl, ⟨_, rfl, (by first | exact Or.inl rfl | exact Or.inr rfl | assumption | ((try dsimp only); (repeat rw [zwr_row (by omega)]); assumption))⟩⟩
  have J_33 : ∀ (x2_33 : Int32), Zw p l e { frames := 2, cells := 0, slots := 0, locals := 80 * 2 } s m args below meth c G b 3 (MQ below (zQ G b FQ) args s 0 0 (fun q : Nat => b ≤ q)) 0 0 33 [some (.ref (Q)), some (.ref (A)), some (.int x2_33)] [] S := by
    intro x2_33
    refine a_iconst (v := 0) X dX5_hasFirst_33 (by decide) ?_
    exact Zw.to2 (J_34 _ _ (by first | exact Or.inl rfl | exact Or.inr rfl | assumption | ((try dsimp only); (repeat rw [zwr_row (by omega)]); assumption))) rfl rfl rfl
  refine a_aload_n X dX5_hasFirst_0 rfl ?_
  refine a_getr X lf5_15 (by assumption) rfl (by omega) dX5_hasFirst_1 ?_
  refine a_iload_n X dX5_hasFirst_4 rfl ?_
  refine a_callSNv X dX5_hasFirst_5 miX7_cell lm5_69 (c_cell (by assumption) (by first | decide | assumption)) rfl rfl (Nat.le_of_ble_eq_true rfl) ⟨by decide, by decide, by decide, by decide⟩ ?_
  refine a_iconst (v := -1) X dX5_hasFirst_8 (by decide) ?_
  refine a_icmp_eq (tgt := 33) X dX5_hasFirst_9 (by decide) (fun h_9 => ?_) (fun h_9 => ?_)
  · exact Zw.to2 (J_33 _ ) rfl rfl rfl
  · refine a_aload_n X dX5_hasFirst_12 rfl ?_
    refine a_getr X lf5_15 (by assumption) rfl (by omega) dX5_hasFirst_13 ?_
    refine a_iload_n X dX5_hasFirst_16 rfl ?_
    refine a_callSNv X dX5_hasFirst_17 miX7_cell lm5_69 (c_cell (by assumption) (by first | decide | assumption)) rfl rfl (Nat.le_of_ble_eq_true rfl) ⟨by decide, by decide, by decide, by decide⟩ ?_
    refine a_aload_n X dX5_hasFirst_20 rfl ?_
    refine a_iload_n X dX5_hasFirst_21 rfl ?_
    refine a_iconst (v := 0) X dX5_hasFirst_22 (by decide) ?_
    refine a_callVx X dX5_hasFirst_23 miX2_wish lm5_98 (s_X2_wish (P := P) (by assumption) (by omega)) (by assumption) rfl rfl rfl (Nat.le_of_ble_eq_true rfl) ⟨by decide, by decide, by decide, by decide⟩ (fun r_23 S_23 q_23 => ?_)
    obtain ⟨rfl, ⟨v_23, rfl⟩⟩ := q_23
    refine a_icmp_ne (tgt := 33) X dX5_hasFirst_26 (by decide) (fun h_26 => ?_) (fun h_26 => ?_)
    · exact Zw.to2 (J_33 _ ) rfl rfl rfl
    · refine a_iconst (v := 1) X dX5_hasFirst_29 (by decide) ?_
      refine a_goto (tgt := 34) X dX5_hasFirst_30 (by decide) ?_
      exact Zw.to2 (J_34 _ _ (by first | exact Or.inl rfl | exact Or.inr rfl | assumption | ((try dsimp only); (repeat rw [zwr_row (by omega)]); assumption))) rfl rfl rfl
set_option maxRecDepth 100000 in
theorem s_X5_hold {l : Launch} {G : zG} {b : Nat} {S : zS} {P : Nat} {Q : Nat} {A : Nat} {v0 : Int32} {v1 : Int32} {v2 : Int32} (hQ : LX5 S.1 Q) (rQ : P < Q ∧ Q + 8 ≤ P + 200) (hA : LX2 S.1 A) (rA : P < A ∧ A + 13 ≤ P + 200) : zM l G b yX5_hold cX5_hold 5 none 1 0 0 [.ref Q, .ref A, .int v0, .int v1, .int v2] S (fun r z => ∃ M' N', z = (S.1, M', N') ∧ zK P S.2.1 M' ∧ r = none) := by
  refine zM.of miX5_hold (Nat.le_of_ble_eq_true rfl) ?_
  intro p e s m args below meth c X hr hname
  generalize hF : ((fun r z => ∃ M' N', z = (S.1, M', N') ∧ zK P S.2.1 M' ∧ r = none) : Option Value → zS → Prop) = FQ
  change Zw p l e { frames := 1, cells := 0, slots := 0, locals := 80 * 1 } s m args below meth c G b 5 (MQ below (zQ G b FQ) args s 0 0 (fun q : Nat => b ≤ q)) 0 0 0 [some (.ref Q), some (.ref A), some (.int v0), some (.int v1), some (.int v2)] [] S
  obtain ⟨q_lt, q_o, q_line, q_unitOf, q_roundOf, q_leftTags, q_leftGuests, q_leftPreferred, q_ranked⟩ := id hQ
  obtain ⟨a_lt, a_o, a_quota, a_preferred, a_forGuests, a_applicantOf, a_size, a_guestCount, a_score, a_tickets, a_bits, a_party, a_wishCount, a_wishes⟩ := id hA
  refine a_aload_n X dX5_hold_0 rfl ?_
  refine a_getr X lf5_15 (by assumption) rfl (by omega) dX5_hold_1 ?_
  refine a_iload_n X dX5_hold_4 rfl ?_
  refine a_iload_n X dX5_hold_5 rfl ?_
  refine a_callSNx X dX5_hold_6 miX7_put lm5_62 (s_X7_put (P := P) (by assumption) (by first | decide | assumption) (by omega)) rfl rfl (Nat.le_of_ble_eq_true rfl) ⟨by decide, by decide, by decide, by decide⟩ (fun r_6 S_6 q_6 => ?_)
  obtain ⟨M_6, N_6, rfl, k_6, rfl⟩ := q_6
  refine a_aload_n X dX5_hold_9 rfl ?_
  refine a_getr X lf5_18 (by assumption) rfl (by omega) dX5_hold_10 ?_
  refine a_iload_n X dX5_hold_13 rfl ?_
  refine a_iload X dX5_hold_14 rfl ?_
  refine a_callSNx X dX5_hold_16 miX7_put lm5_62 (s_X7_put (P := P) (by assumption) (by first | decide | assumption) (by omega)) rfl rfl (Nat.le_of_ble_eq_true rfl) ⟨by decide, by decide, by decide, by decide⟩ (fun r_16 S_16 q_16 => ?_)
  obtain ⟨M_16, N_16, rfl, k_16, rfl⟩ := q_16
  refine a_aload_n X dX5_hold_19 rfl ?_
  refine a_getr X lf5_21 (by assumption) rfl (by omega) dX5_hold_20 ?_
  refine a_iload_n X dX5_hold_23 rfl ?_
  refine a_aload_n X dX5_hold_24 rfl ?_
  refine a_getr X lf5_106 (by assumption) rfl (by omega) dX5_hold_25 ?_
  refine a_iload_n X dX5_hold_28 rfl ?_
  refine a_callSNv X dX5_hold_29 miX7_cell lm5_69 (c_cell (by assumption) (by first | decide | assumption)) rfl rfl (Nat.le_of_ble_eq_true rfl) ⟨by decide, by decide, by decide, by decide⟩ ?_
  refine a_ineg X dX5_hold_32 ?_
  refine a_callSNx X dX5_hold_33 miX7_add lm5_109 (s_X7_add (P := P) (by assumption) (by first | decide | assumption) (by omega)) rfl rfl (Nat.le_of_ble_eq_true rfl) ⟨by decide, by decide, by decide, by decide⟩ (fun r_33 S_33 q_33 => ?_)
  obtain ⟨M_33, N_33, rfl, k_33, rfl⟩ := q_33
  refine a_aload_n X dX5_hold_36 rfl ?_
  refine a_getr X lf5_24 (by assumption) rfl (by omega) dX5_hold_37 ?_
  refine a_iload_n X dX5_hold_40 rfl ?_
  refine a_aload_n X dX5_hold_41 rfl ?_
  refine a_getr X lf5_122 (by assumption) rfl (by omega) dX5_hold_42 ?_
  refine a_iload_n X dX5_hold_45 rfl ?_
  refine a_callSNv X dX5_hold_46 miX7_cell lm5_69 (c_cell (by assumption) (by first | decide | assumption)) rfl rfl (Nat.le_of_ble_eq_true rfl) ⟨by decide, by decide, by decide, by decide⟩ ?_
  refine a_ineg X dX5_hold_49 ?_
  refine a_callSNx X dX5_hold_50 miX7_add lm5_109 (s_X7_add (P := P) (by assumption) (by first | decide | assumption) (by omega)) rfl rfl (Nat.le_of_ble_eq_true rfl) ⟨by decide, by decide, by decide, by decide⟩ (fun r_50 S_50 q_50 => ?_)
  obtain ⟨M_50, N_50, rfl, k_50, rfl⟩ := q_50
  refine a_vret X hr dX5_hold_53 ⟨by decide, by decide⟩ ?_
  subst hF
  exact ⟨_, _, rfl, (by (try dsimp only); repeat first | assumption | exact zK.rf | refine zK.zu ?_ (by omega) | refine zK.zu0 ?_ (by decide) | refine zK.zwr ?_ (by omega) | refine zK.zfil ?_ (by omega) | refine zK.zcpy ?_ (by omega) | refine zK.trans ?_ (by assumption) | dsimp only), rfl⟩
set_option maxRecDepth 100000 in
theorem s_X5_rank {l : Launch} {G : zG} {b : Nat} {S : zS} {P : Nat} {Q : Nat} {A : Nat} (hQ : LX5 S.1 Q) (rQ : P < Q ∧ Q + 8 ≤ P + 200) (hA : LX2 S.1 A) (rA : P < A ∧ A + 13 ≤ P + 200) : zM l G b yX5_rank cX5_rank 6 none 1 0 0 [.ref Q, .ref A] S (fun r z => ∃ M' N', z = (S.1, M', N') ∧ zK P S.2.1 M' ∧ r = none) := by
  refine zM.of miX5_rank (Nat.le_of_ble_eq_true rfl) ?_
  intro p e s m args below meth c X hr hname
  generalize hF : ((fun r z => ∃ M' N', z = (S.1, M', N') ∧ zK P S.2.1 M' ∧ r = none) : Option Value → zS → Prop) = FQ
  change Zw p l e { frames := 1, cells := 0, slots := 0, locals := 80 * 1 } s m args below meth c G b 6 (MQ below (zQ G b FQ) args s 0 0 (fun q : Nat => b ≤ q)) 0 0 0 [some (.ref Q), some (.ref A), none, none, none, none] [] S
  obtain ⟨q_lt, q_o, q_line, q_unitOf, q_roundOf, q_leftTags, q_leftGuests, q_leftPreferred, q_ranked⟩ := id hQ
  obtain ⟨a_lt, a_o, a_quota, a_preferred, a_forGuests, a_applicantOf, a_size, a_guestCount, a_score, a_tickets, a_bits, a_party, a_wishCount, a_wishes⟩ := id hA
  have L_2 : ∀ u : Nat, ∀ (x2_2 : Int32) (x3_2 : Option Value) (x4_2 : Option Value) (x5_2 : Option Value) (M2 : Nat → Nat → Int32) (N2 : Nat → Nat → Int64), zK P S.2.1 M2 → (2147483648 - x2_2.toInt).toNat < u → Zw p l e { frames := 1, cells := 0, slots := 0, locals := 80 * 1 } s m args below meth c G b 6 (MQ below (zQ G b FQ) args s 0 0 (fun q : Nat => b ≤ q)) 0 0 2 [some (.ref (Q)), some (.ref (A)), some (.int x2_2), x3_2, x4_2, x5_2] [] (S.1, M2, N2) := by
    intro u
    induction u with
    | zero => intro x2_2 x3_2 x4_2 x5_2 M2_2 N2_2 k_2 hm_2; exact absurd hm_2 (Nat.not_lt_zero _)
    | succ u_2 ih_2 =>
      intro x2_2 x3_2 x4_2 x5_2 M2_2 N2_2 k_2 hm_2
      have J_86 : ∀ (x2_86 : Int32) (x3_86 : Int32) (x4_86 : Int32) (x5_86 : Int32) (M2 : Nat → Nat → Int32) (N2 : Nat → Nat → Int64), zK P S.2.1 M2 → ((2147483648 - x2_86.toInt).toNat < u_2 + 1) → (x2_86.toInt < 2147483647) → Zw p l e { frames := 1, cells := 0, slots := 0, locals := 80 * 1 } s m args below meth c G b 6 (MQ below (zQ G b FQ) args s 0 0 (fun q : Nat => b ≤ q)) 0 0 86 [some (.ref (Q)), some (.ref (A)), some (.int x2_86), some (.int x3_86), some (.int x4_86), some (.int x5_86)] [] (S.1, M2, N2) := by
        intro x2_86 x3_86 x4_86 x5_86 M2_86 N2_86 k_86 f0_86 f1_86
        refine a_aload_n X dX5_rank_86 rfl ?_
        refine a_getr X lf5_30 (by assumption) rfl (by omega) dX5_rank_87 ?_
        refine a_iload X dX5_rank_90 rfl ?_
        refine a_iload_n X dX5_rank_92 rfl ?_
        refine a_callSNx X dX5_rank_93 miX7_put lm5_62 (s_X7_put (P := P) (by assumption) (by first | decide | assumption) (by omega)) rfl rfl (Nat.le_of_ble_eq_true rfl) ⟨by decide, by decide, by decide, by decide⟩ (fun r_93 S_93 q_93 => ?_)
        obtain ⟨M_93, N_93, rfl, k_93, rfl⟩ := q_93
        refine a_iinc X dX5_rank_96 (by decide) rfl rfl ?_
        refine a_goto (tgt := 2) X dX5_rank_99 (by decide) ?_
        exact Zw.to2 (ih_2 _ _ _ _ _ _ (by (try dsimp only); repeat first | assumption | exact zK.rf | refine zK.zu ?_ (by omega) | refine zK.zu0 ?_ (by decide) | refine zK.zwr ?_ (by omega) | refine zK.zfil ?_ (by omega) | refine zK.zcpy ?_ (by omega) | refine zK.trans ?_ (by assumption) | dsimp only)  (z_up f1_86 f0_86)) rfl rfl rfl
      have L_32 : ∀ u : Nat, ∀ (x2_32 : Int32) (x3_32 : Int32) (x4_32 : Int32) (x5_32 : Int32) (M2 : Nat → Nat → Int32) (N2 : Nat → Nat → Int64), zK P S.2.1 M2 → ((2147483648 - x2_32.toInt).toNat < u_2 + 1) → (x2_32.toInt < 2147483647) → x5_32.toInt.toNat < u → Zw p l e { frames := 1, cells := 0, slots := 0, locals := 80 * 1 } s m args below meth c G b 6 (MQ below (zQ G b FQ) args s 0 0 (fun q : Nat => b ≤ q)) 0 0 32 [some (.ref (Q)), some (.ref (A)), some (.int x2_32), some (.int x3_32), some (.int x4_32), some (.int x5_32)] [] (S.1, M2, N2) := by
        intro u
        induction u with
        | zero => intro x2_32 x3_32 x4_32 x5_32 M2_32 N2_32 k_32 f0_32 f1_32 hm_32; exact absurd hm_32 (Nat.not_lt_zero _)
        | succ u_32 ih_32 =>
          intro x2_32 x3_32 x4_32 x5_32 M2_32 N2_32 k_32 f0_32 f1_32 hm_32
          refine a_iload X dX5_rank_32 rfl ?_
          refine a_if_le (tgt := 86) X dX5_rank_34 (by decide) (fun h_34 => ?_) (fun h_34 => ?_)
          · exact Zw.to2 (J_86 _ _ _ _ _ _ (by (try dsimp only); repeat first | assumption | exact zK.rf | refine zK.zu ?_ (by omega) | refine zK.zu0 ?_ (by decide) | refine zK.zwr ?_ (by omega) | refine zK.zfil ?_ (by omega) | refine zK.zcpy ?_ (by omega) | refine zK.trans ?_ (by assumption) | dsimp only) f0_32 f1_32) rfl rfl rfl
          · refine a_aload_n X dX5_rank_37 rfl ?_
            refine a_getr X lf5_116 (by assumption) rfl (by omega) dX5_rank_38 ?_
            refine a_aload_n X dX5_rank_41 rfl ?_
            refine a_getr X lf5_30 (by assumption) rfl (by omega) dX5_rank_42 ?_
            refine a_iload X dX5_rank_45 rfl ?_
            refine a_iconst (v := 1) X dX5_rank_47 (by decide) ?_
            refine a_isub X dX5_rank_48 ?_
            refine a_callSNv X dX5_rank_49 miX7_cell lm5_69 (c_cell (by assumption) (by first | decide | assumption)) rfl rfl (Nat.le_of_ble_eq_true rfl) ⟨by decide, by decide, by decide, by decide⟩ ?_
            refine a_callSNv X dX5_rank_52 miX7_cell lm5_69 (c_cell (by assumption) (by first | decide | assumption)) rfl rfl (Nat.le_of_ble_eq_true rfl) ⟨by decide, by decide, by decide, by decide⟩ ?_
            refine a_iload X dX5_rank_55 rfl ?_
            refine a_icmp_ge (tgt := 86) X dX5_rank_57 (by decide) (fun h_57 => ?_) (fun h_57 => ?_)
            · exact Zw.to2 (J_86 _ _ _ _ _ _ (by (try dsimp only); repeat first | assumption | exact zK.rf | refine zK.zu ?_ (by omega) | refine zK.zu0 ?_ (by decide) | refine zK.zwr ?_ (by omega) | refine zK.zfil ?_ (by omega) | refine zK.zcpy ?_ (by omega) | refine zK.trans ?_ (by assumption) | dsimp only) f0_32 f1_32) rfl rfl rfl
            · refine a_aload_n X dX5_rank_60 rfl ?_
              refine a_getr X lf5_30 (by assumption) rfl (by omega) dX5_rank_61 ?_
              refine a_iload X dX5_rank_64 rfl ?_
              refine a_aload_n X dX5_rank_66 rfl ?_
              refine a_getr X lf5_30 (by assumption) rfl (by omega) dX5_rank_67 ?_
              refine a_iload X dX5_rank_70 rfl ?_
              refine a_iconst (v := 1) X dX5_rank_72 (by decide) ?_
              refine a_isub X dX5_rank_73 ?_
              refine a_callSNv X dX5_rank_74 miX7_cell lm5_69 (c_cell (by assumption) (by first | decide | assumption)) rfl rfl (Nat.le_of_ble_eq_true rfl) ⟨by decide, by decide, by decide, by decide⟩ ?_
              refine a_callSNx X dX5_rank_77 miX7_put lm5_62 (s_X7_put (P := P) (by assumption) (by first | decide | assumption) (by omega)) rfl rfl (Nat.le_of_ble_eq_true rfl) ⟨by decide, by decide, by decide, by decide⟩ (fun r_77 S_77 q_77 => ?_)
              obtain ⟨M_77, N_77, rfl, k_77, rfl⟩ := q_77
              refine a_iinc X dX5_rank_80 (by decide) rfl rfl ?_
              refine a_goto (tgt := 32) X dX5_rank_83 (by decide) ?_
              exact Zw.to2 (ih_32 _ _ _ _ _ _ (by (try dsimp only); repeat first | assumption | exact zK.rf | refine zK.zu ?_ (by omega) | refine zK.zu0 ?_ (by decide) | refine zK.zwr ?_ (by omega) | refine zK.zfil ?_ (by omega) | refine zK.zcpy ?_ (by omega) | refine zK.trans ?_ (by assumption) | dsimp only) f0_32 f1_32 (z_dn (by first | assumption | exact z_gt (by assumption)) hm_32)) rfl rfl rfl
      have H_32 : ∀ (x2_32 : Int32) (x3_32 : Int32) (x4_32 : Int32) (x5_32 : Int32) (M2 : Nat → Nat → Int32) (N2 : Nat → Nat → Int64), zK P S.2.1 M2 → ((2147483648 - x2_32.toInt).toNat < u_2 + 1) → (x2_32.toInt < 2147483647) → Zw p l e { frames := 1, cells := 0, slots := 0, locals := 80 * 1 } s m args below meth c G b 6 (MQ below (zQ G b FQ) args s 0 0 (fun q : Nat => b ≤ q)) 0 0 32 [some (.ref (Q)), some (.ref (A)), some (.int x2_32), some (.int x3_32), some (.int x4_32), some (.int x5_32)] [] (S.1, M2, N2) := fun x2_32 x3_32 x4_32 x5_32 M2 N2 k f0 f1 => L_32 _ x2_32 x3_32 x4_32 x5_32 M2 N2 k f0 f1 (Nat.lt_succ_self _)
      refine a_iload_n X dX5_rank_2 rfl ?_
      refine a_aload_n X dX5_rank_3 rfl ?_
      refine a_geti X lf5_47 (by assumption) rfl dX5_rank_4 ?_
      refine a_icmp_ge (tgt := 102) X dX5_rank_7 (by decide) (fun h_7 => ?_) (fun h_7 => ?_)
      · refine a_vret X hr dX5_rank_102 ⟨by decide, by decide⟩ ?_
        subst hF
        exact ⟨_, _, rfl, (by (try dsimp only); repeat first | assumption | exact zK.rf | refine zK.zu ?_ (by omega) | refine zK.zu0 ?_ (by decide) | refine zK.zwr ?_ (by omega) | refine zK.zfil ?_ (by omega) | refine zK.zcpy ?_ (by omega) | refine zK.trans ?_ (by assumption) | dsimp only), rfl⟩
      · refine a_aload_n X dX5_rank_10 rfl ?_
        refine a_getr X lf5_9 (by assumption) rfl (by omega) dX5_rank_11 ?_
        refine a_iload_n X dX5_rank_14 rfl ?_
        refine a_callSNv X dX5_rank_15 miX7_cell lm5_69 (c_cell (by assumption) (by first | decide | assumption)) rfl rfl (Nat.le_of_ble_eq_true rfl) ⟨by decide, by decide, by decide, by decide⟩ ?_
        refine a_istore_n X dX5_rank_18 (by decide) ?_
        refine a_aload_n X dX5_rank_19 rfl ?_
        refine a_getr X lf5_116 (by assumption) rfl (by omega) dX5_rank_20 ?_
        refine a_iload_n X dX5_rank_23 rfl ?_
        refine a_callSNv X dX5_rank_24 miX7_cell lm5_69 (c_cell (by assumption) (by first | decide | assumption)) rfl rfl (Nat.le_of_ble_eq_true rfl) ⟨by decide, by decide, by decide, by decide⟩ ?_
        refine a_istore X dX5_rank_27 (by decide) ?_
        refine a_iload_n X dX5_rank_29 rfl ?_
        refine a_istore X dX5_rank_30 (by decide) ?_
        exact Zw.to2 (H_32 _ _ _ _ _ _ (by (try dsimp only); repeat first | assumption | exact zK.rf | refine zK.zu ?_ (by omega) | refine zK.zu0 ?_ (by decide) | refine zK.zwr ?_ (by omega) | refine zK.zfil ?_ (by omega) | refine zK.zcpy ?_ (by omega) | refine zK.trans ?_ (by assumption) | dsimp only) hm_2 (by first | assumption | exact z_lt (by assumption) | exact z_lt2 (by assumption) | exact z_lt3 (by assumption) (by decide))) rfl rfl rfl
  have H_2 : ∀ (x2_2 : Int32) (x3_2 : Option Value) (x4_2 : Option Value) (x5_2 : Option Value) (M2 : Nat → Nat → Int32) (N2 : Nat → Nat → Int64), zK P S.2.1 M2 → Zw p l e { frames := 1, cells := 0, slots := 0, locals := 80 * 1 } s m args below meth c G b 6 (MQ below (zQ G b FQ) args s 0 0 (fun q : Nat => b ≤ q)) 0 0 2 [some (.ref (Q)), some (.ref (A)), some (.int x2_2), x3_2, x4_2, x5_2] [] (S.1, M2, N2) := fun x2_2 x3_2 x4_2 x5_2 M2 N2 k  => L_2 _ x2_2 x3_2 x4_2 x5_2 M2 N2 k  (Nat.lt_succ_self _)
  refine a_iconst (v := 0) X dX5_rank_0 (by decide) ?_
  refine a_istore_n X dX5_rank_1 (by decide) ?_
  exact Zw.to2 (H_2 _ _ _ _ _ _ (by (try dsimp only); repeat first | assumption | exact zK.rf | refine zK.zu ?_ (by omega) | refine zK.zu0 ?_ (by decide) | refine zK.zwr ?_ (by omega) | refine zK.zfil ?_ (by omega) | refine zK.zcpy ?_ (by omega) | refine zK.trans ?_ (by assumption) | dsimp only) ) rfl rfl rfl
set_option maxRecDepth 100000 in
theorem s_X5_firstRound {l : Launch} {G : zG} {b : Nat} {S : zS} {P : Nat} {Q : Nat} {A : Nat} (hQ : LX5 S.1 Q) (rQ : P < Q ∧ Q + 8 ≤ P + 200) (hA : LX2 S.1 A) (rA : P < A ∧ A + 13 ≤ P + 200) : zM l G b yX5_firstRound cX5_firstRound 5 none 2 0 0 [.ref Q, .ref A] S (fun r z => ∃ M' N', z = (S.1, M', N') ∧ zK P S.2.1 M' ∧ r = none) := by
  refine zM.of miX5_firstRound (Nat.le_of_ble_eq_true rfl) ?_
  intro p e s m args below meth c X hr hname
  generalize hF : ((fun r z => ∃ M' N', z = (S.1, M', N') ∧ zK P S.2.1 M' ∧ r = none) : Option Value → zS → Prop) = FQ
  change Zw p l e { frames := 2, cells := 0, slots := 0, locals := 80 * 2 } s m args below meth c G b 5 (MQ below (zQ G b FQ) args s 0 0 (fun q : Nat => b ≤ q)) 0 0 0 [some (.ref Q), some (.ref A), none, none, none] [] S
  obtain ⟨q_lt, q_o, q_line, q_unitOf, q_roundOf, q_leftTags, q_leftGuests, q_leftPreferred, q_ranked⟩ := id hQ
  obtain ⟨a_lt, a_o, a_quota, a_preferred, a_forGuests, a_applicantOf, a_size, a_guestCount, a_score, a_tickets, a_bits, a_party, a_wishCount, a_wishes⟩ := id hA
  have L_7 : ∀ u : Nat, ∀ (x2_7 : Int32) (x3_7 : Option Value) (x4_7 : Option Value) (M2 : Nat → Nat → Int32) (N2 : Nat → Nat → Int64), zK P S.2.1 M2 → (2147483648 - x2_7.toInt).toNat < u → Zw p l e { frames := 2, cells := 0, slots := 0, locals := 80 * 2 } s m args below meth c G b 5 (MQ below (zQ G b FQ) args s 0 0 (fun q : Nat => b ≤ q)) 0 0 7 [some (.ref (Q)), some (.ref (A)), some (.int x2_7), x3_7, x4_7] [] (S.1, M2, N2) := by
    intro u
    induction u with
    | zero => intro x2_7 x3_7 x4_7 M2_7 N2_7 k_7 hm_7; exact absurd hm_7 (Nat.not_lt_zero _)
    | succ u_7 ih_7 =>
      intro x2_7 x3_7 x4_7 M2_7 N2_7 k_7 hm_7
      have J_91 : ∀ (x2_91 : Int32) (x3_91 : Int32) (x4_91 : Int32) (M2 : Nat → Nat → Int32) (N2 : Nat → Nat → Int64), zK P S.2.1 M2 → ((2147483648 - x2_91.toInt).toNat < u_7 + 1) → (x2_91.toInt < 2147483647) → Zw p l e { frames := 2, cells := 0, slots := 0, locals := 80 * 2 } s m args below meth c G b 5 (MQ below (zQ G b FQ) args s 0 0 (fun q : Nat => b ≤ q)) 0 0 91 [some (.ref (Q)), some (.ref (A)), some (.int x2_91), some (.int x3_91), some (.int x4_91)] [] (S.1, M2, N2) := by
        intro x2_91 x3_91 x4_91 M2_91 N2_91 k_91 f0_91 f1_91
        refine a_iinc X dX5_firstRound_91 (by decide) rfl rfl ?_
        refine a_goto (tgt := 7) X dX5_firstRound_94 (by decide) ?_
        exact Zw.to2 (ih_7 _ _ _ _ _ (by (try dsimp only); repeat first | assumption | exact zK.rf | refine zK.zu ?_ (by omega) | refine zK.zu0 ?_ (by decide) | refine zK.zwr ?_ (by omega) | refine zK.zfil ?_ (by omega) | refine zK.zcpy ?_ (by omega) | refine zK.trans ?_ (by assumption) | dsimp only)  (z_up f1_91 f0_91)) rfl rfl rfl
      refine a_iload_n X dX5_firstRound_7 rfl ?_
      refine a_aload_n X dX5_firstRound_8 rfl ?_
      refine a_geti X lf5_47 (by assumption) rfl dX5_firstRound_9 ?_
      refine a_icmp_ge (tgt := 97) X dX5_firstRound_12 (by decide) (fun h_12 => ?_) (fun h_12 => ?_)
      · refine a_vret X hr dX5_firstRound_97 ⟨by decide, by decide⟩ ?_
        subst hF
        exact ⟨_, _, rfl, (by (try dsimp only); repeat first | assumption | exact zK.rf | refine zK.zu ?_ (by omega) | refine zK.zu0 ?_ (by decide) | refine zK.zwr ?_ (by omega) | refine zK.zfil ?_ (by omega) | refine zK.zcpy ?_ (by omega) | refine zK.trans ?_ (by assumption) | dsimp only), rfl⟩
      · refine a_aload_n X dX5_firstRound_15 rfl ?_
        refine a_getr X lf5_30 (by assumption) rfl (by omega) dX5_firstRound_16 ?_
        refine a_iload_n X dX5_firstRound_19 rfl ?_
        refine a_callSNv X dX5_firstRound_20 miX7_cell lm5_69 (c_cell (by assumption) (by first | decide | assumption)) rfl rfl (Nat.le_of_ble_eq_true rfl) ⟨by decide, by decide, by decide, by decide⟩ ?_
        refine a_istore_n X dX5_firstRound_23 (by decide) ?_
        refine a_aload_n X dX5_firstRound_24 rfl ?_
        refine a_iload_n X dX5_firstRound_25 rfl ?_
        refine a_iconst (v := 0) X dX5_firstRound_26 (by decide) ?_
        refine a_callVx X dX5_firstRound_27 miX2_wish lm5_98 (s_X2_wish (P := P) (by assumption) (by omega)) (by assumption) rfl rfl rfl (Nat.le_of_ble_eq_true rfl) ⟨by decide, by decide, by decide, by decide⟩ (fun r_27 S_27 q_27 => ?_)
        obtain ⟨rfl, ⟨v_27, rfl⟩⟩ := q_27
        refine a_istore X dX5_firstRound_30 (by decide) ?_
        refine a_iload X dX5_firstRound_32 rfl ?_
        refine a_iconst (v := -1) X dX5_firstRound_34 (by decide) ?_
        refine a_icmp_eq (tgt := 91) X dX5_firstRound_35 (by decide) (fun h_35 => ?_) (fun h_35 => ?_)
        · exact Zw.to2 (J_91 _ _ _ _ _ (by (try dsimp only); repeat first | assumption | exact zK.rf | refine zK.zu ?_ (by omega) | refine zK.zu0 ?_ (by decide) | refine zK.zwr ?_ (by omega) | refine zK.zfil ?_ (by omega) | refine zK.zcpy ?_ (by omega) | refine zK.trans ?_ (by assumption) | dsimp only) hm_7 (by first | assumption | exact z_lt (by assumption) | exact z_lt2 (by assumption) | exact z_lt3 (by assumption) (by decide))) rfl rfl rfl
        · refine a_aload_n X dX5_firstRound_38 rfl ?_
          refine a_iload_n X dX5_firstRound_39 rfl ?_
          refine a_aload_n X dX5_firstRound_40 rfl ?_
          refine a_getr X lf5_27 (by assumption) rfl (by omega) dX5_firstRound_41 ?_
          refine a_iload X dX5_firstRound_44 rfl ?_
          refine a_callSNv X dX5_firstRound_46 miX7_cell lm5_69 (c_cell (by assumption) (by first | decide | assumption)) rfl rfl (Nat.le_of_ble_eq_true rfl) ⟨by decide, by decide, by decide, by decide⟩ ?_
          refine a_aload_n X dX5_firstRound_49 rfl ?_
          refine a_getr X lf5_24 (by assumption) rfl (by omega) dX5_firstRound_50 ?_
          refine a_iload X dX5_firstRound_53 rfl ?_
          refine a_callSNv X dX5_firstRound_55 miX7_cell lm5_69 (c_cell (by assumption) (by first | decide | assumption)) rfl rfl (Nat.le_of_ble_eq_true rfl) ⟨by decide, by decide, by decide, by decide⟩ ?_
          refine a_callVx X dX5_firstRound_58 miX2_fits lm5_102 (s_X2_fits (P := P) (by assumption) (by omega)) (by assumption) rfl rfl rfl (Nat.le_of_ble_eq_true rfl) ⟨by decide, by decide, by decide, by decide⟩ (fun r_58 S_58 q_58 => ?_)
          obtain ⟨rfl, ⟨v_58, rfl, b_58⟩⟩ := q_58
          refine a_if_eq (tgt := 91) X dX5_firstRound_61 (by decide) (fun h_61 => ?_) (fun h_61 => ?_)
          · exact Zw.to2 (J_91 _ _ _ _ _ (by (try dsimp only); repeat first | assumption | exact zK.rf | refine zK.zu ?_ (by omega) | refine zK.zu0 ?_ (by decide) | refine zK.zwr ?_ (by omega) | refine zK.zfil ?_ (by omega) | refine zK.zcpy ?_ (by omega) | refine zK.trans ?_ (by assumption) | dsimp only) hm_7 (by first | assumption | exact z_lt (by assumption) | exact z_lt2 (by assumption) | exact z_lt3 (by assumption) (by decide))) rfl rfl rfl
          · refine a_aload_n X dX5_firstRound_64 rfl ?_
            refine a_getr X lf5_27 (by assumption) rfl (by omega) dX5_firstRound_65 ?_
            refine a_iload X dX5_firstRound_68 rfl ?_
            refine a_aload_n X dX5_firstRound_70 rfl ?_
            refine a_getr X lf5_106 (by assumption) rfl (by omega) dX5_firstRound_71 ?_
            refine a_iload_n X dX5_firstRound_74 rfl ?_
            refine a_callSNv X dX5_firstRound_75 miX7_cell lm5_69 (c_cell (by assumption) (by first | decide | assumption)) rfl rfl (Nat.le_of_ble_eq_true rfl) ⟨by decide, by decide, by decide, by decide⟩ ?_
            refine a_ineg X dX5_firstRound_78 ?_
            refine a_callSNx X dX5_firstRound_79 miX7_add lm5_109 (s_X7_add (P := P) (by assumption) (by first | decide | assumption) (by omega)) rfl rfl (Nat.le_of_ble_eq_true rfl) ⟨by decide, by decide, by decide, by decide⟩ (fun r_79 S_79 q_79 => ?_)
            obtain ⟨M_79, N_79, rfl, k_79, rfl⟩ := q_79
            refine a_aload_n X dX5_firstRound_82 rfl ?_
            refine a_aload_n X dX5_firstRound_83 rfl ?_
            refine a_iload_n X dX5_firstRound_84 rfl ?_
            refine a_iload X dX5_firstRound_85 rfl ?_
            refine a_iconst (v := 1) X dX5_firstRound_87 (by decide) ?_
            refine a_callVx X dX5_firstRound_88 miX5_hold lm5_112 (s_X5_hold (P := P) (by assumption) (by omega) (by assumption) (by omega)) (by assumption) rfl rfl rfl (Nat.le_of_ble_eq_true rfl) ⟨by decide, by decide, by decide, by decide⟩ (fun r_88 S_88 q_88 => ?_)
            obtain ⟨M_88, N_88, rfl, k_88, rfl⟩ := q_88
            exact Zw.to2 (J_91 _ _ _ _ _ (by (try dsimp only); repeat first | assumption | exact zK.rf | refine zK.zu ?_ (by omega) | refine zK.zu0 ?_ (by decide) | refine zK.zwr ?_ (by omega) | refine zK.zfil ?_ (by omega) | refine zK.zcpy ?_ (by omega) | refine zK.trans ?_ (by assumption) | dsimp only) hm_7 (by first | assumption | exact z_lt (by assumption) | exact z_lt2 (by assumption) | exact z_lt3 (by assumption) (by decide))) rfl rfl rfl
  have H_7 : ∀ (x2_7 : Int32) (x3_7 : Option Value) (x4_7 : Option Value) (M2 : Nat → Nat → Int32) (N2 : Nat → Nat → Int64), zK P S.2.1 M2 → Zw p l e { frames := 2, cells := 0, slots := 0, locals := 80 * 2 } s m args below meth c G b 5 (MQ below (zQ G b FQ) args s 0 0 (fun q : Nat => b ≤ q)) 0 0 7 [some (.ref (Q)), some (.ref (A)), some (.int x2_7), x3_7, x4_7] [] (S.1, M2, N2) := fun x2_7 x3_7 x4_7 M2 N2 k  => L_7 _ x2_7 x3_7 x4_7 M2 N2 k  (Nat.lt_succ_self _)
  refine a_aload_n X dX5_firstRound_0 rfl ?_
  refine a_aload_n X dX5_firstRound_1 rfl ?_
  refine a_callVx X dX5_firstRound_2 miX5_rank lm5_95 (s_X5_rank (P := P) (by assumption) (by omega) (by assumption) (by omega)) (by assumption) rfl rfl rfl (Nat.le_of_ble_eq_true rfl) ⟨by decide, by decide, by decide, by decide⟩ (fun r_2 S_2 q_2 => ?_)
  obtain ⟨M_2, N_2, rfl, k_2, rfl⟩ := q_2
  refine a_iconst (v := 0) X dX5_firstRound_5 (by decide) ?_
  refine a_istore_n X dX5_firstRound_6 (by decide) ?_
  exact Zw.to2 (H_7 _ _ _ _ _ (by (try dsimp only); repeat first | assumption | exact zK.rf | refine zK.zu ?_ (by omega) | refine zK.zu0 ?_ (by decide) | refine zK.zwr ?_ (by omega) | refine zK.zfil ?_ (by omega) | refine zK.zcpy ?_ (by omega) | refine zK.trans ?_ (by assumption) | dsimp only) ) rfl rfl rfl
set_option maxRecDepth 100000 in
theorem s_X5_secondRound {l : Launch} {G : zG} {b : Nat} {S : zS} {P : Nat} {Q : Nat} {A : Nat} (hQ : LX5 S.1 Q) (rQ : P < Q ∧ Q + 8 ≤ P + 200) (hA : LX2 S.1 A) (rA : P < A ∧ A + 13 ≤ P + 200) : zM l G b yX5_secondRound cX5_secondRound 7 none 2 0 0 [.ref Q, .ref A] S (fun r z => ∃ M' N', z = (S.1, M', N') ∧ zK P S.2.1 M' ∧ r = none) := by
  refine zM.of miX5_secondRound (Nat.le_of_ble_eq_true rfl) ?_
  intro p e s m args below meth c X hr hname
  generalize hF : ((fun r z => ∃ M' N', z = (S.1, M', N') ∧ zK P S.2.1 M' ∧ r = none) : Option Value → zS → Prop) = FQ
  change Zw p l e { frames := 2, cells := 0, slots := 0, locals := 80 * 2 } s m args below meth c G b 7 (MQ below (zQ G b FQ) args s 0 0 (fun q : Nat => b ≤ q)) 0 0 0 [some (.ref Q), some (.ref A), none, none, none, none, none] [] S
  obtain ⟨q_lt, q_o, q_line, q_unitOf, q_roundOf, q_leftTags, q_leftGuests, q_leftPreferred, q_ranked⟩ := id hQ
  obtain ⟨a_lt, a_o, a_quota, a_preferred, a_forGuests, a_applicantOf, a_size, a_guestCount, a_score, a_tickets, a_bits, a_party, a_wishCount, a_wishes⟩ := id hA
  have L_2 : ∀ u : Nat, ∀ (x2_2 : Int32) (x3_2 : Option Value) (x4_2 : Option Value) (x5_2 : Option Value) (x6_2 : Option Value) (M2 : Nat → Nat → Int32) (N2 : Nat → Nat → Int64), zK P S.2.1 M2 → (2147483648 - x2_2.toInt).toNat < u → Zw p l e { frames := 2, cells := 0, slots := 0, locals := 80 * 2 } s m args below meth c G b 7 (MQ below (zQ G b FQ) args s 0 0 (fun q : Nat => b ≤ q)) 0 0 2 [some (.ref (Q)), some (.ref (A)), some (.int x2_2), x3_2, x4_2, x5_2, x6_2] [] (S.1, M2, N2) := by
    intro u
    induction u with
    | zero => intro x2_2 x3_2 x4_2 x5_2 x6_2 M2_2 N2_2 k_2 hm_2; exact absurd hm_2 (Nat.not_lt_zero _)
    | succ u_2 ih_2 =>
      intro x2_2 x3_2 x4_2 x5_2 x6_2 M2_2 N2_2 k_2 hm_2
      have J_108 : ∀ (x2_108 : Int32) (x3_108 : Int32) (x4_108 : Int32) (x5_108 : Int32) (x6_108 : Option Value) (M2 : Nat → Nat → Int32) (N2 : Nat → Nat → Int64), zK P S.2.1 M2 → ((2147483648 - x2_108.toInt).toNat < u_2 + 1) → (x2_108.toInt < 2147483647) → Zw p l e { frames := 2, cells := 0, slots := 0, locals := 80 * 2 } s m args below meth c G b 7 (MQ below (zQ G b FQ) args s 0 0 (fun q : Nat => b ≤ q)) 0 0 108 [some (.ref (Q)), some (.ref (A)), some (.int x2_108), some (.int x3_108), some (.int x4_108), some (.int x5_108), x6_108] [] (S.1, M2, N2) := by
        intro x2_108 x3_108 x4_108 x5_108 x6_108 M2_108 N2_108 k_108 f0_108 f1_108
        refine a_iinc X dX5_secondRound_108 (by decide) rfl rfl ?_
        refine a_goto (tgt := 2) X dX5_secondRound_111 (by decide) ?_
        exact Zw.to2 (ih_2 _ _ _ _ _ _ _ (by (try dsimp only); repeat first | assumption | exact zK.rf | refine zK.zu ?_ (by omega) | refine zK.zu0 ?_ (by decide) | refine zK.zwr ?_ (by omega) | refine zK.zfil ?_ (by omega) | refine zK.zcpy ?_ (by omega) | refine zK.trans ?_ (by assumption) | dsimp only)  (z_up f1_108 f0_108)) rfl rfl rfl
      have L_48 : ∀ u : Nat, ∀ (x2_48 : Int32) (x3_48 : Int32) (x4_48 : Int32) (x5_48 : Int32) (x6_48 : Option Value) (M2 : Nat → Nat → Int32) (N2 : Nat → Nat → Int64), zK P S.2.1 M2 → ((2147483648 - x2_48.toInt).toNat < u_2 + 1) → (x2_48.toInt < 2147483647) → (2147483648 - x5_48.toInt).toNat < u → Zw p l e { frames := 2, cells := 0, slots := 0, locals := 80 * 2 } s m args below meth c G b 7 (MQ below (zQ G b FQ) args s 0 0 (fun q : Nat => b ≤ q)) 0 0 48 [some (.ref (Q)), some (.ref (A)), some (.int x2_48), some (.int x3_48), some (.int x4_48), some (.int x5_48), x6_48] [] (S.1, M2, N2) := by
        intro u
        induction u with
        | zero => intro x2_48 x3_48 x4_48 x5_48 x6_48 M2_48 N2_48 k_48 f0_48 f1_48 hm_48; exact absurd hm_48 (Nat.not_lt_zero _)
        | succ u_48 ih_48 =>
          intro x2_48 x3_48 x4_48 x5_48 x6_48 M2_48 N2_48 k_48 f0_48 f1_48 hm_48
          refine a_iload X dX5_secondRound_48 rfl ?_
          refine a_iload X dX5_secondRound_50 rfl ?_
          refine a_icmp_ge (tgt := 108) X dX5_secondRound_52 (by decide) (fun h_52 => ?_) (fun h_52 => ?_)
          · exact Zw.to2 (J_108 _ _ _ _ _ _ _ (by (try dsimp only); repeat first | assumption | exact zK.rf | refine zK.zu ?_ (by omega) | refine zK.zu0 ?_ (by decide) | refine zK.zwr ?_ (by omega) | refine zK.zfil ?_ (by omega) | refine zK.zcpy ?_ (by omega) | refine zK.trans ?_ (by assumption) | dsimp only) f0_48 f1_48) rfl rfl rfl
          · refine a_aload_n X dX5_secondRound_55 rfl ?_
            refine a_iload_n X dX5_secondRound_56 rfl ?_
            refine a_iload X dX5_secondRound_57 rfl ?_
            refine a_callVx X dX5_secondRound_59 miX2_wish lm5_98 (s_X2_wish (P := P) (by assumption) (by omega)) (by assumption) rfl rfl rfl (Nat.le_of_ble_eq_true rfl) ⟨by decide, by decide, by decide, by decide⟩ (fun r_59 S_59 q_59 => ?_)
            obtain ⟨rfl, ⟨v_59, rfl⟩⟩ := q_59
            refine a_istore X dX5_secondRound_62 (by decide) ?_
            refine a_aload_n X dX5_secondRound_64 rfl ?_
            refine a_iload_n X dX5_secondRound_65 rfl ?_
            refine a_aload_n X dX5_secondRound_66 rfl ?_
            refine a_getr X lf5_21 (by assumption) rfl (by omega) dX5_secondRound_67 ?_
            refine a_iload X dX5_secondRound_70 rfl ?_
            refine a_callSNv X dX5_secondRound_72 miX7_cell lm5_69 (c_cell (by assumption) (by first | decide | assumption)) rfl rfl (Nat.le_of_ble_eq_true rfl) ⟨by decide, by decide, by decide, by decide⟩ ?_
            refine a_aload_n X dX5_secondRound_75 rfl ?_
            refine a_getr X lf5_24 (by assumption) rfl (by omega) dX5_secondRound_76 ?_
            refine a_iload X dX5_secondRound_79 rfl ?_
            refine a_callSNv X dX5_secondRound_81 miX7_cell lm5_69 (c_cell (by assumption) (by first | decide | assumption)) rfl rfl (Nat.le_of_ble_eq_true rfl) ⟨by decide, by decide, by decide, by decide⟩ ?_
            refine a_callVx X dX5_secondRound_84 miX2_fits lm5_102 (s_X2_fits (P := P) (by assumption) (by omega)) (by assumption) rfl rfl rfl (Nat.le_of_ble_eq_true rfl) ⟨by decide, by decide, by decide, by decide⟩ (fun r_84 S_84 q_84 => ?_)
            obtain ⟨rfl, ⟨v_84, rfl, b_84⟩⟩ := q_84
            refine a_if_eq (tgt := 102) X dX5_secondRound_87 (by decide) (fun h_87 => ?_) (fun h_87 => ?_)
            · refine a_iinc X dX5_secondRound_102 (by decide) rfl rfl ?_
              refine a_goto (tgt := 48) X dX5_secondRound_105 (by decide) ?_
              exact Zw.to2 (ih_48 _ _ _ _ _ _ _ (by (try dsimp only); repeat first | assumption | exact zK.rf | refine zK.zu ?_ (by omega) | refine zK.zu0 ?_ (by decide) | refine zK.zwr ?_ (by omega) | refine zK.zfil ?_ (by omega) | refine zK.zcpy ?_ (by omega) | refine zK.trans ?_ (by assumption) | dsimp only) f0_48 f1_48 (z_up (by first | assumption | exact z_lt (by assumption) | exact z_lt2 (by assumption) | exact z_lt3 (by assumption) (by decide)) hm_48)) rfl rfl rfl
            · refine a_aload_n X dX5_secondRound_90 rfl ?_
              refine a_aload_n X dX5_secondRound_91 rfl ?_
              refine a_iload_n X dX5_secondRound_92 rfl ?_
              refine a_iload X dX5_secondRound_93 rfl ?_
              refine a_iconst (v := 2) X dX5_secondRound_95 (by decide) ?_
              refine a_callVx X dX5_secondRound_96 miX5_hold lm5_112 (s_X5_hold (P := P) (by assumption) (by omega) (by assumption) (by omega)) (by assumption) rfl rfl rfl (Nat.le_of_ble_eq_true rfl) ⟨by decide, by decide, by decide, by decide⟩ (fun r_96 S_96 q_96 => ?_)
              obtain ⟨M_96, N_96, rfl, k_96, rfl⟩ := q_96
              refine a_goto (tgt := 108) X dX5_secondRound_99 (by decide) ?_
              exact Zw.to2 (J_108 _ _ _ _ _ _ _ (by (try dsimp only); repeat first | assumption | exact zK.rf | refine zK.zu ?_ (by omega) | refine zK.zu0 ?_ (by decide) | refine zK.zwr ?_ (by omega) | refine zK.zfil ?_ (by omega) | refine zK.zcpy ?_ (by omega) | refine zK.trans ?_ (by assumption) | dsimp only) f0_48 f1_48) rfl rfl rfl
      have H_48 : ∀ (x2_48 : Int32) (x3_48 : Int32) (x4_48 : Int32) (x5_48 : Int32) (x6_48 : Option Value) (M2 : Nat → Nat → Int32) (N2 : Nat → Nat → Int64), zK P S.2.1 M2 → ((2147483648 - x2_48.toInt).toNat < u_2 + 1) → (x2_48.toInt < 2147483647) → Zw p l e { frames := 2, cells := 0, slots := 0, locals := 80 * 2 } s m args below meth c G b 7 (MQ below (zQ G b FQ) args s 0 0 (fun q : Nat => b ≤ q)) 0 0 48 [some (.ref (Q)), some (.ref (A)), some (.int x2_48), some (.int x3_48), some (.int x4_48), some (.int x5_48), x6_48] [] (S.1, M2, N2) := fun x2_48 x3_48 x4_48 x5_48 x6_48 M2 N2 k f0 f1 => L_48 _ x2_48 x3_48 x4_48 x5_48 x6_48 M2 N2 k f0 f1 (Nat.lt_succ_self _)
      have J_43 : ∀ (x2_43 : Int32) (x3_43 : Int32) (x4_43 : Option Value) (x5_43 : Option Value) (x6_43 : Option Value) (y0_43 : Int32) (M2 : Nat → Nat → Int32) (N2 : Nat → Nat → Int64), zK P S.2.1 M2 → ((2147483648 - x2_43.toInt).toNat < u_2 + 1) → (x2_43.toInt < 2147483647) → Zw p l e { frames := 2, cells := 0, slots := 0, locals := 80 * 2 } s m args below meth c G b 7 (MQ below (zQ G b FQ) args s 0 0 (fun q : Nat => b ≤ q)) 0 0 43 [some (.ref (Q)), some (.ref (A)), some (.int x2_43), some (.int x3_43), x4_43, x5_43, x6_43] [(.int y0_43)] (S.1, M2, N2) := by
        intro x2_43 x3_43 x4_43 x5_43 x6_43 y0_43 M2_43 N2_43 k_43 f0_43 f1_43
        refine a_istore X dX5_secondRound_43 (by decide) ?_
        refine a_iconst (v := 0) X dX5_secondRound_45 (by decide) ?_
        refine a_istore X dX5_secondRound_46 (by decide) ?_
        exact Zw.to2 (H_48 _ _ _ _ _ _ _ (by (try dsimp only); repeat first | assumption | exact zK.rf | refine zK.zu ?_ (by omega) | refine zK.zu0 ?_ (by decide) | refine zK.zwr ?_ (by omega) | refine zK.zfil ?_ (by omega) | refine zK.zcpy ?_ (by omega) | refine zK.trans ?_ (by assumption) | dsimp only) f0_43 f1_43) rfl rfl rfl
      refine a_iload_n X dX5_secondRound_2 rfl ?_
      refine a_aload_n X dX5_secondRound_3 rfl ?_
      refine a_geti X lf5_47 (by assumption) rfl dX5_secondRound_4 ?_
      refine a_icmp_ge (tgt := 114) X dX5_secondRound_7 (by decide) (fun h_7 => ?_) (fun h_7 => ?_)
      · refine a_vret X hr dX5_secondRound_114 ⟨by decide, by decide⟩ ?_
        subst hF
        exact ⟨_, _, rfl, (by (try dsimp only); repeat first | assumption | exact zK.rf | refine zK.zu ?_ (by omega) | refine zK.zu0 ?_ (by decide) | refine zK.zwr ?_ (by omega) | refine zK.zfil ?_ (by omega) | refine zK.zcpy ?_ (by omega) | refine zK.trans ?_ (by assumption) | dsimp only), rfl⟩
      · refine a_aload_n X dX5_secondRound_10 rfl ?_
        refine a_getr X lf5_9 (by assumption) rfl (by omega) dX5_secondRound_11 ?_
        refine a_iload_n X dX5_secondRound_14 rfl ?_
        refine a_callSNv X dX5_secondRound_15 miX7_cell lm5_69 (c_cell (by assumption) (by first | decide | assumption)) rfl rfl (Nat.le_of_ble_eq_true rfl) ⟨by decide, by decide, by decide, by decide⟩ ?_
        refine a_istore_n X dX5_secondRound_18 (by decide) ?_
        refine a_aload_n X dX5_secondRound_19 rfl ?_
        refine a_getr X lf5_15 (by assumption) rfl (by omega) dX5_secondRound_20 ?_
        refine a_iload_n X dX5_secondRound_23 rfl ?_
        refine a_callSNv X dX5_secondRound_24 miX7_cell lm5_69 (c_cell (by assumption) (by first | decide | assumption)) rfl rfl (Nat.le_of_ble_eq_true rfl) ⟨by decide, by decide, by decide, by decide⟩ ?_
        refine a_iconst (v := -1) X dX5_secondRound_27 (by decide) ?_
        refine a_icmp_ne (tgt := 42) X dX5_secondRound_28 (by decide) (fun h_28 => ?_) (fun h_28 => ?_)
        · refine a_iconst (v := 0) X dX5_secondRound_42 (by decide) ?_
          exact Zw.to2 (J_43 _ _ _ _ _ _ _ _ (by (try dsimp only); repeat first | assumption | exact zK.rf | refine zK.zu ?_ (by omega) | refine zK.zu0 ?_ (by decide) | refine zK.zwr ?_ (by omega) | refine zK.zfil ?_ (by omega) | refine zK.zcpy ?_ (by omega) | refine zK.trans ?_ (by assumption) | dsimp only) hm_2 (by first | assumption | exact z_lt (by assumption) | exact z_lt2 (by assumption) | exact z_lt3 (by assumption) (by decide))) rfl rfl rfl
        · refine a_aload_n X dX5_secondRound_31 rfl ?_
          refine a_getr X lf5_119 (by assumption) rfl (by omega) dX5_secondRound_32 ?_
          refine a_iload_n X dX5_secondRound_35 rfl ?_
          refine a_callSNv X dX5_secondRound_36 miX7_cell lm5_69 (c_cell (by assumption) (by first | decide | assumption)) rfl rfl (Nat.le_of_ble_eq_true rfl) ⟨by decide, by decide, by decide, by decide⟩ ?_
          refine a_goto (tgt := 43) X dX5_secondRound_39 (by decide) ?_
          exact Zw.to2 (J_43 _ _ _ _ _ _ _ _ (by (try dsimp only); repeat first | assumption | exact zK.rf | refine zK.zu ?_ (by omega) | refine zK.zu0 ?_ (by decide) | refine zK.zwr ?_ (by omega) | refine zK.zfil ?_ (by omega) | refine zK.zcpy ?_ (by omega) | refine zK.trans ?_ (by assumption) | dsimp only) hm_2 (by first | assumption | exact z_lt (by assumption) | exact z_lt2 (by assumption) | exact z_lt3 (by assumption) (by decide))) rfl rfl rfl
  have H_2 : ∀ (x2_2 : Int32) (x3_2 : Option Value) (x4_2 : Option Value) (x5_2 : Option Value) (x6_2 : Option Value) (M2 : Nat → Nat → Int32) (N2 : Nat → Nat → Int64), zK P S.2.1 M2 → Zw p l e { frames := 2, cells := 0, slots := 0, locals := 80 * 2 } s m args below meth c G b 7 (MQ below (zQ G b FQ) args s 0 0 (fun q : Nat => b ≤ q)) 0 0 2 [some (.ref (Q)), some (.ref (A)), some (.int x2_2), x3_2, x4_2, x5_2, x6_2] [] (S.1, M2, N2) := fun x2_2 x3_2 x4_2 x5_2 x6_2 M2 N2 k  => L_2 _ x2_2 x3_2 x4_2 x5_2 x6_2 M2 N2 k  (Nat.lt_succ_self _)
  refine a_iconst (v := 0) X dX5_secondRound_0 (by decide) ?_
  refine a_istore_n X dX5_secondRound_1 (by decide) ?_
  exact Zw.to2 (H_2 _ _ _ _ _ _ _ (by (try dsimp only); repeat first | assumption | exact zK.rf | refine zK.zu ?_ (by omega) | refine zK.zu0 ?_ (by decide) | refine zK.zwr ?_ (by omega) | refine zK.zfil ?_ (by omega) | refine zK.zcpy ?_ (by omega) | refine zK.trans ?_ (by assumption) | dsimp only) ) rfl rfl rfl
set_option maxRecDepth 100000 in
theorem s_X5_settle {l : Launch} {G : zG} {b : Nat} {S : zS} {P : Nat} {Q : Nat} {A : Nat} (hQ : LX5 S.1 Q) (rQ : P < Q ∧ Q + 8 ≤ P + 200) (hA : LX2 S.1 A) (rA : P < A ∧ A + 13 ≤ P + 200) : zM l G b yX5_settle cX5_settle 3 none 3 0 0 [.ref Q, .ref A] S (fun r z => ∃ M' N', z = (S.1, M', N') ∧ zK P S.2.1 M' ∧ r = none) := by
  refine zM.of miX5_settle (Nat.le_of_ble_eq_true rfl) ?_
  intro p e s m args below meth c X hr hname
  generalize hF : ((fun r z => ∃ M' N', z = (S.1, M', N') ∧ zK P S.2.1 M' ∧ r = none) : Option Value → zS → Prop) = FQ
  change Zw p l e { frames := 3, cells := 0, slots := 0, locals := 80 * 3 } s m args below meth c G b 3 (MQ below (zQ G b FQ) args s 0 0 (fun q : Nat => b ≤ q)) 0 0 0 [some (.ref Q), some (.ref A), none] [] S
  obtain ⟨q_lt, q_o, q_line, q_unitOf, q_roundOf, q_leftTags, q_leftGuests, q_leftPreferred, q_ranked⟩ := id hQ
  obtain ⟨a_lt, a_o, a_quota, a_preferred, a_forGuests, a_applicantOf, a_size, a_guestCount, a_score, a_tickets, a_bits, a_party, a_wishCount, a_wishes⟩ := id hA
  have J_110 : ∀ (x2_110 : Int32) (M2 : Nat → Nat → Int32) (N2 : Nat → Nat → Int64), zK P S.2.1 M2 → Zw p l e { frames := 3, cells := 0, slots := 0, locals := 80 * 3 } s m args below meth c G b 3 (MQ below (zQ G b FQ) args s 0 0 (fun q : Nat => b ≤ q)) 0 0 110 [some (.ref (Q)), some (.ref (A)), some (.int x2_110)] [] (S.1, M2, N2) := by
    intro x2_110 M2_110 N2_110 k_110
    refine a_aload_n X dX5_settle_110 rfl ?_
    refine a_aload_n X dX5_settle_111 rfl ?_
    refine a_callVx X dX5_settle_112 miX5_secondRound lm5_92 (s_X5_secondRound (P := P) (by assumption) (by omega) (by assumption) (by omega)) (by assumption) rfl rfl rfl (Nat.le_of_ble_eq_true rfl) ⟨by decide, by decide, by decide, by decide⟩ (fun r_112 S_112 q_112 => ?_)
    obtain ⟨M_112, N_112, rfl, k_112, rfl⟩ := q_112
    refine a_vret X hr dX5_settle_115 ⟨by decide, by decide⟩ ?_
    subst hF
    exact ⟨_, _, rfl, (by (try dsimp only); repeat first | assumption | exact zK.rf | refine zK.zu ?_ (by omega) | refine zK.zu0 ?_ (by decide) | refine zK.zwr ?_ (by omega) | refine zK.zfil ?_ (by omega) | refine zK.zcpy ?_ (by omega) | refine zK.trans ?_ (by assumption) | dsimp only), rfl⟩
  have L_36 : ∀ u : Nat, ∀ (x2_36 : Int32) (M2 : Nat → Nat → Int32) (N2 : Nat → Nat → Int64), zK P S.2.1 M2 → (2147483648 - x2_36.toInt).toNat < u → Zw p l e { frames := 3, cells := 0, slots := 0, locals := 80 * 3 } s m args below meth c G b 3 (MQ below (zQ G b FQ) args s 0 0 (fun q : Nat => b ≤ q)) 0 0 36 [some (.ref (Q)), some (.ref (A)), some (.int x2_36)] [] (S.1, M2, N2) := by
    intro u
    induction u with
    | zero => intro x2_36 M2_36 N2_36 k_36 hm_36; exact absurd hm_36 (Nat.not_lt_zero _)
    | succ u_36 ih_36 =>
      intro x2_36 M2_36 N2_36 k_36 hm_36
      refine a_iload_n X dX5_settle_36 rfl ?_
      refine a_aload_n X dX5_settle_37 rfl ?_
      refine a_geti X lf5_73 (by assumption) rfl dX5_settle_38 ?_
      refine a_icmp_ge (tgt := 98) X dX5_settle_41 (by decide) (fun h_41 => ?_) (fun h_41 => ?_)
      · refine a_aload_n X dX5_settle_98 rfl ?_
        refine a_geti X lf5_85 (by assumption) rfl dX5_settle_99 ?_
        refine a_if_eq (tgt := 110) X dX5_settle_102 (by decide) (fun h_102 => ?_) (fun h_102 => ?_)
        · exact Zw.to2 (J_110 _ _ _ (by (try dsimp only); repeat first | assumption | exact zK.rf | refine zK.zu ?_ (by omega) | refine zK.zu0 ?_ (by decide) | refine zK.zwr ?_ (by omega) | refine zK.zfil ?_ (by omega) | refine zK.zcpy ?_ (by omega) | refine zK.trans ?_ (by assumption) | dsimp only) ) rfl rfl rfl
        · refine a_aload_n X dX5_settle_105 rfl ?_
          refine a_aload_n X dX5_settle_106 rfl ?_
          refine a_callVx X dX5_settle_107 miX5_firstRound lm5_89 (s_X5_firstRound (P := P) (by assumption) (by omega) (by assumption) (by omega)) (by assumption) rfl rfl rfl (Nat.le_of_ble_eq_true rfl) ⟨by decide, by decide, by decide, by decide⟩ (fun r_107 S_107 q_107 => ?_)
          obtain ⟨M_107, N_107, rfl, k_107, rfl⟩ := q_107
          exact Zw.to2 (J_110 _ _ _ (by (try dsimp only); repeat first | assumption | exact zK.rf | refine zK.zu ?_ (by omega) | refine zK.zu0 ?_ (by decide) | refine zK.zwr ?_ (by omega) | refine zK.zfil ?_ (by omega) | refine zK.zcpy ?_ (by omega) | refine zK.trans ?_ (by assumption) | dsimp only) ) rfl rfl rfl
      · refine a_aload_n X dX5_settle_44 rfl ?_
        refine a_getr X lf5_21 (by assumption) rfl (by omega) dX5_settle_45 ?_
        refine a_iload_n X dX5_settle_48 rfl ?_
        refine a_aload_n X dX5_settle_49 rfl ?_
        refine a_getr X lf5_76 (by assumption) rfl (by omega) dX5_settle_50 ?_
        refine a_iload_n X dX5_settle_53 rfl ?_
        refine a_callSNv X dX5_settle_54 miX7_cell lm5_69 (c_cell (by assumption) (by first | decide | assumption)) rfl rfl (Nat.le_of_ble_eq_true rfl) ⟨by decide, by decide, by decide, by decide⟩ ?_
        refine a_callSNx X dX5_settle_57 miX7_put lm5_62 (s_X7_put (P := P) (by assumption) (by first | decide | assumption) (by omega)) rfl rfl (Nat.le_of_ble_eq_true rfl) ⟨by decide, by decide, by decide, by decide⟩ (fun r_57 S_57 q_57 => ?_)
        obtain ⟨M_57, N_57, rfl, k_57, rfl⟩ := q_57
        refine a_aload_n X dX5_settle_60 rfl ?_
        refine a_getr X lf5_27 (by assumption) rfl (by omega) dX5_settle_61 ?_
        refine a_iload_n X dX5_settle_64 rfl ?_
        refine a_aload_n X dX5_settle_65 rfl ?_
        refine a_getr X lf5_79 (by assumption) rfl (by omega) dX5_settle_66 ?_
        refine a_iload_n X dX5_settle_69 rfl ?_
        refine a_callSNv X dX5_settle_70 miX7_cell lm5_69 (c_cell (by assumption) (by first | decide | assumption)) rfl rfl (Nat.le_of_ble_eq_true rfl) ⟨by decide, by decide, by decide, by decide⟩ ?_
        refine a_callSNx X dX5_settle_73 miX7_put lm5_62 (s_X7_put (P := P) (by assumption) (by first | decide | assumption) (by omega)) rfl rfl (Nat.le_of_ble_eq_true rfl) ⟨by decide, by decide, by decide, by decide⟩ (fun r_73 S_73 q_73 => ?_)
        obtain ⟨M_73, N_73, rfl, k_73, rfl⟩ := q_73
        refine a_aload_n X dX5_settle_76 rfl ?_
        refine a_getr X lf5_24 (by assumption) rfl (by omega) dX5_settle_77 ?_
        refine a_iload_n X dX5_settle_80 rfl ?_
        refine a_aload_n X dX5_settle_81 rfl ?_
        refine a_getr X lf5_82 (by assumption) rfl (by omega) dX5_settle_82 ?_
        refine a_iload_n X dX5_settle_85 rfl ?_
        refine a_callSNv X dX5_settle_86 miX7_cell lm5_69 (c_cell (by assumption) (by first | decide | assumption)) rfl rfl (Nat.le_of_ble_eq_true rfl) ⟨by decide, by decide, by decide, by decide⟩ ?_
        refine a_callSNx X dX5_settle_89 miX7_put lm5_62 (s_X7_put (P := P) (by assumption) (by first | decide | assumption) (by omega)) rfl rfl (Nat.le_of_ble_eq_true rfl) ⟨by decide, by decide, by decide, by decide⟩ (fun r_89 S_89 q_89 => ?_)
        obtain ⟨M_89, N_89, rfl, k_89, rfl⟩ := q_89
        refine a_iinc X dX5_settle_92 (by decide) rfl rfl ?_
        refine a_goto (tgt := 36) X dX5_settle_95 (by decide) ?_
        exact Zw.to2 (ih_36 _ _ _ (by (try dsimp only); repeat first | assumption | exact zK.rf | refine zK.zu ?_ (by omega) | refine zK.zu0 ?_ (by decide) | refine zK.zwr ?_ (by omega) | refine zK.zfil ?_ (by omega) | refine zK.zcpy ?_ (by omega) | refine zK.trans ?_ (by assumption) | dsimp only)  (z_up (by first | assumption | exact z_lt (by assumption) | exact z_lt2 (by assumption) | exact z_lt3 (by assumption) (by decide)) hm_36)) rfl rfl rfl
  have H_36 : ∀ (x2_36 : Int32) (M2 : Nat → Nat → Int32) (N2 : Nat → Nat → Int64), zK P S.2.1 M2 → Zw p l e { frames := 3, cells := 0, slots := 0, locals := 80 * 3 } s m args below meth c G b 3 (MQ below (zQ G b FQ) args s 0 0 (fun q : Nat => b ≤ q)) 0 0 36 [some (.ref (Q)), some (.ref (A)), some (.int x2_36)] [] (S.1, M2, N2) := fun x2_36 M2 N2 k  => L_36 _ x2_36 M2 N2 k  (Nat.lt_succ_self _)
  have L_2 : ∀ u : Nat, ∀ (x2_2 : Int32) (M2 : Nat → Nat → Int32) (N2 : Nat → Nat → Int64), zK P S.2.1 M2 → (2147483648 - x2_2.toInt).toNat < u → Zw p l e { frames := 3, cells := 0, slots := 0, locals := 80 * 3 } s m args below meth c G b 3 (MQ below (zQ G b FQ) args s 0 0 (fun q : Nat => b ≤ q)) 0 0 2 [some (.ref (Q)), some (.ref (A)), some (.int x2_2)] [] (S.1, M2, N2) := by
    intro u
    induction u with
    | zero => intro x2_2 M2_2 N2_2 k_2 hm_2; exact absurd hm_2 (Nat.not_lt_zero _)
    | succ u_2 ih_2 =>
      intro x2_2 M2_2 N2_2 k_2 hm_2
      refine a_iload_n X dX5_settle_2 rfl ?_
      refine a_aload_n X dX5_settle_3 rfl ?_
      refine a_geti X lf5_47 (by assumption) rfl dX5_settle_4 ?_
      refine a_icmp_ge (tgt := 34) X dX5_settle_7 (by decide) (fun h_7 => ?_) (fun h_7 => ?_)
      · refine a_iconst (v := 0) X dX5_settle_34 (by decide) ?_
        refine a_istore_n X dX5_settle_35 (by decide) ?_
        exact Zw.to2 (H_36 _ _ _ (by (try dsimp only); repeat first | assumption | exact zK.rf | refine zK.zu ?_ (by omega) | refine zK.zu0 ?_ (by decide) | refine zK.zwr ?_ (by omega) | refine zK.zfil ?_ (by omega) | refine zK.zcpy ?_ (by omega) | refine zK.trans ?_ (by assumption) | dsimp only) ) rfl rfl rfl
      · refine a_aload_n X dX5_settle_10 rfl ?_
        refine a_getr X lf5_15 (by assumption) rfl (by omega) dX5_settle_11 ?_
        refine a_iload_n X dX5_settle_14 rfl ?_
        refine a_iconst (v := -1) X dX5_settle_15 (by decide) ?_
        refine a_callSNx X dX5_settle_16 miX7_put lm5_62 (s_X7_put (P := P) (by assumption) (by first | decide | assumption) (by omega)) rfl rfl (Nat.le_of_ble_eq_true rfl) ⟨by decide, by decide, by decide, by decide⟩ (fun r_16 S_16 q_16 => ?_)
        obtain ⟨M_16, N_16, rfl, k_16, rfl⟩ := q_16
        refine a_aload_n X dX5_settle_19 rfl ?_
        refine a_getr X lf5_18 (by assumption) rfl (by omega) dX5_settle_20 ?_
        refine a_iload_n X dX5_settle_23 rfl ?_
        refine a_iconst (v := 0) X dX5_settle_24 (by decide) ?_
        refine a_callSNx X dX5_settle_25 miX7_put lm5_62 (s_X7_put (P := P) (by assumption) (by first | decide | assumption) (by omega)) rfl rfl (Nat.le_of_ble_eq_true rfl) ⟨by decide, by decide, by decide, by decide⟩ (fun r_25 S_25 q_25 => ?_)
        obtain ⟨M_25, N_25, rfl, k_25, rfl⟩ := q_25
        refine a_iinc X dX5_settle_28 (by decide) rfl rfl ?_
        refine a_goto (tgt := 2) X dX5_settle_31 (by decide) ?_
        exact Zw.to2 (ih_2 _ _ _ (by (try dsimp only); repeat first | assumption | exact zK.rf | refine zK.zu ?_ (by omega) | refine zK.zu0 ?_ (by decide) | refine zK.zwr ?_ (by omega) | refine zK.zfil ?_ (by omega) | refine zK.zcpy ?_ (by omega) | refine zK.trans ?_ (by assumption) | dsimp only)  (z_up (by first | assumption | exact z_lt (by assumption) | exact z_lt2 (by assumption) | exact z_lt3 (by assumption) (by decide)) hm_2)) rfl rfl rfl
  have H_2 : ∀ (x2_2 : Int32) (M2 : Nat → Nat → Int32) (N2 : Nat → Nat → Int64), zK P S.2.1 M2 → Zw p l e { frames := 3, cells := 0, slots := 0, locals := 80 * 3 } s m args below meth c G b 3 (MQ below (zQ G b FQ) args s 0 0 (fun q : Nat => b ≤ q)) 0 0 2 [some (.ref (Q)), some (.ref (A)), some (.int x2_2)] [] (S.1, M2, N2) := fun x2_2 M2 N2 k  => L_2 _ x2_2 M2 N2 k  (Nat.lt_succ_self _)
  refine a_iconst (v := 0) X dX5_settle_0 (by decide) ?_
  refine a_istore_n X dX5_settle_1 (by decide) ?_
  exact Zw.to2 (H_2 _ _ _ (by (try dsimp only); repeat first | assumption | exact zK.rf | refine zK.zu ?_ (by omega) | refine zK.zu0 ?_ (by decide) | refine zK.zwr ?_ (by omega) | refine zK.zfil ?_ (by omega) | refine zK.zcpy ?_ (by omega) | refine zK.trans ?_ (by assumption) | dsimp only) ) rfl rfl rfl
set_option maxRecDepth 100000 in
theorem s_X5_bySeed {l : Launch} {G : zG} {b : Nat} {S : zS} {P : Nat} {Q : Nat} {A : Nat} {v0 : Int32} (hQ : LX5 S.1 Q) (rQ : P < Q ∧ Q + 8 ≤ P + 200) (hA : LX2 S.1 A) (rA : P < A ∧ A + 13 ≤ P + 200) : zM l G b yX5_bySeed cX5_bySeed 3 none 4 0 0 [.ref Q, .ref A, .int v0] S (fun r z => ∃ M' N', z = (S.1, M', N') ∧ zK P S.2.1 M' ∧ r = none) := by
  refine zM.of miX5_bySeed (Nat.le_of_ble_eq_true rfl) ?_
  intro p e s m args below meth c X hr hname
  generalize hF : ((fun r z => ∃ M' N', z = (S.1, M', N') ∧ zK P S.2.1 M' ∧ r = none) : Option Value → zS → Prop) = FQ
  change Zw p l e { frames := 4, cells := 0, slots := 0, locals := 80 * 4 } s m args below meth c G b 3 (MQ below (zQ G b FQ) args s 0 0 (fun q : Nat => b ≤ q)) 0 0 0 [some (.ref Q), some (.ref A), some (.int v0)] [] S
  obtain ⟨q_lt, q_o, q_line, q_unitOf, q_roundOf, q_leftTags, q_leftGuests, q_leftPreferred, q_ranked⟩ := id hQ
  obtain ⟨a_lt, a_o, a_quota, a_preferred, a_forGuests, a_applicantOf, a_size, a_guestCount, a_score, a_tickets, a_bits, a_party, a_wishCount, a_wishes⟩ := id hA
  refine a_aload_n X dX5_bySeed_0 rfl ?_
  refine a_aload_n X dX5_bySeed_1 rfl ?_
  refine a_iload_n X dX5_bySeed_2 rfl ?_
  refine a_callVx X dX5_bySeed_3 miX5_lineUp lm5_33 (s_X5_lineUp (P := P) (by assumption) (by omega) (by assumption) (by omega)) (by assumption) rfl rfl rfl (Nat.le_of_ble_eq_true rfl) ⟨by decide, by decide, by decide, by decide⟩ (fun r_3 S_3 q_3 => ?_)
  obtain ⟨M_3, N_3, rfl, k_3, rfl⟩ := q_3
  refine a_aload_n X dX5_bySeed_6 rfl ?_
  refine a_aload_n X dX5_bySeed_7 rfl ?_
  refine a_callVx X dX5_bySeed_8 miX5_settle lm5_37 (s_X5_settle (P := P) (by assumption) (by omega) (by assumption) (by omega)) (by assumption) rfl rfl rfl (Nat.le_of_ble_eq_true rfl) ⟨by decide, by decide, by decide, by decide⟩ (fun r_8 S_8 q_8 => ?_)
  obtain ⟨M_8, N_8, rfl, k_8, rfl⟩ := q_8
  refine a_vret X hr dX5_bySeed_11 ⟨by decide, by decide⟩ ?_
  subst hF
  exact ⟨_, _, rfl, (by (try dsimp only); repeat first | assumption | exact zK.rf | refine zK.zu ?_ (by omega) | refine zK.zu0 ?_ (by decide) | refine zK.zwr ?_ (by omega) | refine zK.zfil ?_ (by omega) | refine zK.zcpy ?_ (by omega) | refine zK.trans ?_ (by assumption) | dsimp only), rfl⟩
set_option maxRecDepth 100000 in
theorem s_X5_rankHeld {l : Launch} {G : zG} {b : Nat} {S : zS} {P : Nat} {Q : Nat} {A : Nat} {v0 : Int32} (hQ : LX5 S.1 Q) (rQ : P < Q ∧ Q + 8 ≤ P + 200) (hA : LX2 S.1 A) (rA : P < A ∧ A + 13 ≤ P + 200) : zM l G b yX5_rankHeld cX5_rankHeld 4 (some .int) 3 0 0 [.ref Q, .ref A, .int v0] S (fun r z => z = S ∧ ∃ v : Int32, r = some (.int v)) := by
  refine zM.of miX5_rankHeld (Nat.le_of_ble_eq_true rfl) ?_
  intro p e s m args below meth c X hr hname
  generalize hF : ((fun r z => z = S ∧ ∃ v : Int32, r = some (.int v)) : Option Value → zS → Prop) = FQ
  change Zw p l e { frames := 3, cells := 0, slots := 0, locals := 80 * 3 } s m args below meth c G b 4 (MQ below (zQ G b FQ) args s 0 0 (fun q : Nat => b ≤ q)) 0 0 0 [some (.ref Q), some (.ref A), some (.int v0), none] [] S
  obtain ⟨q_lt, q_o, q_line, q_unitOf, q_roundOf, q_leftTags, q_leftGuests, q_leftPreferred, q_ranked⟩ := id hQ
  obtain ⟨a_lt, a_o, a_quota, a_preferred, a_forGuests, a_applicantOf, a_size, a_guestCount, a_score, a_tickets, a_bits, a_party, a_wishCount, a_wishes⟩ := id hA
  have J_24 : ∀ (x2_24 : Int32) (x3_24 : Int32) (y0_24 : Int32), Zw p l e { frames := 3, cells := 0, slots := 0, locals := 80 * 3 } s m args below meth c G b 4 (MQ below (zQ G b FQ) args s 0 0 (fun q : Nat => b ≤ q)) 0 0 24 [some (.ref (Q)), some (.ref (A)), some (.int x2_24), some (.int x3_24)] [(.int y0_24)] S := by
    intro x2_24 x3_24 y0_24
    refine a_iret X hr dX5_rankHeld_24 ⟨by decide, by decide⟩ ?_
    subst hF
    exact ⟨rfl, ⟨_, rfl⟩⟩
  refine a_aload_n X dX5_rankHeld_0 rfl ?_
  refine a_iload_n X dX5_rankHeld_1 rfl ?_
  refine a_aload_n X dX5_rankHeld_2 rfl ?_
  refine a_getr X lf5_15 (by assumption) rfl (by omega) dX5_rankHeld_3 ?_
  refine a_iload_n X dX5_rankHeld_6 rfl ?_
  refine a_callSNv X dX5_rankHeld_7 miX7_cell lm5_69 (c_cell (by assumption) (by first | decide | assumption)) rfl rfl (Nat.le_of_ble_eq_true rfl) ⟨by decide, by decide, by decide, by decide⟩ ?_
  refine a_callVx X dX5_rankHeld_10 miX2_rankOf lm5_125 (s_X2_rankOf (P := P) (by assumption) (by omega)) (by assumption) rfl rfl rfl (Nat.le_of_ble_eq_true rfl) ⟨by decide, by decide, by decide, by decide⟩ (fun r_10 S_10 q_10 => ?_)
  obtain ⟨rfl, ⟨v_10, rfl⟩⟩ := q_10
  refine a_istore_n X dX5_rankHeld_13 (by decide) ?_
  refine a_iload_n X dX5_rankHeld_14 rfl ?_
  refine a_iconst (v := -1) X dX5_rankHeld_15 (by decide) ?_
  refine a_icmp_ne (tgt := 23) X dX5_rankHeld_16 (by decide) (fun h_16 => ?_) (fun h_16 => ?_)
  · refine a_iload_n X dX5_rankHeld_23 rfl ?_
    exact Zw.to2 (J_24 _ _ _ ) rfl rfl rfl
  · refine a_iconst (v := 3) X dX5_rankHeld_19 (by decide) ?_
    refine a_goto (tgt := 24) X dX5_rankHeld_20 (by decide) ?_
    exact Zw.to2 (J_24 _ _ _ ) rfl rfl rfl
set_option maxRecDepth 100000 in
theorem s_X5_isWaiting {l : Launch} {G : zG} {b : Nat} {S : zS} {P : Nat} {Q : Nat} {A : Nat} {v0 : Int32} {v1 : Int32} (hQ : LX5 S.1 Q) (rQ : P < Q ∧ Q + 8 ≤ P + 200) (hA : LX2 S.1 A) (rA : P < A ∧ A + 13 ≤ P + 200) : zM l G b yX5_isWaiting cX5_isWaiting 4 (some .boolean) 3 0 0 [.ref Q, .ref A, .int v0, .int v1] S (fun r z => z = S ∧ ∃ v : Int32, r = some (.int v) ∧ (v = 0 ∨ v = 1)) := by
  refine zM.of miX5_isWaiting (Nat.le_of_ble_eq_true rfl) ?_
  intro p e s m args below meth c X hr hname
  generalize hF : ((fun r z => z = S ∧ ∃ v : Int32, r = some (.int v) ∧ (v = 0 ∨ v = 1)) : Option Value → zS → Prop) = FQ
  change Zw p l e { frames := 3, cells := 0, slots := 0, locals := 80 * 3 } s m args below meth c G b 4 (MQ below (zQ G b FQ) args s 0 0 (fun q : Nat => b ≤ q)) 0 0 0 [some (.ref Q), some (.ref A), some (.int v0), some (.int v1)] [] S
  obtain ⟨q_lt, q_o, q_line, q_unitOf, q_roundOf, q_leftTags, q_leftGuests, q_leftPreferred, q_ranked⟩ := id hQ
  obtain ⟨a_lt, a_o, a_quota, a_preferred, a_forGuests, a_applicantOf, a_size, a_guestCount, a_score, a_tickets, a_bits, a_party, a_wishCount, a_wishes⟩ := id hA
  have J_27 : ∀ (x2_27 : Int32) (x3_27 : Int32) (y0_27 : Int32), (y0_27 = 0 ∨ y0_27 = 1) → Zw p l e { frames := 3, cells := 0, slots := 0, locals := 80 * 3 } s m args below meth c G b 4 (MQ below (zQ G b FQ) args s 0 0 (fun q : Nat => b ≤ q)) 0 0 27 [some (.ref (Q)), some (.ref (A)), some (.int x2_27), some (.int x3_27)] [(.int y0_27)] S := by
    intro x2_27 x3_27 y0_27 f0_27
    refine a_zret X (by first | exact Or.inl rfl | exact Or.inr rfl | assumption) hr dX5_isWaiting_27 ⟨by decide, by decide⟩ ?_
    subst hF
    exact ⟨rfl, ⟨_, rfl, (by first | exact Or.inl rfl | exact Or.inr rfl | assumption | ((try dsimp only); (repeat rw [zwr_row (by omega)]); assumption))⟩⟩
  have J_26 : ∀ (x2_26 : Int32) (x3_26 : Int32), Zw p l e { frames := 3, cells := 0, slots := 0, locals := 80 * 3 } s m args below meth c G b 4 (MQ below (zQ G b FQ) args s 0 0 (fun q : Nat => b ≤ q)) 0 0 26 [some (.ref (Q)), some (.ref (A)), some (.int x2_26), some (.int x3_26)] [] S := by
    intro x2_26 x3_26
    refine a_iconst (v := 0) X dX5_isWaiting_26 (by decide) ?_
    exact Zw.to2 (J_27 _ _ _ (by first | exact Or.inl rfl | exact Or.inr rfl | assumption | ((try dsimp only); (repeat rw [zwr_row (by omega)]); assumption))) rfl rfl rfl
  refine a_aload_n X dX5_isWaiting_0 rfl ?_
  refine a_getr X lf5_15 (by assumption) rfl (by omega) dX5_isWaiting_1 ?_
  refine a_iload_n X dX5_isWaiting_4 rfl ?_
  refine a_callSNv X dX5_isWaiting_5 miX7_cell lm5_69 (c_cell (by assumption) (by first | decide | assumption)) rfl rfl (Nat.le_of_ble_eq_true rfl) ⟨by decide, by decide, by decide, by decide⟩ ?_
  refine a_iconst (v := -1) X dX5_isWaiting_8 (by decide) ?_
  refine a_icmp_ne (tgt := 26) X dX5_isWaiting_9 (by decide) (fun h_9 => ?_) (fun h_9 => ?_)
  · exact Zw.to2 (J_26 _ _ ) rfl rfl rfl
  · refine a_aload_n X dX5_isWaiting_12 rfl ?_
    refine a_iload_n X dX5_isWaiting_13 rfl ?_
    refine a_iload_n X dX5_isWaiting_14 rfl ?_
    refine a_callVx X dX5_isWaiting_15 miX2_rankOf lm5_125 (s_X2_rankOf (P := P) (by assumption) (by omega)) (by assumption) rfl rfl rfl (Nat.le_of_ble_eq_true rfl) ⟨by decide, by decide, by decide, by decide⟩ (fun r_15 S_15 q_15 => ?_)
    obtain ⟨rfl, ⟨v_15, rfl⟩⟩ := q_15
    refine a_iconst (v := -1) X dX5_isWaiting_18 (by decide) ?_
    refine a_icmp_eq (tgt := 26) X dX5_isWaiting_19 (by decide) (fun h_19 => ?_) (fun h_19 => ?_)
    · exact Zw.to2 (J_26 _ _ ) rfl rfl rfl
    · refine a_iconst (v := 1) X dX5_isWaiting_22 (by decide) ?_
      refine a_goto (tgt := 27) X dX5_isWaiting_23 (by decide) ?_
      exact Zw.to2 (J_27 _ _ _ (by first | exact Or.inl rfl | exact Or.inr rfl | assumption | ((try dsimp only); (repeat rw [zwr_row (by omega)]); assumption))) rfl rfl rfl
set_option maxRecDepth 100000 in
theorem s_X5_holders {l : Launch} {G : zG} {b : Nat} {S : zS} {P : Nat} {Q : Nat} {A : Nat} {v0 : Int32} (hQ : LX5 S.1 Q) (rQ : P < Q ∧ Q + 8 ≤ P + 200) (hA : LX2 S.1 A) (rA : P < A ∧ A + 13 ≤ P + 200) : zM l G b yX5_holders cX5_holders 5 (some .int) 1 0 0 [.ref Q, .ref A, .int v0] S (fun r z => z = S ∧ ∃ v : Int32, r = some (.int v)) := by
  refine zM.of miX5_holders (Nat.le_of_ble_eq_true rfl) ?_
  intro p e s m args below meth c X hr hname
  generalize hF : ((fun r z => z = S ∧ ∃ v : Int32, r = some (.int v)) : Option Value → zS → Prop) = FQ
  change Zw p l e { frames := 1, cells := 0, slots := 0, locals := 80 * 1 } s m args below meth c G b 5 (MQ below (zQ G b FQ) args s 0 0 (fun q : Nat => b ≤ q)) 0 0 0 [some (.ref Q), some (.ref A), some (.int v0), none, none] [] S
  obtain ⟨q_lt, q_o, q_line, q_unitOf, q_roundOf, q_leftTags, q_leftGuests, q_leftPreferred, q_ranked⟩ := id hQ
  obtain ⟨a_lt, a_o, a_quota, a_preferred, a_forGuests, a_applicantOf, a_size, a_guestCount, a_score, a_tickets, a_bits, a_party, a_wishCount, a_wishes⟩ := id hA
  have L_5 : ∀ u : Nat, ∀ (x2_5 : Int32) (x3_5 : Int32) (x4_5 : Int32), (2147483648 - x4_5.toInt).toNat < u → Zw p l e { frames := 1, cells := 0, slots := 0, locals := 80 * 1 } s m args below meth c G b 5 (MQ below (zQ G b FQ) args s 0 0 (fun q : Nat => b ≤ q)) 0 0 5 [some (.ref (Q)), some (.ref (A)), some (.int x2_5), some (.int x3_5), some (.int x4_5)] [] S := by
    intro u
    induction u with
    | zero => intro x2_5 x3_5 x4_5 hm_5; exact absurd hm_5 (Nat.not_lt_zero _)
    | succ u_5 ih_5 =>
      intro x2_5 x3_5 x4_5 hm_5
      have J_33 : ∀ (x2_33 : Int32) (x3_33 : Int32) (x4_33 : Int32) (y0_33 : Int32) (y1_33 : Int32), (y1_33 = 0 ∨ y1_33 = 1) → ((2147483648 - x4_33.toInt).toNat < u_5 + 1) → (x4_33.toInt < 2147483647) → Zw p l e { frames := 1, cells := 0, slots := 0, locals := 80 * 1 } s m args below meth c G b 5 (MQ below (zQ G b FQ) args s 0 0 (fun q : Nat => b ≤ q)) 0 0 33 [some (.ref (Q)), some (.ref (A)), some (.int x2_33), some (.int x3_33), some (.int x4_33)] [(.int y1_33), (.int y0_33)] S := by
        intro x2_33 x3_33 x4_33 y0_33 y1_33 f0_33 f1_33 f2_33
        refine a_iadd X dX5_holders_33 ?_
        refine a_istore_n X dX5_holders_34 (by decide) ?_
        refine a_iinc X dX5_holders_35 (by decide) rfl rfl ?_
        refine a_goto (tgt := 5) X dX5_holders_38 (by decide) ?_
        exact Zw.to2 (ih_5 _ _ _  (z_up f2_33 f1_33)) rfl rfl rfl
      refine a_iload X dX5_holders_5 rfl ?_
      refine a_aload_n X dX5_holders_7 rfl ?_
      refine a_geti X lf5_47 (by assumption) rfl dX5_holders_8 ?_
      refine a_icmp_ge (tgt := 41) X dX5_holders_11 (by decide) (fun h_11 => ?_) (fun h_11 => ?_)
      · refine a_iload_n X dX5_holders_41 rfl ?_
        refine a_iret X hr dX5_holders_42 ⟨by decide, by decide⟩ ?_
        subst hF
        exact ⟨rfl, ⟨_, rfl⟩⟩
      · refine a_iload_n X dX5_holders_14 rfl ?_
        refine a_aload_n X dX5_holders_15 rfl ?_
        refine a_getr X lf5_15 (by assumption) rfl (by omega) dX5_holders_16 ?_
        refine a_iload X dX5_holders_19 rfl ?_
        refine a_callSNv X dX5_holders_21 miX7_cell lm5_69 (c_cell (by assumption) (by first | decide | assumption)) rfl rfl (Nat.le_of_ble_eq_true rfl) ⟨by decide, by decide, by decide, by decide⟩ ?_
        refine a_iload_n X dX5_holders_24 rfl ?_
        refine a_icmp_ne (tgt := 32) X dX5_holders_25 (by decide) (fun h_25 => ?_) (fun h_25 => ?_)
        · refine a_iconst (v := 0) X dX5_holders_32 (by decide) ?_
          exact Zw.to2 (J_33 _ _ _ _ _ (by first | exact Or.inl rfl | exact Or.inr rfl | assumption | ((try dsimp only); (repeat rw [zwr_row (by omega)]); assumption)) hm_5 (by first | assumption | exact z_lt (by assumption) | exact z_lt2 (by assumption) | exact z_lt3 (by assumption) (by decide))) rfl rfl rfl
        · refine a_iconst (v := 1) X dX5_holders_28 (by decide) ?_
          refine a_goto (tgt := 33) X dX5_holders_29 (by decide) ?_
          exact Zw.to2 (J_33 _ _ _ _ _ (by first | exact Or.inl rfl | exact Or.inr rfl | assumption | ((try dsimp only); (repeat rw [zwr_row (by omega)]); assumption)) hm_5 (by first | assumption | exact z_lt (by assumption) | exact z_lt2 (by assumption) | exact z_lt3 (by assumption) (by decide))) rfl rfl rfl
  have H_5 : ∀ (x2_5 : Int32) (x3_5 : Int32) (x4_5 : Int32), Zw p l e { frames := 1, cells := 0, slots := 0, locals := 80 * 1 } s m args below meth c G b 5 (MQ below (zQ G b FQ) args s 0 0 (fun q : Nat => b ≤ q)) 0 0 5 [some (.ref (Q)), some (.ref (A)), some (.int x2_5), some (.int x3_5), some (.int x4_5)] [] S := fun x2_5 x3_5 x4_5  => L_5 _ x2_5 x3_5 x4_5  (Nat.lt_succ_self _)
  refine a_iconst (v := 0) X dX5_holders_0 (by decide) ?_
  refine a_istore_n X dX5_holders_1 (by decide) ?_
  refine a_iconst (v := 0) X dX5_holders_2 (by decide) ?_
  refine a_istore X dX5_holders_3 (by decide) ?_
  exact Zw.to2 (H_5 _ _ _ ) rfl rfl rfl
set_option maxRecDepth 100000 in
theorem s_X5_fewestPoints {l : Launch} {G : zG} {b : Nat} {S : zS} {P : Nat} {Q : Nat} {A : Nat} {v0 : Int32} (hQ : LX5 S.1 Q) (rQ : P < Q ∧ Q + 8 ≤ P + 200) (hA : LX2 S.1 A) (rA : P < A ∧ A + 13 ≤ P + 200) : zM l G b yX5_fewestPoints cX5_fewestPoints 5 (some .int) 1 0 0 [.ref Q, .ref A, .int v0] S (fun r z => z = S ∧ ∃ v : Int32, r = some (.int v)) := by
  refine zM.of miX5_fewestPoints (Nat.le_of_ble_eq_true rfl) ?_
  intro p e s m args below meth c X hr hname
  generalize hF : ((fun r z => z = S ∧ ∃ v : Int32, r = some (.int v)) : Option Value → zS → Prop) = FQ
  change Zw p l e { frames := 1, cells := 0, slots := 0, locals := 80 * 1 } s m args below meth c G b 5 (MQ below (zQ G b FQ) args s 0 0 (fun q : Nat => b ≤ q)) 0 0 0 [some (.ref Q), some (.ref A), some (.int v0), none, none] [] S
  obtain ⟨q_lt, q_o, q_line, q_unitOf, q_roundOf, q_leftTags, q_leftGuests, q_leftPreferred, q_ranked⟩ := id hQ
  obtain ⟨a_lt, a_o, a_quota, a_preferred, a_forGuests, a_applicantOf, a_size, a_guestCount, a_score, a_tickets, a_bits, a_party, a_wishCount, a_wishes⟩ := id hA
  have L_5 : ∀ u : Nat, ∀ (x2_5 : Int32) (x3_5 : Int32) (x4_5 : Int32), (2147483648 - x4_5.toInt).toNat < u → Zw p l e { frames := 1, cells := 0, slots := 0, locals := 80 * 1 } s m args below meth c G b 5 (MQ below (zQ G b FQ) args s 0 0 (fun q : Nat => b ≤ q)) 0 0 5 [some (.ref (Q)), some (.ref (A)), some (.int x2_5), some (.int x3_5), some (.int x4_5)] [] S := by
    intro u
    induction u with
    | zero => intro x2_5 x3_5 x4_5 hm_5; exact absurd hm_5 (Nat.not_lt_zero _)
    | succ u_5 ih_5 =>
      intro x2_5 x3_5 x4_5 hm_5
      have J_55 : ∀ (x2_55 : Int32) (x3_55 : Int32) (x4_55 : Int32), ((2147483648 - x4_55.toInt).toNat < u_5 + 1) → (x4_55.toInt < 2147483647) → Zw p l e { frames := 1, cells := 0, slots := 0, locals := 80 * 1 } s m args below meth c G b 5 (MQ below (zQ G b FQ) args s 0 0 (fun q : Nat => b ≤ q)) 0 0 55 [some (.ref (Q)), some (.ref (A)), some (.int x2_55), some (.int x3_55), some (.int x4_55)] [] S := by
        intro x2_55 x3_55 x4_55 f0_55 f1_55
        refine a_iinc X dX5_fewestPoints_55 (by decide) rfl rfl ?_
        refine a_goto (tgt := 5) X dX5_fewestPoints_58 (by decide) ?_
        exact Zw.to2 (ih_5 _ _ _  (z_up f1_55 f0_55)) rfl rfl rfl
      have J_45 : ∀ (x2_45 : Int32) (x3_45 : Int32) (x4_45 : Int32), ((2147483648 - x4_45.toInt).toNat < u_5 + 1) → (x4_45.toInt < 2147483647) → Zw p l e { frames := 1, cells := 0, slots := 0, locals := 80 * 1 } s m args below meth c G b 5 (MQ below (zQ G b FQ) args s 0 0 (fun q : Nat => b ≤ q)) 0 0 45 [some (.ref (Q)), some (.ref (A)), some (.int x2_45), some (.int x3_45), some (.int x4_45)] [] S := by
        intro x2_45 x3_45 x4_45 f0_45 f1_45
        refine a_aload_n X dX5_fewestPoints_45 rfl ?_
        refine a_getr X lf5_116 (by assumption) rfl (by omega) dX5_fewestPoints_46 ?_
        refine a_iload X dX5_fewestPoints_49 rfl ?_
        refine a_callSNv X dX5_fewestPoints_51 miX7_cell lm5_69 (c_cell (by assumption) (by first | decide | assumption)) rfl rfl (Nat.le_of_ble_eq_true rfl) ⟨by decide, by decide, by decide, by decide⟩ ?_
        refine a_istore_n X dX5_fewestPoints_54 (by decide) ?_
        exact Zw.to2 (J_55 _ _ _ f0_45 f1_45) rfl rfl rfl
      refine a_iload X dX5_fewestPoints_5 rfl ?_
      refine a_aload_n X dX5_fewestPoints_7 rfl ?_
      refine a_geti X lf5_47 (by assumption) rfl dX5_fewestPoints_8 ?_
      refine a_icmp_ge (tgt := 61) X dX5_fewestPoints_11 (by decide) (fun h_11 => ?_) (fun h_11 => ?_)
      · refine a_iload_n X dX5_fewestPoints_61 rfl ?_
        refine a_iret X hr dX5_fewestPoints_62 ⟨by decide, by decide⟩ ?_
        subst hF
        exact ⟨rfl, ⟨_, rfl⟩⟩
      · refine a_aload_n X dX5_fewestPoints_14 rfl ?_
        refine a_getr X lf5_15 (by assumption) rfl (by omega) dX5_fewestPoints_15 ?_
        refine a_iload X dX5_fewestPoints_18 rfl ?_
        refine a_callSNv X dX5_fewestPoints_20 miX7_cell lm5_69 (c_cell (by assumption) (by first | decide | assumption)) rfl rfl (Nat.le_of_ble_eq_true rfl) ⟨by decide, by decide, by decide, by decide⟩ ?_
        refine a_iload_n X dX5_fewestPoints_23 rfl ?_
        refine a_icmp_ne (tgt := 55) X dX5_fewestPoints_24 (by decide) (fun h_24 => ?_) (fun h_24 => ?_)
        · exact Zw.to2 (J_55 _ _ _ hm_5 (by first | assumption | exact z_lt (by assumption) | exact z_lt2 (by assumption) | exact z_lt3 (by assumption) (by decide))) rfl rfl rfl
        · refine a_iload_n X dX5_fewestPoints_27 rfl ?_
          refine a_iconst (v := -1) X dX5_fewestPoints_28 (by decide) ?_
          refine a_icmp_eq (tgt := 45) X dX5_fewestPoints_29 (by decide) (fun h_29 => ?_) (fun h_29 => ?_)
          · exact Zw.to2 (J_45 _ _ _ hm_5 (by first | assumption | exact z_lt (by assumption) | exact z_lt2 (by assumption) | exact z_lt3 (by assumption) (by decide))) rfl rfl rfl
          · refine a_aload_n X dX5_fewestPoints_32 rfl ?_
            refine a_getr X lf5_116 (by assumption) rfl (by omega) dX5_fewestPoints_33 ?_
            refine a_iload X dX5_fewestPoints_36 rfl ?_
            refine a_callSNv X dX5_fewestPoints_38 miX7_cell lm5_69 (c_cell (by assumption) (by first | decide | assumption)) rfl rfl (Nat.le_of_ble_eq_true rfl) ⟨by decide, by decide, by decide, by decide⟩ ?_
            refine a_iload_n X dX5_fewestPoints_41 rfl ?_
            refine a_icmp_ge (tgt := 55) X dX5_fewestPoints_42 (by decide) (fun h_42 => ?_) (fun h_42 => ?_)
            · exact Zw.to2 (J_55 _ _ _ hm_5 (by first | assumption | exact z_lt (by assumption) | exact z_lt2 (by assumption) | exact z_lt3 (by assumption) (by decide))) rfl rfl rfl
            · exact Zw.to2 (J_45 _ _ _ hm_5 (by first | assumption | exact z_lt (by assumption) | exact z_lt2 (by assumption) | exact z_lt3 (by assumption) (by decide))) rfl rfl rfl
  have H_5 : ∀ (x2_5 : Int32) (x3_5 : Int32) (x4_5 : Int32), Zw p l e { frames := 1, cells := 0, slots := 0, locals := 80 * 1 } s m args below meth c G b 5 (MQ below (zQ G b FQ) args s 0 0 (fun q : Nat => b ≤ q)) 0 0 5 [some (.ref (Q)), some (.ref (A)), some (.int x2_5), some (.int x3_5), some (.int x4_5)] [] S := fun x2_5 x3_5 x4_5  => L_5 _ x2_5 x3_5 x4_5  (Nat.lt_succ_self _)
  refine a_iconst (v := -1) X dX5_fewestPoints_0 (by decide) ?_
  refine a_istore_n X dX5_fewestPoints_1 (by decide) ?_
  refine a_iconst (v := 0) X dX5_fewestPoints_2 (by decide) ?_
  refine a_istore X dX5_fewestPoints_3 (by decide) ?_
  exact Zw.to2 (H_5 _ _ _ ) rfl rfl rfl
set_option maxRecDepth 100000 in
theorem s_X5_tagsGiven {l : Launch} {G : zG} {b : Nat} {S : zS} {P : Nat} {Q : Nat} {A : Nat} (hQ : LX5 S.1 Q) (rQ : P < Q ∧ Q + 8 ≤ P + 200) (hA : LX2 S.1 A) (rA : P < A ∧ A + 13 ≤ P + 200) : zM l G b yX5_tagsGiven cX5_tagsGiven 4 (some .int) 1 0 0 [.ref Q, .ref A] S (fun r z => z = S ∧ ∃ v : Int32, r = some (.int v)) := by
  refine zM.of miX5_tagsGiven (Nat.le_of_ble_eq_true rfl) ?_
  intro p e s m args below meth c X hr hname
  generalize hF : ((fun r z => z = S ∧ ∃ v : Int32, r = some (.int v)) : Option Value → zS → Prop) = FQ
  change Zw p l e { frames := 1, cells := 0, slots := 0, locals := 80 * 1 } s m args below meth c G b 4 (MQ below (zQ G b FQ) args s 0 0 (fun q : Nat => b ≤ q)) 0 0 0 [some (.ref Q), some (.ref A), none, none] [] S
  obtain ⟨q_lt, q_o, q_line, q_unitOf, q_roundOf, q_leftTags, q_leftGuests, q_leftPreferred, q_ranked⟩ := id hQ
  obtain ⟨a_lt, a_o, a_quota, a_preferred, a_forGuests, a_applicantOf, a_size, a_guestCount, a_score, a_tickets, a_bits, a_party, a_wishCount, a_wishes⟩ := id hA
  have L_4 : ∀ u : Nat, ∀ (x2_4 : Int32) (x3_4 : Int32), (2147483648 - x3_4.toInt).toNat < u → Zw p l e { frames := 1, cells := 0, slots := 0, locals := 80 * 1 } s m args below meth c G b 4 (MQ below (zQ G b FQ) args s 0 0 (fun q : Nat => b ≤ q)) 0 0 4 [some (.ref (Q)), some (.ref (A)), some (.int x2_4), some (.int x3_4)] [] S := by
    intro u
    induction u with
    | zero => intro x2_4 x3_4 hm_4; exact absurd hm_4 (Nat.not_lt_zero _)
    | succ u_4 ih_4 =>
      intro x2_4 x3_4 hm_4
      have J_37 : ∀ (x2_37 : Int32) (x3_37 : Int32) (y0_37 : Int32) (y1_37 : Int32), ((2147483648 - x3_37.toInt).toNat < u_4 + 1) → (x3_37.toInt < 2147483647) → Zw p l e { frames := 1, cells := 0, slots := 0, locals := 80 * 1 } s m args below meth c G b 4 (MQ below (zQ G b FQ) args s 0 0 (fun q : Nat => b ≤ q)) 0 0 37 [some (.ref (Q)), some (.ref (A)), some (.int x2_37), some (.int x3_37)] [(.int y1_37), (.int y0_37)] S := by
        intro x2_37 x3_37 y0_37 y1_37 f0_37 f1_37
        refine a_iadd X dX5_tagsGiven_37 ?_
        refine a_istore_n X dX5_tagsGiven_38 (by decide) ?_
        refine a_iinc X dX5_tagsGiven_39 (by decide) rfl rfl ?_
        refine a_goto (tgt := 4) X dX5_tagsGiven_42 (by decide) ?_
        exact Zw.to2 (ih_4 _ _  (z_up f1_37 f0_37)) rfl rfl rfl
      refine a_iload_n X dX5_tagsGiven_4 rfl ?_
      refine a_aload_n X dX5_tagsGiven_5 rfl ?_
      refine a_geti X lf5_47 (by assumption) rfl dX5_tagsGiven_6 ?_
      refine a_icmp_ge (tgt := 45) X dX5_tagsGiven_9 (by decide) (fun h_9 => ?_) (fun h_9 => ?_)
      · refine a_iload_n X dX5_tagsGiven_45 rfl ?_
        refine a_iret X hr dX5_tagsGiven_46 ⟨by decide, by decide⟩ ?_
        subst hF
        exact ⟨rfl, ⟨_, rfl⟩⟩
      · refine a_iload_n X dX5_tagsGiven_12 rfl ?_
        refine a_aload_n X dX5_tagsGiven_13 rfl ?_
        refine a_getr X lf5_15 (by assumption) rfl (by omega) dX5_tagsGiven_14 ?_
        refine a_iload_n X dX5_tagsGiven_17 rfl ?_
        refine a_callSNv X dX5_tagsGiven_18 miX7_cell lm5_69 (c_cell (by assumption) (by first | decide | assumption)) rfl rfl (Nat.le_of_ble_eq_true rfl) ⟨by decide, by decide, by decide, by decide⟩ ?_
        refine a_iconst (v := -1) X dX5_tagsGiven_21 (by decide) ?_
        refine a_icmp_ne (tgt := 29) X dX5_tagsGiven_22 (by decide) (fun h_22 => ?_) (fun h_22 => ?_)
        · refine a_aload_n X dX5_tagsGiven_29 rfl ?_
          refine a_getr X lf5_106 (by assumption) rfl (by omega) dX5_tagsGiven_30 ?_
          refine a_iload_n X dX5_tagsGiven_33 rfl ?_
          refine a_callSNv X dX5_tagsGiven_34 miX7_cell lm5_69 (c_cell (by assumption) (by first | decide | assumption)) rfl rfl (Nat.le_of_ble_eq_true rfl) ⟨by decide, by decide, by decide, by decide⟩ ?_
          exact Zw.to2 (J_37 _ _ _ _ hm_4 (by first | assumption | exact z_lt (by assumption) | exact z_lt2 (by assumption) | exact z_lt3 (by assumption) (by decide))) rfl rfl rfl
        · refine a_iconst (v := 0) X dX5_tagsGiven_25 (by decide) ?_
          refine a_goto (tgt := 37) X dX5_tagsGiven_26 (by decide) ?_
          exact Zw.to2 (J_37 _ _ _ _ hm_4 (by first | assumption | exact z_lt (by assumption) | exact z_lt2 (by assumption) | exact z_lt3 (by assumption) (by decide))) rfl rfl rfl
  have H_4 : ∀ (x2_4 : Int32) (x3_4 : Int32), Zw p l e { frames := 1, cells := 0, slots := 0, locals := 80 * 1 } s m args below meth c G b 4 (MQ below (zQ G b FQ) args s 0 0 (fun q : Nat => b ≤ q)) 0 0 4 [some (.ref (Q)), some (.ref (A)), some (.int x2_4), some (.int x3_4)] [] S := fun x2_4 x3_4  => L_4 _ x2_4 x3_4  (Nat.lt_succ_self _)
  refine a_iconst (v := 0) X dX5_tagsGiven_0 (by decide) ?_
  refine a_istore_n X dX5_tagsGiven_1 (by decide) ?_
  refine a_iconst (v := 0) X dX5_tagsGiven_2 (by decide) ?_
  refine a_istore_n X dX5_tagsGiven_3 (by decide) ?_
  exact Zw.to2 (H_4 _ _ ) rfl rfl rfl
set_option maxRecDepth 100000 in
theorem s_X5_scoreBehind {l : Launch} {G : zG} {b : Nat} {S : zS} {P : Nat} {Q : Nat} {A : Nat} {v0 : Int32} {v1 : Int32} (hQ : LX5 S.1 Q) (rQ : P < Q ∧ Q + 8 ≤ P + 200) (hA : LX2 S.1 A) (rA : P < A ∧ A + 13 ≤ P + 200) : zM l G b yX5_scoreBehind cX5_scoreBehind 4 (some .int) 3 0 0 [.ref Q, .ref A, .int v0, .int v1] S (fun r z => z = S ∧ ∃ v : Int32, r = some (.int v)) := by
  refine zM.of miX5_scoreBehind (Nat.le_of_ble_eq_true rfl) ?_
  intro p e s m args below meth c X hr hname
  generalize hF : ((fun r z => z = S ∧ ∃ v : Int32, r = some (.int v)) : Option Value → zS → Prop) = FQ
  change Zw p l e { frames := 3, cells := 0, slots := 0, locals := 80 * 3 } s m args below meth c G b 4 (MQ below (zQ G b FQ) args s 0 0 (fun q : Nat => b ≤ q)) 0 0 0 [some (.ref Q), some (.ref A), some (.int v0), some (.int v1)] [] S
  obtain ⟨q_lt, q_o, q_line, q_unitOf, q_roundOf, q_leftTags, q_leftGuests, q_leftPreferred, q_ranked⟩ := id hQ
  obtain ⟨a_lt, a_o, a_quota, a_preferred, a_forGuests, a_applicantOf, a_size, a_guestCount, a_score, a_tickets, a_bits, a_party, a_wishCount, a_wishes⟩ := id hA
  have J_48 : ∀ (x2_48 : Int32) (x3_48 : Int32) (y0_48 : Int32), Zw p l e { frames := 3, cells := 0, slots := 0, locals := 80 * 3 } s m args below meth c G b 4 (MQ below (zQ G b FQ) args s 0 0 (fun q : Nat => b ≤ q)) 0 0 48 [some (.ref (Q)), some (.ref (A)), some (.int x2_48), some (.int x3_48)] [(.int y0_48)] S := by
    intro x2_48 x3_48 y0_48
    refine a_iret X hr dX5_scoreBehind_48 ⟨by decide, by decide⟩ ?_
    subst hF
    exact ⟨rfl, ⟨_, rfl⟩⟩
  refine a_aload_n X dX5_scoreBehind_0 rfl ?_
  refine a_getr X lf5_119 (by assumption) rfl (by omega) dX5_scoreBehind_1 ?_
  refine a_iload_n X dX5_scoreBehind_4 rfl ?_
  refine a_callSNv X dX5_scoreBehind_5 miX7_cell lm5_69 (c_cell (by assumption) (by first | decide | assumption)) rfl rfl (Nat.le_of_ble_eq_true rfl) ⟨by decide, by decide, by decide, by decide⟩ ?_
  refine a_if_ne (tgt := 13) X dX5_scoreBehind_8 (by decide) (fun h_8 => ?_) (fun h_8 => ?_)
  · refine a_aload_n X dX5_scoreBehind_13 rfl ?_
    refine a_getr X lf5_15 (by assumption) rfl (by omega) dX5_scoreBehind_14 ?_
    refine a_iload_n X dX5_scoreBehind_17 rfl ?_
    refine a_callSNv X dX5_scoreBehind_18 miX7_cell lm5_69 (c_cell (by assumption) (by first | decide | assumption)) rfl rfl (Nat.le_of_ble_eq_true rfl) ⟨by decide, by decide, by decide, by decide⟩ ?_
    refine a_iconst (v := -1) X dX5_scoreBehind_21 (by decide) ?_
    refine a_icmp_ne (tgt := 34) X dX5_scoreBehind_22 (by decide) (fun h_22 => ?_) (fun h_22 => ?_)
    · refine a_aload_n X dX5_scoreBehind_34 rfl ?_
      refine a_aload_n X dX5_scoreBehind_35 rfl ?_
      refine a_iload_n X dX5_scoreBehind_36 rfl ?_
      refine a_callVx X dX5_scoreBehind_37 miX5_hasFirst lm5_133 (s_X5_hasFirst (P := P) (by assumption) (by omega) (by assumption) (by omega)) (by assumption) rfl rfl rfl (Nat.le_of_ble_eq_true rfl) ⟨by decide, by decide, by decide, by decide⟩ (fun r_37 S_37 q_37 => ?_)
      obtain ⟨rfl, ⟨v_37, rfl, b_37⟩⟩ := q_37
      refine a_if_eq (tgt := 47) X dX5_scoreBehind_40 (by decide) (fun h_40 => ?_) (fun h_40 => ?_)
      · refine a_iload_n X dX5_scoreBehind_47 rfl ?_
        exact Zw.to2 (J_48 _ _ _ ) rfl rfl rfl
      · refine a_iconst (v := 0) X dX5_scoreBehind_43 (by decide) ?_
        refine a_goto (tgt := 48) X dX5_scoreBehind_44 (by decide) ?_
        exact Zw.to2 (J_48 _ _ _ ) rfl rfl rfl
    · refine a_iload_n X dX5_scoreBehind_25 rfl ?_
      refine a_iconst (v := 1) X dX5_scoreBehind_26 (by decide) ?_
      refine a_iadd X dX5_scoreBehind_27 ?_
      refine a_bipush (v := 20) X dX5_scoreBehind_28 (by decide) ?_
      refine a_mmin X lm5_128 zmath2 zmath0 zmathc2 ⟨by decide, Nat.le_of_ble_eq_true rfl, by decide, by decide⟩ dX5_scoreBehind_30 ?_
      refine a_iret X hr dX5_scoreBehind_33 ⟨by decide, by decide⟩ ?_
      subst hF
      exact ⟨rfl, ⟨_, rfl⟩⟩
  · refine a_iload_n X dX5_scoreBehind_11 rfl ?_
    refine a_iret X hr dX5_scoreBehind_12 ⟨by decide, by decide⟩ ?_
    subst hF
    exact ⟨rfl, ⟨_, rfl⟩⟩
set_option maxRecDepth 100000 in
theorem s_X0_record {l : Launch} {G : zG} {b : Nat} {S : zS} {P : Nat} {Q : Nat} {A : Nat} {v0 : Int64} (hQ : LX0 S.1 Q) (rQ : P < Q ∧ Q + 13 ≤ P + 200) (hA : LX2 S.1 A) (rA : P < A ∧ A + 13 ≤ P + 200) : zM l G b yX0_record cX0_record 7 none 1 0 0 [.ref Q, .ref A, .long v0] S (fun r z => ∃ M' N', z = (S.1, M', N') ∧ zK P S.2.1 M' ∧ r = none) := by
  refine zM.of miX0_record (Nat.le_of_ble_eq_true rfl) ?_
  intro p e s m args below meth c X hr hname
  generalize hF : ((fun r z => ∃ M' N', z = (S.1, M', N') ∧ zK P S.2.1 M' ∧ r = none) : Option Value → zS → Prop) = FQ
  change Zw p l e { frames := 1, cells := 0, slots := 0, locals := 80 * 1 } s m args below meth c G b 7 (MQ below (zQ G b FQ) args s 0 0 (fun q : Nat => b ≤ q)) 0 0 0 [some (.ref Q), some (.ref A), some (.long v0), none, none, none, none] [] S
  obtain ⟨q_lt, q_o, q_sets, q_seen, q_atUnit, q_early, q_result⟩ := id hQ
  obtain ⟨q_result_lt, q_result_o, q_result_line, q_result_unitOf, q_result_roundOf, q_result_leftTags, q_result_leftGuests, q_result_leftPreferred, q_result_ranked⟩ := id q_result
  obtain ⟨a_lt, a_o, a_quota, a_preferred, a_forGuests, a_applicantOf, a_size, a_guestCount, a_score, a_tickets, a_bits, a_party, a_wishCount, a_wishes⟩ := id hA
  have L_6 : ∀ u : Nat, ∀ (x2_6 : Int64) (x4_6 : Int32) (x5_6 : Int32) (x6_6 : Option Value) (M2 : Nat → Nat → Int32) (N2 : Nat → Nat → Int64), zK P S.2.1 M2 → (2147483648 - x5_6.toInt).toNat < u → Zw p l e { frames := 1, cells := 0, slots := 0, locals := 80 * 1 } s m args below meth c G b 7 (MQ below (zQ G b FQ) args s 0 0 (fun q : Nat => b ≤ q)) 0 0 6 [some (.ref (Q)), some (.ref (A)), some (.long x2_6), none, some (.int x4_6), some (.int x5_6), x6_6] [] (S.1, M2, N2) := by
    intro u
    induction u with
    | zero => intro x2_6 x4_6 x5_6 x6_6 M2_6 N2_6 k_6 hm_6; exact absurd hm_6 (Nat.not_lt_zero _)
    | succ u_6 ih_6 =>
      intro x2_6 x4_6 x5_6 x6_6 M2_6 N2_6 k_6 hm_6
      have J_88 : ∀ (x2_88 : Int64) (x4_88 : Int32) (x5_88 : Int32) (x6_88 : Int32) (M2 : Nat → Nat → Int32) (N2 : Nat → Nat → Int64), zK P S.2.1 M2 → ((2147483648 - x5_88.toInt).toNat < u_6 + 1) → (x5_88.toInt < 2147483647) → Zw p l e { frames := 1, cells := 0, slots := 0, locals := 80 * 1 } s m args below meth c G b 7 (MQ below (zQ G b FQ) args s 0 0 (fun q : Nat => b ≤ q)) 0 0 88 [some (.ref (Q)), some (.ref (A)), some (.long x2_88), none, some (.int x4_88), some (.int x5_88), some (.int x6_88)] [] (S.1, M2, N2) := by
        intro x2_88 x4_88 x5_88 x6_88 M2_88 N2_88 k_88 f0_88 f1_88
        refine a_iinc X dX0_record_88 (by decide) rfl rfl ?_
        refine a_goto (tgt := 6) X dX0_record_91 (by decide) ?_
        exact Zw.to2 (ih_6 _ _ _ _ _ _ (by (try dsimp only); repeat first | assumption | exact zK.rf | refine zK.zu ?_ (by omega) | refine zK.zu0 ?_ (by decide) | refine zK.zwr ?_ (by omega) | refine zK.zfil ?_ (by omega) | refine zK.zcpy ?_ (by omega) | refine zK.trans ?_ (by assumption) | dsimp only)  (z_up f1_88 f0_88)) rfl rfl rfl
      refine a_iload X dX0_record_6 rfl ?_
      refine a_aload_n X dX0_record_8 rfl ?_
      refine a_geti X lf0_40 (by assumption) rfl dX0_record_9 ?_
      refine a_icmp_ge (tgt := 94) X dX0_record_12 (by decide) (fun h_12 => ?_) (fun h_12 => ?_)
      · refine a_aload_n X dX0_record_94 rfl ?_
        refine a_getr X lf0_9 (by assumption) rfl (by omega) dX0_record_95 ?_
        refine a_iload X dX0_record_98 rfl ?_
        refine a_lload_n X dX0_record_100 rfl ?_
        refine a_callSNx X dX0_record_101 miX7_bigAdd lm0_80 (s_X7_bigAdd (P := P) (by assumption) (by first | decide | assumption) (by omega)) rfl rfl (Nat.le_of_ble_eq_true rfl) ⟨by decide, by decide, by decide, by decide⟩ (fun r_101 S_101 q_101 => ?_)
        obtain ⟨M_101, N_101, rfl, k_101, rfl⟩ := q_101
        refine a_aload_n X dX0_record_104 rfl ?_
        refine a_getr X lf0_15 (by assumption) rfl (by omega) dX0_record_105 ?_
        refine a_iload X dX0_record_108 rfl ?_
        refine a_iconst (v := 1) X dX0_record_110 (by decide) ?_
        refine a_callSNx X dX0_record_111 miX7_put lm0_73 (s_X7_put (P := P) (by assumption) (by first | decide | assumption) (by omega)) rfl rfl (Nat.le_of_ble_eq_true rfl) ⟨by decide, by decide, by decide, by decide⟩ (fun r_111 S_111 q_111 => ?_)
        obtain ⟨M_111, N_111, rfl, k_111, rfl⟩ := q_111
        refine a_vret X hr dX0_record_114 ⟨by decide, by decide⟩ ?_
        subst hF
        exact ⟨_, _, rfl, (by (try dsimp only); repeat first | assumption | exact zK.rf | refine zK.zu ?_ (by omega) | refine zK.zu0 ?_ (by decide) | refine zK.zwr ?_ (by omega) | refine zK.zfil ?_ (by omega) | refine zK.zcpy ?_ (by omega) | refine zK.trans ?_ (by assumption) | dsimp only), rfl⟩
      · refine a_aload_n X dX0_record_15 rfl ?_
        refine a_getr X lf0_28 (by assumption) rfl (by omega) dX0_record_16 ?_
        refine a_getr X lf0_77 (by assumption) rfl (by omega) dX0_record_19 ?_
        refine a_iload X dX0_record_22 rfl ?_
        refine a_callSNv X dX0_record_24 miX7_cell lm0_66 (c_cell (by assumption) (by first | decide | assumption)) rfl rfl (Nat.le_of_ble_eq_true rfl) ⟨by decide, by decide, by decide, by decide⟩ ?_
        refine a_istore X dX0_record_27 (by decide) ?_
        refine a_iload X dX0_record_29 rfl ?_
        refine a_iconst (v := -1) X dX0_record_31 (by decide) ?_
        refine a_icmp_ne (tgt := 38) X dX0_record_32 (by decide) (fun h_32 => ?_) (fun h_32 => ?_)
        · refine a_iload X dX0_record_38 rfl ?_
          refine a_iconst (v := 1) X dX0_record_40 (by decide) ?_
          refine a_iload X dX0_record_41 rfl ?_
          refine a_ishl X dX0_record_43 ?_
          refine a_ior X dX0_record_44 ?_
          refine a_istore X dX0_record_45 (by decide) ?_
          refine a_aload_n X dX0_record_47 rfl ?_
          refine a_getr X lf0_19 (by assumption) rfl (by omega) dX0_record_48 ?_
          refine a_iload X dX0_record_51 rfl ?_
          refine a_iconst (v := 5) X dX0_record_53 (by decide) ?_
          refine a_imul X dX0_record_54 ?_
          refine a_iload X dX0_record_55 rfl ?_
          refine a_iadd X dX0_record_57 ?_
          refine a_lload_n X dX0_record_58 rfl ?_
          refine a_callSNx X dX0_record_59 miX7_bigAdd lm0_80 (s_X7_bigAdd (P := P) (by assumption) (by first | decide | assumption) (by omega)) rfl rfl (Nat.le_of_ble_eq_true rfl) ⟨by decide, by decide, by decide, by decide⟩ (fun r_59 S_59 q_59 => ?_)
          obtain ⟨M_59, N_59, rfl, k_59, rfl⟩ := q_59
          refine a_aload_n X dX0_record_62 rfl ?_
          refine a_getr X lf0_28 (by assumption) rfl (by omega) dX0_record_63 ?_
          refine a_getr X lf0_84 (by assumption) rfl (by omega) dX0_record_66 ?_
          refine a_iload X dX0_record_69 rfl ?_
          refine a_callSNv X dX0_record_71 miX7_cell lm0_66 (c_cell (by assumption) (by first | decide | assumption)) rfl rfl (Nat.le_of_ble_eq_true rfl) ⟨by decide, by decide, by decide, by decide⟩ ?_
          refine a_iconst (v := 1) X dX0_record_74 (by decide) ?_
          refine a_icmp_ne (tgt := 88) X dX0_record_75 (by decide) (fun h_75 => ?_) (fun h_75 => ?_)
          · exact Zw.to2 (J_88 _ _ _ _ _ _ (by (try dsimp only); repeat first | assumption | exact zK.rf | refine zK.zu ?_ (by omega) | refine zK.zu0 ?_ (by decide) | refine zK.zwr ?_ (by omega) | refine zK.zfil ?_ (by omega) | refine zK.zcpy ?_ (by omega) | refine zK.trans ?_ (by assumption) | dsimp only) hm_6 (by first | assumption | exact z_lt (by assumption) | exact z_lt2 (by assumption) | exact z_lt3 (by assumption) (by decide))) rfl rfl rfl
          · refine a_aload_n X dX0_record_78 rfl ?_
            refine a_getr X lf0_22 (by assumption) rfl (by omega) dX0_record_79 ?_
            refine a_iload X dX0_record_82 rfl ?_
            refine a_lload_n X dX0_record_84 rfl ?_
            refine a_callSNx X dX0_record_85 miX7_bigAdd lm0_80 (s_X7_bigAdd (P := P) (by assumption) (by first | decide | assumption) (by omega)) rfl rfl (Nat.le_of_ble_eq_true rfl) ⟨by decide, by decide, by decide, by decide⟩ (fun r_85 S_85 q_85 => ?_)
            obtain ⟨M_85, N_85, rfl, k_85, rfl⟩ := q_85
            exact Zw.to2 (J_88 _ _ _ _ _ _ (by (try dsimp only); repeat first | assumption | exact zK.rf | refine zK.zu ?_ (by omega) | refine zK.zu0 ?_ (by decide) | refine zK.zwr ?_ (by omega) | refine zK.zfil ?_ (by omega) | refine zK.zcpy ?_ (by omega) | refine zK.trans ?_ (by assumption) | dsimp only) hm_6 (by first | assumption | exact z_lt (by assumption) | exact z_lt2 (by assumption) | exact z_lt3 (by assumption) (by decide))) rfl rfl rfl
        · refine a_goto (tgt := 88) X dX0_record_35 (by decide) ?_
          exact Zw.to2 (J_88 _ _ _ _ _ _ (by (try dsimp only); repeat first | assumption | exact zK.rf | refine zK.zu ?_ (by omega) | refine zK.zu0 ?_ (by decide) | refine zK.zwr ?_ (by omega) | refine zK.zfil ?_ (by omega) | refine zK.zcpy ?_ (by omega) | refine zK.trans ?_ (by assumption) | dsimp only) hm_6 (by first | assumption | exact z_lt (by assumption) | exact z_lt2 (by assumption) | exact z_lt3 (by assumption) (by decide))) rfl rfl rfl
  have H_6 : ∀ (x2_6 : Int64) (x4_6 : Int32) (x5_6 : Int32) (x6_6 : Option Value) (M2 : Nat → Nat → Int32) (N2 : Nat → Nat → Int64), zK P S.2.1 M2 → Zw p l e { frames := 1, cells := 0, slots := 0, locals := 80 * 1 } s m args below meth c G b 7 (MQ below (zQ G b FQ) args s 0 0 (fun q : Nat => b ≤ q)) 0 0 6 [some (.ref (Q)), some (.ref (A)), some (.long x2_6), none, some (.int x4_6), some (.int x5_6), x6_6] [] (S.1, M2, N2) := fun x2_6 x4_6 x5_6 x6_6 M2 N2 k  => L_6 _ x2_6 x4_6 x5_6 x6_6 M2 N2 k  (Nat.lt_succ_self _)
  refine a_iconst (v := 0) X dX0_record_0 (by decide) ?_
  refine a_istore X dX0_record_1 (by decide) ?_
  refine a_iconst (v := 0) X dX0_record_3 (by decide) ?_
  refine a_istore X dX0_record_4 (by decide) ?_
  exact Zw.to2 (H_6 _ _ _ _ _ _ (by (try dsimp only); repeat first | assumption | exact zK.rf | refine zK.zu ?_ (by omega) | refine zK.zu0 ?_ (by decide) | refine zK.zwr ?_ (by omega) | refine zK.zfil ?_ (by omega) | refine zK.zcpy ?_ (by omega) | refine zK.trans ?_ (by assumption) | dsimp only) ) rfl rfl rfl
set_option maxRecDepth 100000 in
theorem s_X0_allOf {l : Launch} {G : zG} {b : Nat} {S : zS} {P : Nat} {Q : Nat} {v0 : Int32} (hQ : LX0 S.1 Q) (rQ : P < Q ∧ Q + 13 ≤ P + 200) : zM l G b yX0_allOf cX0_allOf 5 (some .long) 1 0 0 [.ref Q, .int v0] S (fun r z => z = S ∧ ∃ v : Int64, r = some (.long v)) := by
  refine zM.of miX0_allOf (Nat.le_of_ble_eq_true rfl) ?_
  intro p e s m args below meth c X hr hname
  generalize hF : ((fun r z => z = S ∧ ∃ v : Int64, r = some (.long v)) : Option Value → zS → Prop) = FQ
  change Zw p l e { frames := 1, cells := 0, slots := 0, locals := 80 * 1 } s m args below meth c G b 5 (MQ below (zQ G b FQ) args s 0 0 (fun q : Nat => b ≤ q)) 0 0 0 [some (.ref Q), some (.int v0), none, none, none] [] S
  obtain ⟨q_lt, q_o, q_sets, q_seen, q_atUnit, q_early, q_result⟩ := id hQ
  obtain ⟨q_result_lt, q_result_o, q_result_line, q_result_unitOf, q_result_roundOf, q_result_leftTags, q_result_leftGuests, q_result_leftPreferred, q_result_ranked⟩ := id q_result
  have L_5 : ∀ u : Nat, ∀ (x1_5 : Int32) (x2_5 : Int64) (x4_5 : Int32), (2147483648 - x4_5.toInt).toNat < u → Zw p l e { frames := 1, cells := 0, slots := 0, locals := 80 * 1 } s m args below meth c G b 5 (MQ below (zQ G b FQ) args s 0 0 (fun q : Nat => b ≤ q)) 0 0 5 [some (.ref (Q)), some (.int x1_5), some (.long x2_5), none, some (.int x4_5)] [] S := by
    intro u
    induction u with
    | zero => intro x1_5 x2_5 x4_5 hm_5; exact absurd hm_5 (Nat.not_lt_zero _)
    | succ u_5 ih_5 =>
      intro x1_5 x2_5 x4_5 hm_5
      have J_33 : ∀ (x1_33 : Int32) (x2_33 : Int64) (x4_33 : Int32), ((2147483648 - x4_33.toInt).toNat < u_5 + 1) → (x4_33.toInt < 2147483647) → Zw p l e { frames := 1, cells := 0, slots := 0, locals := 80 * 1 } s m args below meth c G b 5 (MQ below (zQ G b FQ) args s 0 0 (fun q : Nat => b ≤ q)) 0 0 33 [some (.ref (Q)), some (.int x1_33), some (.long x2_33), none, some (.int x4_33)] [] S := by
        intro x1_33 x2_33 x4_33 f0_33 f1_33
        refine a_iinc X dX0_allOf_33 (by decide) rfl rfl ?_
        refine a_goto (tgt := 5) X dX0_allOf_36 (by decide) ?_
        exact Zw.to2 (ih_5 _ _ _  (z_up f1_33 f0_33)) rfl rfl rfl
      refine a_iload X dX0_allOf_5 rfl ?_
      refine a_sipush (v := 128) X dX0_allOf_7 (by decide) ?_
      refine a_icmp_ge (tgt := 39) X dX0_allOf_10 (by decide) (fun h_10 => ?_) (fun h_10 => ?_)
      · refine a_lload_n X dX0_allOf_39 rfl ?_
        refine a_lret X hr dX0_allOf_40 ⟨by decide, by decide⟩ ?_
        subst hF
        exact ⟨rfl, ⟨_, rfl⟩⟩
      · refine a_iload X dX0_allOf_13 rfl ?_
        refine a_iload_n X dX0_allOf_15 rfl ?_
        refine a_iand X dX0_allOf_16 ?_
        refine a_iload_n X dX0_allOf_17 rfl ?_
        refine a_icmp_ne (tgt := 33) X dX0_allOf_18 (by decide) (fun h_18 => ?_) (fun h_18 => ?_)
        · exact Zw.to2 (J_33 _ _ _ hm_5 (by first | assumption | exact z_lt (by assumption) | exact z_lt2 (by assumption) | exact z_lt3 (by assumption) (by decide))) rfl rfl rfl
        · refine a_lload_n X dX0_allOf_21 rfl ?_
          refine a_aload_n X dX0_allOf_22 rfl ?_
          refine a_getr X lf0_9 (by assumption) rfl (by omega) dX0_allOf_23 ?_
          refine a_iload X dX0_allOf_26 rfl ?_
          refine a_callSNv X dX0_allOf_28 miX7_bigCell lm0_87 (c_bigCell (by assumption) (by first | decide | assumption)) rfl rfl (Nat.le_of_ble_eq_true rfl) ⟨by decide, by decide, by decide, by decide⟩ ?_
          refine a_ladd X dX0_allOf_31 ?_
          refine a_lstore_n X dX0_allOf_32 (by decide) ?_
          exact Zw.to2 (J_33 _ _ _ hm_5 (by first | assumption | exact z_lt (by assumption) | exact z_lt2 (by assumption) | exact z_lt3 (by assumption) (by decide))) rfl rfl rfl
  have H_5 : ∀ (x1_5 : Int32) (x2_5 : Int64) (x4_5 : Int32), Zw p l e { frames := 1, cells := 0, slots := 0, locals := 80 * 1 } s m args below meth c G b 5 (MQ below (zQ G b FQ) args s 0 0 (fun q : Nat => b ≤ q)) 0 0 5 [some (.ref (Q)), some (.int x1_5), some (.long x2_5), none, some (.int x4_5)] [] S := fun x1_5 x2_5 x4_5  => L_5 _ x1_5 x2_5 x4_5  (Nat.lt_succ_self _)
  refine a_lconst (v := 0) X dX0_allOf_0 (by decide) ?_
  refine a_lstore_n X dX0_allOf_1 (by decide) ?_
  refine a_iconst (v := 0) X dX0_allOf_2 (by decide) ?_
  refine a_istore X dX0_allOf_3 (by decide) ?_
  exact Zw.to2 (H_5 _ _ _ ) rfl rfl rfl
set_option maxRecDepth 100000 in
theorem s_X0_always {l : Launch} {G : zG} {b : Nat} {S : zS} {P : Nat} {Q : Nat} (hQ : LX0 S.1 Q) (rQ : P < Q ∧ Q + 13 ≤ P + 200) : zM l G b yX0_always cX0_always 3 (some .int) 1 0 0 [.ref Q] S (fun r z => z = S ∧ ∃ v : Int32, r = some (.int v)) := by
  refine zM.of miX0_always (Nat.le_of_ble_eq_true rfl) ?_
  intro p e s m args below meth c X hr hname
  generalize hF : ((fun r z => z = S ∧ ∃ v : Int32, r = some (.int v)) : Option Value → zS → Prop) = FQ
  change Zw p l e { frames := 1, cells := 0, slots := 0, locals := 80 * 1 } s m args below meth c G b 3 (MQ below (zQ G b FQ) args s 0 0 (fun q : Nat => b ≤ q)) 0 0 0 [some (.ref Q), none, none] [] S
  obtain ⟨q_lt, q_o, q_sets, q_seen, q_atUnit, q_early, q_result⟩ := id hQ
  obtain ⟨q_result_lt, q_result_o, q_result_line, q_result_unitOf, q_result_roundOf, q_result_leftTags, q_result_leftGuests, q_result_leftPreferred, q_result_ranked⟩ := id q_result
  have L_5 : ∀ u : Nat, ∀ (x1_5 : Int32) (x2_5 : Int32), (2147483648 - x2_5.toInt).toNat < u → Zw p l e { frames := 1, cells := 0, slots := 0, locals := 80 * 1 } s m args below meth c G b 3 (MQ below (zQ G b FQ) args s 0 0 (fun q : Nat => b ≤ q)) 0 0 5 [some (.ref (Q)), some (.int x1_5), some (.int x2_5)] [] S := by
    intro u
    induction u with
    | zero => intro x1_5 x2_5 hm_5; exact absurd hm_5 (Nat.not_lt_zero _)
    | succ u_5 ih_5 =>
      intro x1_5 x2_5 hm_5
      have J_28 : ∀ (x1_28 : Int32) (x2_28 : Int32), ((2147483648 - x2_28.toInt).toNat < u_5 + 1) → (x2_28.toInt < 2147483647) → Zw p l e { frames := 1, cells := 0, slots := 0, locals := 80 * 1 } s m args below meth c G b 3 (MQ below (zQ G b FQ) args s 0 0 (fun q : Nat => b ≤ q)) 0 0 28 [some (.ref (Q)), some (.int x1_28), some (.int x2_28)] [] S := by
        intro x1_28 x2_28 f0_28 f1_28
        refine a_iinc X dX0_always_28 (by decide) rfl rfl ?_
        refine a_goto (tgt := 5) X dX0_always_31 (by decide) ?_
        exact Zw.to2 (ih_5 _ _  (z_up f1_28 f0_28)) rfl rfl rfl
      refine a_iload_n X dX0_always_5 rfl ?_
      refine a_sipush (v := 128) X dX0_always_6 (by decide) ?_
      refine a_icmp_ge (tgt := 34) X dX0_always_9 (by decide) (fun h_9 => ?_) (fun h_9 => ?_)
      · refine a_iload_n X dX0_always_34 rfl ?_
        refine a_iret X hr dX0_always_35 ⟨by decide, by decide⟩ ?_
        subst hF
        exact ⟨rfl, ⟨_, rfl⟩⟩
      · refine a_aload_n X dX0_always_12 rfl ?_
        refine a_getr X lf0_15 (by assumption) rfl (by omega) dX0_always_13 ?_
        refine a_iload_n X dX0_always_16 rfl ?_
        refine a_callSNv X dX0_always_17 miX7_cell lm0_66 (c_cell (by assumption) (by first | decide | assumption)) rfl rfl (Nat.le_of_ble_eq_true rfl) ⟨by decide, by decide, by decide, by decide⟩ ?_
        refine a_iconst (v := 1) X dX0_always_20 (by decide) ?_
        refine a_icmp_ne (tgt := 28) X dX0_always_21 (by decide) (fun h_21 => ?_) (fun h_21 => ?_)
        · exact Zw.to2 (J_28 _ _ hm_5 (by first | assumption | exact z_lt (by assumption) | exact z_lt2 (by assumption) | exact z_lt3 (by assumption) (by decide))) rfl rfl rfl
        · refine a_iload_n X dX0_always_24 rfl ?_
          refine a_iload_n X dX0_always_25 rfl ?_
          refine a_iand X dX0_always_26 ?_
          refine a_istore_n X dX0_always_27 (by decide) ?_
          exact Zw.to2 (J_28 _ _ hm_5 (by first | assumption | exact z_lt (by assumption) | exact z_lt2 (by assumption) | exact z_lt3 (by assumption) (by decide))) rfl rfl rfl
  have H_5 : ∀ (x1_5 : Int32) (x2_5 : Int32), Zw p l e { frames := 1, cells := 0, slots := 0, locals := 80 * 1 } s m args below meth c G b 3 (MQ below (zQ G b FQ) args s 0 0 (fun q : Nat => b ≤ q)) 0 0 5 [some (.ref (Q)), some (.int x1_5), some (.int x2_5)] [] S := fun x1_5 x2_5  => L_5 _ x1_5 x2_5  (Nat.lt_succ_self _)
  refine a_bipush (v := 127) X dX0_always_0 (by decide) ?_
  refine a_istore_n X dX0_always_2 (by decide) ?_
  refine a_iconst (v := 0) X dX0_always_3 (by decide) ?_
  refine a_istore_n X dX0_always_4 (by decide) ?_
  exact Zw.to2 (H_5 _ _ ) rfl rfl rfl
set_option maxRecDepth 100000 in
theorem s_X0_ever {l : Launch} {G : zG} {b : Nat} {S : zS} {P : Nat} {Q : Nat} (hQ : LX0 S.1 Q) (rQ : P < Q ∧ Q + 13 ≤ P + 200) : zM l G b yX0_ever cX0_ever 3 (some .int) 1 0 0 [.ref Q] S (fun r z => z = S ∧ ∃ v : Int32, r = some (.int v)) := by
  refine zM.of miX0_ever (Nat.le_of_ble_eq_true rfl) ?_
  intro p e s m args below meth c X hr hname
  generalize hF : ((fun r z => z = S ∧ ∃ v : Int32, r = some (.int v)) : Option Value → zS → Prop) = FQ
  change Zw p l e { frames := 1, cells := 0, slots := 0, locals := 80 * 1 } s m args below meth c G b 3 (MQ below (zQ G b FQ) args s 0 0 (fun q : Nat => b ≤ q)) 0 0 0 [some (.ref Q), none, none] [] S
  obtain ⟨q_lt, q_o, q_sets, q_seen, q_atUnit, q_early, q_result⟩ := id hQ
  obtain ⟨q_result_lt, q_result_o, q_result_line, q_result_unitOf, q_result_roundOf, q_result_leftTags, q_result_leftGuests, q_result_leftPreferred, q_result_ranked⟩ := id q_result
  have L_4 : ∀ u : Nat, ∀ (x1_4 : Int32) (x2_4 : Int32), (2147483648 - x2_4.toInt).toNat < u → Zw p l e { frames := 1, cells := 0, slots := 0, locals := 80 * 1 } s m args below meth c G b 3 (MQ below (zQ G b FQ) args s 0 0 (fun q : Nat => b ≤ q)) 0 0 4 [some (.ref (Q)), some (.int x1_4), some (.int x2_4)] [] S := by
    intro u
    induction u with
    | zero => intro x1_4 x2_4 hm_4; exact absurd hm_4 (Nat.not_lt_zero _)
    | succ u_4 ih_4 =>
      intro x1_4 x2_4 hm_4
      have J_27 : ∀ (x1_27 : Int32) (x2_27 : Int32), ((2147483648 - x2_27.toInt).toNat < u_4 + 1) → (x2_27.toInt < 2147483647) → Zw p l e { frames := 1, cells := 0, slots := 0, locals := 80 * 1 } s m args below meth c G b 3 (MQ below (zQ G b FQ) args s 0 0 (fun q : Nat => b ≤ q)) 0 0 27 [some (.ref (Q)), some (.int x1_27), some (.int x2_27)] [] S := by
        intro x1_27 x2_27 f0_27 f1_27
        refine a_iinc X dX0_ever_27 (by decide) rfl rfl ?_
        refine a_goto (tgt := 4) X dX0_ever_30 (by decide) ?_
        exact Zw.to2 (ih_4 _ _  (z_up f1_27 f0_27)) rfl rfl rfl
      refine a_iload_n X dX0_ever_4 rfl ?_
      refine a_sipush (v := 128) X dX0_ever_5 (by decide) ?_
      refine a_icmp_ge (tgt := 33) X dX0_ever_8 (by decide) (fun h_8 => ?_) (fun h_8 => ?_)
      · refine a_iload_n X dX0_ever_33 rfl ?_
        refine a_iret X hr dX0_ever_34 ⟨by decide, by decide⟩ ?_
        subst hF
        exact ⟨rfl, ⟨_, rfl⟩⟩
      · refine a_aload_n X dX0_ever_11 rfl ?_
        refine a_getr X lf0_15 (by assumption) rfl (by omega) dX0_ever_12 ?_
        refine a_iload_n X dX0_ever_15 rfl ?_
        refine a_callSNv X dX0_ever_16 miX7_cell lm0_66 (c_cell (by assumption) (by first | decide | assumption)) rfl rfl (Nat.le_of_ble_eq_true rfl) ⟨by decide, by decide, by decide, by decide⟩ ?_
        refine a_iconst (v := 1) X dX0_ever_19 (by decide) ?_
        refine a_icmp_ne (tgt := 27) X dX0_ever_20 (by decide) (fun h_20 => ?_) (fun h_20 => ?_)
        · exact Zw.to2 (J_27 _ _ hm_4 (by first | assumption | exact z_lt (by assumption) | exact z_lt2 (by assumption) | exact z_lt3 (by assumption) (by decide))) rfl rfl rfl
        · refine a_iload_n X dX0_ever_23 rfl ?_
          refine a_iload_n X dX0_ever_24 rfl ?_
          refine a_ior X dX0_ever_25 ?_
          refine a_istore_n X dX0_ever_26 (by decide) ?_
          exact Zw.to2 (J_27 _ _ hm_4 (by first | assumption | exact z_lt (by assumption) | exact z_lt2 (by assumption) | exact z_lt3 (by assumption) (by decide))) rfl rfl rfl
  have H_4 : ∀ (x1_4 : Int32) (x2_4 : Int32), Zw p l e { frames := 1, cells := 0, slots := 0, locals := 80 * 1 } s m args below meth c G b 3 (MQ below (zQ G b FQ) args s 0 0 (fun q : Nat => b ≤ q)) 0 0 4 [some (.ref (Q)), some (.int x1_4), some (.int x2_4)] [] S := fun x1_4 x2_4  => L_4 _ x1_4 x2_4  (Nat.lt_succ_self _)
  refine a_iconst (v := 0) X dX0_ever_0 (by decide) ?_
  refine a_istore_n X dX0_ever_1 (by decide) ?_
  refine a_iconst (v := 0) X dX0_ever_2 (by decide) ?_
  refine a_istore_n X dX0_ever_3 (by decide) ?_
  exact Zw.to2 (H_4 _ _ ) rfl rfl rfl
set_option maxRecDepth 100000 in
theorem s_X0_tagsOf {l : Launch} {G : zG} {b : Nat} {S : zS} {P : Nat} {Q : Nat} {v0 : Int32} (hQ : LX2 S.1 Q) (rQ : P < Q ∧ Q + 13 ≤ P + 200) : zM l G b yX0_tagsOf cX0_tagsOf 4 (some .int) 1 0 0 [.ref Q, .int v0] S (fun r z => z = S ∧ ∃ v : Int32, r = some (.int v)) := by
  refine zM.of miX0_tagsOf (Nat.le_of_ble_eq_true rfl) ?_
  intro p e s m args below meth c X hr hname
  generalize hF : ((fun r z => z = S ∧ ∃ v : Int32, r = some (.int v)) : Option Value → zS → Prop) = FQ
  change Zw p l e { frames := 1, cells := 0, slots := 0, locals := 80 * 1 } s m args below meth c G b 4 (MQ below (zQ G b FQ) args s 0 0 (fun q : Nat => b ≤ q)) 0 0 0 [some (.ref Q), some (.int v0), none, none] [] S
  obtain ⟨q_lt, q_o, q_quota, q_preferred, q_forGuests, q_applicantOf, q_size, q_guestCount, q_score, q_tickets, q_bits, q_party, q_wishCount, q_wishes⟩ := id hQ
  have L_4 : ∀ u : Nat, ∀ (x1_4 : Int32) (x2_4 : Int32) (x3_4 : Int32), (2147483648 - x3_4.toInt).toNat < u → Zw p l e { frames := 1, cells := 0, slots := 0, locals := 80 * 1 } s m args below meth c G b 4 (MQ below (zQ G b FQ) args s 0 0 (fun q : Nat => b ≤ q)) 0 0 4 [some (.ref (Q)), some (.int x1_4), some (.int x2_4), some (.int x3_4)] [] S := by
    intro u
    induction u with
    | zero => intro x1_4 x2_4 x3_4 hm_4; exact absurd hm_4 (Nat.not_lt_zero _)
    | succ u_4 ih_4 =>
      intro x1_4 x2_4 x3_4 hm_4
      have J_34 : ∀ (x1_34 : Int32) (x2_34 : Int32) (x3_34 : Int32) (y0_34 : Int32) (y1_34 : Int32), ((2147483648 - x3_34.toInt).toNat < u_4 + 1) → (x3_34.toInt < 2147483647) → Zw p l e { frames := 1, cells := 0, slots := 0, locals := 80 * 1 } s m args below meth c G b 4 (MQ below (zQ G b FQ) args s 0 0 (fun q : Nat => b ≤ q)) 0 0 34 [some (.ref (Q)), some (.int x1_34), some (.int x2_34), some (.int x3_34)] [(.int y1_34), (.int y0_34)] S := by
        intro x1_34 x2_34 x3_34 y0_34 y1_34 f0_34 f1_34
        refine a_iadd X dX0_tagsOf_34 ?_
        refine a_istore_n X dX0_tagsOf_35 (by decide) ?_
        refine a_iinc X dX0_tagsOf_36 (by decide) rfl rfl ?_
        refine a_goto (tgt := 4) X dX0_tagsOf_39 (by decide) ?_
        exact Zw.to2 (ih_4 _ _ _  (z_up f1_34 f0_34)) rfl rfl rfl
      refine a_iload_n X dX0_tagsOf_4 rfl ?_
      refine a_aload_n X dX0_tagsOf_5 rfl ?_
      refine a_geti X lf0_40 (by assumption) rfl dX0_tagsOf_6 ?_
      refine a_icmp_ge (tgt := 42) X dX0_tagsOf_9 (by decide) (fun h_9 => ?_) (fun h_9 => ?_)
      · refine a_iload_n X dX0_tagsOf_42 rfl ?_
        refine a_iret X hr dX0_tagsOf_43 ⟨by decide, by decide⟩ ?_
        subst hF
        exact ⟨rfl, ⟨_, rfl⟩⟩
      · refine a_iload_n X dX0_tagsOf_12 rfl ?_
        refine a_iload_n X dX0_tagsOf_13 rfl ?_
        refine a_iload_n X dX0_tagsOf_14 rfl ?_
        refine a_ishr X dX0_tagsOf_15 ?_
        refine a_iconst (v := 1) X dX0_tagsOf_16 (by decide) ?_
        refine a_iand X dX0_tagsOf_17 ?_
        refine a_iconst (v := 1) X dX0_tagsOf_18 (by decide) ?_
        refine a_icmp_ne (tgt := 33) X dX0_tagsOf_19 (by decide) (fun h_19 => ?_) (fun h_19 => ?_)
        · refine a_iconst (v := 0) X dX0_tagsOf_33 (by decide) ?_
          exact Zw.to2 (J_34 _ _ _ _ _ hm_4 (by first | assumption | exact z_lt (by assumption) | exact z_lt2 (by assumption) | exact z_lt3 (by assumption) (by decide))) rfl rfl rfl
        · refine a_aload_n X dX0_tagsOf_22 rfl ?_
          refine a_getr X lf0_108 (by assumption) rfl (by omega) dX0_tagsOf_23 ?_
          refine a_iload_n X dX0_tagsOf_26 rfl ?_
          refine a_callSNv X dX0_tagsOf_27 miX7_cell lm0_66 (c_cell (by assumption) (by first | decide | assumption)) rfl rfl (Nat.le_of_ble_eq_true rfl) ⟨by decide, by decide, by decide, by decide⟩ ?_
          refine a_goto (tgt := 34) X dX0_tagsOf_30 (by decide) ?_
          exact Zw.to2 (J_34 _ _ _ _ _ hm_4 (by first | assumption | exact z_lt (by assumption) | exact z_lt2 (by assumption) | exact z_lt3 (by assumption) (by decide))) rfl rfl rfl
  have H_4 : ∀ (x1_4 : Int32) (x2_4 : Int32) (x3_4 : Int32), Zw p l e { frames := 1, cells := 0, slots := 0, locals := 80 * 1 } s m args below meth c G b 4 (MQ below (zQ G b FQ) args s 0 0 (fun q : Nat => b ≤ q)) 0 0 4 [some (.ref (Q)), some (.int x1_4), some (.int x2_4), some (.int x3_4)] [] S := fun x1_4 x2_4 x3_4  => L_4 _ x1_4 x2_4 x3_4  (Nat.lt_succ_self _)
  refine a_iconst (v := 0) X dX0_tagsOf_0 (by decide) ?_
  refine a_istore_n X dX0_tagsOf_1 (by decide) ?_
  refine a_iconst (v := 0) X dX0_tagsOf_2 (by decide) ?_
  refine a_istore_n X dX0_tagsOf_3 (by decide) ?_
  exact Zw.to2 (H_4 _ _ _ ) rfl rfl rfl
set_option maxRecDepth 100000 in
theorem s_X0_fewestTags {l : Launch} {G : zG} {b : Nat} {S : zS} {P : Nat} {Q : Nat} {A : Nat} (hQ : LX0 S.1 Q) (rQ : P < Q ∧ Q + 13 ≤ P + 200) (hA : LX2 S.1 A) (rA : P < A ∧ A + 13 ≤ P + 200) : zM l G b yX0_fewestTags cX0_fewestTags 4 (some .int) 2 0 0 [.ref Q, .ref A] S (fun r z => z = S ∧ ∃ v : Int32, r = some (.int v)) := by
  refine zM.of miX0_fewestTags (Nat.le_of_ble_eq_true rfl) ?_
  intro p e s m args below meth c X hr hname
  generalize hF : ((fun r z => z = S ∧ ∃ v : Int32, r = some (.int v)) : Option Value → zS → Prop) = FQ
  change Zw p l e { frames := 2, cells := 0, slots := 0, locals := 80 * 2 } s m args below meth c G b 4 (MQ below (zQ G b FQ) args s 0 0 (fun q : Nat => b ≤ q)) 0 0 0 [some (.ref Q), some (.ref A), none, none] [] S
  obtain ⟨q_lt, q_o, q_sets, q_seen, q_atUnit, q_early, q_result⟩ := id hQ
  obtain ⟨q_result_lt, q_result_o, q_result_line, q_result_unitOf, q_result_roundOf, q_result_leftTags, q_result_leftGuests, q_result_leftPreferred, q_result_ranked⟩ := id q_result
  obtain ⟨a_lt, a_o, a_quota, a_preferred, a_forGuests, a_applicantOf, a_size, a_guestCount, a_score, a_tickets, a_bits, a_party, a_wishCount, a_wishes⟩ := id hA
  have L_5 : ∀ u : Nat, ∀ (x2_5 : Int32) (x3_5 : Int32), (2147483648 - x3_5.toInt).toNat < u → Zw p l e { frames := 2, cells := 0, slots := 0, locals := 80 * 2 } s m args below meth c G b 4 (MQ below (zQ G b FQ) args s 0 0 (fun q : Nat => b ≤ q)) 0 0 5 [some (.ref (Q)), some (.ref (A)), some (.int x2_5), some (.int x3_5)] [] S := by
    intro u
    induction u with
    | zero => intro x2_5 x3_5 hm_5; exact absurd hm_5 (Nat.not_lt_zero _)
    | succ u_5 ih_5 =>
      intro x2_5 x3_5 hm_5
      have J_34 : ∀ (x2_34 : Int32) (x3_34 : Int32), ((2147483648 - x3_34.toInt).toNat < u_5 + 1) → (x3_34.toInt < 2147483647) → Zw p l e { frames := 2, cells := 0, slots := 0, locals := 80 * 2 } s m args below meth c G b 4 (MQ below (zQ G b FQ) args s 0 0 (fun q : Nat => b ≤ q)) 0 0 34 [some (.ref (Q)), some (.ref (A)), some (.int x2_34), some (.int x3_34)] [] S := by
        intro x2_34 x3_34 f0_34 f1_34
        refine a_iinc X dX0_fewestTags_34 (by decide) rfl rfl ?_
        refine a_goto (tgt := 5) X dX0_fewestTags_37 (by decide) ?_
        exact Zw.to2 (ih_5 _ _  (z_up f1_34 f0_34)) rfl rfl rfl
      refine a_iload_n X dX0_fewestTags_5 rfl ?_
      refine a_sipush (v := 128) X dX0_fewestTags_6 (by decide) ?_
      refine a_icmp_ge (tgt := 40) X dX0_fewestTags_9 (by decide) (fun h_9 => ?_) (fun h_9 => ?_)
      · refine a_iload_n X dX0_fewestTags_40 rfl ?_
        refine a_iret X hr dX0_fewestTags_41 ⟨by decide, by decide⟩ ?_
        subst hF
        exact ⟨rfl, ⟨_, rfl⟩⟩
      · refine a_aload_n X dX0_fewestTags_12 rfl ?_
        refine a_getr X lf0_15 (by assumption) rfl (by omega) dX0_fewestTags_13 ?_
        refine a_iload_n X dX0_fewestTags_16 rfl ?_
        refine a_callSNv X dX0_fewestTags_17 miX7_cell lm0_66 (c_cell (by assumption) (by first | decide | assumption)) rfl rfl (Nat.le_of_ble_eq_true rfl) ⟨by decide, by decide, by decide, by decide⟩ ?_
        refine a_iconst (v := 1) X dX0_fewestTags_20 (by decide) ?_
        refine a_icmp_ne (tgt := 34) X dX0_fewestTags_21 (by decide) (fun h_21 => ?_) (fun h_21 => ?_)
        · exact Zw.to2 (J_34 _ _ hm_5 (by first | assumption | exact z_lt (by assumption) | exact z_lt2 (by assumption) | exact z_lt3 (by assumption) (by decide))) rfl rfl rfl
        · refine a_iload_n X dX0_fewestTags_24 rfl ?_
          refine a_aload_n X dX0_fewestTags_25 rfl ?_
          refine a_iload_n X dX0_fewestTags_26 rfl ?_
          refine a_callSx X dX0_fewestTags_27 miX0_tagsOf lm0_95 (s_X0_tagsOf (P := P) (by assumption) (by omega)) rfl rfl (Nat.le_of_ble_eq_true rfl) ⟨by decide, by decide, by decide, by decide⟩ (fun r_27 S_27 q_27 => ?_)
          obtain ⟨rfl, ⟨v_27, rfl⟩⟩ := q_27
          refine a_mmin X lm0_99 zmath2 zmath0 zmathc2 ⟨by decide, Nat.le_of_ble_eq_true rfl, by decide, by decide⟩ dX0_fewestTags_30 ?_
          refine a_istore_n X dX0_fewestTags_33 (by decide) ?_
          exact Zw.to2 (J_34 _ _ hm_5 (by first | assumption | exact z_lt (by assumption) | exact z_lt2 (by assumption) | exact z_lt3 (by assumption) (by decide))) rfl rfl rfl
  have H_5 : ∀ (x2_5 : Int32) (x3_5 : Int32), Zw p l e { frames := 2, cells := 0, slots := 0, locals := 80 * 2 } s m args below meth c G b 4 (MQ below (zQ G b FQ) args s 0 0 (fun q : Nat => b ≤ q)) 0 0 5 [some (.ref (Q)), some (.ref (A)), some (.int x2_5), some (.int x3_5)] [] S := fun x2_5 x3_5  => L_5 _ x2_5 x3_5  (Nat.lt_succ_self _)
  refine a_bipush (v := 10) X dX0_fewestTags_0 (by decide) ?_
  refine a_istore_n X dX0_fewestTags_2 (by decide) ?_
  refine a_iconst (v := 0) X dX0_fewestTags_3 (by decide) ?_
  refine a_istore_n X dX0_fewestTags_4 (by decide) ?_
  exact Zw.to2 (H_5 _ _ ) rfl rfl rfl
set_option maxRecDepth 100000 in
theorem s_X0_mostTags {l : Launch} {G : zG} {b : Nat} {S : zS} {P : Nat} {Q : Nat} {A : Nat} (hQ : LX0 S.1 Q) (rQ : P < Q ∧ Q + 13 ≤ P + 200) (hA : LX2 S.1 A) (rA : P < A ∧ A + 13 ≤ P + 200) : zM l G b yX0_mostTags cX0_mostTags 4 (some .int) 2 0 0 [.ref Q, .ref A] S (fun r z => z = S ∧ ∃ v : Int32, r = some (.int v)) := by
  refine zM.of miX0_mostTags (Nat.le_of_ble_eq_true rfl) ?_
  intro p e s m args below meth c X hr hname
  generalize hF : ((fun r z => z = S ∧ ∃ v : Int32, r = some (.int v)) : Option Value → zS → Prop) = FQ
  change Zw p l e { frames := 2, cells := 0, slots := 0, locals := 80 * 2 } s m args below meth c G b 4 (MQ below (zQ G b FQ) args s 0 0 (fun q : Nat => b ≤ q)) 0 0 0 [some (.ref Q), some (.ref A), none, none] [] S
  obtain ⟨q_lt, q_o, q_sets, q_seen, q_atUnit, q_early, q_result⟩ := id hQ
  obtain ⟨q_result_lt, q_result_o, q_result_line, q_result_unitOf, q_result_roundOf, q_result_leftTags, q_result_leftGuests, q_result_leftPreferred, q_result_ranked⟩ := id q_result
  obtain ⟨a_lt, a_o, a_quota, a_preferred, a_forGuests, a_applicantOf, a_size, a_guestCount, a_score, a_tickets, a_bits, a_party, a_wishCount, a_wishes⟩ := id hA
  have L_4 : ∀ u : Nat, ∀ (x2_4 : Int32) (x3_4 : Int32), (2147483648 - x3_4.toInt).toNat < u → Zw p l e { frames := 2, cells := 0, slots := 0, locals := 80 * 2 } s m args below meth c G b 4 (MQ below (zQ G b FQ) args s 0 0 (fun q : Nat => b ≤ q)) 0 0 4 [some (.ref (Q)), some (.ref (A)), some (.int x2_4), some (.int x3_4)] [] S := by
    intro u
    induction u with
    | zero => intro x2_4 x3_4 hm_4; exact absurd hm_4 (Nat.not_lt_zero _)
    | succ u_4 ih_4 =>
      intro x2_4 x3_4 hm_4
      have J_33 : ∀ (x2_33 : Int32) (x3_33 : Int32), ((2147483648 - x3_33.toInt).toNat < u_4 + 1) → (x3_33.toInt < 2147483647) → Zw p l e { frames := 2, cells := 0, slots := 0, locals := 80 * 2 } s m args below meth c G b 4 (MQ below (zQ G b FQ) args s 0 0 (fun q : Nat => b ≤ q)) 0 0 33 [some (.ref (Q)), some (.ref (A)), some (.int x2_33), some (.int x3_33)] [] S := by
        intro x2_33 x3_33 f0_33 f1_33
        refine a_iinc X dX0_mostTags_33 (by decide) rfl rfl ?_
        refine a_goto (tgt := 4) X dX0_mostTags_36 (by decide) ?_
        exact Zw.to2 (ih_4 _ _  (z_up f1_33 f0_33)) rfl rfl rfl
      refine a_iload_n X dX0_mostTags_4 rfl ?_
      refine a_sipush (v := 128) X dX0_mostTags_5 (by decide) ?_
      refine a_icmp_ge (tgt := 39) X dX0_mostTags_8 (by decide) (fun h_8 => ?_) (fun h_8 => ?_)
      · refine a_iload_n X dX0_mostTags_39 rfl ?_
        refine a_iret X hr dX0_mostTags_40 ⟨by decide, by decide⟩ ?_
        subst hF
        exact ⟨rfl, ⟨_, rfl⟩⟩
      · refine a_aload_n X dX0_mostTags_11 rfl ?_
        refine a_getr X lf0_15 (by assumption) rfl (by omega) dX0_mostTags_12 ?_
        refine a_iload_n X dX0_mostTags_15 rfl ?_
        refine a_callSNv X dX0_mostTags_16 miX7_cell lm0_66 (c_cell (by assumption) (by first | decide | assumption)) rfl rfl (Nat.le_of_ble_eq_true rfl) ⟨by decide, by decide, by decide, by decide⟩ ?_
        refine a_iconst (v := 1) X dX0_mostTags_19 (by decide) ?_
        refine a_icmp_ne (tgt := 33) X dX0_mostTags_20 (by decide) (fun h_20 => ?_) (fun h_20 => ?_)
        · exact Zw.to2 (J_33 _ _ hm_4 (by first | assumption | exact z_lt (by assumption) | exact z_lt2 (by assumption) | exact z_lt3 (by assumption) (by decide))) rfl rfl rfl
        · refine a_iload_n X dX0_mostTags_23 rfl ?_
          refine a_aload_n X dX0_mostTags_24 rfl ?_
          refine a_iload_n X dX0_mostTags_25 rfl ?_
          refine a_callSx X dX0_mostTags_26 miX0_tagsOf lm0_95 (s_X0_tagsOf (P := P) (by assumption) (by omega)) rfl rfl (Nat.le_of_ble_eq_true rfl) ⟨by decide, by decide, by decide, by decide⟩ (fun r_26 S_26 q_26 => ?_)
          obtain ⟨rfl, ⟨v_26, rfl⟩⟩ := q_26
          refine a_mmax X lm0_105 zmath1 zmath0 zmathc1 ⟨by decide, Nat.le_of_ble_eq_true rfl, by decide, by decide⟩ dX0_mostTags_29 ?_
          refine a_istore_n X dX0_mostTags_32 (by decide) ?_
          exact Zw.to2 (J_33 _ _ hm_4 (by first | assumption | exact z_lt (by assumption) | exact z_lt2 (by assumption) | exact z_lt3 (by assumption) (by decide))) rfl rfl rfl
  have H_4 : ∀ (x2_4 : Int32) (x3_4 : Int32), Zw p l e { frames := 2, cells := 0, slots := 0, locals := 80 * 2 } s m args below meth c G b 4 (MQ below (zQ G b FQ) args s 0 0 (fun q : Nat => b ≤ q)) 0 0 4 [some (.ref (Q)), some (.ref (A)), some (.int x2_4), some (.int x3_4)] [] S := fun x2_4 x3_4  => L_4 _ x2_4 x3_4  (Nat.lt_succ_self _)
  refine a_iconst (v := 0) X dX0_mostTags_0 (by decide) ?_
  refine a_istore_n X dX0_mostTags_1 (by decide) ?_
  refine a_iconst (v := 0) X dX0_mostTags_2 (by decide) ?_
  refine a_istore_n X dX0_mostTags_3 (by decide) ?_
  exact Zw.to2 (H_4 _ _ ) rfl rfl rfl
set_option maxRecDepth 100000 in
theorem s_X0_walk_7 {l : Launch} {G : zG} {b : Nat} {S : zS} {P : Nat} {Q : Nat} {A : Nat} {v0 : Int32} {v1 : Int32} {v2 : Int64} (hQ : LX0 S.1 Q) (rQ : P < Q ∧ Q + 13 ≤ P + 200) (hA : LX2 S.1 A) (rA : P < A ∧ A + 13 ≤ P + 200) : zM l G b yX0_walk cX0_walk 9 none 4 0 0 [.ref Q, .ref A, .int 7, .int v0, .int v1, .long v2] S (fun r z => ∃ M' N', z = (S.1, M', N') ∧ zK P S.2.1 M' ∧ r = none) := by
  refine zM.of miX0_walk (Nat.le_of_ble_eq_true rfl) ?_
  intro p e s m args below meth c X hr hname
  generalize hF : ((fun r z => ∃ M' N', z = (S.1, M', N') ∧ zK P S.2.1 M' ∧ r = none) : Option Value → zS → Prop) = FQ
  change Zw p l e { frames := 4, cells := 0, slots := 0, locals := 80 * 4 } s m args below meth c G b 9 (MQ below (zQ G b FQ) args s 0 0 (fun q : Nat => b ≤ q)) 0 0 0 [some (.ref Q), some (.ref A), some (.int 7), some (.int v0), some (.int v1), some (.long v2), none, none, none] [] S
  obtain ⟨q_lt, q_o, q_sets, q_seen, q_atUnit, q_early, q_result⟩ := id hQ
  obtain ⟨q_result_lt, q_result_o, q_result_line, q_result_unitOf, q_result_roundOf, q_result_leftTags, q_result_leftGuests, q_result_leftPreferred, q_result_ranked⟩ := id q_result
  obtain ⟨a_lt, a_o, a_quota, a_preferred, a_forGuests, a_applicantOf, a_size, a_guestCount, a_score, a_tickets, a_bits, a_party, a_wishCount, a_wishes⟩ := id hA
  have J_31 : ∀ (x3_31 : Int32) (x4_31 : Int32) (x5_31 : Int64) (x7_31 : Option Value) (x8_31 : Option Value) (M2 : Nat → Nat → Int32) (N2 : Nat → Nat → Int64), zK P S.2.1 M2 → Zw p l e { frames := 4, cells := 0, slots := 0, locals := 80 * 4 } s m args below meth c G b 9 (MQ below (zQ G b FQ) args s 0 0 (fun q : Nat => b ≤ q)) 0 0 31 [some (.ref (Q)), some (.ref (A)), some (.int 7), some (.int x3_31), some (.int x4_31), some (.long x5_31), none, x7_31, x8_31] [] (S.1, M2, N2) := by
    intro x3_31 x4_31 x5_31 x7_31 x8_31 M2_31 N2_31 k_31
    refine a_vret X hr dX0_walk_31 ⟨by decide, by decide⟩ ?_
    subst hF
    exact ⟨_, _, rfl, (by (try dsimp only); repeat first | assumption | exact zK.rf | refine zK.zu ?_ (by omega) | refine zK.zu0 ?_ (by decide) | refine zK.zwr ?_ (by omega) | refine zK.zfil ?_ (by omega) | refine zK.zcpy ?_ (by omega) | refine zK.trans ?_ (by assumption) | dsimp only), rfl⟩
  refine a_iload_n X dX0_walk_0 rfl ?_
  refine a_if_ne (tgt := 20) X dX0_walk_1 (by decide) (fun h_1 => ?_) (fun h_1 => ?_)
  · refine a_iload_n X dX0_walk_20 rfl ?_
    refine a_bipush (v := 7) X dX0_walk_21 (by decide) ?_
    refine a_icmp_ge (tgt := 31) X dX0_walk_23 (by decide) (fun h_23 => ?_) (fun h_23 => absurd (by decide) h_23)
    exact Zw.to2 (J_31 _ _ _ _ _ _ _ (by (try dsimp only); repeat first | assumption | exact zK.rf | refine zK.zu ?_ (by omega) | refine zK.zu0 ?_ (by decide) | refine zK.zwr ?_ (by omega) | refine zK.zfil ?_ (by omega) | refine zK.zcpy ?_ (by omega) | refine zK.trans ?_ (by assumption) | dsimp only) ) rfl rfl rfl
  · refine a_aload_n X dX0_walk_4 rfl ?_
    refine a_getr X lf0_28 (by assumption) rfl (by omega) dX0_walk_5 ?_
    refine a_aload_n X dX0_walk_8 rfl ?_
    refine a_callVx X dX0_walk_9 miX5_settle lm0_55 (s_X5_settle (P := P) (by assumption) (by omega) (by assumption) (by omega)) (by assumption) rfl rfl rfl (Nat.le_of_ble_eq_true rfl) ⟨by decide, by decide, by decide, by decide⟩ (fun r_9 S_9 q_9 => ?_)
    obtain ⟨M_9, N_9, rfl, k_9, rfl⟩ := q_9
    refine a_aload_n X dX0_walk_12 rfl ?_
    refine a_aload_n X dX0_walk_13 rfl ?_
    refine a_lload X dX0_walk_14 rfl ?_
    refine a_callVx X dX0_walk_16 miX0_record lm0_59 (s_X0_record (P := P) (by assumption) (by omega) (by assumption) (by omega)) (by assumption) rfl rfl rfl (Nat.le_of_ble_eq_true rfl) ⟨by decide, by decide, by decide, by decide⟩ (fun r_16 S_16 q_16 => ?_)
    obtain ⟨M_16, N_16, rfl, k_16, rfl⟩ := q_16
    refine a_vret X hr dX0_walk_19 ⟨by decide, by decide⟩ ?_
    subst hF
    exact ⟨_, _, rfl, (by (try dsimp only); repeat first | assumption | exact zK.rf | refine zK.zu ?_ (by omega) | refine zK.zu0 ?_ (by decide) | refine zK.zwr ?_ (by omega) | refine zK.zfil ?_ (by omega) | refine zK.zcpy ?_ (by omega) | refine zK.trans ?_ (by assumption) | dsimp only), rfl⟩
set_option maxRecDepth 100000 in
theorem s_X0_walk_6 {l : Launch} {G : zG} {b : Nat} {S : zS} {P : Nat} {Q : Nat} {A : Nat} {v0 : Int32} {v1 : Int32} {v2 : Int64} (hQ : LX0 S.1 Q) (rQ : P < Q ∧ Q + 13 ≤ P + 200) (hA : LX2 S.1 A) (rA : P < A ∧ A + 13 ≤ P + 200) : zM l G b yX0_walk cX0_walk 9 none 5 0 0 [.ref Q, .ref A, .int 6, .int v0, .int v1, .long v2] S (fun r z => ∃ M' N', z = (S.1, M', N') ∧ zK P S.2.1 M' ∧ r = none) := by
  refine zM.of miX0_walk (Nat.le_of_ble_eq_true rfl) ?_
  intro p e s m args below meth c X hr hname
  generalize hF : ((fun r z => ∃ M' N', z = (S.1, M', N') ∧ zK P S.2.1 M' ∧ r = none) : Option Value → zS → Prop) = FQ
  change Zw p l e { frames := 5, cells := 0, slots := 0, locals := 80 * 5 } s m args below meth c G b 9 (MQ below (zQ G b FQ) args s 0 0 (fun q : Nat => b ≤ q)) 0 0 0 [some (.ref Q), some (.ref A), some (.int 6), some (.int v0), some (.int v1), some (.long v2), none, none, none] [] S
  obtain ⟨q_lt, q_o, q_sets, q_seen, q_atUnit, q_early, q_result⟩ := id hQ
  obtain ⟨q_result_lt, q_result_o, q_result_line, q_result_unitOf, q_result_roundOf, q_result_leftTags, q_result_leftGuests, q_result_leftPreferred, q_result_ranked⟩ := id q_result
  obtain ⟨a_lt, a_o, a_quota, a_preferred, a_forGuests, a_applicantOf, a_size, a_guestCount, a_score, a_tickets, a_bits, a_party, a_wishCount, a_wishes⟩ := id hA
  have L_35 : ∀ u : Nat, ∀ (x3_35 : Int32) (x4_35 : Int32) (x5_35 : Int64) (x7_35 : Int32) (x8_35 : Option Value) (M2 : Nat → Nat → Int32) (N2 : Nat → Nat → Int64), zK P S.2.1 M2 → (¬ x4_35 ≤ 0) → (2147483648 - x7_35.toInt).toNat < u → Zw p l e { frames := 5, cells := 0, slots := 0, locals := 80 * 5 } s m args below meth c G b 9 (MQ below (zQ G b FQ) args s 0 0 (fun q : Nat => b ≤ q)) 0 0 35 [some (.ref (Q)), some (.ref (A)), some (.int 6), some (.int x3_35), some (.int x4_35), some (.long x5_35), none, some (.int x7_35), x8_35] [] (S.1, M2, N2) := by
    intro u
    induction u with
    | zero => intro x3_35 x4_35 x5_35 x7_35 x8_35 M2_35 N2_35 k_35 f0_35 hm_35; exact absurd hm_35 (Nat.not_lt_zero _)
    | succ u_35 ih_35 =>
      intro x3_35 x4_35 x5_35 x7_35 x8_35 M2_35 N2_35 k_35 f0_35 hm_35
      have J_109 : ∀ (x3_109 : Int32) (x4_109 : Int32) (x5_109 : Int64) (x7_109 : Int32) (x8_109 : Option Value) (M2 : Nat → Nat → Int32) (N2 : Nat → Nat → Int64), zK P S.2.1 M2 → ((2147483648 - x7_109.toInt).toNat < u_35 + 1) → (x7_109.toInt < 2147483647) → (¬ x4_109 ≤ 0) → Zw p l e { frames := 5, cells := 0, slots := 0, locals := 80 * 5 } s m args below meth c G b 9 (MQ below (zQ G b FQ) args s 0 0 (fun q : Nat => b ≤ q)) 0 0 109 [some (.ref (Q)), some (.ref (A)), some (.int 6), some (.int x3_109), some (.int x4_109), some (.long x5_109), none, some (.int x7_109), x8_109] [] (S.1, M2, N2) := by
        intro x3_109 x4_109 x5_109 x7_109 x8_109 M2_109 N2_109 k_109 f0_109 f1_109 f2_109
        refine a_iinc X dX0_walk_109 (by decide) rfl rfl ?_
        refine a_goto (tgt := 35) X dX0_walk_112 (by decide) ?_
        exact Zw.to2 (ih_35 _ _ _ _ _ _ _ (by (try dsimp only); repeat first | assumption | exact zK.rf | refine zK.zu ?_ (by omega) | refine zK.zu0 ?_ (by decide) | refine zK.zwr ?_ (by omega) | refine zK.zfil ?_ (by omega) | refine zK.zcpy ?_ (by omega) | refine zK.trans ?_ (by assumption) | dsimp only) (by first | assumption | exact Int32.not_le.mpr h_28) (z_up f1_109 f0_109)) rfl rfl rfl
      refine a_iload X dX0_walk_35 rfl ?_
      refine a_aload_n X dX0_walk_37 rfl ?_
      refine a_geti X lf0_40 (by assumption) rfl dX0_walk_38 ?_
      refine a_icmp_ge (tgt := 115) X dX0_walk_41 (by decide) (fun h_41 => ?_) (fun h_41 => ?_)
      · refine a_vret X hr dX0_walk_115 ⟨by decide, by decide⟩ ?_
        subst hF
        exact ⟨_, _, rfl, (by (try dsimp only); repeat first | assumption | exact zK.rf | refine zK.zu ?_ (by omega) | refine zK.zu0 ?_ (by decide) | refine zK.zwr ?_ (by omega) | refine zK.zfil ?_ (by omega) | refine zK.zcpy ?_ (by omega) | refine zK.trans ?_ (by assumption) | dsimp only), rfl⟩
      · refine a_iload_n X dX0_walk_44 rfl ?_
        refine a_iload X dX0_walk_45 rfl ?_
        refine a_ishr X dX0_walk_47 ?_
        refine a_iconst (v := 1) X dX0_walk_48 (by decide) ?_
        refine a_iand X dX0_walk_49 ?_
        refine a_iconst (v := 1) X dX0_walk_50 (by decide) ?_
        refine a_icmp_ne (tgt := 109) X dX0_walk_51 (by decide) (fun h_51 => ?_) (fun h_51 => ?_)
        · exact Zw.to2 (J_109 _ _ _ _ _ _ _ (by (try dsimp only); repeat first | assumption | exact zK.rf | refine zK.zu ?_ (by omega) | refine zK.zu0 ?_ (by decide) | refine zK.zwr ?_ (by omega) | refine zK.zfil ?_ (by omega) | refine zK.zcpy ?_ (by omega) | refine zK.trans ?_ (by assumption) | dsimp only) hm_35 (by first | assumption | exact z_lt (by assumption) | exact z_lt2 (by assumption) | exact z_lt3 (by assumption) (by decide)) (by first | assumption | exact Int32.not_le.mpr h_28)) rfl rfl rfl
        · refine a_aload_n X dX0_walk_54 rfl ?_
          refine a_getr X lf0_63 (by assumption) rfl (by omega) dX0_walk_55 ?_
          refine a_iload X dX0_walk_58 rfl ?_
          refine a_callSNv X dX0_walk_60 miX7_cell lm0_66 (c_cell (by assumption) (by first | decide | assumption)) rfl rfl (Nat.le_of_ble_eq_true rfl) ⟨by decide, by decide, by decide, by decide⟩ ?_
          refine a_istore X dX0_walk_63 (by decide) ?_
          refine a_aload_n X dX0_walk_65 rfl ?_
          refine a_getr X lf0_28 (by assumption) rfl (by omega) dX0_walk_66 ?_
          refine a_getr X lf0_70 (by assumption) rfl (by omega) dX0_walk_69 ?_
          refine a_iload_n X dX0_walk_72 rfl ?_
          refine a_iload X dX0_walk_73 rfl ?_
          refine a_callSNx X dX0_walk_75 miX7_put lm0_73 (s_X7_put (P := P) (by assumption) (by first | decide | assumption) (by omega)) rfl rfl (Nat.le_of_ble_eq_true rfl) ⟨by decide, by decide, by decide, by decide⟩ (fun r_75 S_75 q_75 => ?_)
          obtain ⟨M_75, N_75, rfl, k_75, rfl⟩ := q_75
          refine a_aload_n X dX0_walk_78 rfl ?_
          refine a_aload_n X dX0_walk_79 rfl ?_
          refine a_iload_n X dX0_walk_80 rfl ?_
          refine a_iconst (v := 1) X dX0_walk_81 (by decide) ?_
          refine a_iadd X dX0_walk_82 ?_
          refine a_iload_n X dX0_walk_83 rfl ?_
          refine a_iconst (v := 1) X dX0_walk_84 (by decide) ?_
          refine a_iload X dX0_walk_85 rfl ?_
          refine a_ishl X dX0_walk_87 ?_
          refine a_iconst (v := -1) X dX0_walk_88 (by decide) ?_
          refine a_ixor X dX0_walk_89 ?_
          refine a_iand X dX0_walk_90 ?_
          refine a_iload X dX0_walk_91 rfl ?_
          refine a_iload X dX0_walk_93 rfl ?_
          refine a_isub X dX0_walk_95 ?_
          refine a_lload X dX0_walk_96 rfl ?_
          refine a_iload X dX0_walk_98 rfl ?_
          refine a_i2l X dX0_walk_100 ?_
          refine a_lmul X dX0_walk_101 ?_
          refine a_iload X dX0_walk_102 rfl ?_
          refine a_i2l X dX0_walk_104 ?_
          refine a_ldiv X dX0_walk_105 (by first | assumption | decide | exact z_nzl (by assumption)) ?_
          refine a_callSx X dX0_walk_106 miX0_walk lm0_51 (s_X0_walk_7 (P := P) (by assumption) (by omega) (by assumption) (by omega)) rfl rfl (Nat.le_of_ble_eq_true rfl) ⟨by decide, by decide, by decide, by decide⟩ (fun r_106 S_106 q_106 => ?_)
          obtain ⟨M_106, N_106, rfl, k_106, rfl⟩ := q_106
          exact Zw.to2 (J_109 _ _ _ _ _ _ _ (by (try dsimp only); repeat first | assumption | exact zK.rf | refine zK.zu ?_ (by omega) | refine zK.zu0 ?_ (by decide) | refine zK.zwr ?_ (by omega) | refine zK.zfil ?_ (by omega) | refine zK.zcpy ?_ (by omega) | refine zK.trans ?_ (by assumption) | dsimp only) hm_35 (by first | assumption | exact z_lt (by assumption) | exact z_lt2 (by assumption) | exact z_lt3 (by assumption) (by decide)) (by first | assumption | exact Int32.not_le.mpr h_28)) rfl rfl rfl
  have H_35 : ∀ (x3_35 : Int32) (x4_35 : Int32) (x5_35 : Int64) (x7_35 : Int32) (x8_35 : Option Value) (M2 : Nat → Nat → Int32) (N2 : Nat → Nat → Int64), zK P S.2.1 M2 → (¬ x4_35 ≤ 0) → Zw p l e { frames := 5, cells := 0, slots := 0, locals := 80 * 5 } s m args below meth c G b 9 (MQ below (zQ G b FQ) args s 0 0 (fun q : Nat => b ≤ q)) 0 0 35 [some (.ref (Q)), some (.ref (A)), some (.int 6), some (.int x3_35), some (.int x4_35), some (.long x5_35), none, some (.int x7_35), x8_35] [] (S.1, M2, N2) := fun x3_35 x4_35 x5_35 x7_35 x8_35 M2 N2 k f0 => L_35 _ x3_35 x4_35 x5_35 x7_35 x8_35 M2 N2 k f0 (Nat.lt_succ_self _)
  have J_31 : ∀ (x3_31 : Int32) (x4_31 : Int32) (x5_31 : Int64) (x7_31 : Option Value) (x8_31 : Option Value) (M2 : Nat → Nat → Int32) (N2 : Nat → Nat → Int64), zK P S.2.1 M2 → Zw p l e { frames := 5, cells := 0, slots := 0, locals := 80 * 5 } s m args below meth c G b 9 (MQ below (zQ G b FQ) args s 0 0 (fun q : Nat => b ≤ q)) 0 0 31 [some (.ref (Q)), some (.ref (A)), some (.int 6), some (.int x3_31), some (.int x4_31), some (.long x5_31), none, x7_31, x8_31] [] (S.1, M2, N2) := by
    intro x3_31 x4_31 x5_31 x7_31 x8_31 M2_31 N2_31 k_31
    refine a_vret X hr dX0_walk_31 ⟨by decide, by decide⟩ ?_
    subst hF
    exact ⟨_, _, rfl, (by (try dsimp only); repeat first | assumption | exact zK.rf | refine zK.zu ?_ (by omega) | refine zK.zu0 ?_ (by decide) | refine zK.zwr ?_ (by omega) | refine zK.zfil ?_ (by omega) | refine zK.zcpy ?_ (by omega) | refine zK.trans ?_ (by assumption) | dsimp only), rfl⟩
  refine a_iload_n X dX0_walk_0 rfl ?_
  refine a_if_ne (tgt := 20) X dX0_walk_1 (by decide) (fun h_1 => ?_) (fun h_1 => ?_)
  · refine a_iload_n X dX0_walk_20 rfl ?_
    refine a_bipush (v := 7) X dX0_walk_21 (by decide) ?_
    refine a_icmp_ge (tgt := 31) X dX0_walk_23 (by decide) (fun h_23 => ?_) (fun h_23 => ?_)
    · exact Zw.to2 (J_31 _ _ _ _ _ _ _ (by (try dsimp only); repeat first | assumption | exact zK.rf | refine zK.zu ?_ (by omega) | refine zK.zu0 ?_ (by decide) | refine zK.zwr ?_ (by omega) | refine zK.zfil ?_ (by omega) | refine zK.zcpy ?_ (by omega) | refine zK.trans ?_ (by assumption) | dsimp only) ) rfl rfl rfl
    · refine a_iload X dX0_walk_26 rfl ?_
      refine a_if_gt (tgt := 32) X dX0_walk_28 (by decide) (fun h_28 => ?_) (fun h_28 => ?_)
      · refine a_iconst (v := 0) X dX0_walk_32 (by decide) ?_
        refine a_istore X dX0_walk_33 (by decide) ?_
        exact Zw.to2 (H_35 _ _ _ _ _ _ _ (by (try dsimp only); repeat first | assumption | exact zK.rf | refine zK.zu ?_ (by omega) | refine zK.zu0 ?_ (by decide) | refine zK.zwr ?_ (by omega) | refine zK.zfil ?_ (by omega) | refine zK.zcpy ?_ (by omega) | refine zK.trans ?_ (by assumption) | dsimp only) (by first | assumption | exact Int32.not_le.mpr h_28)) rfl rfl rfl
      · exact Zw.to2 (J_31 _ _ _ _ _ _ _ (by (try dsimp only); repeat first | assumption | exact zK.rf | refine zK.zu ?_ (by omega) | refine zK.zu0 ?_ (by decide) | refine zK.zwr ?_ (by omega) | refine zK.zfil ?_ (by omega) | refine zK.zcpy ?_ (by omega) | refine zK.trans ?_ (by assumption) | dsimp only) ) rfl rfl rfl
  · refine a_aload_n X dX0_walk_4 rfl ?_
    refine a_getr X lf0_28 (by assumption) rfl (by omega) dX0_walk_5 ?_
    refine a_aload_n X dX0_walk_8 rfl ?_
    refine a_callVx X dX0_walk_9 miX5_settle lm0_55 (s_X5_settle (P := P) (by assumption) (by omega) (by assumption) (by omega)) (by assumption) rfl rfl rfl (Nat.le_of_ble_eq_true rfl) ⟨by decide, by decide, by decide, by decide⟩ (fun r_9 S_9 q_9 => ?_)
    obtain ⟨M_9, N_9, rfl, k_9, rfl⟩ := q_9
    refine a_aload_n X dX0_walk_12 rfl ?_
    refine a_aload_n X dX0_walk_13 rfl ?_
    refine a_lload X dX0_walk_14 rfl ?_
    refine a_callVx X dX0_walk_16 miX0_record lm0_59 (s_X0_record (P := P) (by assumption) (by omega) (by assumption) (by omega)) (by assumption) rfl rfl rfl (Nat.le_of_ble_eq_true rfl) ⟨by decide, by decide, by decide, by decide⟩ (fun r_16 S_16 q_16 => ?_)
    obtain ⟨M_16, N_16, rfl, k_16, rfl⟩ := q_16
    refine a_vret X hr dX0_walk_19 ⟨by decide, by decide⟩ ?_
    subst hF
    exact ⟨_, _, rfl, (by (try dsimp only); repeat first | assumption | exact zK.rf | refine zK.zu ?_ (by omega) | refine zK.zu0 ?_ (by decide) | refine zK.zwr ?_ (by omega) | refine zK.zfil ?_ (by omega) | refine zK.zcpy ?_ (by omega) | refine zK.trans ?_ (by assumption) | dsimp only), rfl⟩
set_option maxRecDepth 100000 in
theorem s_X0_walk_5 {l : Launch} {G : zG} {b : Nat} {S : zS} {P : Nat} {Q : Nat} {A : Nat} {v0 : Int32} {v1 : Int32} {v2 : Int64} (hQ : LX0 S.1 Q) (rQ : P < Q ∧ Q + 13 ≤ P + 200) (hA : LX2 S.1 A) (rA : P < A ∧ A + 13 ≤ P + 200) : zM l G b yX0_walk cX0_walk 9 none 6 0 0 [.ref Q, .ref A, .int 5, .int v0, .int v1, .long v2] S (fun r z => ∃ M' N', z = (S.1, M', N') ∧ zK P S.2.1 M' ∧ r = none) := by
  refine zM.of miX0_walk (Nat.le_of_ble_eq_true rfl) ?_
  intro p e s m args below meth c X hr hname
  generalize hF : ((fun r z => ∃ M' N', z = (S.1, M', N') ∧ zK P S.2.1 M' ∧ r = none) : Option Value → zS → Prop) = FQ
  change Zw p l e { frames := 6, cells := 0, slots := 0, locals := 80 * 6 } s m args below meth c G b 9 (MQ below (zQ G b FQ) args s 0 0 (fun q : Nat => b ≤ q)) 0 0 0 [some (.ref Q), some (.ref A), some (.int 5), some (.int v0), some (.int v1), some (.long v2), none, none, none] [] S
  obtain ⟨q_lt, q_o, q_sets, q_seen, q_atUnit, q_early, q_result⟩ := id hQ
  obtain ⟨q_result_lt, q_result_o, q_result_line, q_result_unitOf, q_result_roundOf, q_result_leftTags, q_result_leftGuests, q_result_leftPreferred, q_result_ranked⟩ := id q_result
  obtain ⟨a_lt, a_o, a_quota, a_preferred, a_forGuests, a_applicantOf, a_size, a_guestCount, a_score, a_tickets, a_bits, a_party, a_wishCount, a_wishes⟩ := id hA
  have L_35 : ∀ u : Nat, ∀ (x3_35 : Int32) (x4_35 : Int32) (x5_35 : Int64) (x7_35 : Int32) (x8_35 : Option Value) (M2 : Nat → Nat → Int32) (N2 : Nat → Nat → Int64), zK P S.2.1 M2 → (¬ x4_35 ≤ 0) → (2147483648 - x7_35.toInt).toNat < u → Zw p l e { frames := 6, cells := 0, slots := 0, locals := 80 * 6 } s m args below meth c G b 9 (MQ below (zQ G b FQ) args s 0 0 (fun q : Nat => b ≤ q)) 0 0 35 [some (.ref (Q)), some (.ref (A)), some (.int 5), some (.int x3_35), some (.int x4_35), some (.long x5_35), none, some (.int x7_35), x8_35] [] (S.1, M2, N2) := by
    intro u
    induction u with
    | zero => intro x3_35 x4_35 x5_35 x7_35 x8_35 M2_35 N2_35 k_35 f0_35 hm_35; exact absurd hm_35 (Nat.not_lt_zero _)
    | succ u_35 ih_35 =>
      intro x3_35 x4_35 x5_35 x7_35 x8_35 M2_35 N2_35 k_35 f0_35 hm_35
      have J_109 : ∀ (x3_109 : Int32) (x4_109 : Int32) (x5_109 : Int64) (x7_109 : Int32) (x8_109 : Option Value) (M2 : Nat → Nat → Int32) (N2 : Nat → Nat → Int64), zK P S.2.1 M2 → ((2147483648 - x7_109.toInt).toNat < u_35 + 1) → (x7_109.toInt < 2147483647) → (¬ x4_109 ≤ 0) → Zw p l e { frames := 6, cells := 0, slots := 0, locals := 80 * 6 } s m args below meth c G b 9 (MQ below (zQ G b FQ) args s 0 0 (fun q : Nat => b ≤ q)) 0 0 109 [some (.ref (Q)), some (.ref (A)), some (.int 5), some (.int x3_109), some (.int x4_109), some (.long x5_109), none, some (.int x7_109), x8_109] [] (S.1, M2, N2) := by
        intro x3_109 x4_109 x5_109 x7_109 x8_109 M2_109 N2_109 k_109 f0_109 f1_109 f2_109
        refine a_iinc X dX0_walk_109 (by decide) rfl rfl ?_
        refine a_goto (tgt := 35) X dX0_walk_112 (by decide) ?_
        exact Zw.to2 (ih_35 _ _ _ _ _ _ _ (by (try dsimp only); repeat first | assumption | exact zK.rf | refine zK.zu ?_ (by omega) | refine zK.zu0 ?_ (by decide) | refine zK.zwr ?_ (by omega) | refine zK.zfil ?_ (by omega) | refine zK.zcpy ?_ (by omega) | refine zK.trans ?_ (by assumption) | dsimp only) (by first | assumption | exact Int32.not_le.mpr h_28) (z_up f1_109 f0_109)) rfl rfl rfl
      refine a_iload X dX0_walk_35 rfl ?_
      refine a_aload_n X dX0_walk_37 rfl ?_
      refine a_geti X lf0_40 (by assumption) rfl dX0_walk_38 ?_
      refine a_icmp_ge (tgt := 115) X dX0_walk_41 (by decide) (fun h_41 => ?_) (fun h_41 => ?_)
      · refine a_vret X hr dX0_walk_115 ⟨by decide, by decide⟩ ?_
        subst hF
        exact ⟨_, _, rfl, (by (try dsimp only); repeat first | assumption | exact zK.rf | refine zK.zu ?_ (by omega) | refine zK.zu0 ?_ (by decide) | refine zK.zwr ?_ (by omega) | refine zK.zfil ?_ (by omega) | refine zK.zcpy ?_ (by omega) | refine zK.trans ?_ (by assumption) | dsimp only), rfl⟩
      · refine a_iload_n X dX0_walk_44 rfl ?_
        refine a_iload X dX0_walk_45 rfl ?_
        refine a_ishr X dX0_walk_47 ?_
        refine a_iconst (v := 1) X dX0_walk_48 (by decide) ?_
        refine a_iand X dX0_walk_49 ?_
        refine a_iconst (v := 1) X dX0_walk_50 (by decide) ?_
        refine a_icmp_ne (tgt := 109) X dX0_walk_51 (by decide) (fun h_51 => ?_) (fun h_51 => ?_)
        · exact Zw.to2 (J_109 _ _ _ _ _ _ _ (by (try dsimp only); repeat first | assumption | exact zK.rf | refine zK.zu ?_ (by omega) | refine zK.zu0 ?_ (by decide) | refine zK.zwr ?_ (by omega) | refine zK.zfil ?_ (by omega) | refine zK.zcpy ?_ (by omega) | refine zK.trans ?_ (by assumption) | dsimp only) hm_35 (by first | assumption | exact z_lt (by assumption) | exact z_lt2 (by assumption) | exact z_lt3 (by assumption) (by decide)) (by first | assumption | exact Int32.not_le.mpr h_28)) rfl rfl rfl
        · refine a_aload_n X dX0_walk_54 rfl ?_
          refine a_getr X lf0_63 (by assumption) rfl (by omega) dX0_walk_55 ?_
          refine a_iload X dX0_walk_58 rfl ?_
          refine a_callSNv X dX0_walk_60 miX7_cell lm0_66 (c_cell (by assumption) (by first | decide | assumption)) rfl rfl (Nat.le_of_ble_eq_true rfl) ⟨by decide, by decide, by decide, by decide⟩ ?_
          refine a_istore X dX0_walk_63 (by decide) ?_
          refine a_aload_n X dX0_walk_65 rfl ?_
          refine a_getr X lf0_28 (by assumption) rfl (by omega) dX0_walk_66 ?_
          refine a_getr X lf0_70 (by assumption) rfl (by omega) dX0_walk_69 ?_
          refine a_iload_n X dX0_walk_72 rfl ?_
          refine a_iload X dX0_walk_73 rfl ?_
          refine a_callSNx X dX0_walk_75 miX7_put lm0_73 (s_X7_put (P := P) (by assumption) (by first | decide | assumption) (by omega)) rfl rfl (Nat.le_of_ble_eq_true rfl) ⟨by decide, by decide, by decide, by decide⟩ (fun r_75 S_75 q_75 => ?_)
          obtain ⟨M_75, N_75, rfl, k_75, rfl⟩ := q_75
          refine a_aload_n X dX0_walk_78 rfl ?_
          refine a_aload_n X dX0_walk_79 rfl ?_
          refine a_iload_n X dX0_walk_80 rfl ?_
          refine a_iconst (v := 1) X dX0_walk_81 (by decide) ?_
          refine a_iadd X dX0_walk_82 ?_
          refine a_iload_n X dX0_walk_83 rfl ?_
          refine a_iconst (v := 1) X dX0_walk_84 (by decide) ?_
          refine a_iload X dX0_walk_85 rfl ?_
          refine a_ishl X dX0_walk_87 ?_
          refine a_iconst (v := -1) X dX0_walk_88 (by decide) ?_
          refine a_ixor X dX0_walk_89 ?_
          refine a_iand X dX0_walk_90 ?_
          refine a_iload X dX0_walk_91 rfl ?_
          refine a_iload X dX0_walk_93 rfl ?_
          refine a_isub X dX0_walk_95 ?_
          refine a_lload X dX0_walk_96 rfl ?_
          refine a_iload X dX0_walk_98 rfl ?_
          refine a_i2l X dX0_walk_100 ?_
          refine a_lmul X dX0_walk_101 ?_
          refine a_iload X dX0_walk_102 rfl ?_
          refine a_i2l X dX0_walk_104 ?_
          refine a_ldiv X dX0_walk_105 (by first | assumption | decide | exact z_nzl (by assumption)) ?_
          refine a_callSx X dX0_walk_106 miX0_walk lm0_51 (s_X0_walk_6 (P := P) (by assumption) (by omega) (by assumption) (by omega)) rfl rfl (Nat.le_of_ble_eq_true rfl) ⟨by decide, by decide, by decide, by decide⟩ (fun r_106 S_106 q_106 => ?_)
          obtain ⟨M_106, N_106, rfl, k_106, rfl⟩ := q_106
          exact Zw.to2 (J_109 _ _ _ _ _ _ _ (by (try dsimp only); repeat first | assumption | exact zK.rf | refine zK.zu ?_ (by omega) | refine zK.zu0 ?_ (by decide) | refine zK.zwr ?_ (by omega) | refine zK.zfil ?_ (by omega) | refine zK.zcpy ?_ (by omega) | refine zK.trans ?_ (by assumption) | dsimp only) hm_35 (by first | assumption | exact z_lt (by assumption) | exact z_lt2 (by assumption) | exact z_lt3 (by assumption) (by decide)) (by first | assumption | exact Int32.not_le.mpr h_28)) rfl rfl rfl
  have H_35 : ∀ (x3_35 : Int32) (x4_35 : Int32) (x5_35 : Int64) (x7_35 : Int32) (x8_35 : Option Value) (M2 : Nat → Nat → Int32) (N2 : Nat → Nat → Int64), zK P S.2.1 M2 → (¬ x4_35 ≤ 0) → Zw p l e { frames := 6, cells := 0, slots := 0, locals := 80 * 6 } s m args below meth c G b 9 (MQ below (zQ G b FQ) args s 0 0 (fun q : Nat => b ≤ q)) 0 0 35 [some (.ref (Q)), some (.ref (A)), some (.int 5), some (.int x3_35), some (.int x4_35), some (.long x5_35), none, some (.int x7_35), x8_35] [] (S.1, M2, N2) := fun x3_35 x4_35 x5_35 x7_35 x8_35 M2 N2 k f0 => L_35 _ x3_35 x4_35 x5_35 x7_35 x8_35 M2 N2 k f0 (Nat.lt_succ_self _)
  have J_31 : ∀ (x3_31 : Int32) (x4_31 : Int32) (x5_31 : Int64) (x7_31 : Option Value) (x8_31 : Option Value) (M2 : Nat → Nat → Int32) (N2 : Nat → Nat → Int64), zK P S.2.1 M2 → Zw p l e { frames := 6, cells := 0, slots := 0, locals := 80 * 6 } s m args below meth c G b 9 (MQ below (zQ G b FQ) args s 0 0 (fun q : Nat => b ≤ q)) 0 0 31 [some (.ref (Q)), some (.ref (A)), some (.int 5), some (.int x3_31), some (.int x4_31), some (.long x5_31), none, x7_31, x8_31] [] (S.1, M2, N2) := by
    intro x3_31 x4_31 x5_31 x7_31 x8_31 M2_31 N2_31 k_31
    refine a_vret X hr dX0_walk_31 ⟨by decide, by decide⟩ ?_
    subst hF
    exact ⟨_, _, rfl, (by (try dsimp only); repeat first | assumption | exact zK.rf | refine zK.zu ?_ (by omega) | refine zK.zu0 ?_ (by decide) | refine zK.zwr ?_ (by omega) | refine zK.zfil ?_ (by omega) | refine zK.zcpy ?_ (by omega) | refine zK.trans ?_ (by assumption) | dsimp only), rfl⟩
  refine a_iload_n X dX0_walk_0 rfl ?_
  refine a_if_ne (tgt := 20) X dX0_walk_1 (by decide) (fun h_1 => ?_) (fun h_1 => ?_)
  · refine a_iload_n X dX0_walk_20 rfl ?_
    refine a_bipush (v := 7) X dX0_walk_21 (by decide) ?_
    refine a_icmp_ge (tgt := 31) X dX0_walk_23 (by decide) (fun h_23 => ?_) (fun h_23 => ?_)
    · exact Zw.to2 (J_31 _ _ _ _ _ _ _ (by (try dsimp only); repeat first | assumption | exact zK.rf | refine zK.zu ?_ (by omega) | refine zK.zu0 ?_ (by decide) | refine zK.zwr ?_ (by omega) | refine zK.zfil ?_ (by omega) | refine zK.zcpy ?_ (by omega) | refine zK.trans ?_ (by assumption) | dsimp only) ) rfl rfl rfl
    · refine a_iload X dX0_walk_26 rfl ?_
      refine a_if_gt (tgt := 32) X dX0_walk_28 (by decide) (fun h_28 => ?_) (fun h_28 => ?_)
      · refine a_iconst (v := 0) X dX0_walk_32 (by decide) ?_
        refine a_istore X dX0_walk_33 (by decide) ?_
        exact Zw.to2 (H_35 _ _ _ _ _ _ _ (by (try dsimp only); repeat first | assumption | exact zK.rf | refine zK.zu ?_ (by omega) | refine zK.zu0 ?_ (by decide) | refine zK.zwr ?_ (by omega) | refine zK.zfil ?_ (by omega) | refine zK.zcpy ?_ (by omega) | refine zK.trans ?_ (by assumption) | dsimp only) (by first | assumption | exact Int32.not_le.mpr h_28)) rfl rfl rfl
      · exact Zw.to2 (J_31 _ _ _ _ _ _ _ (by (try dsimp only); repeat first | assumption | exact zK.rf | refine zK.zu ?_ (by omega) | refine zK.zu0 ?_ (by decide) | refine zK.zwr ?_ (by omega) | refine zK.zfil ?_ (by omega) | refine zK.zcpy ?_ (by omega) | refine zK.trans ?_ (by assumption) | dsimp only) ) rfl rfl rfl
  · refine a_aload_n X dX0_walk_4 rfl ?_
    refine a_getr X lf0_28 (by assumption) rfl (by omega) dX0_walk_5 ?_
    refine a_aload_n X dX0_walk_8 rfl ?_
    refine a_callVx X dX0_walk_9 miX5_settle lm0_55 (s_X5_settle (P := P) (by assumption) (by omega) (by assumption) (by omega)) (by assumption) rfl rfl rfl (Nat.le_of_ble_eq_true rfl) ⟨by decide, by decide, by decide, by decide⟩ (fun r_9 S_9 q_9 => ?_)
    obtain ⟨M_9, N_9, rfl, k_9, rfl⟩ := q_9
    refine a_aload_n X dX0_walk_12 rfl ?_
    refine a_aload_n X dX0_walk_13 rfl ?_
    refine a_lload X dX0_walk_14 rfl ?_
    refine a_callVx X dX0_walk_16 miX0_record lm0_59 (s_X0_record (P := P) (by assumption) (by omega) (by assumption) (by omega)) (by assumption) rfl rfl rfl (Nat.le_of_ble_eq_true rfl) ⟨by decide, by decide, by decide, by decide⟩ (fun r_16 S_16 q_16 => ?_)
    obtain ⟨M_16, N_16, rfl, k_16, rfl⟩ := q_16
    refine a_vret X hr dX0_walk_19 ⟨by decide, by decide⟩ ?_
    subst hF
    exact ⟨_, _, rfl, (by (try dsimp only); repeat first | assumption | exact zK.rf | refine zK.zu ?_ (by omega) | refine zK.zu0 ?_ (by decide) | refine zK.zwr ?_ (by omega) | refine zK.zfil ?_ (by omega) | refine zK.zcpy ?_ (by omega) | refine zK.trans ?_ (by assumption) | dsimp only), rfl⟩
set_option maxRecDepth 100000 in
theorem s_X0_walk_4 {l : Launch} {G : zG} {b : Nat} {S : zS} {P : Nat} {Q : Nat} {A : Nat} {v0 : Int32} {v1 : Int32} {v2 : Int64} (hQ : LX0 S.1 Q) (rQ : P < Q ∧ Q + 13 ≤ P + 200) (hA : LX2 S.1 A) (rA : P < A ∧ A + 13 ≤ P + 200) : zM l G b yX0_walk cX0_walk 9 none 7 0 0 [.ref Q, .ref A, .int 4, .int v0, .int v1, .long v2] S (fun r z => ∃ M' N', z = (S.1, M', N') ∧ zK P S.2.1 M' ∧ r = none) := by
  refine zM.of miX0_walk (Nat.le_of_ble_eq_true rfl) ?_
  intro p e s m args below meth c X hr hname
  generalize hF : ((fun r z => ∃ M' N', z = (S.1, M', N') ∧ zK P S.2.1 M' ∧ r = none) : Option Value → zS → Prop) = FQ
  change Zw p l e { frames := 7, cells := 0, slots := 0, locals := 80 * 7 } s m args below meth c G b 9 (MQ below (zQ G b FQ) args s 0 0 (fun q : Nat => b ≤ q)) 0 0 0 [some (.ref Q), some (.ref A), some (.int 4), some (.int v0), some (.int v1), some (.long v2), none, none, none] [] S
  obtain ⟨q_lt, q_o, q_sets, q_seen, q_atUnit, q_early, q_result⟩ := id hQ
  obtain ⟨q_result_lt, q_result_o, q_result_line, q_result_unitOf, q_result_roundOf, q_result_leftTags, q_result_leftGuests, q_result_leftPreferred, q_result_ranked⟩ := id q_result
  obtain ⟨a_lt, a_o, a_quota, a_preferred, a_forGuests, a_applicantOf, a_size, a_guestCount, a_score, a_tickets, a_bits, a_party, a_wishCount, a_wishes⟩ := id hA
  have L_35 : ∀ u : Nat, ∀ (x3_35 : Int32) (x4_35 : Int32) (x5_35 : Int64) (x7_35 : Int32) (x8_35 : Option Value) (M2 : Nat → Nat → Int32) (N2 : Nat → Nat → Int64), zK P S.2.1 M2 → (¬ x4_35 ≤ 0) → (2147483648 - x7_35.toInt).toNat < u → Zw p l e { frames := 7, cells := 0, slots := 0, locals := 80 * 7 } s m args below meth c G b 9 (MQ below (zQ G b FQ) args s 0 0 (fun q : Nat => b ≤ q)) 0 0 35 [some (.ref (Q)), some (.ref (A)), some (.int 4), some (.int x3_35), some (.int x4_35), some (.long x5_35), none, some (.int x7_35), x8_35] [] (S.1, M2, N2) := by
    intro u
    induction u with
    | zero => intro x3_35 x4_35 x5_35 x7_35 x8_35 M2_35 N2_35 k_35 f0_35 hm_35; exact absurd hm_35 (Nat.not_lt_zero _)
    | succ u_35 ih_35 =>
      intro x3_35 x4_35 x5_35 x7_35 x8_35 M2_35 N2_35 k_35 f0_35 hm_35
      have J_109 : ∀ (x3_109 : Int32) (x4_109 : Int32) (x5_109 : Int64) (x7_109 : Int32) (x8_109 : Option Value) (M2 : Nat → Nat → Int32) (N2 : Nat → Nat → Int64), zK P S.2.1 M2 → ((2147483648 - x7_109.toInt).toNat < u_35 + 1) → (x7_109.toInt < 2147483647) → (¬ x4_109 ≤ 0) → Zw p l e { frames := 7, cells := 0, slots := 0, locals := 80 * 7 } s m args below meth c G b 9 (MQ below (zQ G b FQ) args s 0 0 (fun q : Nat => b ≤ q)) 0 0 109 [some (.ref (Q)), some (.ref (A)), some (.int 4), some (.int x3_109), some (.int x4_109), some (.long x5_109), none, some (.int x7_109), x8_109] [] (S.1, M2, N2) := by
        intro x3_109 x4_109 x5_109 x7_109 x8_109 M2_109 N2_109 k_109 f0_109 f1_109 f2_109
        refine a_iinc X dX0_walk_109 (by decide) rfl rfl ?_
        refine a_goto (tgt := 35) X dX0_walk_112 (by decide) ?_
        exact Zw.to2 (ih_35 _ _ _ _ _ _ _ (by (try dsimp only); repeat first | assumption | exact zK.rf | refine zK.zu ?_ (by omega) | refine zK.zu0 ?_ (by decide) | refine zK.zwr ?_ (by omega) | refine zK.zfil ?_ (by omega) | refine zK.zcpy ?_ (by omega) | refine zK.trans ?_ (by assumption) | dsimp only) (by first | assumption | exact Int32.not_le.mpr h_28) (z_up f1_109 f0_109)) rfl rfl rfl
      refine a_iload X dX0_walk_35 rfl ?_
      refine a_aload_n X dX0_walk_37 rfl ?_
      refine a_geti X lf0_40 (by assumption) rfl dX0_walk_38 ?_
      refine a_icmp_ge (tgt := 115) X dX0_walk_41 (by decide) (fun h_41 => ?_) (fun h_41 => ?_)
      · refine a_vret X hr dX0_walk_115 ⟨by decide, by decide⟩ ?_
        subst hF
        exact ⟨_, _, rfl, (by (try dsimp only); repeat first | assumption | exact zK.rf | refine zK.zu ?_ (by omega) | refine zK.zu0 ?_ (by decide) | refine zK.zwr ?_ (by omega) | refine zK.zfil ?_ (by omega) | refine zK.zcpy ?_ (by omega) | refine zK.trans ?_ (by assumption) | dsimp only), rfl⟩
      · refine a_iload_n X dX0_walk_44 rfl ?_
        refine a_iload X dX0_walk_45 rfl ?_
        refine a_ishr X dX0_walk_47 ?_
        refine a_iconst (v := 1) X dX0_walk_48 (by decide) ?_
        refine a_iand X dX0_walk_49 ?_
        refine a_iconst (v := 1) X dX0_walk_50 (by decide) ?_
        refine a_icmp_ne (tgt := 109) X dX0_walk_51 (by decide) (fun h_51 => ?_) (fun h_51 => ?_)
        · exact Zw.to2 (J_109 _ _ _ _ _ _ _ (by (try dsimp only); repeat first | assumption | exact zK.rf | refine zK.zu ?_ (by omega) | refine zK.zu0 ?_ (by decide) | refine zK.zwr ?_ (by omega) | refine zK.zfil ?_ (by omega) | refine zK.zcpy ?_ (by omega) | refine zK.trans ?_ (by assumption) | dsimp only) hm_35 (by first | assumption | exact z_lt (by assumption) | exact z_lt2 (by assumption) | exact z_lt3 (by assumption) (by decide)) (by first | assumption | exact Int32.not_le.mpr h_28)) rfl rfl rfl
        · refine a_aload_n X dX0_walk_54 rfl ?_
          refine a_getr X lf0_63 (by assumption) rfl (by omega) dX0_walk_55 ?_
          refine a_iload X dX0_walk_58 rfl ?_
          refine a_callSNv X dX0_walk_60 miX7_cell lm0_66 (c_cell (by assumption) (by first | decide | assumption)) rfl rfl (Nat.le_of_ble_eq_true rfl) ⟨by decide, by decide, by decide, by decide⟩ ?_
          refine a_istore X dX0_walk_63 (by decide) ?_
          refine a_aload_n X dX0_walk_65 rfl ?_
          refine a_getr X lf0_28 (by assumption) rfl (by omega) dX0_walk_66 ?_
          refine a_getr X lf0_70 (by assumption) rfl (by omega) dX0_walk_69 ?_
          refine a_iload_n X dX0_walk_72 rfl ?_
          refine a_iload X dX0_walk_73 rfl ?_
          refine a_callSNx X dX0_walk_75 miX7_put lm0_73 (s_X7_put (P := P) (by assumption) (by first | decide | assumption) (by omega)) rfl rfl (Nat.le_of_ble_eq_true rfl) ⟨by decide, by decide, by decide, by decide⟩ (fun r_75 S_75 q_75 => ?_)
          obtain ⟨M_75, N_75, rfl, k_75, rfl⟩ := q_75
          refine a_aload_n X dX0_walk_78 rfl ?_
          refine a_aload_n X dX0_walk_79 rfl ?_
          refine a_iload_n X dX0_walk_80 rfl ?_
          refine a_iconst (v := 1) X dX0_walk_81 (by decide) ?_
          refine a_iadd X dX0_walk_82 ?_
          refine a_iload_n X dX0_walk_83 rfl ?_
          refine a_iconst (v := 1) X dX0_walk_84 (by decide) ?_
          refine a_iload X dX0_walk_85 rfl ?_
          refine a_ishl X dX0_walk_87 ?_
          refine a_iconst (v := -1) X dX0_walk_88 (by decide) ?_
          refine a_ixor X dX0_walk_89 ?_
          refine a_iand X dX0_walk_90 ?_
          refine a_iload X dX0_walk_91 rfl ?_
          refine a_iload X dX0_walk_93 rfl ?_
          refine a_isub X dX0_walk_95 ?_
          refine a_lload X dX0_walk_96 rfl ?_
          refine a_iload X dX0_walk_98 rfl ?_
          refine a_i2l X dX0_walk_100 ?_
          refine a_lmul X dX0_walk_101 ?_
          refine a_iload X dX0_walk_102 rfl ?_
          refine a_i2l X dX0_walk_104 ?_
          refine a_ldiv X dX0_walk_105 (by first | assumption | decide | exact z_nzl (by assumption)) ?_
          refine a_callSx X dX0_walk_106 miX0_walk lm0_51 (s_X0_walk_5 (P := P) (by assumption) (by omega) (by assumption) (by omega)) rfl rfl (Nat.le_of_ble_eq_true rfl) ⟨by decide, by decide, by decide, by decide⟩ (fun r_106 S_106 q_106 => ?_)
          obtain ⟨M_106, N_106, rfl, k_106, rfl⟩ := q_106
          exact Zw.to2 (J_109 _ _ _ _ _ _ _ (by (try dsimp only); repeat first | assumption | exact zK.rf | refine zK.zu ?_ (by omega) | refine zK.zu0 ?_ (by decide) | refine zK.zwr ?_ (by omega) | refine zK.zfil ?_ (by omega) | refine zK.zcpy ?_ (by omega) | refine zK.trans ?_ (by assumption) | dsimp only) hm_35 (by first | assumption | exact z_lt (by assumption) | exact z_lt2 (by assumption) | exact z_lt3 (by assumption) (by decide)) (by first | assumption | exact Int32.not_le.mpr h_28)) rfl rfl rfl
  have H_35 : ∀ (x3_35 : Int32) (x4_35 : Int32) (x5_35 : Int64) (x7_35 : Int32) (x8_35 : Option Value) (M2 : Nat → Nat → Int32) (N2 : Nat → Nat → Int64), zK P S.2.1 M2 → (¬ x4_35 ≤ 0) → Zw p l e { frames := 7, cells := 0, slots := 0, locals := 80 * 7 } s m args below meth c G b 9 (MQ below (zQ G b FQ) args s 0 0 (fun q : Nat => b ≤ q)) 0 0 35 [some (.ref (Q)), some (.ref (A)), some (.int 4), some (.int x3_35), some (.int x4_35), some (.long x5_35), none, some (.int x7_35), x8_35] [] (S.1, M2, N2) := fun x3_35 x4_35 x5_35 x7_35 x8_35 M2 N2 k f0 => L_35 _ x3_35 x4_35 x5_35 x7_35 x8_35 M2 N2 k f0 (Nat.lt_succ_self _)
  have J_31 : ∀ (x3_31 : Int32) (x4_31 : Int32) (x5_31 : Int64) (x7_31 : Option Value) (x8_31 : Option Value) (M2 : Nat → Nat → Int32) (N2 : Nat → Nat → Int64), zK P S.2.1 M2 → Zw p l e { frames := 7, cells := 0, slots := 0, locals := 80 * 7 } s m args below meth c G b 9 (MQ below (zQ G b FQ) args s 0 0 (fun q : Nat => b ≤ q)) 0 0 31 [some (.ref (Q)), some (.ref (A)), some (.int 4), some (.int x3_31), some (.int x4_31), some (.long x5_31), none, x7_31, x8_31] [] (S.1, M2, N2) := by
    intro x3_31 x4_31 x5_31 x7_31 x8_31 M2_31 N2_31 k_31
    refine a_vret X hr dX0_walk_31 ⟨by decide, by decide⟩ ?_
    subst hF
    exact ⟨_, _, rfl, (by (try dsimp only); repeat first | assumption | exact zK.rf | refine zK.zu ?_ (by omega) | refine zK.zu0 ?_ (by decide) | refine zK.zwr ?_ (by omega) | refine zK.zfil ?_ (by omega) | refine zK.zcpy ?_ (by omega) | refine zK.trans ?_ (by assumption) | dsimp only), rfl⟩
  refine a_iload_n X dX0_walk_0 rfl ?_
  refine a_if_ne (tgt := 20) X dX0_walk_1 (by decide) (fun h_1 => ?_) (fun h_1 => ?_)
  · refine a_iload_n X dX0_walk_20 rfl ?_
    refine a_bipush (v := 7) X dX0_walk_21 (by decide) ?_
    refine a_icmp_ge (tgt := 31) X dX0_walk_23 (by decide) (fun h_23 => ?_) (fun h_23 => ?_)
    · exact Zw.to2 (J_31 _ _ _ _ _ _ _ (by (try dsimp only); repeat first | assumption | exact zK.rf | refine zK.zu ?_ (by omega) | refine zK.zu0 ?_ (by decide) | refine zK.zwr ?_ (by omega) | refine zK.zfil ?_ (by omega) | refine zK.zcpy ?_ (by omega) | refine zK.trans ?_ (by assumption) | dsimp only) ) rfl rfl rfl
    · refine a_iload X dX0_walk_26 rfl ?_
      refine a_if_gt (tgt := 32) X dX0_walk_28 (by decide) (fun h_28 => ?_) (fun h_28 => ?_)
      · refine a_iconst (v := 0) X dX0_walk_32 (by decide) ?_
        refine a_istore X dX0_walk_33 (by decide) ?_
        exact Zw.to2 (H_35 _ _ _ _ _ _ _ (by (try dsimp only); repeat first | assumption | exact zK.rf | refine zK.zu ?_ (by omega) | refine zK.zu0 ?_ (by decide) | refine zK.zwr ?_ (by omega) | refine zK.zfil ?_ (by omega) | refine zK.zcpy ?_ (by omega) | refine zK.trans ?_ (by assumption) | dsimp only) (by first | assumption | exact Int32.not_le.mpr h_28)) rfl rfl rfl
      · exact Zw.to2 (J_31 _ _ _ _ _ _ _ (by (try dsimp only); repeat first | assumption | exact zK.rf | refine zK.zu ?_ (by omega) | refine zK.zu0 ?_ (by decide) | refine zK.zwr ?_ (by omega) | refine zK.zfil ?_ (by omega) | refine zK.zcpy ?_ (by omega) | refine zK.trans ?_ (by assumption) | dsimp only) ) rfl rfl rfl
  · refine a_aload_n X dX0_walk_4 rfl ?_
    refine a_getr X lf0_28 (by assumption) rfl (by omega) dX0_walk_5 ?_
    refine a_aload_n X dX0_walk_8 rfl ?_
    refine a_callVx X dX0_walk_9 miX5_settle lm0_55 (s_X5_settle (P := P) (by assumption) (by omega) (by assumption) (by omega)) (by assumption) rfl rfl rfl (Nat.le_of_ble_eq_true rfl) ⟨by decide, by decide, by decide, by decide⟩ (fun r_9 S_9 q_9 => ?_)
    obtain ⟨M_9, N_9, rfl, k_9, rfl⟩ := q_9
    refine a_aload_n X dX0_walk_12 rfl ?_
    refine a_aload_n X dX0_walk_13 rfl ?_
    refine a_lload X dX0_walk_14 rfl ?_
    refine a_callVx X dX0_walk_16 miX0_record lm0_59 (s_X0_record (P := P) (by assumption) (by omega) (by assumption) (by omega)) (by assumption) rfl rfl rfl (Nat.le_of_ble_eq_true rfl) ⟨by decide, by decide, by decide, by decide⟩ (fun r_16 S_16 q_16 => ?_)
    obtain ⟨M_16, N_16, rfl, k_16, rfl⟩ := q_16
    refine a_vret X hr dX0_walk_19 ⟨by decide, by decide⟩ ?_
    subst hF
    exact ⟨_, _, rfl, (by (try dsimp only); repeat first | assumption | exact zK.rf | refine zK.zu ?_ (by omega) | refine zK.zu0 ?_ (by decide) | refine zK.zwr ?_ (by omega) | refine zK.zfil ?_ (by omega) | refine zK.zcpy ?_ (by omega) | refine zK.trans ?_ (by assumption) | dsimp only), rfl⟩
set_option maxRecDepth 100000 in
theorem s_X0_walk_3 {l : Launch} {G : zG} {b : Nat} {S : zS} {P : Nat} {Q : Nat} {A : Nat} {v0 : Int32} {v1 : Int32} {v2 : Int64} (hQ : LX0 S.1 Q) (rQ : P < Q ∧ Q + 13 ≤ P + 200) (hA : LX2 S.1 A) (rA : P < A ∧ A + 13 ≤ P + 200) : zM l G b yX0_walk cX0_walk 9 none 8 0 0 [.ref Q, .ref A, .int 3, .int v0, .int v1, .long v2] S (fun r z => ∃ M' N', z = (S.1, M', N') ∧ zK P S.2.1 M' ∧ r = none) := by
  refine zM.of miX0_walk (Nat.le_of_ble_eq_true rfl) ?_
  intro p e s m args below meth c X hr hname
  generalize hF : ((fun r z => ∃ M' N', z = (S.1, M', N') ∧ zK P S.2.1 M' ∧ r = none) : Option Value → zS → Prop) = FQ
  change Zw p l e { frames := 8, cells := 0, slots := 0, locals := 80 * 8 } s m args below meth c G b 9 (MQ below (zQ G b FQ) args s 0 0 (fun q : Nat => b ≤ q)) 0 0 0 [some (.ref Q), some (.ref A), some (.int 3), some (.int v0), some (.int v1), some (.long v2), none, none, none] [] S
  obtain ⟨q_lt, q_o, q_sets, q_seen, q_atUnit, q_early, q_result⟩ := id hQ
  obtain ⟨q_result_lt, q_result_o, q_result_line, q_result_unitOf, q_result_roundOf, q_result_leftTags, q_result_leftGuests, q_result_leftPreferred, q_result_ranked⟩ := id q_result
  obtain ⟨a_lt, a_o, a_quota, a_preferred, a_forGuests, a_applicantOf, a_size, a_guestCount, a_score, a_tickets, a_bits, a_party, a_wishCount, a_wishes⟩ := id hA
  have L_35 : ∀ u : Nat, ∀ (x3_35 : Int32) (x4_35 : Int32) (x5_35 : Int64) (x7_35 : Int32) (x8_35 : Option Value) (M2 : Nat → Nat → Int32) (N2 : Nat → Nat → Int64), zK P S.2.1 M2 → (¬ x4_35 ≤ 0) → (2147483648 - x7_35.toInt).toNat < u → Zw p l e { frames := 8, cells := 0, slots := 0, locals := 80 * 8 } s m args below meth c G b 9 (MQ below (zQ G b FQ) args s 0 0 (fun q : Nat => b ≤ q)) 0 0 35 [some (.ref (Q)), some (.ref (A)), some (.int 3), some (.int x3_35), some (.int x4_35), some (.long x5_35), none, some (.int x7_35), x8_35] [] (S.1, M2, N2) := by
    intro u
    induction u with
    | zero => intro x3_35 x4_35 x5_35 x7_35 x8_35 M2_35 N2_35 k_35 f0_35 hm_35; exact absurd hm_35 (Nat.not_lt_zero _)
    | succ u_35 ih_35 =>
      intro x3_35 x4_35 x5_35 x7_35 x8_35 M2_35 N2_35 k_35 f0_35 hm_35
      have J_109 : ∀ (x3_109 : Int32) (x4_109 : Int32) (x5_109 : Int64) (x7_109 : Int32) (x8_109 : Option Value) (M2 : Nat → Nat → Int32) (N2 : Nat → Nat → Int64), zK P S.2.1 M2 → ((2147483648 - x7_109.toInt).toNat < u_35 + 1) → (x7_109.toInt < 2147483647) → (¬ x4_109 ≤ 0) → Zw p l e { frames := 8, cells := 0, slots := 0, locals := 80 * 8 } s m args below meth c G b 9 (MQ below (zQ G b FQ) args s 0 0 (fun q : Nat => b ≤ q)) 0 0 109 [some (.ref (Q)), some (.ref (A)), some (.int 3), some (.int x3_109), some (.int x4_109), some (.long x5_109), none, some (.int x7_109), x8_109] [] (S.1, M2, N2) := by
        intro x3_109 x4_109 x5_109 x7_109 x8_109 M2_109 N2_109 k_109 f0_109 f1_109 f2_109
        refine a_iinc X dX0_walk_109 (by decide) rfl rfl ?_
        refine a_goto (tgt := 35) X dX0_walk_112 (by decide) ?_
        exact Zw.to2 (ih_35 _ _ _ _ _ _ _ (by (try dsimp only); repeat first | assumption | exact zK.rf | refine zK.zu ?_ (by omega) | refine zK.zu0 ?_ (by decide) | refine zK.zwr ?_ (by omega) | refine zK.zfil ?_ (by omega) | refine zK.zcpy ?_ (by omega) | refine zK.trans ?_ (by assumption) | dsimp only) (by first | assumption | exact Int32.not_le.mpr h_28) (z_up f1_109 f0_109)) rfl rfl rfl
      refine a_iload X dX0_walk_35 rfl ?_
      refine a_aload_n X dX0_walk_37 rfl ?_
      refine a_geti X lf0_40 (by assumption) rfl dX0_walk_38 ?_
      refine a_icmp_ge (tgt := 115) X dX0_walk_41 (by decide) (fun h_41 => ?_) (fun h_41 => ?_)
      · refine a_vret X hr dX0_walk_115 ⟨by decide, by decide⟩ ?_
        subst hF
        exact ⟨_, _, rfl, (by (try dsimp only); repeat first | assumption | exact zK.rf | refine zK.zu ?_ (by omega) | refine zK.zu0 ?_ (by decide) | refine zK.zwr ?_ (by omega) | refine zK.zfil ?_ (by omega) | refine zK.zcpy ?_ (by omega) | refine zK.trans ?_ (by assumption) | dsimp only), rfl⟩
      · refine a_iload_n X dX0_walk_44 rfl ?_
        refine a_iload X dX0_walk_45 rfl ?_
        refine a_ishr X dX0_walk_47 ?_
        refine a_iconst (v := 1) X dX0_walk_48 (by decide) ?_
        refine a_iand X dX0_walk_49 ?_
        refine a_iconst (v := 1) X dX0_walk_50 (by decide) ?_
        refine a_icmp_ne (tgt := 109) X dX0_walk_51 (by decide) (fun h_51 => ?_) (fun h_51 => ?_)
        · exact Zw.to2 (J_109 _ _ _ _ _ _ _ (by (try dsimp only); repeat first | assumption | exact zK.rf | refine zK.zu ?_ (by omega) | refine zK.zu0 ?_ (by decide) | refine zK.zwr ?_ (by omega) | refine zK.zfil ?_ (by omega) | refine zK.zcpy ?_ (by omega) | refine zK.trans ?_ (by assumption) | dsimp only) hm_35 (by first | assumption | exact z_lt (by assumption) | exact z_lt2 (by assumption) | exact z_lt3 (by assumption) (by decide)) (by first | assumption | exact Int32.not_le.mpr h_28)) rfl rfl rfl
        · refine a_aload_n X dX0_walk_54 rfl ?_
          refine a_getr X lf0_63 (by assumption) rfl (by omega) dX0_walk_55 ?_
          refine a_iload X dX0_walk_58 rfl ?_
          refine a_callSNv X dX0_walk_60 miX7_cell lm0_66 (c_cell (by assumption) (by first | decide | assumption)) rfl rfl (Nat.le_of_ble_eq_true rfl) ⟨by decide, by decide, by decide, by decide⟩ ?_
          refine a_istore X dX0_walk_63 (by decide) ?_
          refine a_aload_n X dX0_walk_65 rfl ?_
          refine a_getr X lf0_28 (by assumption) rfl (by omega) dX0_walk_66 ?_
          refine a_getr X lf0_70 (by assumption) rfl (by omega) dX0_walk_69 ?_
          refine a_iload_n X dX0_walk_72 rfl ?_
          refine a_iload X dX0_walk_73 rfl ?_
          refine a_callSNx X dX0_walk_75 miX7_put lm0_73 (s_X7_put (P := P) (by assumption) (by first | decide | assumption) (by omega)) rfl rfl (Nat.le_of_ble_eq_true rfl) ⟨by decide, by decide, by decide, by decide⟩ (fun r_75 S_75 q_75 => ?_)
          obtain ⟨M_75, N_75, rfl, k_75, rfl⟩ := q_75
          refine a_aload_n X dX0_walk_78 rfl ?_
          refine a_aload_n X dX0_walk_79 rfl ?_
          refine a_iload_n X dX0_walk_80 rfl ?_
          refine a_iconst (v := 1) X dX0_walk_81 (by decide) ?_
          refine a_iadd X dX0_walk_82 ?_
          refine a_iload_n X dX0_walk_83 rfl ?_
          refine a_iconst (v := 1) X dX0_walk_84 (by decide) ?_
          refine a_iload X dX0_walk_85 rfl ?_
          refine a_ishl X dX0_walk_87 ?_
          refine a_iconst (v := -1) X dX0_walk_88 (by decide) ?_
          refine a_ixor X dX0_walk_89 ?_
          refine a_iand X dX0_walk_90 ?_
          refine a_iload X dX0_walk_91 rfl ?_
          refine a_iload X dX0_walk_93 rfl ?_
          refine a_isub X dX0_walk_95 ?_
          refine a_lload X dX0_walk_96 rfl ?_
          refine a_iload X dX0_walk_98 rfl ?_
          refine a_i2l X dX0_walk_100 ?_
          refine a_lmul X dX0_walk_101 ?_
          refine a_iload X dX0_walk_102 rfl ?_
          refine a_i2l X dX0_walk_104 ?_
          refine a_ldiv X dX0_walk_105 (by first | assumption | decide | exact z_nzl (by assumption)) ?_
          refine a_callSx X dX0_walk_106 miX0_walk lm0_51 (s_X0_walk_4 (P := P) (by assumption) (by omega) (by assumption) (by omega)) rfl rfl (Nat.le_of_ble_eq_true rfl) ⟨by decide, by decide, by decide, by decide⟩ (fun r_106 S_106 q_106 => ?_)
          obtain ⟨M_106, N_106, rfl, k_106, rfl⟩ := q_106
          exact Zw.to2 (J_109 _ _ _ _ _ _ _ (by (try dsimp only); repeat first | assumption | exact zK.rf | refine zK.zu ?_ (by omega) | refine zK.zu0 ?_ (by decide) | refine zK.zwr ?_ (by omega) | refine zK.zfil ?_ (by omega) | refine zK.zcpy ?_ (by omega) | refine zK.trans ?_ (by assumption) | dsimp only) hm_35 (by first | assumption | exact z_lt (by assumption) | exact z_lt2 (by assumption) | exact z_lt3 (by assumption) (by decide)) (by first | assumption | exact Int32.not_le.mpr h_28)) rfl rfl rfl
  have H_35 : ∀ (x3_35 : Int32) (x4_35 : Int32) (x5_35 : Int64) (x7_35 : Int32) (x8_35 : Option Value) (M2 : Nat → Nat → Int32) (N2 : Nat → Nat → Int64), zK P S.2.1 M2 → (¬ x4_35 ≤ 0) → Zw p l e { frames := 8, cells := 0, slots := 0, locals := 80 * 8 } s m args below meth c G b 9 (MQ below (zQ G b FQ) args s 0 0 (fun q : Nat => b ≤ q)) 0 0 35 [some (.ref (Q)), some (.ref (A)), some (.int 3), some (.int x3_35), some (.int x4_35), some (.long x5_35), none, some (.int x7_35), x8_35] [] (S.1, M2, N2) := fun x3_35 x4_35 x5_35 x7_35 x8_35 M2 N2 k f0 => L_35 _ x3_35 x4_35 x5_35 x7_35 x8_35 M2 N2 k f0 (Nat.lt_succ_self _)
  have J_31 : ∀ (x3_31 : Int32) (x4_31 : Int32) (x5_31 : Int64) (x7_31 : Option Value) (x8_31 : Option Value) (M2 : Nat → Nat → Int32) (N2 : Nat → Nat → Int64), zK P S.2.1 M2 → Zw p l e { frames := 8, cells := 0, slots := 0, locals := 80 * 8 } s m args below meth c G b 9 (MQ below (zQ G b FQ) args s 0 0 (fun q : Nat => b ≤ q)) 0 0 31 [some (.ref (Q)), some (.ref (A)), some (.int 3), some (.int x3_31), some (.int x4_31), some (.long x5_31), none, x7_31, x8_31] [] (S.1, M2, N2) := by
    intro x3_31 x4_31 x5_31 x7_31 x8_31 M2_31 N2_31 k_31
    refine a_vret X hr dX0_walk_31 ⟨by decide, by decide⟩ ?_
    subst hF
    exact ⟨_, _, rfl, (by (try dsimp only); repeat first | assumption | exact zK.rf | refine zK.zu ?_ (by omega) | refine zK.zu0 ?_ (by decide) | refine zK.zwr ?_ (by omega) | refine zK.zfil ?_ (by omega) | refine zK.zcpy ?_ (by omega) | refine zK.trans ?_ (by assumption) | dsimp only), rfl⟩
  refine a_iload_n X dX0_walk_0 rfl ?_
  refine a_if_ne (tgt := 20) X dX0_walk_1 (by decide) (fun h_1 => ?_) (fun h_1 => ?_)
  · refine a_iload_n X dX0_walk_20 rfl ?_
    refine a_bipush (v := 7) X dX0_walk_21 (by decide) ?_
    refine a_icmp_ge (tgt := 31) X dX0_walk_23 (by decide) (fun h_23 => ?_) (fun h_23 => ?_)
    · exact Zw.to2 (J_31 _ _ _ _ _ _ _ (by (try dsimp only); repeat first | assumption | exact zK.rf | refine zK.zu ?_ (by omega) | refine zK.zu0 ?_ (by decide) | refine zK.zwr ?_ (by omega) | refine zK.zfil ?_ (by omega) | refine zK.zcpy ?_ (by omega) | refine zK.trans ?_ (by assumption) | dsimp only) ) rfl rfl rfl
    · refine a_iload X dX0_walk_26 rfl ?_
      refine a_if_gt (tgt := 32) X dX0_walk_28 (by decide) (fun h_28 => ?_) (fun h_28 => ?_)
      · refine a_iconst (v := 0) X dX0_walk_32 (by decide) ?_
        refine a_istore X dX0_walk_33 (by decide) ?_
        exact Zw.to2 (H_35 _ _ _ _ _ _ _ (by (try dsimp only); repeat first | assumption | exact zK.rf | refine zK.zu ?_ (by omega) | refine zK.zu0 ?_ (by decide) | refine zK.zwr ?_ (by omega) | refine zK.zfil ?_ (by omega) | refine zK.zcpy ?_ (by omega) | refine zK.trans ?_ (by assumption) | dsimp only) (by first | assumption | exact Int32.not_le.mpr h_28)) rfl rfl rfl
      · exact Zw.to2 (J_31 _ _ _ _ _ _ _ (by (try dsimp only); repeat first | assumption | exact zK.rf | refine zK.zu ?_ (by omega) | refine zK.zu0 ?_ (by decide) | refine zK.zwr ?_ (by omega) | refine zK.zfil ?_ (by omega) | refine zK.zcpy ?_ (by omega) | refine zK.trans ?_ (by assumption) | dsimp only) ) rfl rfl rfl
  · refine a_aload_n X dX0_walk_4 rfl ?_
    refine a_getr X lf0_28 (by assumption) rfl (by omega) dX0_walk_5 ?_
    refine a_aload_n X dX0_walk_8 rfl ?_
    refine a_callVx X dX0_walk_9 miX5_settle lm0_55 (s_X5_settle (P := P) (by assumption) (by omega) (by assumption) (by omega)) (by assumption) rfl rfl rfl (Nat.le_of_ble_eq_true rfl) ⟨by decide, by decide, by decide, by decide⟩ (fun r_9 S_9 q_9 => ?_)
    obtain ⟨M_9, N_9, rfl, k_9, rfl⟩ := q_9
    refine a_aload_n X dX0_walk_12 rfl ?_
    refine a_aload_n X dX0_walk_13 rfl ?_
    refine a_lload X dX0_walk_14 rfl ?_
    refine a_callVx X dX0_walk_16 miX0_record lm0_59 (s_X0_record (P := P) (by assumption) (by omega) (by assumption) (by omega)) (by assumption) rfl rfl rfl (Nat.le_of_ble_eq_true rfl) ⟨by decide, by decide, by decide, by decide⟩ (fun r_16 S_16 q_16 => ?_)
    obtain ⟨M_16, N_16, rfl, k_16, rfl⟩ := q_16
    refine a_vret X hr dX0_walk_19 ⟨by decide, by decide⟩ ?_
    subst hF
    exact ⟨_, _, rfl, (by (try dsimp only); repeat first | assumption | exact zK.rf | refine zK.zu ?_ (by omega) | refine zK.zu0 ?_ (by decide) | refine zK.zwr ?_ (by omega) | refine zK.zfil ?_ (by omega) | refine zK.zcpy ?_ (by omega) | refine zK.trans ?_ (by assumption) | dsimp only), rfl⟩
set_option maxRecDepth 100000 in
theorem s_X0_walk_2 {l : Launch} {G : zG} {b : Nat} {S : zS} {P : Nat} {Q : Nat} {A : Nat} {v0 : Int32} {v1 : Int32} {v2 : Int64} (hQ : LX0 S.1 Q) (rQ : P < Q ∧ Q + 13 ≤ P + 200) (hA : LX2 S.1 A) (rA : P < A ∧ A + 13 ≤ P + 200) : zM l G b yX0_walk cX0_walk 9 none 9 0 0 [.ref Q, .ref A, .int 2, .int v0, .int v1, .long v2] S (fun r z => ∃ M' N', z = (S.1, M', N') ∧ zK P S.2.1 M' ∧ r = none) := by
  refine zM.of miX0_walk (Nat.le_of_ble_eq_true rfl) ?_
  intro p e s m args below meth c X hr hname
  generalize hF : ((fun r z => ∃ M' N', z = (S.1, M', N') ∧ zK P S.2.1 M' ∧ r = none) : Option Value → zS → Prop) = FQ
  change Zw p l e { frames := 9, cells := 0, slots := 0, locals := 80 * 9 } s m args below meth c G b 9 (MQ below (zQ G b FQ) args s 0 0 (fun q : Nat => b ≤ q)) 0 0 0 [some (.ref Q), some (.ref A), some (.int 2), some (.int v0), some (.int v1), some (.long v2), none, none, none] [] S
  obtain ⟨q_lt, q_o, q_sets, q_seen, q_atUnit, q_early, q_result⟩ := id hQ
  obtain ⟨q_result_lt, q_result_o, q_result_line, q_result_unitOf, q_result_roundOf, q_result_leftTags, q_result_leftGuests, q_result_leftPreferred, q_result_ranked⟩ := id q_result
  obtain ⟨a_lt, a_o, a_quota, a_preferred, a_forGuests, a_applicantOf, a_size, a_guestCount, a_score, a_tickets, a_bits, a_party, a_wishCount, a_wishes⟩ := id hA
  have L_35 : ∀ u : Nat, ∀ (x3_35 : Int32) (x4_35 : Int32) (x5_35 : Int64) (x7_35 : Int32) (x8_35 : Option Value) (M2 : Nat → Nat → Int32) (N2 : Nat → Nat → Int64), zK P S.2.1 M2 → (¬ x4_35 ≤ 0) → (2147483648 - x7_35.toInt).toNat < u → Zw p l e { frames := 9, cells := 0, slots := 0, locals := 80 * 9 } s m args below meth c G b 9 (MQ below (zQ G b FQ) args s 0 0 (fun q : Nat => b ≤ q)) 0 0 35 [some (.ref (Q)), some (.ref (A)), some (.int 2), some (.int x3_35), some (.int x4_35), some (.long x5_35), none, some (.int x7_35), x8_35] [] (S.1, M2, N2) := by
    intro u
    induction u with
    | zero => intro x3_35 x4_35 x5_35 x7_35 x8_35 M2_35 N2_35 k_35 f0_35 hm_35; exact absurd hm_35 (Nat.not_lt_zero _)
    | succ u_35 ih_35 =>
      intro x3_35 x4_35 x5_35 x7_35 x8_35 M2_35 N2_35 k_35 f0_35 hm_35
      have J_109 : ∀ (x3_109 : Int32) (x4_109 : Int32) (x5_109 : Int64) (x7_109 : Int32) (x8_109 : Option Value) (M2 : Nat → Nat → Int32) (N2 : Nat → Nat → Int64), zK P S.2.1 M2 → ((2147483648 - x7_109.toInt).toNat < u_35 + 1) → (x7_109.toInt < 2147483647) → (¬ x4_109 ≤ 0) → Zw p l e { frames := 9, cells := 0, slots := 0, locals := 80 * 9 } s m args below meth c G b 9 (MQ below (zQ G b FQ) args s 0 0 (fun q : Nat => b ≤ q)) 0 0 109 [some (.ref (Q)), some (.ref (A)), some (.int 2), some (.int x3_109), some (.int x4_109), some (.long x5_109), none, some (.int x7_109), x8_109] [] (S.1, M2, N2) := by
        intro x3_109 x4_109 x5_109 x7_109 x8_109 M2_109 N2_109 k_109 f0_109 f1_109 f2_109
        refine a_iinc X dX0_walk_109 (by decide) rfl rfl ?_
        refine a_goto (tgt := 35) X dX0_walk_112 (by decide) ?_
        exact Zw.to2 (ih_35 _ _ _ _ _ _ _ (by (try dsimp only); repeat first | assumption | exact zK.rf | refine zK.zu ?_ (by omega) | refine zK.zu0 ?_ (by decide) | refine zK.zwr ?_ (by omega) | refine zK.zfil ?_ (by omega) | refine zK.zcpy ?_ (by omega) | refine zK.trans ?_ (by assumption) | dsimp only) (by first | assumption | exact Int32.not_le.mpr h_28) (z_up f1_109 f0_109)) rfl rfl rfl
      refine a_iload X dX0_walk_35 rfl ?_
      refine a_aload_n X dX0_walk_37 rfl ?_
      refine a_geti X lf0_40 (by assumption) rfl dX0_walk_38 ?_
      refine a_icmp_ge (tgt := 115) X dX0_walk_41 (by decide) (fun h_41 => ?_) (fun h_41 => ?_)
      · refine a_vret X hr dX0_walk_115 ⟨by decide, by decide⟩ ?_
        subst hF
        exact ⟨_, _, rfl, (by (try dsimp only); repeat first | assumption | exact zK.rf | refine zK.zu ?_ (by omega) | refine zK.zu0 ?_ (by decide) | refine zK.zwr ?_ (by omega) | refine zK.zfil ?_ (by omega) | refine zK.zcpy ?_ (by omega) | refine zK.trans ?_ (by assumption) | dsimp only), rfl⟩
      · refine a_iload_n X dX0_walk_44 rfl ?_
        refine a_iload X dX0_walk_45 rfl ?_
        refine a_ishr X dX0_walk_47 ?_
        refine a_iconst (v := 1) X dX0_walk_48 (by decide) ?_
        refine a_iand X dX0_walk_49 ?_
        refine a_iconst (v := 1) X dX0_walk_50 (by decide) ?_
        refine a_icmp_ne (tgt := 109) X dX0_walk_51 (by decide) (fun h_51 => ?_) (fun h_51 => ?_)
        · exact Zw.to2 (J_109 _ _ _ _ _ _ _ (by (try dsimp only); repeat first | assumption | exact zK.rf | refine zK.zu ?_ (by omega) | refine zK.zu0 ?_ (by decide) | refine zK.zwr ?_ (by omega) | refine zK.zfil ?_ (by omega) | refine zK.zcpy ?_ (by omega) | refine zK.trans ?_ (by assumption) | dsimp only) hm_35 (by first | assumption | exact z_lt (by assumption) | exact z_lt2 (by assumption) | exact z_lt3 (by assumption) (by decide)) (by first | assumption | exact Int32.not_le.mpr h_28)) rfl rfl rfl
        · refine a_aload_n X dX0_walk_54 rfl ?_
          refine a_getr X lf0_63 (by assumption) rfl (by omega) dX0_walk_55 ?_
          refine a_iload X dX0_walk_58 rfl ?_
          refine a_callSNv X dX0_walk_60 miX7_cell lm0_66 (c_cell (by assumption) (by first | decide | assumption)) rfl rfl (Nat.le_of_ble_eq_true rfl) ⟨by decide, by decide, by decide, by decide⟩ ?_
          refine a_istore X dX0_walk_63 (by decide) ?_
          refine a_aload_n X dX0_walk_65 rfl ?_
          refine a_getr X lf0_28 (by assumption) rfl (by omega) dX0_walk_66 ?_
          refine a_getr X lf0_70 (by assumption) rfl (by omega) dX0_walk_69 ?_
          refine a_iload_n X dX0_walk_72 rfl ?_
          refine a_iload X dX0_walk_73 rfl ?_
          refine a_callSNx X dX0_walk_75 miX7_put lm0_73 (s_X7_put (P := P) (by assumption) (by first | decide | assumption) (by omega)) rfl rfl (Nat.le_of_ble_eq_true rfl) ⟨by decide, by decide, by decide, by decide⟩ (fun r_75 S_75 q_75 => ?_)
          obtain ⟨M_75, N_75, rfl, k_75, rfl⟩ := q_75
          refine a_aload_n X dX0_walk_78 rfl ?_
          refine a_aload_n X dX0_walk_79 rfl ?_
          refine a_iload_n X dX0_walk_80 rfl ?_
          refine a_iconst (v := 1) X dX0_walk_81 (by decide) ?_
          refine a_iadd X dX0_walk_82 ?_
          refine a_iload_n X dX0_walk_83 rfl ?_
          refine a_iconst (v := 1) X dX0_walk_84 (by decide) ?_
          refine a_iload X dX0_walk_85 rfl ?_
          refine a_ishl X dX0_walk_87 ?_
          refine a_iconst (v := -1) X dX0_walk_88 (by decide) ?_
          refine a_ixor X dX0_walk_89 ?_
          refine a_iand X dX0_walk_90 ?_
          refine a_iload X dX0_walk_91 rfl ?_
          refine a_iload X dX0_walk_93 rfl ?_
          refine a_isub X dX0_walk_95 ?_
          refine a_lload X dX0_walk_96 rfl ?_
          refine a_iload X dX0_walk_98 rfl ?_
          refine a_i2l X dX0_walk_100 ?_
          refine a_lmul X dX0_walk_101 ?_
          refine a_iload X dX0_walk_102 rfl ?_
          refine a_i2l X dX0_walk_104 ?_
          refine a_ldiv X dX0_walk_105 (by first | assumption | decide | exact z_nzl (by assumption)) ?_
          refine a_callSx X dX0_walk_106 miX0_walk lm0_51 (s_X0_walk_3 (P := P) (by assumption) (by omega) (by assumption) (by omega)) rfl rfl (Nat.le_of_ble_eq_true rfl) ⟨by decide, by decide, by decide, by decide⟩ (fun r_106 S_106 q_106 => ?_)
          obtain ⟨M_106, N_106, rfl, k_106, rfl⟩ := q_106
          exact Zw.to2 (J_109 _ _ _ _ _ _ _ (by (try dsimp only); repeat first | assumption | exact zK.rf | refine zK.zu ?_ (by omega) | refine zK.zu0 ?_ (by decide) | refine zK.zwr ?_ (by omega) | refine zK.zfil ?_ (by omega) | refine zK.zcpy ?_ (by omega) | refine zK.trans ?_ (by assumption) | dsimp only) hm_35 (by first | assumption | exact z_lt (by assumption) | exact z_lt2 (by assumption) | exact z_lt3 (by assumption) (by decide)) (by first | assumption | exact Int32.not_le.mpr h_28)) rfl rfl rfl
  have H_35 : ∀ (x3_35 : Int32) (x4_35 : Int32) (x5_35 : Int64) (x7_35 : Int32) (x8_35 : Option Value) (M2 : Nat → Nat → Int32) (N2 : Nat → Nat → Int64), zK P S.2.1 M2 → (¬ x4_35 ≤ 0) → Zw p l e { frames := 9, cells := 0, slots := 0, locals := 80 * 9 } s m args below meth c G b 9 (MQ below (zQ G b FQ) args s 0 0 (fun q : Nat => b ≤ q)) 0 0 35 [some (.ref (Q)), some (.ref (A)), some (.int 2), some (.int x3_35), some (.int x4_35), some (.long x5_35), none, some (.int x7_35), x8_35] [] (S.1, M2, N2) := fun x3_35 x4_35 x5_35 x7_35 x8_35 M2 N2 k f0 => L_35 _ x3_35 x4_35 x5_35 x7_35 x8_35 M2 N2 k f0 (Nat.lt_succ_self _)
  have J_31 : ∀ (x3_31 : Int32) (x4_31 : Int32) (x5_31 : Int64) (x7_31 : Option Value) (x8_31 : Option Value) (M2 : Nat → Nat → Int32) (N2 : Nat → Nat → Int64), zK P S.2.1 M2 → Zw p l e { frames := 9, cells := 0, slots := 0, locals := 80 * 9 } s m args below meth c G b 9 (MQ below (zQ G b FQ) args s 0 0 (fun q : Nat => b ≤ q)) 0 0 31 [some (.ref (Q)), some (.ref (A)), some (.int 2), some (.int x3_31), some (.int x4_31), some (.long x5_31), none, x7_31, x8_31] [] (S.1, M2, N2) := by
    intro x3_31 x4_31 x5_31 x7_31 x8_31 M2_31 N2_31 k_31
    refine a_vret X hr dX0_walk_31 ⟨by decide, by decide⟩ ?_
    subst hF
    exact ⟨_, _, rfl, (by (try dsimp only); repeat first | assumption | exact zK.rf | refine zK.zu ?_ (by omega) | refine zK.zu0 ?_ (by decide) | refine zK.zwr ?_ (by omega) | refine zK.zfil ?_ (by omega) | refine zK.zcpy ?_ (by omega) | refine zK.trans ?_ (by assumption) | dsimp only), rfl⟩
  refine a_iload_n X dX0_walk_0 rfl ?_
  refine a_if_ne (tgt := 20) X dX0_walk_1 (by decide) (fun h_1 => ?_) (fun h_1 => ?_)
  · refine a_iload_n X dX0_walk_20 rfl ?_
    refine a_bipush (v := 7) X dX0_walk_21 (by decide) ?_
    refine a_icmp_ge (tgt := 31) X dX0_walk_23 (by decide) (fun h_23 => ?_) (fun h_23 => ?_)
    · exact Zw.to2 (J_31 _ _ _ _ _ _ _ (by (try dsimp only); repeat first | assumption | exact zK.rf | refine zK.zu ?_ (by omega) | refine zK.zu0 ?_ (by decide) | refine zK.zwr ?_ (by omega) | refine zK.zfil ?_ (by omega) | refine zK.zcpy ?_ (by omega) | refine zK.trans ?_ (by assumption) | dsimp only) ) rfl rfl rfl
    · refine a_iload X dX0_walk_26 rfl ?_
      refine a_if_gt (tgt := 32) X dX0_walk_28 (by decide) (fun h_28 => ?_) (fun h_28 => ?_)
      · refine a_iconst (v := 0) X dX0_walk_32 (by decide) ?_
        refine a_istore X dX0_walk_33 (by decide) ?_
        exact Zw.to2 (H_35 _ _ _ _ _ _ _ (by (try dsimp only); repeat first | assumption | exact zK.rf | refine zK.zu ?_ (by omega) | refine zK.zu0 ?_ (by decide) | refine zK.zwr ?_ (by omega) | refine zK.zfil ?_ (by omega) | refine zK.zcpy ?_ (by omega) | refine zK.trans ?_ (by assumption) | dsimp only) (by first | assumption | exact Int32.not_le.mpr h_28)) rfl rfl rfl
      · exact Zw.to2 (J_31 _ _ _ _ _ _ _ (by (try dsimp only); repeat first | assumption | exact zK.rf | refine zK.zu ?_ (by omega) | refine zK.zu0 ?_ (by decide) | refine zK.zwr ?_ (by omega) | refine zK.zfil ?_ (by omega) | refine zK.zcpy ?_ (by omega) | refine zK.trans ?_ (by assumption) | dsimp only) ) rfl rfl rfl
  · refine a_aload_n X dX0_walk_4 rfl ?_
    refine a_getr X lf0_28 (by assumption) rfl (by omega) dX0_walk_5 ?_
    refine a_aload_n X dX0_walk_8 rfl ?_
    refine a_callVx X dX0_walk_9 miX5_settle lm0_55 (s_X5_settle (P := P) (by assumption) (by omega) (by assumption) (by omega)) (by assumption) rfl rfl rfl (Nat.le_of_ble_eq_true rfl) ⟨by decide, by decide, by decide, by decide⟩ (fun r_9 S_9 q_9 => ?_)
    obtain ⟨M_9, N_9, rfl, k_9, rfl⟩ := q_9
    refine a_aload_n X dX0_walk_12 rfl ?_
    refine a_aload_n X dX0_walk_13 rfl ?_
    refine a_lload X dX0_walk_14 rfl ?_
    refine a_callVx X dX0_walk_16 miX0_record lm0_59 (s_X0_record (P := P) (by assumption) (by omega) (by assumption) (by omega)) (by assumption) rfl rfl rfl (Nat.le_of_ble_eq_true rfl) ⟨by decide, by decide, by decide, by decide⟩ (fun r_16 S_16 q_16 => ?_)
    obtain ⟨M_16, N_16, rfl, k_16, rfl⟩ := q_16
    refine a_vret X hr dX0_walk_19 ⟨by decide, by decide⟩ ?_
    subst hF
    exact ⟨_, _, rfl, (by (try dsimp only); repeat first | assumption | exact zK.rf | refine zK.zu ?_ (by omega) | refine zK.zu0 ?_ (by decide) | refine zK.zwr ?_ (by omega) | refine zK.zfil ?_ (by omega) | refine zK.zcpy ?_ (by omega) | refine zK.trans ?_ (by assumption) | dsimp only), rfl⟩
set_option maxRecDepth 100000 in
theorem s_X0_walk_1 {l : Launch} {G : zG} {b : Nat} {S : zS} {P : Nat} {Q : Nat} {A : Nat} {v0 : Int32} {v1 : Int32} {v2 : Int64} (hQ : LX0 S.1 Q) (rQ : P < Q ∧ Q + 13 ≤ P + 200) (hA : LX2 S.1 A) (rA : P < A ∧ A + 13 ≤ P + 200) : zM l G b yX0_walk cX0_walk 9 none 10 0 0 [.ref Q, .ref A, .int 1, .int v0, .int v1, .long v2] S (fun r z => ∃ M' N', z = (S.1, M', N') ∧ zK P S.2.1 M' ∧ r = none) := by
  refine zM.of miX0_walk (Nat.le_of_ble_eq_true rfl) ?_
  intro p e s m args below meth c X hr hname
  generalize hF : ((fun r z => ∃ M' N', z = (S.1, M', N') ∧ zK P S.2.1 M' ∧ r = none) : Option Value → zS → Prop) = FQ
  change Zw p l e { frames := 10, cells := 0, slots := 0, locals := 80 * 10 } s m args below meth c G b 9 (MQ below (zQ G b FQ) args s 0 0 (fun q : Nat => b ≤ q)) 0 0 0 [some (.ref Q), some (.ref A), some (.int 1), some (.int v0), some (.int v1), some (.long v2), none, none, none] [] S
  obtain ⟨q_lt, q_o, q_sets, q_seen, q_atUnit, q_early, q_result⟩ := id hQ
  obtain ⟨q_result_lt, q_result_o, q_result_line, q_result_unitOf, q_result_roundOf, q_result_leftTags, q_result_leftGuests, q_result_leftPreferred, q_result_ranked⟩ := id q_result
  obtain ⟨a_lt, a_o, a_quota, a_preferred, a_forGuests, a_applicantOf, a_size, a_guestCount, a_score, a_tickets, a_bits, a_party, a_wishCount, a_wishes⟩ := id hA
  have L_35 : ∀ u : Nat, ∀ (x3_35 : Int32) (x4_35 : Int32) (x5_35 : Int64) (x7_35 : Int32) (x8_35 : Option Value) (M2 : Nat → Nat → Int32) (N2 : Nat → Nat → Int64), zK P S.2.1 M2 → (¬ x4_35 ≤ 0) → (2147483648 - x7_35.toInt).toNat < u → Zw p l e { frames := 10, cells := 0, slots := 0, locals := 80 * 10 } s m args below meth c G b 9 (MQ below (zQ G b FQ) args s 0 0 (fun q : Nat => b ≤ q)) 0 0 35 [some (.ref (Q)), some (.ref (A)), some (.int 1), some (.int x3_35), some (.int x4_35), some (.long x5_35), none, some (.int x7_35), x8_35] [] (S.1, M2, N2) := by
    intro u
    induction u with
    | zero => intro x3_35 x4_35 x5_35 x7_35 x8_35 M2_35 N2_35 k_35 f0_35 hm_35; exact absurd hm_35 (Nat.not_lt_zero _)
    | succ u_35 ih_35 =>
      intro x3_35 x4_35 x5_35 x7_35 x8_35 M2_35 N2_35 k_35 f0_35 hm_35
      have J_109 : ∀ (x3_109 : Int32) (x4_109 : Int32) (x5_109 : Int64) (x7_109 : Int32) (x8_109 : Option Value) (M2 : Nat → Nat → Int32) (N2 : Nat → Nat → Int64), zK P S.2.1 M2 → ((2147483648 - x7_109.toInt).toNat < u_35 + 1) → (x7_109.toInt < 2147483647) → (¬ x4_109 ≤ 0) → Zw p l e { frames := 10, cells := 0, slots := 0, locals := 80 * 10 } s m args below meth c G b 9 (MQ below (zQ G b FQ) args s 0 0 (fun q : Nat => b ≤ q)) 0 0 109 [some (.ref (Q)), some (.ref (A)), some (.int 1), some (.int x3_109), some (.int x4_109), some (.long x5_109), none, some (.int x7_109), x8_109] [] (S.1, M2, N2) := by
        intro x3_109 x4_109 x5_109 x7_109 x8_109 M2_109 N2_109 k_109 f0_109 f1_109 f2_109
        refine a_iinc X dX0_walk_109 (by decide) rfl rfl ?_
        refine a_goto (tgt := 35) X dX0_walk_112 (by decide) ?_
        exact Zw.to2 (ih_35 _ _ _ _ _ _ _ (by (try dsimp only); repeat first | assumption | exact zK.rf | refine zK.zu ?_ (by omega) | refine zK.zu0 ?_ (by decide) | refine zK.zwr ?_ (by omega) | refine zK.zfil ?_ (by omega) | refine zK.zcpy ?_ (by omega) | refine zK.trans ?_ (by assumption) | dsimp only) (by first | assumption | exact Int32.not_le.mpr h_28) (z_up f1_109 f0_109)) rfl rfl rfl
      refine a_iload X dX0_walk_35 rfl ?_
      refine a_aload_n X dX0_walk_37 rfl ?_
      refine a_geti X lf0_40 (by assumption) rfl dX0_walk_38 ?_
      refine a_icmp_ge (tgt := 115) X dX0_walk_41 (by decide) (fun h_41 => ?_) (fun h_41 => ?_)
      · refine a_vret X hr dX0_walk_115 ⟨by decide, by decide⟩ ?_
        subst hF
        exact ⟨_, _, rfl, (by (try dsimp only); repeat first | assumption | exact zK.rf | refine zK.zu ?_ (by omega) | refine zK.zu0 ?_ (by decide) | refine zK.zwr ?_ (by omega) | refine zK.zfil ?_ (by omega) | refine zK.zcpy ?_ (by omega) | refine zK.trans ?_ (by assumption) | dsimp only), rfl⟩
      · refine a_iload_n X dX0_walk_44 rfl ?_
        refine a_iload X dX0_walk_45 rfl ?_
        refine a_ishr X dX0_walk_47 ?_
        refine a_iconst (v := 1) X dX0_walk_48 (by decide) ?_
        refine a_iand X dX0_walk_49 ?_
        refine a_iconst (v := 1) X dX0_walk_50 (by decide) ?_
        refine a_icmp_ne (tgt := 109) X dX0_walk_51 (by decide) (fun h_51 => ?_) (fun h_51 => ?_)
        · exact Zw.to2 (J_109 _ _ _ _ _ _ _ (by (try dsimp only); repeat first | assumption | exact zK.rf | refine zK.zu ?_ (by omega) | refine zK.zu0 ?_ (by decide) | refine zK.zwr ?_ (by omega) | refine zK.zfil ?_ (by omega) | refine zK.zcpy ?_ (by omega) | refine zK.trans ?_ (by assumption) | dsimp only) hm_35 (by first | assumption | exact z_lt (by assumption) | exact z_lt2 (by assumption) | exact z_lt3 (by assumption) (by decide)) (by first | assumption | exact Int32.not_le.mpr h_28)) rfl rfl rfl
        · refine a_aload_n X dX0_walk_54 rfl ?_
          refine a_getr X lf0_63 (by assumption) rfl (by omega) dX0_walk_55 ?_
          refine a_iload X dX0_walk_58 rfl ?_
          refine a_callSNv X dX0_walk_60 miX7_cell lm0_66 (c_cell (by assumption) (by first | decide | assumption)) rfl rfl (Nat.le_of_ble_eq_true rfl) ⟨by decide, by decide, by decide, by decide⟩ ?_
          refine a_istore X dX0_walk_63 (by decide) ?_
          refine a_aload_n X dX0_walk_65 rfl ?_
          refine a_getr X lf0_28 (by assumption) rfl (by omega) dX0_walk_66 ?_
          refine a_getr X lf0_70 (by assumption) rfl (by omega) dX0_walk_69 ?_
          refine a_iload_n X dX0_walk_72 rfl ?_
          refine a_iload X dX0_walk_73 rfl ?_
          refine a_callSNx X dX0_walk_75 miX7_put lm0_73 (s_X7_put (P := P) (by assumption) (by first | decide | assumption) (by omega)) rfl rfl (Nat.le_of_ble_eq_true rfl) ⟨by decide, by decide, by decide, by decide⟩ (fun r_75 S_75 q_75 => ?_)
          obtain ⟨M_75, N_75, rfl, k_75, rfl⟩ := q_75
          refine a_aload_n X dX0_walk_78 rfl ?_
          refine a_aload_n X dX0_walk_79 rfl ?_
          refine a_iload_n X dX0_walk_80 rfl ?_
          refine a_iconst (v := 1) X dX0_walk_81 (by decide) ?_
          refine a_iadd X dX0_walk_82 ?_
          refine a_iload_n X dX0_walk_83 rfl ?_
          refine a_iconst (v := 1) X dX0_walk_84 (by decide) ?_
          refine a_iload X dX0_walk_85 rfl ?_
          refine a_ishl X dX0_walk_87 ?_
          refine a_iconst (v := -1) X dX0_walk_88 (by decide) ?_
          refine a_ixor X dX0_walk_89 ?_
          refine a_iand X dX0_walk_90 ?_
          refine a_iload X dX0_walk_91 rfl ?_
          refine a_iload X dX0_walk_93 rfl ?_
          refine a_isub X dX0_walk_95 ?_
          refine a_lload X dX0_walk_96 rfl ?_
          refine a_iload X dX0_walk_98 rfl ?_
          refine a_i2l X dX0_walk_100 ?_
          refine a_lmul X dX0_walk_101 ?_
          refine a_iload X dX0_walk_102 rfl ?_
          refine a_i2l X dX0_walk_104 ?_
          refine a_ldiv X dX0_walk_105 (by first | assumption | decide | exact z_nzl (by assumption)) ?_
          refine a_callSx X dX0_walk_106 miX0_walk lm0_51 (s_X0_walk_2 (P := P) (by assumption) (by omega) (by assumption) (by omega)) rfl rfl (Nat.le_of_ble_eq_true rfl) ⟨by decide, by decide, by decide, by decide⟩ (fun r_106 S_106 q_106 => ?_)
          obtain ⟨M_106, N_106, rfl, k_106, rfl⟩ := q_106
          exact Zw.to2 (J_109 _ _ _ _ _ _ _ (by (try dsimp only); repeat first | assumption | exact zK.rf | refine zK.zu ?_ (by omega) | refine zK.zu0 ?_ (by decide) | refine zK.zwr ?_ (by omega) | refine zK.zfil ?_ (by omega) | refine zK.zcpy ?_ (by omega) | refine zK.trans ?_ (by assumption) | dsimp only) hm_35 (by first | assumption | exact z_lt (by assumption) | exact z_lt2 (by assumption) | exact z_lt3 (by assumption) (by decide)) (by first | assumption | exact Int32.not_le.mpr h_28)) rfl rfl rfl
  have H_35 : ∀ (x3_35 : Int32) (x4_35 : Int32) (x5_35 : Int64) (x7_35 : Int32) (x8_35 : Option Value) (M2 : Nat → Nat → Int32) (N2 : Nat → Nat → Int64), zK P S.2.1 M2 → (¬ x4_35 ≤ 0) → Zw p l e { frames := 10, cells := 0, slots := 0, locals := 80 * 10 } s m args below meth c G b 9 (MQ below (zQ G b FQ) args s 0 0 (fun q : Nat => b ≤ q)) 0 0 35 [some (.ref (Q)), some (.ref (A)), some (.int 1), some (.int x3_35), some (.int x4_35), some (.long x5_35), none, some (.int x7_35), x8_35] [] (S.1, M2, N2) := fun x3_35 x4_35 x5_35 x7_35 x8_35 M2 N2 k f0 => L_35 _ x3_35 x4_35 x5_35 x7_35 x8_35 M2 N2 k f0 (Nat.lt_succ_self _)
  have J_31 : ∀ (x3_31 : Int32) (x4_31 : Int32) (x5_31 : Int64) (x7_31 : Option Value) (x8_31 : Option Value) (M2 : Nat → Nat → Int32) (N2 : Nat → Nat → Int64), zK P S.2.1 M2 → Zw p l e { frames := 10, cells := 0, slots := 0, locals := 80 * 10 } s m args below meth c G b 9 (MQ below (zQ G b FQ) args s 0 0 (fun q : Nat => b ≤ q)) 0 0 31 [some (.ref (Q)), some (.ref (A)), some (.int 1), some (.int x3_31), some (.int x4_31), some (.long x5_31), none, x7_31, x8_31] [] (S.1, M2, N2) := by
    intro x3_31 x4_31 x5_31 x7_31 x8_31 M2_31 N2_31 k_31
    refine a_vret X hr dX0_walk_31 ⟨by decide, by decide⟩ ?_
    subst hF
    exact ⟨_, _, rfl, (by (try dsimp only); repeat first | assumption | exact zK.rf | refine zK.zu ?_ (by omega) | refine zK.zu0 ?_ (by decide) | refine zK.zwr ?_ (by omega) | refine zK.zfil ?_ (by omega) | refine zK.zcpy ?_ (by omega) | refine zK.trans ?_ (by assumption) | dsimp only), rfl⟩
  refine a_iload_n X dX0_walk_0 rfl ?_
  refine a_if_ne (tgt := 20) X dX0_walk_1 (by decide) (fun h_1 => ?_) (fun h_1 => ?_)
  · refine a_iload_n X dX0_walk_20 rfl ?_
    refine a_bipush (v := 7) X dX0_walk_21 (by decide) ?_
    refine a_icmp_ge (tgt := 31) X dX0_walk_23 (by decide) (fun h_23 => ?_) (fun h_23 => ?_)
    · exact Zw.to2 (J_31 _ _ _ _ _ _ _ (by (try dsimp only); repeat first | assumption | exact zK.rf | refine zK.zu ?_ (by omega) | refine zK.zu0 ?_ (by decide) | refine zK.zwr ?_ (by omega) | refine zK.zfil ?_ (by omega) | refine zK.zcpy ?_ (by omega) | refine zK.trans ?_ (by assumption) | dsimp only) ) rfl rfl rfl
    · refine a_iload X dX0_walk_26 rfl ?_
      refine a_if_gt (tgt := 32) X dX0_walk_28 (by decide) (fun h_28 => ?_) (fun h_28 => ?_)
      · refine a_iconst (v := 0) X dX0_walk_32 (by decide) ?_
        refine a_istore X dX0_walk_33 (by decide) ?_
        exact Zw.to2 (H_35 _ _ _ _ _ _ _ (by (try dsimp only); repeat first | assumption | exact zK.rf | refine zK.zu ?_ (by omega) | refine zK.zu0 ?_ (by decide) | refine zK.zwr ?_ (by omega) | refine zK.zfil ?_ (by omega) | refine zK.zcpy ?_ (by omega) | refine zK.trans ?_ (by assumption) | dsimp only) (by first | assumption | exact Int32.not_le.mpr h_28)) rfl rfl rfl
      · exact Zw.to2 (J_31 _ _ _ _ _ _ _ (by (try dsimp only); repeat first | assumption | exact zK.rf | refine zK.zu ?_ (by omega) | refine zK.zu0 ?_ (by decide) | refine zK.zwr ?_ (by omega) | refine zK.zfil ?_ (by omega) | refine zK.zcpy ?_ (by omega) | refine zK.trans ?_ (by assumption) | dsimp only) ) rfl rfl rfl
  · refine a_aload_n X dX0_walk_4 rfl ?_
    refine a_getr X lf0_28 (by assumption) rfl (by omega) dX0_walk_5 ?_
    refine a_aload_n X dX0_walk_8 rfl ?_
    refine a_callVx X dX0_walk_9 miX5_settle lm0_55 (s_X5_settle (P := P) (by assumption) (by omega) (by assumption) (by omega)) (by assumption) rfl rfl rfl (Nat.le_of_ble_eq_true rfl) ⟨by decide, by decide, by decide, by decide⟩ (fun r_9 S_9 q_9 => ?_)
    obtain ⟨M_9, N_9, rfl, k_9, rfl⟩ := q_9
    refine a_aload_n X dX0_walk_12 rfl ?_
    refine a_aload_n X dX0_walk_13 rfl ?_
    refine a_lload X dX0_walk_14 rfl ?_
    refine a_callVx X dX0_walk_16 miX0_record lm0_59 (s_X0_record (P := P) (by assumption) (by omega) (by assumption) (by omega)) (by assumption) rfl rfl rfl (Nat.le_of_ble_eq_true rfl) ⟨by decide, by decide, by decide, by decide⟩ (fun r_16 S_16 q_16 => ?_)
    obtain ⟨M_16, N_16, rfl, k_16, rfl⟩ := q_16
    refine a_vret X hr dX0_walk_19 ⟨by decide, by decide⟩ ?_
    subst hF
    exact ⟨_, _, rfl, (by (try dsimp only); repeat first | assumption | exact zK.rf | refine zK.zu ?_ (by omega) | refine zK.zu0 ?_ (by decide) | refine zK.zwr ?_ (by omega) | refine zK.zfil ?_ (by omega) | refine zK.zcpy ?_ (by omega) | refine zK.trans ?_ (by assumption) | dsimp only), rfl⟩
set_option maxRecDepth 100000 in
theorem s_X0_walk_0 {l : Launch} {G : zG} {b : Nat} {S : zS} {P : Nat} {Q : Nat} {A : Nat} {v0 : Int32} {v1 : Int32} {v2 : Int64} (hQ : LX0 S.1 Q) (rQ : P < Q ∧ Q + 13 ≤ P + 200) (hA : LX2 S.1 A) (rA : P < A ∧ A + 13 ≤ P + 200) : zM l G b yX0_walk cX0_walk 9 none 11 0 0 [.ref Q, .ref A, .int 0, .int v0, .int v1, .long v2] S (fun r z => ∃ M' N', z = (S.1, M', N') ∧ zK P S.2.1 M' ∧ r = none) := by
  refine zM.of miX0_walk (Nat.le_of_ble_eq_true rfl) ?_
  intro p e s m args below meth c X hr hname
  generalize hF : ((fun r z => ∃ M' N', z = (S.1, M', N') ∧ zK P S.2.1 M' ∧ r = none) : Option Value → zS → Prop) = FQ
  change Zw p l e { frames := 11, cells := 0, slots := 0, locals := 80 * 11 } s m args below meth c G b 9 (MQ below (zQ G b FQ) args s 0 0 (fun q : Nat => b ≤ q)) 0 0 0 [some (.ref Q), some (.ref A), some (.int 0), some (.int v0), some (.int v1), some (.long v2), none, none, none] [] S
  obtain ⟨q_lt, q_o, q_sets, q_seen, q_atUnit, q_early, q_result⟩ := id hQ
  obtain ⟨q_result_lt, q_result_o, q_result_line, q_result_unitOf, q_result_roundOf, q_result_leftTags, q_result_leftGuests, q_result_leftPreferred, q_result_ranked⟩ := id q_result
  obtain ⟨a_lt, a_o, a_quota, a_preferred, a_forGuests, a_applicantOf, a_size, a_guestCount, a_score, a_tickets, a_bits, a_party, a_wishCount, a_wishes⟩ := id hA
  have L_35 : ∀ u : Nat, ∀ (x3_35 : Int32) (x4_35 : Int32) (x5_35 : Int64) (x7_35 : Int32) (x8_35 : Option Value) (M2 : Nat → Nat → Int32) (N2 : Nat → Nat → Int64), zK P S.2.1 M2 → (¬ x4_35 ≤ 0) → (2147483648 - x7_35.toInt).toNat < u → Zw p l e { frames := 11, cells := 0, slots := 0, locals := 80 * 11 } s m args below meth c G b 9 (MQ below (zQ G b FQ) args s 0 0 (fun q : Nat => b ≤ q)) 0 0 35 [some (.ref (Q)), some (.ref (A)), some (.int 0), some (.int x3_35), some (.int x4_35), some (.long x5_35), none, some (.int x7_35), x8_35] [] (S.1, M2, N2) := by
    intro u
    induction u with
    | zero => intro x3_35 x4_35 x5_35 x7_35 x8_35 M2_35 N2_35 k_35 f0_35 hm_35; exact absurd hm_35 (Nat.not_lt_zero _)
    | succ u_35 ih_35 =>
      intro x3_35 x4_35 x5_35 x7_35 x8_35 M2_35 N2_35 k_35 f0_35 hm_35
      have J_109 : ∀ (x3_109 : Int32) (x4_109 : Int32) (x5_109 : Int64) (x7_109 : Int32) (x8_109 : Option Value) (M2 : Nat → Nat → Int32) (N2 : Nat → Nat → Int64), zK P S.2.1 M2 → ((2147483648 - x7_109.toInt).toNat < u_35 + 1) → (x7_109.toInt < 2147483647) → (¬ x4_109 ≤ 0) → Zw p l e { frames := 11, cells := 0, slots := 0, locals := 80 * 11 } s m args below meth c G b 9 (MQ below (zQ G b FQ) args s 0 0 (fun q : Nat => b ≤ q)) 0 0 109 [some (.ref (Q)), some (.ref (A)), some (.int 0), some (.int x3_109), some (.int x4_109), some (.long x5_109), none, some (.int x7_109), x8_109] [] (S.1, M2, N2) := by
        intro x3_109 x4_109 x5_109 x7_109 x8_109 M2_109 N2_109 k_109 f0_109 f1_109 f2_109
        refine a_iinc X dX0_walk_109 (by decide) rfl rfl ?_
        refine a_goto (tgt := 35) X dX0_walk_112 (by decide) ?_
        exact Zw.to2 (ih_35 _ _ _ _ _ _ _ (by (try dsimp only); repeat first | assumption | exact zK.rf | refine zK.zu ?_ (by omega) | refine zK.zu0 ?_ (by decide) | refine zK.zwr ?_ (by omega) | refine zK.zfil ?_ (by omega) | refine zK.zcpy ?_ (by omega) | refine zK.trans ?_ (by assumption) | dsimp only) (by first | assumption | exact Int32.not_le.mpr h_28) (z_up f1_109 f0_109)) rfl rfl rfl
      refine a_iload X dX0_walk_35 rfl ?_
      refine a_aload_n X dX0_walk_37 rfl ?_
      refine a_geti X lf0_40 (by assumption) rfl dX0_walk_38 ?_
      refine a_icmp_ge (tgt := 115) X dX0_walk_41 (by decide) (fun h_41 => ?_) (fun h_41 => ?_)
      · refine a_vret X hr dX0_walk_115 ⟨by decide, by decide⟩ ?_
        subst hF
        exact ⟨_, _, rfl, (by (try dsimp only); repeat first | assumption | exact zK.rf | refine zK.zu ?_ (by omega) | refine zK.zu0 ?_ (by decide) | refine zK.zwr ?_ (by omega) | refine zK.zfil ?_ (by omega) | refine zK.zcpy ?_ (by omega) | refine zK.trans ?_ (by assumption) | dsimp only), rfl⟩
      · refine a_iload_n X dX0_walk_44 rfl ?_
        refine a_iload X dX0_walk_45 rfl ?_
        refine a_ishr X dX0_walk_47 ?_
        refine a_iconst (v := 1) X dX0_walk_48 (by decide) ?_
        refine a_iand X dX0_walk_49 ?_
        refine a_iconst (v := 1) X dX0_walk_50 (by decide) ?_
        refine a_icmp_ne (tgt := 109) X dX0_walk_51 (by decide) (fun h_51 => ?_) (fun h_51 => ?_)
        · exact Zw.to2 (J_109 _ _ _ _ _ _ _ (by (try dsimp only); repeat first | assumption | exact zK.rf | refine zK.zu ?_ (by omega) | refine zK.zu0 ?_ (by decide) | refine zK.zwr ?_ (by omega) | refine zK.zfil ?_ (by omega) | refine zK.zcpy ?_ (by omega) | refine zK.trans ?_ (by assumption) | dsimp only) hm_35 (by first | assumption | exact z_lt (by assumption) | exact z_lt2 (by assumption) | exact z_lt3 (by assumption) (by decide)) (by first | assumption | exact Int32.not_le.mpr h_28)) rfl rfl rfl
        · refine a_aload_n X dX0_walk_54 rfl ?_
          refine a_getr X lf0_63 (by assumption) rfl (by omega) dX0_walk_55 ?_
          refine a_iload X dX0_walk_58 rfl ?_
          refine a_callSNv X dX0_walk_60 miX7_cell lm0_66 (c_cell (by assumption) (by first | decide | assumption)) rfl rfl (Nat.le_of_ble_eq_true rfl) ⟨by decide, by decide, by decide, by decide⟩ ?_
          refine a_istore X dX0_walk_63 (by decide) ?_
          refine a_aload_n X dX0_walk_65 rfl ?_
          refine a_getr X lf0_28 (by assumption) rfl (by omega) dX0_walk_66 ?_
          refine a_getr X lf0_70 (by assumption) rfl (by omega) dX0_walk_69 ?_
          refine a_iload_n X dX0_walk_72 rfl ?_
          refine a_iload X dX0_walk_73 rfl ?_
          refine a_callSNx X dX0_walk_75 miX7_put lm0_73 (s_X7_put (P := P) (by assumption) (by first | decide | assumption) (by omega)) rfl rfl (Nat.le_of_ble_eq_true rfl) ⟨by decide, by decide, by decide, by decide⟩ (fun r_75 S_75 q_75 => ?_)
          obtain ⟨M_75, N_75, rfl, k_75, rfl⟩ := q_75
          refine a_aload_n X dX0_walk_78 rfl ?_
          refine a_aload_n X dX0_walk_79 rfl ?_
          refine a_iload_n X dX0_walk_80 rfl ?_
          refine a_iconst (v := 1) X dX0_walk_81 (by decide) ?_
          refine a_iadd X dX0_walk_82 ?_
          refine a_iload_n X dX0_walk_83 rfl ?_
          refine a_iconst (v := 1) X dX0_walk_84 (by decide) ?_
          refine a_iload X dX0_walk_85 rfl ?_
          refine a_ishl X dX0_walk_87 ?_
          refine a_iconst (v := -1) X dX0_walk_88 (by decide) ?_
          refine a_ixor X dX0_walk_89 ?_
          refine a_iand X dX0_walk_90 ?_
          refine a_iload X dX0_walk_91 rfl ?_
          refine a_iload X dX0_walk_93 rfl ?_
          refine a_isub X dX0_walk_95 ?_
          refine a_lload X dX0_walk_96 rfl ?_
          refine a_iload X dX0_walk_98 rfl ?_
          refine a_i2l X dX0_walk_100 ?_
          refine a_lmul X dX0_walk_101 ?_
          refine a_iload X dX0_walk_102 rfl ?_
          refine a_i2l X dX0_walk_104 ?_
          refine a_ldiv X dX0_walk_105 (by first | assumption | decide | exact z_nzl (by assumption)) ?_
          refine a_callSx X dX0_walk_106 miX0_walk lm0_51 (s_X0_walk_1 (P := P) (by assumption) (by omega) (by assumption) (by omega)) rfl rfl (Nat.le_of_ble_eq_true rfl) ⟨by decide, by decide, by decide, by decide⟩ (fun r_106 S_106 q_106 => ?_)
          obtain ⟨M_106, N_106, rfl, k_106, rfl⟩ := q_106
          exact Zw.to2 (J_109 _ _ _ _ _ _ _ (by (try dsimp only); repeat first | assumption | exact zK.rf | refine zK.zu ?_ (by omega) | refine zK.zu0 ?_ (by decide) | refine zK.zwr ?_ (by omega) | refine zK.zfil ?_ (by omega) | refine zK.zcpy ?_ (by omega) | refine zK.trans ?_ (by assumption) | dsimp only) hm_35 (by first | assumption | exact z_lt (by assumption) | exact z_lt2 (by assumption) | exact z_lt3 (by assumption) (by decide)) (by first | assumption | exact Int32.not_le.mpr h_28)) rfl rfl rfl
  have H_35 : ∀ (x3_35 : Int32) (x4_35 : Int32) (x5_35 : Int64) (x7_35 : Int32) (x8_35 : Option Value) (M2 : Nat → Nat → Int32) (N2 : Nat → Nat → Int64), zK P S.2.1 M2 → (¬ x4_35 ≤ 0) → Zw p l e { frames := 11, cells := 0, slots := 0, locals := 80 * 11 } s m args below meth c G b 9 (MQ below (zQ G b FQ) args s 0 0 (fun q : Nat => b ≤ q)) 0 0 35 [some (.ref (Q)), some (.ref (A)), some (.int 0), some (.int x3_35), some (.int x4_35), some (.long x5_35), none, some (.int x7_35), x8_35] [] (S.1, M2, N2) := fun x3_35 x4_35 x5_35 x7_35 x8_35 M2 N2 k f0 => L_35 _ x3_35 x4_35 x5_35 x7_35 x8_35 M2 N2 k f0 (Nat.lt_succ_self _)
  have J_31 : ∀ (x3_31 : Int32) (x4_31 : Int32) (x5_31 : Int64) (x7_31 : Option Value) (x8_31 : Option Value) (M2 : Nat → Nat → Int32) (N2 : Nat → Nat → Int64), zK P S.2.1 M2 → Zw p l e { frames := 11, cells := 0, slots := 0, locals := 80 * 11 } s m args below meth c G b 9 (MQ below (zQ G b FQ) args s 0 0 (fun q : Nat => b ≤ q)) 0 0 31 [some (.ref (Q)), some (.ref (A)), some (.int 0), some (.int x3_31), some (.int x4_31), some (.long x5_31), none, x7_31, x8_31] [] (S.1, M2, N2) := by
    intro x3_31 x4_31 x5_31 x7_31 x8_31 M2_31 N2_31 k_31
    refine a_vret X hr dX0_walk_31 ⟨by decide, by decide⟩ ?_
    subst hF
    exact ⟨_, _, rfl, (by (try dsimp only); repeat first | assumption | exact zK.rf | refine zK.zu ?_ (by omega) | refine zK.zu0 ?_ (by decide) | refine zK.zwr ?_ (by omega) | refine zK.zfil ?_ (by omega) | refine zK.zcpy ?_ (by omega) | refine zK.trans ?_ (by assumption) | dsimp only), rfl⟩
  refine a_iload_n X dX0_walk_0 rfl ?_
  refine a_if_ne (tgt := 20) X dX0_walk_1 (by decide) (fun h_1 => ?_) (fun h_1 => ?_)
  · refine a_iload_n X dX0_walk_20 rfl ?_
    refine a_bipush (v := 7) X dX0_walk_21 (by decide) ?_
    refine a_icmp_ge (tgt := 31) X dX0_walk_23 (by decide) (fun h_23 => ?_) (fun h_23 => ?_)
    · exact Zw.to2 (J_31 _ _ _ _ _ _ _ (by (try dsimp only); repeat first | assumption | exact zK.rf | refine zK.zu ?_ (by omega) | refine zK.zu0 ?_ (by decide) | refine zK.zwr ?_ (by omega) | refine zK.zfil ?_ (by omega) | refine zK.zcpy ?_ (by omega) | refine zK.trans ?_ (by assumption) | dsimp only) ) rfl rfl rfl
    · refine a_iload X dX0_walk_26 rfl ?_
      refine a_if_gt (tgt := 32) X dX0_walk_28 (by decide) (fun h_28 => ?_) (fun h_28 => ?_)
      · refine a_iconst (v := 0) X dX0_walk_32 (by decide) ?_
        refine a_istore X dX0_walk_33 (by decide) ?_
        exact Zw.to2 (H_35 _ _ _ _ _ _ _ (by (try dsimp only); repeat first | assumption | exact zK.rf | refine zK.zu ?_ (by omega) | refine zK.zu0 ?_ (by decide) | refine zK.zwr ?_ (by omega) | refine zK.zfil ?_ (by omega) | refine zK.zcpy ?_ (by omega) | refine zK.trans ?_ (by assumption) | dsimp only) (by first | assumption | exact Int32.not_le.mpr h_28)) rfl rfl rfl
      · exact Zw.to2 (J_31 _ _ _ _ _ _ _ (by (try dsimp only); repeat first | assumption | exact zK.rf | refine zK.zu ?_ (by omega) | refine zK.zu0 ?_ (by decide) | refine zK.zwr ?_ (by omega) | refine zK.zfil ?_ (by omega) | refine zK.zcpy ?_ (by omega) | refine zK.trans ?_ (by assumption) | dsimp only) ) rfl rfl rfl
  · refine a_aload_n X dX0_walk_4 rfl ?_
    refine a_getr X lf0_28 (by assumption) rfl (by omega) dX0_walk_5 ?_
    refine a_aload_n X dX0_walk_8 rfl ?_
    refine a_callVx X dX0_walk_9 miX5_settle lm0_55 (s_X5_settle (P := P) (by assumption) (by omega) (by assumption) (by omega)) (by assumption) rfl rfl rfl (Nat.le_of_ble_eq_true rfl) ⟨by decide, by decide, by decide, by decide⟩ (fun r_9 S_9 q_9 => ?_)
    obtain ⟨M_9, N_9, rfl, k_9, rfl⟩ := q_9
    refine a_aload_n X dX0_walk_12 rfl ?_
    refine a_aload_n X dX0_walk_13 rfl ?_
    refine a_lload X dX0_walk_14 rfl ?_
    refine a_callVx X dX0_walk_16 miX0_record lm0_59 (s_X0_record (P := P) (by assumption) (by omega) (by assumption) (by omega)) (by assumption) rfl rfl rfl (Nat.le_of_ble_eq_true rfl) ⟨by decide, by decide, by decide, by decide⟩ (fun r_16 S_16 q_16 => ?_)
    obtain ⟨M_16, N_16, rfl, k_16, rfl⟩ := q_16
    refine a_vret X hr dX0_walk_19 ⟨by decide, by decide⟩ ?_
    subst hF
    exact ⟨_, _, rfl, (by (try dsimp only); repeat first | assumption | exact zK.rf | refine zK.zu ?_ (by omega) | refine zK.zu0 ?_ (by decide) | refine zK.zwr ?_ (by omega) | refine zK.zfil ?_ (by omega) | refine zK.zcpy ?_ (by omega) | refine zK.trans ?_ (by assumption) | dsimp only), rfl⟩
set_option maxRecDepth 100000 in
theorem s_X0_reckon {l : Launch} {G : zG} {b : Nat} {S : zS} {P : Nat} {Q : Nat} {A : Nat} (hQ : LX0 S.1 Q) (rQ : P < Q ∧ Q + 13 ≤ P + 200) (hA : LX2 S.1 A) (rA : P < A ∧ A + 13 ≤ P + 200) : zM l G b yX0_reckon cX0_reckon 2 none 12 0 0 [.ref Q, .ref A] S (fun r z => ∃ M' N', z = (S.1, M', N') ∧ zK P S.2.1 M' ∧ r = none) := by
  refine zM.of miX0_reckon (Nat.le_of_ble_eq_true rfl) ?_
  intro p e s m args below meth c X hr hname
  generalize hF : ((fun r z => ∃ M' N', z = (S.1, M', N') ∧ zK P S.2.1 M' ∧ r = none) : Option Value → zS → Prop) = FQ
  change Zw p l e { frames := 12, cells := 0, slots := 0, locals := 80 * 12 } s m args below meth c G b 2 (MQ below (zQ G b FQ) args s 0 0 (fun q : Nat => b ≤ q)) 0 0 0 [some (.ref Q), some (.ref A)] [] S
  obtain ⟨q_lt, q_o, q_sets, q_seen, q_atUnit, q_early, q_result⟩ := id hQ
  obtain ⟨q_result_lt, q_result_o, q_result_line, q_result_unitOf, q_result_roundOf, q_result_leftTags, q_result_leftGuests, q_result_leftPreferred, q_result_ranked⟩ := id q_result
  obtain ⟨a_lt, a_o, a_quota, a_preferred, a_forGuests, a_applicantOf, a_size, a_guestCount, a_score, a_tickets, a_bits, a_party, a_wishCount, a_wishes⟩ := id hA
  have J_62 : ∀  (M2 : Nat → Nat → Int32) (N2 : Nat → Nat → Int64), zK P S.2.1 M2 → Zw p l e { frames := 12, cells := 0, slots := 0, locals := 80 * 12 } s m args below meth c G b 2 (MQ below (zQ G b FQ) args s 0 0 (fun q : Nat => b ≤ q)) 0 0 62 [some (.ref (Q)), some (.ref (A))] [] (S.1, M2, N2) := by
    intro M2_62 N2_62 k_62
    refine a_vret X hr dX0_reckon_62 ⟨by decide, by decide⟩ ?_
    subst hF
    exact ⟨_, _, rfl, (by (try dsimp only); repeat first | assumption | exact zK.rf | refine zK.zu ?_ (by omega) | refine zK.zu0 ?_ (by decide) | refine zK.zwr ?_ (by omega) | refine zK.zfil ?_ (by omega) | refine zK.zcpy ?_ (by omega) | refine zK.trans ?_ (by assumption) | dsimp only), rfl⟩
  refine a_aload_n X dX0_reckon_0 rfl ?_
  refine a_getr X lf0_9 (by assumption) rfl (by omega) dX0_reckon_1 ?_
  refine a_lconst (v := 0) X dX0_reckon_4 (by decide) ?_
  refine a_callSNx X dX0_reckon_5 miX7_bigFill lm0_32 (s_X7_bigFill (P := P) (by assumption) (by first | decide | assumption) (by omega)) rfl rfl (Nat.le_of_ble_eq_true rfl) ⟨by decide, by decide, by decide, by decide⟩ (fun r_5 S_5 q_5 => ?_)
  obtain ⟨M_5, N_5, rfl, k_5, rfl⟩ := q_5
  refine a_aload_n X dX0_reckon_8 rfl ?_
  refine a_getr X lf0_15 (by assumption) rfl (by omega) dX0_reckon_9 ?_
  refine a_iconst (v := 0) X dX0_reckon_12 (by decide) ?_
  refine a_callSNx X dX0_reckon_13 miX7_fill lm0_36 (s_X7_fill (P := P) (by assumption) (by first | decide | assumption) (by omega)) rfl rfl (Nat.le_of_ble_eq_true rfl) ⟨by decide, by decide, by decide, by decide⟩ (fun r_13 S_13 q_13 => ?_)
  obtain ⟨M_13, N_13, rfl, k_13, rfl⟩ := q_13
  refine a_aload_n X dX0_reckon_16 rfl ?_
  refine a_getr X lf0_19 (by assumption) rfl (by omega) dX0_reckon_17 ?_
  refine a_lconst (v := 0) X dX0_reckon_20 (by decide) ?_
  refine a_callSNx X dX0_reckon_21 miX7_bigFill lm0_32 (s_X7_bigFill (P := P) (by assumption) (by first | decide | assumption) (by omega)) rfl rfl (Nat.le_of_ble_eq_true rfl) ⟨by decide, by decide, by decide, by decide⟩ (fun r_21 S_21 q_21 => ?_)
  obtain ⟨M_21, N_21, rfl, k_21, rfl⟩ := q_21
  refine a_aload_n X dX0_reckon_24 rfl ?_
  refine a_getr X lf0_22 (by assumption) rfl (by omega) dX0_reckon_25 ?_
  refine a_lconst (v := 0) X dX0_reckon_28 (by decide) ?_
  refine a_callSNx X dX0_reckon_29 miX7_bigFill lm0_32 (s_X7_bigFill (P := P) (by assumption) (by first | decide | assumption) (by omega)) rfl rfl (Nat.le_of_ble_eq_true rfl) ⟨by decide, by decide, by decide, by decide⟩ (fun r_29 S_29 q_29 => ?_)
  obtain ⟨M_29, N_29, rfl, k_29, rfl⟩ := q_29
  refine a_aload_n X dX0_reckon_32 rfl ?_
  refine a_geti X lf0_40 (by assumption) rfl dX0_reckon_33 ?_
  refine a_bipush (v := 7) X dX0_reckon_36 (by decide) ?_
  refine a_icmp_gt (tgt := 62) X dX0_reckon_38 (by decide) (fun h_38 => ?_) (fun h_38 => ?_)
  · exact Zw.to2 (J_62  _ _ (by (try dsimp only); repeat first | assumption | exact zK.rf | refine zK.zu ?_ (by omega) | refine zK.zu0 ?_ (by decide) | refine zK.zwr ?_ (by omega) | refine zK.zfil ?_ (by omega) | refine zK.zcpy ?_ (by omega) | refine zK.trans ?_ (by assumption) | dsimp only) ) rfl rfl rfl
  · refine a_aload_n X dX0_reckon_41 rfl ?_
    refine a_aload_n X dX0_reckon_42 rfl ?_
    refine a_iconst (v := 0) X dX0_reckon_43 (by decide) ?_
    refine a_iconst (v := 1) X dX0_reckon_44 (by decide) ?_
    refine a_aload_n X dX0_reckon_45 rfl ?_
    refine a_geti X lf0_40 (by assumption) rfl dX0_reckon_46 ?_
    refine a_ishl X dX0_reckon_49 ?_
    refine a_iconst (v := 1) X dX0_reckon_50 (by decide) ?_
    refine a_isub X dX0_reckon_51 ?_
    refine a_aload_n X dX0_reckon_52 rfl ?_
    refine a_geti X lf0_46 (by assumption) rfl dX0_reckon_53 ?_
    refine a_ldc2 X dX0_reckon_56 lk0_49 ?_
    refine a_callSx X dX0_reckon_59 miX0_walk lm0_51 (s_X0_walk_0 (P := P) (by assumption) (by omega) (by assumption) (by omega)) rfl rfl (Nat.le_of_ble_eq_true rfl) ⟨by decide, by decide, by decide, by decide⟩ (fun r_59 S_59 q_59 => ?_)
    obtain ⟨M_59, N_59, rfl, k_59, rfl⟩ := q_59
    exact Zw.to2 (J_62  _ _ (by (try dsimp only); repeat first | assumption | exact zK.rf | refine zK.zu ?_ (by omega) | refine zK.zu0 ?_ (by decide) | refine zK.zwr ?_ (by omega) | refine zK.zfil ?_ (by omega) | refine zK.zcpy ?_ (by omega) | refine zK.trans ?_ (by assumption) | dsimp only) ) rfl rfl rfl
set_option maxRecDepth 100000 in
theorem s_X0_certainUnit {l : Launch} {G : zG} {b : Nat} {S : zS} {P : Nat} {Q : Nat} {v0 : Int32} {v1 : Int32} (hQ : LX0 S.1 Q) (rQ : P < Q ∧ Q + 13 ≤ P + 200) : zM l G b yX0_certainUnit cX0_certainUnit 3 (some .long) 1 0 0 [.ref Q, .int v0, .int v1] S (fun r z => z = S ∧ ∃ v : Int64, r = some (.long v)) := by
  refine zM.of miX0_certainUnit (Nat.le_of_ble_eq_true rfl) ?_
  intro p e s m args below meth c X hr hname
  generalize hF : ((fun r z => z = S ∧ ∃ v : Int64, r = some (.long v)) : Option Value → zS → Prop) = FQ
  change Zw p l e { frames := 1, cells := 0, slots := 0, locals := 80 * 1 } s m args below meth c G b 3 (MQ below (zQ G b FQ) args s 0 0 (fun q : Nat => b ≤ q)) 0 0 0 [some (.ref Q), some (.int v0), some (.int v1)] [] S
  obtain ⟨q_lt, q_o, q_sets, q_seen, q_atUnit, q_early, q_result⟩ := id hQ
  obtain ⟨q_result_lt, q_result_o, q_result_line, q_result_unitOf, q_result_roundOf, q_result_leftTags, q_result_leftGuests, q_result_leftPreferred, q_result_ranked⟩ := id q_result
  refine a_aload_n X dX0_certainUnit_0 rfl ?_
  refine a_getr X lf0_19 (by assumption) rfl (by omega) dX0_certainUnit_1 ?_
  refine a_iload_n X dX0_certainUnit_4 rfl ?_
  refine a_iconst (v := 5) X dX0_certainUnit_5 (by decide) ?_
  refine a_imul X dX0_certainUnit_6 ?_
  refine a_iload_n X dX0_certainUnit_7 rfl ?_
  refine a_iadd X dX0_certainUnit_8 ?_
  refine a_callSNv X dX0_certainUnit_9 miX7_bigCell lm0_87 (c_bigCell (by assumption) (by first | decide | assumption)) rfl rfl (Nat.le_of_ble_eq_true rfl) ⟨by decide, by decide, by decide, by decide⟩ ?_
  refine a_lret X hr dX0_certainUnit_12 ⟨by decide, by decide⟩ ?_
  subst hF
  exact ⟨rfl, ⟨_, rfl⟩⟩
set_option maxRecDepth 100000 in
theorem s_X0_anyUnit {l : Launch} {G : zG} {b : Nat} {S : zS} {P : Nat} {Q : Nat} {v0 : Int32} (hQ : LX0 S.1 Q) (rQ : P < Q ∧ Q + 13 ≤ P + 200) : zM l G b yX0_anyUnit cX0_anyUnit 2 (some .long) 2 0 0 [.ref Q, .int v0] S (fun r z => z = S ∧ ∃ v : Int64, r = some (.long v)) := by
  refine zM.of miX0_anyUnit (Nat.le_of_ble_eq_true rfl) ?_
  intro p e s m args below meth c X hr hname
  generalize hF : ((fun r z => z = S ∧ ∃ v : Int64, r = some (.long v)) : Option Value → zS → Prop) = FQ
  change Zw p l e { frames := 2, cells := 0, slots := 0, locals := 80 * 2 } s m args below meth c G b 2 (MQ below (zQ G b FQ) args s 0 0 (fun q : Nat => b ≤ q)) 0 0 0 [some (.ref Q), some (.int v0)] [] S
  obtain ⟨q_lt, q_o, q_sets, q_seen, q_atUnit, q_early, q_result⟩ := id hQ
  obtain ⟨q_result_lt, q_result_o, q_result_line, q_result_unitOf, q_result_roundOf, q_result_leftTags, q_result_leftGuests, q_result_leftPreferred, q_result_ranked⟩ := id q_result
  refine a_aload_n X dX0_anyUnit_0 rfl ?_
  refine a_iconst (v := 1) X dX0_anyUnit_1 (by decide) ?_
  refine a_iload_n X dX0_anyUnit_2 rfl ?_
  refine a_ishl X dX0_anyUnit_3 ?_
  refine a_callVx X dX0_anyUnit_4 miX0_allOf lm0_91 (s_X0_allOf (P := P) (by assumption) (by omega)) (by assumption) rfl rfl rfl (Nat.le_of_ble_eq_true rfl) ⟨by decide, by decide, by decide, by decide⟩ (fun r_4 S_4 q_4 => ?_)
  obtain ⟨rfl, ⟨v_4, rfl⟩⟩ := q_4
  refine a_lret X hr dX0_anyUnit_7 ⟨by decide, by decide⟩ ?_
  subst hF
  exact ⟨rfl, ⟨_, rfl⟩⟩
set_option maxRecDepth 100000 in
theorem s_X4_addUnit {l : Launch} {G : zG} {b : Nat} {S : zS} {P : Nat} {Q : Nat} {v0 : Int32} (hQ : LX4 S.1 Q) (rQ : P < Q ∧ Q + 8 ≤ P + 200) : zM l G b yX4_addUnit cX4_addUnit 2 none 1 0 0 [.ref Q, .int v0] S (fun r z => ∃ M' N', z = (S.1, M', N') ∧ zK P S.2.1 M' ∧ r = none) := by
  refine zM.of miX4_addUnit (Nat.le_of_ble_eq_true rfl) ?_
  intro p e s m args below meth c X hr hname
  generalize hF : ((fun r z => ∃ M' N', z = (S.1, M', N') ∧ zK P S.2.1 M' ∧ r = none) : Option Value → zS → Prop) = FQ
  change Zw p l e { frames := 1, cells := 0, slots := 0, locals := 80 * 1 } s m args below meth c G b 2 (MQ below (zQ G b FQ) args s 0 0 (fun q : Nat => b ≤ q)) 0 0 0 [some (.ref Q), some (.int v0)] [] S
  obtain ⟨q_lt, q_o, q_quota, q_score, q_guest, q_party, q_wishCount, q_wishes, q_has⟩ := id hQ
  refine a_aload_n X dX4_addUnit_0 rfl ?_
  refine a_getr X lf4_9 (by assumption) rfl (by omega) dX4_addUnit_1 ?_
  refine a_aload_n X dX4_addUnit_4 rfl ?_
  refine a_geti X lf4_33 (by assumption) rfl dX4_addUnit_5 ?_
  refine a_iload_n X dX4_addUnit_8 rfl ?_
  refine a_callSNx X dX4_addUnit_9 miX7_put lm4_63 (s_X7_put (P := P) (by assumption) (by first | decide | assumption) (by omega)) rfl rfl (Nat.le_of_ble_eq_true rfl) ⟨by decide, by decide, by decide, by decide⟩ (fun r_9 S_9 q_9 => ?_)
  obtain ⟨M_9, N_9, rfl, k_9, rfl⟩ := q_9
  refine a_aload_n X dX4_addUnit_12 rfl ?_
  refine a_dup X dX4_addUnit_13 rfl ?_
  refine a_geti X lf4_33 (by assumption) rfl dX4_addUnit_14 ?_
  refine a_iconst (v := 1) X dX4_addUnit_17 (by decide) ?_
  refine a_iadd X dX4_addUnit_18 ?_
  refine a_puti X lf4_33 (by assumption) rfl dX4_addUnit_19 ?_
  refine a_vret X hr dX4_addUnit_22 ⟨by decide, by decide⟩ ?_
  subst hF
  exact ⟨_, _, rfl, (by (try dsimp only); repeat first | assumption | exact zK.rf | refine zK.zu ?_ (by omega) | refine zK.zu0 ?_ (by decide) | refine zK.zwr ?_ (by omega) | refine zK.zfil ?_ (by omega) | refine zK.zcpy ?_ (by omega) | refine zK.trans ?_ (by assumption) | dsimp only), rfl⟩
set_option maxRecDepth 100000 in
theorem s_X4_addHunter {l : Launch} {G : zG} {b : Nat} {S : zS} {P : Nat} {Q : Nat} {v0 : Int32} {v1 : Int32} (hQ : LX4 S.1 Q) (rQ : P < Q ∧ Q + 8 ≤ P + 200) (bv1 : v1 = 0 ∨ v1 = 1) : zM l G b yX4_addHunter cX4_addHunter 3 none 1 0 0 [.ref Q, .int v0, .int v1] S (fun r z => ∃ M' N', z = (S.1, M', N') ∧ zK P S.2.1 M' ∧ r = none) := by
  refine zM.of miX4_addHunter (Nat.le_of_ble_eq_true rfl) ?_
  intro p e s m args below meth c X hr hname
  generalize hF : ((fun r z => ∃ M' N', z = (S.1, M', N') ∧ zK P S.2.1 M' ∧ r = none) : Option Value → zS → Prop) = FQ
  change Zw p l e { frames := 1, cells := 0, slots := 0, locals := 80 * 1 } s m args below meth c G b 3 (MQ below (zQ G b FQ) args s 0 0 (fun q : Nat => b ≤ q)) 0 0 0 [some (.ref Q), some (.int v0), some (.int v1)] [] S
  obtain ⟨q_lt, q_o, q_quota, q_score, q_guest, q_party, q_wishCount, q_wishes, q_has⟩ := id hQ
  have J_29 : ∀ (x1_29 : Int32) (x2_29 : Int32) (y1_29 : Int32) (y2_29 : Int32) (M2 : Nat → Nat → Int32) (N2 : Nat → Nat → Int64), zK P S.2.1 M2 → (x2_29 = 0 ∨ x2_29 = 1) → (y2_29 = 0 ∨ y2_29 = 1) → Zw p l e { frames := 1, cells := 0, slots := 0, locals := 80 * 1 } s m args below meth c G b 3 (MQ below (zQ G b FQ) args s 0 0 (fun q : Nat => b ≤ q)) 0 0 29 [some (.ref (Q)), some (.int x1_29), some (.int x2_29)] [(.int y2_29), (.int y1_29), (.ref (Q + 3))] (S.1, M2, N2) := by
    intro x1_29 x2_29 y1_29 y2_29 M2_29 N2_29 k_29 f0_29 f1_29
    refine a_callSNx X dX4_addHunter_29 miX7_put lm4_63 (s_X7_put (P := P) (by assumption) (by first | decide | assumption) (by omega)) rfl rfl (Nat.le_of_ble_eq_true rfl) ⟨by decide, by decide, by decide, by decide⟩ (fun r_29 S_29 q_29 => ?_)
    obtain ⟨M_29, N_29, rfl, k_29, rfl⟩ := q_29
    refine a_aload_n X dX4_addHunter_32 rfl ?_
    refine a_dup X dX4_addHunter_33 rfl ?_
    refine a_geti X lf4_37 (by assumption) rfl dX4_addHunter_34 ?_
    refine a_iconst (v := 1) X dX4_addHunter_37 (by decide) ?_
    refine a_iadd X dX4_addHunter_38 ?_
    refine a_puti X lf4_37 (by assumption) rfl dX4_addHunter_39 ?_
    refine a_vret X hr dX4_addHunter_42 ⟨by decide, by decide⟩ ?_
    subst hF
    exact ⟨_, _, rfl, (by (try dsimp only); repeat first | assumption | exact zK.rf | refine zK.zu ?_ (by omega) | refine zK.zu0 ?_ (by decide) | refine zK.zwr ?_ (by omega) | refine zK.zfil ?_ (by omega) | refine zK.zcpy ?_ (by omega) | refine zK.trans ?_ (by assumption) | dsimp only), rfl⟩
  refine a_aload_n X dX4_addHunter_0 rfl ?_
  refine a_getr X lf4_15 (by assumption) rfl (by omega) dX4_addHunter_1 ?_
  refine a_aload_n X dX4_addHunter_4 rfl ?_
  refine a_geti X lf4_37 (by assumption) rfl dX4_addHunter_5 ?_
  refine a_iload_n X dX4_addHunter_8 rfl ?_
  refine a_callSNx X dX4_addHunter_9 miX7_put lm4_63 (s_X7_put (P := P) (by assumption) (by first | decide | assumption) (by omega)) rfl rfl (Nat.le_of_ble_eq_true rfl) ⟨by decide, by decide, by decide, by decide⟩ (fun r_9 S_9 q_9 => ?_)
  obtain ⟨M_9, N_9, rfl, k_9, rfl⟩ := q_9
  refine a_aload_n X dX4_addHunter_12 rfl ?_
  refine a_getr X lf4_18 (by assumption) rfl (by omega) dX4_addHunter_13 ?_
  refine a_aload_n X dX4_addHunter_16 rfl ?_
  refine a_geti X lf4_37 (by assumption) rfl dX4_addHunter_17 ?_
  refine a_iload_n X dX4_addHunter_20 rfl ?_
  refine a_if_eq (tgt := 28) X dX4_addHunter_21 (by decide) (fun h_21 => ?_) (fun h_21 => ?_)
  · refine a_iconst (v := 0) X dX4_addHunter_28 (by decide) ?_
    exact Zw.to2 (J_29 _ _ _ _ _ _ (by (try dsimp only); repeat first | assumption | exact zK.rf | refine zK.zu ?_ (by omega) | refine zK.zu0 ?_ (by decide) | refine zK.zwr ?_ (by omega) | refine zK.zfil ?_ (by omega) | refine zK.zcpy ?_ (by omega) | refine zK.trans ?_ (by assumption) | dsimp only) (by first | exact Or.inl rfl | exact Or.inr rfl | assumption | ((try dsimp only); (repeat rw [zwr_row (by omega)]); assumption)) (by first | exact Or.inl rfl | exact Or.inr rfl | assumption | ((try dsimp only); (repeat rw [zwr_row (by omega)]); assumption))) rfl rfl rfl
  · refine a_iconst (v := 1) X dX4_addHunter_24 (by decide) ?_
    refine a_goto (tgt := 29) X dX4_addHunter_25 (by decide) ?_
    exact Zw.to2 (J_29 _ _ _ _ _ _ (by (try dsimp only); repeat first | assumption | exact zK.rf | refine zK.zu ?_ (by omega) | refine zK.zu0 ?_ (by decide) | refine zK.zwr ?_ (by omega) | refine zK.zfil ?_ (by omega) | refine zK.zcpy ?_ (by omega) | refine zK.trans ?_ (by assumption) | dsimp only) (by first | exact Or.inl rfl | exact Or.inr rfl | assumption | ((try dsimp only); (repeat rw [zwr_row (by omega)]); assumption)) (by first | exact Or.inl rfl | exact Or.inr rfl | assumption | ((try dsimp only); (repeat rw [zwr_row (by omega)]); assumption))) rfl rfl rfl
set_option maxRecDepth 100000 in
theorem s_X4_addParty {l : Launch} {G : zG} {b : Nat} {S : zS} {P : Nat} {Q : Nat} {v0 : Int32} (hQ : LX4 S.1 Q) (rQ : P < Q ∧ Q + 8 ≤ P + 200) : zM l G b yX4_addParty cX4_addParty 3 none 1 0 0 [.ref Q, .int v0] S (fun r z => ∃ M' N', z = (S.1, M', N') ∧ zK P S.2.1 M' ∧ r = none) := by
  refine zM.of miX4_addParty (Nat.le_of_ble_eq_true rfl) ?_
  intro p e s m args below meth c X hr hname
  generalize hF : ((fun r z => ∃ M' N', z = (S.1, M', N') ∧ zK P S.2.1 M' ∧ r = none) : Option Value → zS → Prop) = FQ
  change Zw p l e { frames := 1, cells := 0, slots := 0, locals := 80 * 1 } s m args below meth c G b 3 (MQ below (zQ G b FQ) args s 0 0 (fun q : Nat => b ≤ q)) 0 0 0 [some (.ref Q), some (.int v0), none] [] S
  obtain ⟨q_lt, q_o, q_quota, q_score, q_guest, q_party, q_wishCount, q_wishes, q_has⟩ := id hQ
  have L_2 : ∀ u : Nat, ∀ (x1_2 : Int32) (x2_2 : Int32) (M2 : Nat → Nat → Int32) (N2 : Nat → Nat → Int64), zK P S.2.1 M2 → (2147483648 - x2_2.toInt).toNat < u → Zw p l e { frames := 1, cells := 0, slots := 0, locals := 80 * 1 } s m args below meth c G b 3 (MQ below (zQ G b FQ) args s 0 0 (fun q : Nat => b ≤ q)) 0 0 2 [some (.ref (Q)), some (.int x1_2), some (.int x2_2)] [] (S.1, M2, N2) := by
    intro u
    induction u with
    | zero => intro x1_2 x2_2 M2_2 N2_2 k_2 hm_2; exact absurd hm_2 (Nat.not_lt_zero _)
    | succ u_2 ih_2 =>
      intro x1_2 x2_2 M2_2 N2_2 k_2 hm_2
      have J_31 : ∀ (x1_31 : Int32) (x2_31 : Int32) (M2 : Nat → Nat → Int32) (N2 : Nat → Nat → Int64), zK P S.2.1 M2 → ((2147483648 - x2_31.toInt).toNat < u_2 + 1) → (x2_31.toInt < 2147483647) → Zw p l e { frames := 1, cells := 0, slots := 0, locals := 80 * 1 } s m args below meth c G b 3 (MQ below (zQ G b FQ) args s 0 0 (fun q : Nat => b ≤ q)) 0 0 31 [some (.ref (Q)), some (.int x1_31), some (.int x2_31)] [] (S.1, M2, N2) := by
        intro x1_31 x2_31 M2_31 N2_31 k_31 f0_31 f1_31
        refine a_iinc X dX4_addParty_31 (by decide) rfl rfl ?_
        refine a_goto (tgt := 2) X dX4_addParty_34 (by decide) ?_
        exact Zw.to2 (ih_2 _ _ _ _ (by (try dsimp only); repeat first | assumption | exact zK.rf | refine zK.zu ?_ (by omega) | refine zK.zu0 ?_ (by decide) | refine zK.zwr ?_ (by omega) | refine zK.zfil ?_ (by omega) | refine zK.zcpy ?_ (by omega) | refine zK.trans ?_ (by assumption) | dsimp only)  (z_up f1_31 f0_31)) rfl rfl rfl
      refine a_iload_n X dX4_addParty_2 rfl ?_
      refine a_aload_n X dX4_addParty_3 rfl ?_
      refine a_geti X lf4_37 (by assumption) rfl dX4_addParty_4 ?_
      refine a_icmp_ge (tgt := 37) X dX4_addParty_7 (by decide) (fun h_7 => ?_) (fun h_7 => ?_)
      · refine a_aload_n X dX4_addParty_37 rfl ?_
        refine a_dup X dX4_addParty_38 rfl ?_
        refine a_geti X lf4_40 (by assumption) rfl dX4_addParty_39 ?_
        refine a_iconst (v := 1) X dX4_addParty_42 (by decide) ?_
        refine a_iadd X dX4_addParty_43 ?_
        refine a_puti X lf4_40 (by assumption) rfl dX4_addParty_44 ?_
        refine a_vret X hr dX4_addParty_47 ⟨by decide, by decide⟩ ?_
        subst hF
        exact ⟨_, _, rfl, (by (try dsimp only); repeat first | assumption | exact zK.rf | refine zK.zu ?_ (by omega) | refine zK.zu0 ?_ (by decide) | refine zK.zwr ?_ (by omega) | refine zK.zfil ?_ (by omega) | refine zK.zcpy ?_ (by omega) | refine zK.trans ?_ (by assumption) | dsimp only), rfl⟩
      · refine a_iload_n X dX4_addParty_10 rfl ?_
        refine a_iload_n X dX4_addParty_11 rfl ?_
        refine a_ishr X dX4_addParty_12 ?_
        refine a_iconst (v := 1) X dX4_addParty_13 (by decide) ?_
        refine a_iand X dX4_addParty_14 ?_
        refine a_iconst (v := 1) X dX4_addParty_15 (by decide) ?_
        refine a_icmp_ne (tgt := 31) X dX4_addParty_16 (by decide) (fun h_16 => ?_) (fun h_16 => ?_)
        · exact Zw.to2 (J_31 _ _ _ _ (by (try dsimp only); repeat first | assumption | exact zK.rf | refine zK.zu ?_ (by omega) | refine zK.zu0 ?_ (by decide) | refine zK.zwr ?_ (by omega) | refine zK.zfil ?_ (by omega) | refine zK.zcpy ?_ (by omega) | refine zK.trans ?_ (by assumption) | dsimp only) hm_2 (by first | assumption | exact z_lt (by assumption) | exact z_lt2 (by assumption) | exact z_lt3 (by assumption) (by decide))) rfl rfl rfl
        · refine a_aload_n X dX4_addParty_19 rfl ?_
          refine a_getr X lf4_21 (by assumption) rfl (by omega) dX4_addParty_20 ?_
          refine a_iload_n X dX4_addParty_23 rfl ?_
          refine a_aload_n X dX4_addParty_24 rfl ?_
          refine a_geti X lf4_40 (by assumption) rfl dX4_addParty_25 ?_
          refine a_callSNx X dX4_addParty_28 miX7_put lm4_63 (s_X7_put (P := P) (by assumption) (by first | decide | assumption) (by omega)) rfl rfl (Nat.le_of_ble_eq_true rfl) ⟨by decide, by decide, by decide, by decide⟩ (fun r_28 S_28 q_28 => ?_)
          obtain ⟨M_28, N_28, rfl, k_28, rfl⟩ := q_28
          exact Zw.to2 (J_31 _ _ _ _ (by (try dsimp only); repeat first | assumption | exact zK.rf | refine zK.zu ?_ (by omega) | refine zK.zu0 ?_ (by decide) | refine zK.zwr ?_ (by omega) | refine zK.zfil ?_ (by omega) | refine zK.zcpy ?_ (by omega) | refine zK.trans ?_ (by assumption) | dsimp only) hm_2 (by first | assumption | exact z_lt (by assumption) | exact z_lt2 (by assumption) | exact z_lt3 (by assumption) (by decide))) rfl rfl rfl
  have H_2 : ∀ (x1_2 : Int32) (x2_2 : Int32) (M2 : Nat → Nat → Int32) (N2 : Nat → Nat → Int64), zK P S.2.1 M2 → Zw p l e { frames := 1, cells := 0, slots := 0, locals := 80 * 1 } s m args below meth c G b 3 (MQ below (zQ G b FQ) args s 0 0 (fun q : Nat => b ≤ q)) 0 0 2 [some (.ref (Q)), some (.int x1_2), some (.int x2_2)] [] (S.1, M2, N2) := fun x1_2 x2_2 M2 N2 k  => L_2 _ x1_2 x2_2 M2 N2 k  (Nat.lt_succ_self _)
  refine a_iconst (v := 0) X dX4_addParty_0 (by decide) ?_
  refine a_istore_n X dX4_addParty_1 (by decide) ?_
  exact Zw.to2 (H_2 _ _ _ _ (by (try dsimp only); repeat first | assumption | exact zK.rf | refine zK.zu ?_ (by omega) | refine zK.zu0 ?_ (by decide) | refine zK.zwr ?_ (by omega) | refine zK.zfil ?_ (by omega) | refine zK.zcpy ?_ (by omega) | refine zK.trans ?_ (by assumption) | dsimp only) ) rfl rfl rfl
set_option maxRecDepth 100000 in
theorem s_X4_wishFor {l : Launch} {G : zG} {b : Nat} {S : zS} {P : Nat} {Q : Nat} {v0 : Int32} {v1 : Int32} {v2 : Int32} {v3 : Int32} (hQ : LX4 S.1 Q) (rQ : P < Q ∧ Q + 8 ≤ P + 200) : zM l G b yX4_wishFor cX4_wishFor 7 none 1 0 0 [.ref Q, .int v0, .int v1, .int v2, .int v3] S (fun r z => ∃ M' N', z = (S.1, M', N') ∧ zK P S.2.1 M' ∧ r = none) := by
  refine zM.of miX4_wishFor (Nat.le_of_ble_eq_true rfl) ?_
  intro p e s m args below meth c X hr hname
  generalize hF : ((fun r z => ∃ M' N', z = (S.1, M', N') ∧ zK P S.2.1 M' ∧ r = none) : Option Value → zS → Prop) = FQ
  change Zw p l e { frames := 1, cells := 0, slots := 0, locals := 80 * 1 } s m args below meth c G b 7 (MQ below (zQ G b FQ) args s 0 0 (fun q : Nat => b ≤ q)) 0 0 0 [some (.ref Q), some (.int v0), some (.int v1), some (.int v2), some (.int v3), none, none] [] S
  obtain ⟨q_lt, q_o, q_quota, q_score, q_guest, q_party, q_wishCount, q_wishes, q_has⟩ := id hQ
  have L_38 : ∀ u : Nat, ∀ (x1_38 : Int32) (x2_38 : Int32) (x3_38 : Int32) (x4_38 : Int32) (x5_38 : Int32) (x6_38 : Int32) (M2 : Nat → Nat → Int32) (N2 : Nat → Nat → Int64), zK P S.2.1 M2 → (2147483648 - x6_38.toInt).toNat < u → Zw p l e { frames := 1, cells := 0, slots := 0, locals := 80 * 1 } s m args below meth c G b 7 (MQ below (zQ G b FQ) args s 0 0 (fun q : Nat => b ≤ q)) 0 0 38 [some (.ref (Q)), some (.int x1_38), some (.int x2_38), some (.int x3_38), some (.int x4_38), some (.int x5_38), some (.int x6_38)] [] (S.1, M2, N2) := by
    intro u
    induction u with
    | zero => intro x1_38 x2_38 x3_38 x4_38 x5_38 x6_38 M2_38 N2_38 k_38 hm_38; exact absurd hm_38 (Nat.not_lt_zero _)
    | succ u_38 ih_38 =>
      intro x1_38 x2_38 x3_38 x4_38 x5_38 x6_38 M2_38 N2_38 k_38 hm_38
      have J_109 : ∀ (x1_109 : Int32) (x2_109 : Int32) (x3_109 : Int32) (x4_109 : Int32) (x5_109 : Int32) (x6_109 : Int32) (M2 : Nat → Nat → Int32) (N2 : Nat → Nat → Int64), zK P S.2.1 M2 → ((2147483648 - x6_109.toInt).toNat < u_38 + 1) → (x6_109.toInt < 2147483647) → Zw p l e { frames := 1, cells := 0, slots := 0, locals := 80 * 1 } s m args below meth c G b 7 (MQ below (zQ G b FQ) args s 0 0 (fun q : Nat => b ≤ q)) 0 0 109 [some (.ref (Q)), some (.int x1_109), some (.int x2_109), some (.int x3_109), some (.int x4_109), some (.int x5_109), some (.int x6_109)] [] (S.1, M2, N2) := by
        intro x1_109 x2_109 x3_109 x4_109 x5_109 x6_109 M2_109 N2_109 k_109 f0_109 f1_109
        refine a_iinc X dX4_wishFor_109 (by decide) rfl rfl ?_
        refine a_goto (tgt := 38) X dX4_wishFor_112 (by decide) ?_
        exact Zw.to2 (ih_38 _ _ _ _ _ _ _ _ (by (try dsimp only); repeat first | assumption | exact zK.rf | refine zK.zu ?_ (by omega) | refine zK.zu0 ?_ (by decide) | refine zK.zwr ?_ (by omega) | refine zK.zfil ?_ (by omega) | refine zK.zcpy ?_ (by omega) | refine zK.trans ?_ (by assumption) | dsimp only)  (z_up f1_109 f0_109)) rfl rfl rfl
      refine a_iload X dX4_wishFor_38 rfl ?_
      refine a_aload_n X dX4_wishFor_40 rfl ?_
      refine a_geti X lf4_37 (by assumption) rfl dX4_wishFor_41 ?_
      refine a_icmp_ge (tgt := 115) X dX4_wishFor_44 (by decide) (fun h_44 => ?_) (fun h_44 => ?_)
      · refine a_vret X hr dX4_wishFor_115 ⟨by decide, by decide⟩ ?_
        subst hF
        exact ⟨_, _, rfl, (by (try dsimp only); repeat first | assumption | exact zK.rf | refine zK.zu ?_ (by omega) | refine zK.zu0 ?_ (by decide) | refine zK.zwr ?_ (by omega) | refine zK.zfil ?_ (by omega) | refine zK.zcpy ?_ (by omega) | refine zK.trans ?_ (by assumption) | dsimp only), rfl⟩
      · refine a_iload_n X dX4_wishFor_47 rfl ?_
        refine a_iload X dX4_wishFor_48 rfl ?_
        refine a_ishr X dX4_wishFor_50 ?_
        refine a_iconst (v := 1) X dX4_wishFor_51 (by decide) ?_
        refine a_iand X dX4_wishFor_52 ?_
        refine a_iconst (v := 1) X dX4_wishFor_53 (by decide) ?_
        refine a_icmp_ne (tgt := 109) X dX4_wishFor_54 (by decide) (fun h_54 => ?_) (fun h_54 => ?_)
        · exact Zw.to2 (J_109 _ _ _ _ _ _ _ _ (by (try dsimp only); repeat first | assumption | exact zK.rf | refine zK.zu ?_ (by omega) | refine zK.zu0 ?_ (by decide) | refine zK.zwr ?_ (by omega) | refine zK.zfil ?_ (by omega) | refine zK.zcpy ?_ (by omega) | refine zK.trans ?_ (by assumption) | dsimp only) hm_38 (by first | assumption | exact z_lt (by assumption) | exact z_lt2 (by assumption) | exact z_lt3 (by assumption) (by decide))) rfl rfl rfl
        · refine a_aload_n X dX4_wishFor_57 rfl ?_
          refine a_getr X lf4_24 (by assumption) rfl (by omega) dX4_wishFor_58 ?_
          refine a_iload X dX4_wishFor_61 rfl ?_
          refine a_iload X dX4_wishFor_63 rfl ?_
          refine a_callSNx X dX4_wishFor_65 miX7_put lm4_63 (s_X7_put (P := P) (by assumption) (by first | decide | assumption) (by omega)) rfl rfl (Nat.le_of_ble_eq_true rfl) ⟨by decide, by decide, by decide, by decide⟩ (fun r_65 S_65 q_65 => ?_)
          obtain ⟨M_65, N_65, rfl, k_65, rfl⟩ := q_65
          refine a_aload_n X dX4_wishFor_68 rfl ?_
          refine a_getr X lf4_27 (by assumption) rfl (by omega) dX4_wishFor_69 ?_
          refine a_iload X dX4_wishFor_72 rfl ?_
          refine a_iconst (v := 3) X dX4_wishFor_74 (by decide) ?_
          refine a_imul X dX4_wishFor_75 ?_
          refine a_iload_n X dX4_wishFor_76 rfl ?_
          refine a_callSNx X dX4_wishFor_77 miX7_put lm4_63 (s_X7_put (P := P) (by assumption) (by first | decide | assumption) (by omega)) rfl rfl (Nat.le_of_ble_eq_true rfl) ⟨by decide, by decide, by decide, by decide⟩ (fun r_77 S_77 q_77 => ?_)
          obtain ⟨M_77, N_77, rfl, k_77, rfl⟩ := q_77
          refine a_aload_n X dX4_wishFor_80 rfl ?_
          refine a_getr X lf4_27 (by assumption) rfl (by omega) dX4_wishFor_81 ?_
          refine a_iload X dX4_wishFor_84 rfl ?_
          refine a_iconst (v := 3) X dX4_wishFor_86 (by decide) ?_
          refine a_imul X dX4_wishFor_87 ?_
          refine a_iconst (v := 1) X dX4_wishFor_88 (by decide) ?_
          refine a_iadd X dX4_wishFor_89 ?_
          refine a_iload_n X dX4_wishFor_90 rfl ?_
          refine a_callSNx X dX4_wishFor_91 miX7_put lm4_63 (s_X7_put (P := P) (by assumption) (by first | decide | assumption) (by omega)) rfl rfl (Nat.le_of_ble_eq_true rfl) ⟨by decide, by decide, by decide, by decide⟩ (fun r_91 S_91 q_91 => ?_)
          obtain ⟨M_91, N_91, rfl, k_91, rfl⟩ := q_91
          refine a_aload_n X dX4_wishFor_94 rfl ?_
          refine a_getr X lf4_27 (by assumption) rfl (by omega) dX4_wishFor_95 ?_
          refine a_iload X dX4_wishFor_98 rfl ?_
          refine a_iconst (v := 3) X dX4_wishFor_100 (by decide) ?_
          refine a_imul X dX4_wishFor_101 ?_
          refine a_iconst (v := 2) X dX4_wishFor_102 (by decide) ?_
          refine a_iadd X dX4_wishFor_103 ?_
          refine a_iload X dX4_wishFor_104 rfl ?_
          refine a_callSNx X dX4_wishFor_106 miX7_put lm4_63 (s_X7_put (P := P) (by assumption) (by first | decide | assumption) (by omega)) rfl rfl (Nat.le_of_ble_eq_true rfl) ⟨by decide, by decide, by decide, by decide⟩ (fun r_106 S_106 q_106 => ?_)
          obtain ⟨M_106, N_106, rfl, k_106, rfl⟩ := q_106
          exact Zw.to2 (J_109 _ _ _ _ _ _ _ _ (by (try dsimp only); repeat first | assumption | exact zK.rf | refine zK.zu ?_ (by omega) | refine zK.zu0 ?_ (by decide) | refine zK.zwr ?_ (by omega) | refine zK.zfil ?_ (by omega) | refine zK.zcpy ?_ (by omega) | refine zK.trans ?_ (by assumption) | dsimp only) hm_38 (by first | assumption | exact z_lt (by assumption) | exact z_lt2 (by assumption) | exact z_lt3 (by assumption) (by decide))) rfl rfl rfl
  have H_38 : ∀ (x1_38 : Int32) (x2_38 : Int32) (x3_38 : Int32) (x4_38 : Int32) (x5_38 : Int32) (x6_38 : Int32) (M2 : Nat → Nat → Int32) (N2 : Nat → Nat → Int64), zK P S.2.1 M2 → Zw p l e { frames := 1, cells := 0, slots := 0, locals := 80 * 1 } s m args below meth c G b 7 (MQ below (zQ G b FQ) args s 0 0 (fun q : Nat => b ≤ q)) 0 0 38 [some (.ref (Q)), some (.int x1_38), some (.int x2_38), some (.int x3_38), some (.int x4_38), some (.int x5_38), some (.int x6_38)] [] (S.1, M2, N2) := fun x1_38 x2_38 x3_38 x4_38 x5_38 x6_38 M2 N2 k  => L_38 _ x1_38 x2_38 x3_38 x4_38 x5_38 x6_38 M2 N2 k  (Nat.lt_succ_self _)
  have J_32 : ∀ (x1_32 : Int32) (x2_32 : Int32) (x3_32 : Int32) (x4_32 : Int32) (x5_32 : Option Value) (x6_32 : Option Value) (y0_32 : Int32) (y1_32 : Int32) (M2 : Nat → Nat → Int32) (N2 : Nat → Nat → Int64), zK P S.2.1 M2 → (y1_32 = 0 ∨ y1_32 = 1) → Zw p l e { frames := 1, cells := 0, slots := 0, locals := 80 * 1 } s m args below meth c G b 7 (MQ below (zQ G b FQ) args s 0 0 (fun q : Nat => b ≤ q)) 0 0 32 [some (.ref (Q)), some (.int x1_32), some (.int x2_32), some (.int x3_32), some (.int x4_32), x5_32, x6_32] [(.int y1_32), (.int y0_32)] (S.1, M2, N2) := by
    intro x1_32 x2_32 x3_32 x4_32 x5_32 x6_32 y0_32 y1_32 M2_32 N2_32 k_32 f0_32
    refine a_iadd X dX4_wishFor_32 ?_
    refine a_istore X dX4_wishFor_33 (by decide) ?_
    refine a_iconst (v := 0) X dX4_wishFor_35 (by decide) ?_
    refine a_istore X dX4_wishFor_36 (by decide) ?_
    exact Zw.to2 (H_38 _ _ _ _ _ _ _ _ (by (try dsimp only); repeat first | assumption | exact zK.rf | refine zK.zu ?_ (by omega) | refine zK.zu0 ?_ (by decide) | refine zK.zwr ?_ (by omega) | refine zK.zfil ?_ (by omega) | refine zK.zcpy ?_ (by omega) | refine zK.trans ?_ (by assumption) | dsimp only) ) rfl rfl rfl
  have J_20 : ∀ (x1_20 : Int32) (x2_20 : Int32) (x3_20 : Int32) (x4_20 : Int32) (x5_20 : Option Value) (x6_20 : Option Value) (y0_20 : Int32) (y1_20 : Int32) (M2 : Nat → Nat → Int32) (N2 : Nat → Nat → Int64), zK P S.2.1 M2 → (y0_20 = 0 ∨ y0_20 = 1) → (y1_20 = 0 ∨ y1_20 = 1) → Zw p l e { frames := 1, cells := 0, slots := 0, locals := 80 * 1 } s m args below meth c G b 7 (MQ below (zQ G b FQ) args s 0 0 (fun q : Nat => b ≤ q)) 0 0 20 [some (.ref (Q)), some (.int x1_20), some (.int x2_20), some (.int x3_20), some (.int x4_20), x5_20, x6_20] [(.int y1_20), (.int y0_20)] (S.1, M2, N2) := by
    intro x1_20 x2_20 x3_20 x4_20 x5_20 x6_20 y0_20 y1_20 M2_20 N2_20 k_20 f0_20 f1_20
    refine a_iadd X dX4_wishFor_20 ?_
    refine a_iload X dX4_wishFor_21 rfl ?_
    refine a_iconst (v := -1) X dX4_wishFor_23 (by decide) ?_
    refine a_icmp_ne (tgt := 31) X dX4_wishFor_24 (by decide) (fun h_24 => ?_) (fun h_24 => ?_)
    · refine a_iconst (v := 1) X dX4_wishFor_31 (by decide) ?_
      exact Zw.to2 (J_32 _ _ _ _ _ _ _ _ _ _ (by (try dsimp only); repeat first | assumption | exact zK.rf | refine zK.zu ?_ (by omega) | refine zK.zu0 ?_ (by decide) | refine zK.zwr ?_ (by omega) | refine zK.zfil ?_ (by omega) | refine zK.zcpy ?_ (by omega) | refine zK.trans ?_ (by assumption) | dsimp only) (by first | exact Or.inl rfl | exact Or.inr rfl | assumption | ((try dsimp only); (repeat rw [zwr_row (by omega)]); assumption))) rfl rfl rfl
    · refine a_iconst (v := 0) X dX4_wishFor_27 (by decide) ?_
      refine a_goto (tgt := 32) X dX4_wishFor_28 (by decide) ?_
      exact Zw.to2 (J_32 _ _ _ _ _ _ _ _ _ _ (by (try dsimp only); repeat first | assumption | exact zK.rf | refine zK.zu ?_ (by omega) | refine zK.zu0 ?_ (by decide) | refine zK.zwr ?_ (by omega) | refine zK.zfil ?_ (by omega) | refine zK.zcpy ?_ (by omega) | refine zK.trans ?_ (by assumption) | dsimp only) (by first | exact Or.inl rfl | exact Or.inr rfl | assumption | ((try dsimp only); (repeat rw [zwr_row (by omega)]); assumption))) rfl rfl rfl
  have J_10 : ∀ (x1_10 : Int32) (x2_10 : Int32) (x3_10 : Int32) (x4_10 : Int32) (x5_10 : Option Value) (x6_10 : Option Value) (y0_10 : Int32) (M2 : Nat → Nat → Int32) (N2 : Nat → Nat → Int64), zK P S.2.1 M2 → (y0_10 = 0 ∨ y0_10 = 1) → Zw p l e { frames := 1, cells := 0, slots := 0, locals := 80 * 1 } s m args below meth c G b 7 (MQ below (zQ G b FQ) args s 0 0 (fun q : Nat => b ≤ q)) 0 0 10 [some (.ref (Q)), some (.int x1_10), some (.int x2_10), some (.int x3_10), some (.int x4_10), x5_10, x6_10] [(.int y0_10)] (S.1, M2, N2) := by
    intro x1_10 x2_10 x3_10 x4_10 x5_10 x6_10 y0_10 M2_10 N2_10 k_10 f0_10
    refine a_iload_n X dX4_wishFor_10 rfl ?_
    refine a_iconst (v := -1) X dX4_wishFor_11 (by decide) ?_
    refine a_icmp_ne (tgt := 19) X dX4_wishFor_12 (by decide) (fun h_12 => ?_) (fun h_12 => ?_)
    · refine a_iconst (v := 1) X dX4_wishFor_19 (by decide) ?_
      exact Zw.to2 (J_20 _ _ _ _ _ _ _ _ _ _ (by (try dsimp only); repeat first | assumption | exact zK.rf | refine zK.zu ?_ (by omega) | refine zK.zu0 ?_ (by decide) | refine zK.zwr ?_ (by omega) | refine zK.zfil ?_ (by omega) | refine zK.zcpy ?_ (by omega) | refine zK.trans ?_ (by assumption) | dsimp only) (by first | exact Or.inl rfl | exact Or.inr rfl | assumption | ((try dsimp only); (repeat rw [zwr_row (by omega)]); assumption)) (by first | exact Or.inl rfl | exact Or.inr rfl | assumption | ((try dsimp only); (repeat rw [zwr_row (by omega)]); assumption))) rfl rfl rfl
    · refine a_iconst (v := 0) X dX4_wishFor_15 (by decide) ?_
      refine a_goto (tgt := 20) X dX4_wishFor_16 (by decide) ?_
      exact Zw.to2 (J_20 _ _ _ _ _ _ _ _ _ _ (by (try dsimp only); repeat first | assumption | exact zK.rf | refine zK.zu ?_ (by omega) | refine zK.zu0 ?_ (by decide) | refine zK.zwr ?_ (by omega) | refine zK.zfil ?_ (by omega) | refine zK.zcpy ?_ (by omega) | refine zK.trans ?_ (by assumption) | dsimp only) (by first | exact Or.inl rfl | exact Or.inr rfl | assumption | ((try dsimp only); (repeat rw [zwr_row (by omega)]); assumption)) (by first | exact Or.inl rfl | exact Or.inr rfl | assumption | ((try dsimp only); (repeat rw [zwr_row (by omega)]); assumption))) rfl rfl rfl
  refine a_iload_n X dX4_wishFor_0 rfl ?_
  refine a_iconst (v := -1) X dX4_wishFor_1 (by decide) ?_
  refine a_icmp_ne (tgt := 9) X dX4_wishFor_2 (by decide) (fun h_2 => ?_) (fun h_2 => ?_)
  · refine a_iconst (v := 1) X dX4_wishFor_9 (by decide) ?_
    exact Zw.to2 (J_10 _ _ _ _ _ _ _ _ _ (by (try dsimp only); repeat first | assumption | exact zK.rf | refine zK.zu ?_ (by omega) | refine zK.zu0 ?_ (by decide) | refine zK.zwr ?_ (by omega) | refine zK.zfil ?_ (by omega) | refine zK.zcpy ?_ (by omega) | refine zK.trans ?_ (by assumption) | dsimp only) (by first | exact Or.inl rfl | exact Or.inr rfl | assumption | ((try dsimp only); (repeat rw [zwr_row (by omega)]); assumption))) rfl rfl rfl
  · refine a_iconst (v := 0) X dX4_wishFor_5 (by decide) ?_
    refine a_goto (tgt := 10) X dX4_wishFor_6 (by decide) ?_
    exact Zw.to2 (J_10 _ _ _ _ _ _ _ _ _ (by (try dsimp only); repeat first | assumption | exact zK.rf | refine zK.zu ?_ (by omega) | refine zK.zu0 ?_ (by decide) | refine zK.zwr ?_ (by omega) | refine zK.zfil ?_ (by omega) | refine zK.zcpy ?_ (by omega) | refine zK.trans ?_ (by assumption) | dsimp only) (by first | exact Or.inl rfl | exact Or.inr rfl | assumption | ((try dsimp only); (repeat rw [zwr_row (by omega)]); assumption))) rfl rfl rfl
set_option maxRecDepth 100000 in
theorem s_X4_dissolve {l : Launch} {G : zG} {b : Nat} {S : zS} {P : Nat} {Q : Nat} {v0 : Int32} (hQ : LX4 S.1 Q) (rQ : P < Q ∧ Q + 8 ≤ P + 200) : zM l G b yX4_dissolve cX4_dissolve 4 none 1 0 0 [.ref Q, .int v0] S (fun r z => ∃ M' N', z = (S.1, M', N') ∧ zK P S.2.1 M' ∧ r = none) := by
  refine zM.of miX4_dissolve (Nat.le_of_ble_eq_true rfl) ?_
  intro p e s m args below meth c X hr hname
  generalize hF : ((fun r z => ∃ M' N', z = (S.1, M', N') ∧ zK P S.2.1 M' ∧ r = none) : Option Value → zS → Prop) = FQ
  change Zw p l e { frames := 1, cells := 0, slots := 0, locals := 80 * 1 } s m args below meth c G b 4 (MQ below (zQ G b FQ) args s 0 0 (fun q : Nat => b ≤ q)) 0 0 0 [some (.ref Q), some (.int v0), none, none] [] S
  obtain ⟨q_lt, q_o, q_quota, q_score, q_guest, q_party, q_wishCount, q_wishes, q_has⟩ := id hQ
  have L_2 : ∀ u : Nat, ∀ (x1_2 : Int32) (x2_2 : Int32) (x3_2 : Option Value) (M2 : Nat → Nat → Int32) (N2 : Nat → Nat → Int64), zK P S.2.1 M2 → (2147483648 - x2_2.toInt).toNat < u → Zw p l e { frames := 1, cells := 0, slots := 0, locals := 80 * 1 } s m args below meth c G b 4 (MQ below (zQ G b FQ) args s 0 0 (fun q : Nat => b ≤ q)) 0 0 2 [some (.ref (Q)), some (.int x1_2), some (.int x2_2), x3_2] [] (S.1, M2, N2) := by
    intro u
    induction u with
    | zero => intro x1_2 x2_2 x3_2 M2_2 N2_2 k_2 hm_2; exact absurd hm_2 (Nat.not_lt_zero _)
    | succ u_2 ih_2 =>
      intro x1_2 x2_2 x3_2 M2_2 N2_2 k_2 hm_2
      have J_52 : ∀ (x1_52 : Int32) (x2_52 : Int32) (x3_52 : Int32) (M2 : Nat → Nat → Int32) (N2 : Nat → Nat → Int64), zK P S.2.1 M2 → ((2147483648 - x2_52.toInt).toNat < u_2 + 1) → (x2_52.toInt < 2147483647) → Zw p l e { frames := 1, cells := 0, slots := 0, locals := 80 * 1 } s m args below meth c G b 4 (MQ below (zQ G b FQ) args s 0 0 (fun q : Nat => b ≤ q)) 0 0 52 [some (.ref (Q)), some (.int x1_52), some (.int x2_52), some (.int x3_52)] [] (S.1, M2, N2) := by
        intro x1_52 x2_52 x3_52 M2_52 N2_52 k_52 f0_52 f1_52
        refine a_iinc X dX4_dissolve_52 (by decide) rfl rfl ?_
        refine a_goto (tgt := 2) X dX4_dissolve_55 (by decide) ?_
        exact Zw.to2 (ih_2 _ _ _ _ _ (by (try dsimp only); repeat first | assumption | exact zK.rf | refine zK.zu ?_ (by omega) | refine zK.zu0 ?_ (by decide) | refine zK.zwr ?_ (by omega) | refine zK.zfil ?_ (by omega) | refine zK.zcpy ?_ (by omega) | refine zK.trans ?_ (by assumption) | dsimp only)  (z_up f1_52 f0_52)) rfl rfl rfl
      refine a_iload_n X dX4_dissolve_2 rfl ?_
      refine a_aload_n X dX4_dissolve_3 rfl ?_
      refine a_geti X lf4_37 (by assumption) rfl dX4_dissolve_4 ?_
      refine a_icmp_ge (tgt := 58) X dX4_dissolve_7 (by decide) (fun h_7 => ?_) (fun h_7 => ?_)
      · refine a_aload_n X dX4_dissolve_58 rfl ?_
        refine a_dup X dX4_dissolve_59 rfl ?_
        refine a_geti X lf4_40 (by assumption) rfl dX4_dissolve_60 ?_
        refine a_iconst (v := 1) X dX4_dissolve_63 (by decide) ?_
        refine a_isub X dX4_dissolve_64 ?_
        refine a_puti X lf4_40 (by assumption) rfl dX4_dissolve_65 ?_
        refine a_vret X hr dX4_dissolve_68 ⟨by decide, by decide⟩ ?_
        subst hF
        exact ⟨_, _, rfl, (by (try dsimp only); repeat first | assumption | exact zK.rf | refine zK.zu ?_ (by omega) | refine zK.zu0 ?_ (by decide) | refine zK.zwr ?_ (by omega) | refine zK.zfil ?_ (by omega) | refine zK.zcpy ?_ (by omega) | refine zK.trans ?_ (by assumption) | dsimp only), rfl⟩
      · refine a_aload_n X dX4_dissolve_10 rfl ?_
        refine a_getr X lf4_21 (by assumption) rfl (by omega) dX4_dissolve_11 ?_
        refine a_iload_n X dX4_dissolve_14 rfl ?_
        refine a_callSNv X dX4_dissolve_15 miX7_cell lm4_67 (c_cell (by assumption) (by first | decide | assumption)) rfl rfl (Nat.le_of_ble_eq_true rfl) ⟨by decide, by decide, by decide, by decide⟩ ?_
        refine a_istore_n X dX4_dissolve_18 (by decide) ?_
        refine a_iload_n X dX4_dissolve_19 rfl ?_
        refine a_iload_n X dX4_dissolve_20 rfl ?_
        refine a_icmp_ne (tgt := 36) X dX4_dissolve_21 (by decide) (fun h_21 => ?_) (fun h_21 => ?_)
        · refine a_iload_n X dX4_dissolve_36 rfl ?_
          refine a_iload_n X dX4_dissolve_37 rfl ?_
          refine a_icmp_le (tgt := 52) X dX4_dissolve_38 (by decide) (fun h_38 => ?_) (fun h_38 => ?_)
          · exact Zw.to2 (J_52 _ _ _ _ _ (by (try dsimp only); repeat first | assumption | exact zK.rf | refine zK.zu ?_ (by omega) | refine zK.zu0 ?_ (by decide) | refine zK.zwr ?_ (by omega) | refine zK.zfil ?_ (by omega) | refine zK.zcpy ?_ (by omega) | refine zK.trans ?_ (by assumption) | dsimp only) hm_2 (by first | assumption | exact z_lt (by assumption) | exact z_lt2 (by assumption) | exact z_lt3 (by assumption) (by decide))) rfl rfl rfl
          · refine a_aload_n X dX4_dissolve_41 rfl ?_
            refine a_getr X lf4_21 (by assumption) rfl (by omega) dX4_dissolve_42 ?_
            refine a_iload_n X dX4_dissolve_45 rfl ?_
            refine a_iload_n X dX4_dissolve_46 rfl ?_
            refine a_iconst (v := 1) X dX4_dissolve_47 (by decide) ?_
            refine a_isub X dX4_dissolve_48 ?_
            refine a_callSNx X dX4_dissolve_49 miX7_put lm4_63 (s_X7_put (P := P) (by assumption) (by first | decide | assumption) (by omega)) rfl rfl (Nat.le_of_ble_eq_true rfl) ⟨by decide, by decide, by decide, by decide⟩ (fun r_49 S_49 q_49 => ?_)
            obtain ⟨M_49, N_49, rfl, k_49, rfl⟩ := q_49
            exact Zw.to2 (J_52 _ _ _ _ _ (by (try dsimp only); repeat first | assumption | exact zK.rf | refine zK.zu ?_ (by omega) | refine zK.zu0 ?_ (by decide) | refine zK.zwr ?_ (by omega) | refine zK.zfil ?_ (by omega) | refine zK.zcpy ?_ (by omega) | refine zK.trans ?_ (by assumption) | dsimp only) hm_2 (by first | assumption | exact z_lt (by assumption) | exact z_lt2 (by assumption) | exact z_lt3 (by assumption) (by decide))) rfl rfl rfl
        · refine a_aload_n X dX4_dissolve_24 rfl ?_
          refine a_getr X lf4_21 (by assumption) rfl (by omega) dX4_dissolve_25 ?_
          refine a_iload_n X dX4_dissolve_28 rfl ?_
          refine a_iconst (v := -1) X dX4_dissolve_29 (by decide) ?_
          refine a_callSNx X dX4_dissolve_30 miX7_put lm4_63 (s_X7_put (P := P) (by assumption) (by first | decide | assumption) (by omega)) rfl rfl (Nat.le_of_ble_eq_true rfl) ⟨by decide, by decide, by decide, by decide⟩ (fun r_30 S_30 q_30 => ?_)
          obtain ⟨M_30, N_30, rfl, k_30, rfl⟩ := q_30
          refine a_goto (tgt := 52) X dX4_dissolve_33 (by decide) ?_
          exact Zw.to2 (J_52 _ _ _ _ _ (by (try dsimp only); repeat first | assumption | exact zK.rf | refine zK.zu ?_ (by omega) | refine zK.zu0 ?_ (by decide) | refine zK.zwr ?_ (by omega) | refine zK.zfil ?_ (by omega) | refine zK.zcpy ?_ (by omega) | refine zK.trans ?_ (by assumption) | dsimp only) hm_2 (by first | assumption | exact z_lt (by assumption) | exact z_lt2 (by assumption) | exact z_lt3 (by assumption) (by decide))) rfl rfl rfl
  have H_2 : ∀ (x1_2 : Int32) (x2_2 : Int32) (x3_2 : Option Value) (M2 : Nat → Nat → Int32) (N2 : Nat → Nat → Int64), zK P S.2.1 M2 → Zw p l e { frames := 1, cells := 0, slots := 0, locals := 80 * 1 } s m args below meth c G b 4 (MQ below (zQ G b FQ) args s 0 0 (fun q : Nat => b ≤ q)) 0 0 2 [some (.ref (Q)), some (.int x1_2), some (.int x2_2), x3_2] [] (S.1, M2, N2) := fun x1_2 x2_2 x3_2 M2 N2 k  => L_2 _ x1_2 x2_2 x3_2 M2 N2 k  (Nat.lt_succ_self _)
  refine a_iconst (v := 0) X dX4_dissolve_0 (by decide) ?_
  refine a_istore_n X dX4_dissolve_1 (by decide) ?_
  exact Zw.to2 (H_2 _ _ _ _ _ (by (try dsimp only); repeat first | assumption | exact zK.rf | refine zK.zu ?_ (by omega) | refine zK.zu0 ?_ (by decide) | refine zK.zwr ?_ (by omega) | refine zK.zfil ?_ (by omega) | refine zK.zcpy ?_ (by omega) | refine zK.trans ?_ (by assumption) | dsimp only) ) rfl rfl rfl
set_option maxRecDepth 100000 in
theorem s_X4_live {l : Launch} {G : zG} {b : Nat} {S : zS} {P : Nat} {Q : Nat} {A : Nat} {B : Nat} (hQ : LX4 S.1 Q) (rQ : P < Q ∧ Q + 8 ≤ P + 200) (hA : LX2 S.1 A) (rA : P < A ∧ A + 13 ≤ P + 200) (hB : LX5 S.1 B) (rB : P < B ∧ B + 8 ≤ P + 200) : zM l G b yX4_live cX4_live 5 none 4 0 0 [.ref Q, .ref A, .ref B] S (fun r z => ∃ M' N', z = (S.1, M', N') ∧ zK P S.2.1 M' ∧ r = none) := by
  refine zM.of miX4_live (Nat.le_of_ble_eq_true rfl) ?_
  intro p e s m args below meth c X hr hname
  generalize hF : ((fun r z => ∃ M' N', z = (S.1, M', N') ∧ zK P S.2.1 M' ∧ r = none) : Option Value → zS → Prop) = FQ
  change Zw p l e { frames := 4, cells := 0, slots := 0, locals := 80 * 4 } s m args below meth c G b 5 (MQ below (zQ G b FQ) args s 0 0 (fun q : Nat => b ≤ q)) 0 0 0 [some (.ref Q), some (.ref A), some (.ref B), none, none] [] S
  obtain ⟨q_lt, q_o, q_quota, q_score, q_guest, q_party, q_wishCount, q_wishes, q_has⟩ := id hQ
  obtain ⟨a_lt, a_o, a_quota, a_preferred, a_forGuests, a_applicantOf, a_size, a_guestCount, a_score, a_tickets, a_bits, a_party, a_wishCount, a_wishes⟩ := id hA
  obtain ⟨b_lt, b_o, b_line, b_unitOf, b_roundOf, b_leftTags, b_leftGuests, b_leftPreferred, b_ranked⟩ := id hB
  have L_2 : ∀ u : Nat, ∀ (x3_2 : Int32) (x4_2 : Option Value) (M2 : Nat → Nat → Int32) (N2 : Nat → Nat → Int64), zK P S.2.1 M2 → (2147483648 - x3_2.toInt).toNat < u → Zw p l e { frames := 4, cells := 0, slots := 0, locals := 80 * 4 } s m args below meth c G b 5 (MQ below (zQ G b FQ) args s 0 0 (fun q : Nat => b ≤ q)) 0 0 2 [some (.ref (Q)), some (.ref (A)), some (.ref (B)), some (.int x3_2), x4_2] [] (S.1, M2, N2) := by
    intro u
    induction u with
    | zero => intro x3_2 x4_2 M2_2 N2_2 k_2 hm_2; exact absurd hm_2 (Nat.not_lt_zero _)
    | succ u_2 ih_2 =>
      intro x3_2 x4_2 M2_2 N2_2 k_2 hm_2
      refine a_iload_n X dX4_live_2 rfl ?_
      refine a_aload_n X dX4_live_3 rfl ?_
      refine a_geti X lf4_37 (by assumption) rfl dX4_live_4 ?_
      refine a_icmp_ge (tgt := 66) X dX4_live_7 (by decide) (fun h_7 => ?_) (fun h_7 => ?_)
      · refine a_vret X hr dX4_live_66 ⟨by decide, by decide⟩ ?_
        subst hF
        exact ⟨_, _, rfl, (by (try dsimp only); repeat first | assumption | exact zK.rf | refine zK.zu ?_ (by omega) | refine zK.zu0 ?_ (by decide) | refine zK.zwr ?_ (by omega) | refine zK.zfil ?_ (by omega) | refine zK.zcpy ?_ (by omega) | refine zK.trans ?_ (by assumption) | dsimp only), rfl⟩
      · refine a_aload_n X dX4_live_10 rfl ?_
        refine a_getr X lf4_79 (by assumption) rfl (by omega) dX4_live_11 ?_
        refine a_iload_n X dX4_live_14 rfl ?_
        refine a_callSNv X dX4_live_15 miX7_cell lm4_67 (c_cell (by assumption) (by first | decide | assumption)) rfl rfl (Nat.le_of_ble_eq_true rfl) ⟨by decide, by decide, by decide, by decide⟩ ?_
        refine a_istore X dX4_live_18 (by decide) ?_
        refine a_aload_n X dX4_live_20 rfl ?_
        refine a_getr X lf4_15 (by assumption) rfl (by omega) dX4_live_21 ?_
        refine a_iload_n X dX4_live_24 rfl ?_
        refine a_aload_n X dX4_live_25 rfl ?_
        refine a_aload_n X dX4_live_26 rfl ?_
        refine a_iload X dX4_live_27 rfl ?_
        refine a_aload_n X dX4_live_29 rfl ?_
        refine a_getr X lf4_15 (by assumption) rfl (by omega) dX4_live_30 ?_
        refine a_iload_n X dX4_live_33 rfl ?_
        refine a_callSNv X dX4_live_34 miX7_cell lm4_67 (c_cell (by assumption) (by first | decide | assumption)) rfl rfl (Nat.le_of_ble_eq_true rfl) ⟨by decide, by decide, by decide, by decide⟩ ?_
        refine a_callVx X dX4_live_37 miX5_scoreBehind lm4_84 (s_X5_scoreBehind (P := P) (by assumption) (by omega) (by assumption) (by omega)) (by assumption) rfl rfl rfl (Nat.le_of_ble_eq_true rfl) ⟨by decide, by decide, by decide, by decide⟩ (fun r_37 S_37 q_37 => ?_)
        obtain ⟨rfl, ⟨v_37, rfl⟩⟩ := q_37
        refine a_callSNx X dX4_live_40 miX7_put lm4_63 (s_X7_put (P := P) (by assumption) (by first | decide | assumption) (by omega)) rfl rfl (Nat.le_of_ble_eq_true rfl) ⟨by decide, by decide, by decide, by decide⟩ (fun r_40 S_40 q_40 => ?_)
        obtain ⟨M_40, N_40, rfl, k_40, rfl⟩ := q_40
        refine a_aload_n X dX4_live_43 rfl ?_
        refine a_getr X lf4_30 (by assumption) rfl (by omega) dX4_live_44 ?_
        refine a_iload_n X dX4_live_47 rfl ?_
        refine a_aload_n X dX4_live_48 rfl ?_
        refine a_getr X lf4_90 (by assumption) rfl (by omega) dX4_live_49 ?_
        refine a_iload X dX4_live_52 rfl ?_
        refine a_callSNv X dX4_live_54 miX7_cell lm4_67 (c_cell (by assumption) (by first | decide | assumption)) rfl rfl (Nat.le_of_ble_eq_true rfl) ⟨by decide, by decide, by decide, by decide⟩ ?_
        refine a_callSNx X dX4_live_57 miX7_put lm4_63 (s_X7_put (P := P) (by assumption) (by first | decide | assumption) (by omega)) rfl rfl (Nat.le_of_ble_eq_true rfl) ⟨by decide, by decide, by decide, by decide⟩ (fun r_57 S_57 q_57 => ?_)
        obtain ⟨M_57, N_57, rfl, k_57, rfl⟩ := q_57
        refine a_iinc X dX4_live_60 (by decide) rfl rfl ?_
        refine a_goto (tgt := 2) X dX4_live_63 (by decide) ?_
        exact Zw.to2 (ih_2 _ _ _ _ (by (try dsimp only); repeat first | assumption | exact zK.rf | refine zK.zu ?_ (by omega) | refine zK.zu0 ?_ (by decide) | refine zK.zwr ?_ (by omega) | refine zK.zfil ?_ (by omega) | refine zK.zcpy ?_ (by omega) | refine zK.trans ?_ (by assumption) | dsimp only)  (z_up (by first | assumption | exact z_lt (by assumption) | exact z_lt2 (by assumption) | exact z_lt3 (by assumption) (by decide)) hm_2)) rfl rfl rfl
  have H_2 : ∀ (x3_2 : Int32) (x4_2 : Option Value) (M2 : Nat → Nat → Int32) (N2 : Nat → Nat → Int64), zK P S.2.1 M2 → Zw p l e { frames := 4, cells := 0, slots := 0, locals := 80 * 4 } s m args below meth c G b 5 (MQ below (zQ G b FQ) args s 0 0 (fun q : Nat => b ≤ q)) 0 0 2 [some (.ref (Q)), some (.ref (A)), some (.ref (B)), some (.int x3_2), x4_2] [] (S.1, M2, N2) := fun x3_2 x4_2 M2 N2 k  => L_2 _ x3_2 x4_2 M2 N2 k  (Nat.lt_succ_self _)
  refine a_iconst (v := 0) X dX4_live_0 (by decide) ?_
  refine a_istore_n X dX4_live_1 (by decide) ?_
  exact Zw.to2 (H_2 _ _ _ _ (by (try dsimp only); repeat first | assumption | exact zK.rf | refine zK.zu ?_ (by omega) | refine zK.zu0 ?_ (by decide) | refine zK.zwr ?_ (by omega) | refine zK.zfil ?_ (by omega) | refine zK.zcpy ?_ (by omega) | refine zK.trans ?_ (by assumption) | dsimp only) ) rfl rfl rfl
set_option maxRecDepth 100000 in
theorem s_X4_clear {l : Launch} {G : zG} {b : Nat} {S : zS} {P : Nat} {Q : Nat} (hQ : LX4 S.1 Q) (rQ : P < Q ∧ Q + 8 ≤ P + 200) : zM l G b yX4_clear cX4_clear 1 none 1 0 0 [.ref Q] S (fun r z => ∃ M' N', z = (S.1, M', N') ∧ zK P S.2.1 M' ∧ r = none) := by
  refine zM.of miX4_clear (Nat.le_of_ble_eq_true rfl) ?_
  intro p e s m args below meth c X hr hname
  generalize hF : ((fun r z => ∃ M' N', z = (S.1, M', N') ∧ zK P S.2.1 M' ∧ r = none) : Option Value → zS → Prop) = FQ
  change Zw p l e { frames := 1, cells := 0, slots := 0, locals := 80 * 1 } s m args below meth c G b 1 (MQ below (zQ G b FQ) args s 0 0 (fun q : Nat => b ≤ q)) 0 0 0 [some (.ref Q)] [] S
  obtain ⟨q_lt, q_o, q_quota, q_score, q_guest, q_party, q_wishCount, q_wishes, q_has⟩ := id hQ
  refine a_aload_n X dX4_clear_0 rfl ?_
  refine a_iconst (v := 0) X dX4_clear_1 (by decide) ?_
  refine a_puti X lf4_33 (by assumption) rfl dX4_clear_2 ?_
  refine a_aload_n X dX4_clear_5 rfl ?_
  refine a_iconst (v := 0) X dX4_clear_6 (by decide) ?_
  refine a_puti X lf4_37 (by assumption) rfl dX4_clear_7 ?_
  refine a_aload_n X dX4_clear_10 rfl ?_
  refine a_iconst (v := 0) X dX4_clear_11 (by decide) ?_
  refine a_puti X lf4_40 (by assumption) rfl dX4_clear_12 ?_
  refine a_aload_n X dX4_clear_15 rfl ?_
  refine a_iconst (v := 0) X dX4_clear_16 (by decide) ?_
  refine a_puti X lf4_43 (by assumption) rfl dX4_clear_17 ?_
  refine a_aload_n X dX4_clear_20 rfl ?_
  refine a_iconst (v := 0) X dX4_clear_21 (by decide) ?_
  refine a_puti X lf4_46 (by assumption) rfl dX4_clear_22 ?_
  refine a_aload_n X dX4_clear_25 rfl ?_
  refine a_bipush (v := 100) X dX4_clear_26 (by decide) ?_
  refine a_puti X lf4_49 (by assumption) rfl dX4_clear_28 ?_
  refine a_aload_n X dX4_clear_31 rfl ?_
  refine a_iconst (v := 0) X dX4_clear_32 (by decide) ?_
  refine a_puti X lf4_52 (by assumption) rfl dX4_clear_33 ?_
  refine a_aload_n X dX4_clear_36 rfl ?_
  refine a_getr X lf4_9 (by assumption) rfl (by omega) dX4_clear_37 ?_
  refine a_iconst (v := 0) X dX4_clear_40 (by decide) ?_
  refine a_callSNx X dX4_clear_41 miX7_fill lm4_55 (s_X7_fill (P := P) (by assumption) (by first | decide | assumption) (by omega)) rfl rfl (Nat.le_of_ble_eq_true rfl) ⟨by decide, by decide, by decide, by decide⟩ (fun r_41 S_41 q_41 => ?_)
  obtain ⟨M_41, N_41, rfl, k_41, rfl⟩ := q_41
  refine a_aload_n X dX4_clear_44 rfl ?_
  refine a_getr X lf4_15 (by assumption) rfl (by omega) dX4_clear_45 ?_
  refine a_iconst (v := 0) X dX4_clear_48 (by decide) ?_
  refine a_callSNx X dX4_clear_49 miX7_fill lm4_55 (s_X7_fill (P := P) (by assumption) (by first | decide | assumption) (by omega)) rfl rfl (Nat.le_of_ble_eq_true rfl) ⟨by decide, by decide, by decide, by decide⟩ (fun r_49 S_49 q_49 => ?_)
  obtain ⟨M_49, N_49, rfl, k_49, rfl⟩ := q_49
  refine a_aload_n X dX4_clear_52 rfl ?_
  refine a_getr X lf4_18 (by assumption) rfl (by omega) dX4_clear_53 ?_
  refine a_iconst (v := 0) X dX4_clear_56 (by decide) ?_
  refine a_callSNx X dX4_clear_57 miX7_fill lm4_55 (s_X7_fill (P := P) (by assumption) (by first | decide | assumption) (by omega)) rfl rfl (Nat.le_of_ble_eq_true rfl) ⟨by decide, by decide, by decide, by decide⟩ (fun r_57 S_57 q_57 => ?_)
  obtain ⟨M_57, N_57, rfl, k_57, rfl⟩ := q_57
  refine a_aload_n X dX4_clear_60 rfl ?_
  refine a_getr X lf4_21 (by assumption) rfl (by omega) dX4_clear_61 ?_
  refine a_iconst (v := -1) X dX4_clear_64 (by decide) ?_
  refine a_callSNx X dX4_clear_65 miX7_fill lm4_55 (s_X7_fill (P := P) (by assumption) (by first | decide | assumption) (by omega)) rfl rfl (Nat.le_of_ble_eq_true rfl) ⟨by decide, by decide, by decide, by decide⟩ (fun r_65 S_65 q_65 => ?_)
  obtain ⟨M_65, N_65, rfl, k_65, rfl⟩ := q_65
  refine a_aload_n X dX4_clear_68 rfl ?_
  refine a_getr X lf4_24 (by assumption) rfl (by omega) dX4_clear_69 ?_
  refine a_iconst (v := 0) X dX4_clear_72 (by decide) ?_
  refine a_callSNx X dX4_clear_73 miX7_fill lm4_55 (s_X7_fill (P := P) (by assumption) (by first | decide | assumption) (by omega)) rfl rfl (Nat.le_of_ble_eq_true rfl) ⟨by decide, by decide, by decide, by decide⟩ (fun r_73 S_73 q_73 => ?_)
  obtain ⟨M_73, N_73, rfl, k_73, rfl⟩ := q_73
  refine a_aload_n X dX4_clear_76 rfl ?_
  refine a_getr X lf4_27 (by assumption) rfl (by omega) dX4_clear_77 ?_
  refine a_iconst (v := -1) X dX4_clear_80 (by decide) ?_
  refine a_callSNx X dX4_clear_81 miX7_fill lm4_55 (s_X7_fill (P := P) (by assumption) (by first | decide | assumption) (by omega)) rfl rfl (Nat.le_of_ble_eq_true rfl) ⟨by decide, by decide, by decide, by decide⟩ (fun r_81 S_81 q_81 => ?_)
  obtain ⟨M_81, N_81, rfl, k_81, rfl⟩ := q_81
  refine a_aload_n X dX4_clear_84 rfl ?_
  refine a_getr X lf4_30 (by assumption) rfl (by omega) dX4_clear_85 ?_
  refine a_iconst (v := -1) X dX4_clear_88 (by decide) ?_
  refine a_callSNx X dX4_clear_89 miX7_fill lm4_55 (s_X7_fill (P := P) (by assumption) (by first | decide | assumption) (by omega)) rfl rfl (Nat.le_of_ble_eq_true rfl) ⟨by decide, by decide, by decide, by decide⟩ (fun r_89 S_89 q_89 => ?_)
  obtain ⟨M_89, N_89, rfl, k_89, rfl⟩ := q_89
  refine a_vret X hr dX4_clear_92 ⟨by decide, by decide⟩ ?_
  subst hF
  exact ⟨_, _, rfl, (by (try dsimp only); repeat first | assumption | exact zK.rf | refine zK.zu ?_ (by omega) | refine zK.zu0 ?_ (by decide) | refine zK.zwr ?_ (by omega) | refine zK.zfil ?_ (by omega) | refine zK.zcpy ?_ (by omega) | refine zK.trans ?_ (by assumption) | dsimp only), rfl⟩
set_option maxRecDepth 100000 in
theorem s_X4_take {l : Launch} {G : zG} {b : Nat} {S : zS} {P : Nat} {Q : Nat} {A : Nat} (hQ : LX4 S.1 Q) (rQ : P < Q ∧ Q + 8 ≤ P + 200) (hA : LX4 S.1 A) (rA : P < A ∧ A + 8 ≤ P + 200) (dQA : Q + 8 ≤ A ∨ A + 8 ≤ Q) : zM l G b yX4_take cX4_take 2 none 2 0 0 [.ref Q, .ref A] S (fun r z => ∃ M' N', z = (S.1, M', N') ∧ zK P S.2.1 M' ∧ r = none) := by
  refine zM.of miX4_take (Nat.le_of_ble_eq_true rfl) ?_
  intro p e s m args below meth c X hr hname
  generalize hF : ((fun r z => ∃ M' N', z = (S.1, M', N') ∧ zK P S.2.1 M' ∧ r = none) : Option Value → zS → Prop) = FQ
  change Zw p l e { frames := 2, cells := 0, slots := 0, locals := 80 * 2 } s m args below meth c G b 2 (MQ below (zQ G b FQ) args s 0 0 (fun q : Nat => b ≤ q)) 0 0 0 [some (.ref Q), some (.ref A)] [] S
  obtain ⟨q_lt, q_o, q_quota, q_score, q_guest, q_party, q_wishCount, q_wishes, q_has⟩ := id hQ
  obtain ⟨a_lt, a_o, a_quota, a_score, a_guest, a_party, a_wishCount, a_wishes, a_has⟩ := id hA
  refine a_aload_n X dX4_take_0 rfl ?_
  refine a_aload_n X dX4_take_1 rfl ?_
  refine a_geti X lf4_33 (by assumption) rfl dX4_take_2 ?_
  refine a_puti X lf4_33 (by assumption) rfl dX4_take_5 ?_
  refine a_aload_n X dX4_take_8 rfl ?_
  refine a_aload_n X dX4_take_9 rfl ?_
  refine a_geti X lf4_37 (by assumption) rfl dX4_take_10 ?_
  refine a_puti X lf4_37 (by assumption) rfl dX4_take_13 ?_
  refine a_aload_n X dX4_take_16 rfl ?_
  refine a_aload_n X dX4_take_17 rfl ?_
  refine a_geti X lf4_40 (by assumption) rfl dX4_take_18 ?_
  refine a_puti X lf4_40 (by assumption) rfl dX4_take_21 ?_
  refine a_aload_n X dX4_take_24 rfl ?_
  refine a_aload_n X dX4_take_25 rfl ?_
  refine a_geti X lf4_43 (by assumption) rfl dX4_take_26 ?_
  refine a_puti X lf4_43 (by assumption) rfl dX4_take_29 ?_
  refine a_aload_n X dX4_take_32 rfl ?_
  refine a_aload_n X dX4_take_33 rfl ?_
  refine a_geti X lf4_46 (by assumption) rfl dX4_take_34 ?_
  refine a_puti X lf4_46 (by assumption) rfl dX4_take_37 ?_
  refine a_aload_n X dX4_take_40 rfl ?_
  refine a_aload_n X dX4_take_41 rfl ?_
  refine a_geti X lf4_49 (by assumption) rfl dX4_take_42 ?_
  refine a_puti X lf4_49 (by assumption) rfl dX4_take_45 ?_
  refine a_aload_n X dX4_take_48 rfl ?_
  refine a_aload_n X dX4_take_49 rfl ?_
  refine a_geti X lf4_52 (by assumption) rfl dX4_take_50 ?_
  refine a_puti X lf4_52 (by assumption) rfl dX4_take_53 ?_
  refine a_aload_n X dX4_take_56 rfl ?_
  refine a_getr X lf4_9 (by assumption) rfl (by omega) dX4_take_57 ?_
  refine a_aload_n X dX4_take_60 rfl ?_
  refine a_getr X lf4_9 (by assumption) rfl (by omega) dX4_take_61 ?_
  refine a_callSNx X dX4_take_64 miX7_copy lm4_59 (s_X7_copy (P := P) (by assumption) (by assumption) (by first | decide | assumption) (by first | decide | assumption) (by omega) (by omega)) rfl rfl (Nat.le_of_ble_eq_true rfl) ⟨by decide, by decide, by decide, by decide⟩ (fun r_64 S_64 q_64 => ?_)
  obtain ⟨M_64, N_64, rfl, k_64, rfl⟩ := q_64
  refine a_aload_n X dX4_take_67 rfl ?_
  refine a_getr X lf4_15 (by assumption) rfl (by omega) dX4_take_68 ?_
  refine a_aload_n X dX4_take_71 rfl ?_
  refine a_getr X lf4_15 (by assumption) rfl (by omega) dX4_take_72 ?_
  refine a_callSNx X dX4_take_75 miX7_copy lm4_59 (s_X7_copy (P := P) (by assumption) (by assumption) (by first | decide | assumption) (by first | decide | assumption) (by omega) (by omega)) rfl rfl (Nat.le_of_ble_eq_true rfl) ⟨by decide, by decide, by decide, by decide⟩ (fun r_75 S_75 q_75 => ?_)
  obtain ⟨M_75, N_75, rfl, k_75, rfl⟩ := q_75
  refine a_aload_n X dX4_take_78 rfl ?_
  refine a_getr X lf4_18 (by assumption) rfl (by omega) dX4_take_79 ?_
  refine a_aload_n X dX4_take_82 rfl ?_
  refine a_getr X lf4_18 (by assumption) rfl (by omega) dX4_take_83 ?_
  refine a_callSNx X dX4_take_86 miX7_copy lm4_59 (s_X7_copy (P := P) (by assumption) (by assumption) (by first | decide | assumption) (by first | decide | assumption) (by omega) (by omega)) rfl rfl (Nat.le_of_ble_eq_true rfl) ⟨by decide, by decide, by decide, by decide⟩ (fun r_86 S_86 q_86 => ?_)
  obtain ⟨M_86, N_86, rfl, k_86, rfl⟩ := q_86
  refine a_aload_n X dX4_take_89 rfl ?_
  refine a_getr X lf4_21 (by assumption) rfl (by omega) dX4_take_90 ?_
  refine a_aload_n X dX4_take_93 rfl ?_
  refine a_getr X lf4_21 (by assumption) rfl (by omega) dX4_take_94 ?_
  refine a_callSNx X dX4_take_97 miX7_copy lm4_59 (s_X7_copy (P := P) (by assumption) (by assumption) (by first | decide | assumption) (by first | decide | assumption) (by omega) (by omega)) rfl rfl (Nat.le_of_ble_eq_true rfl) ⟨by decide, by decide, by decide, by decide⟩ (fun r_97 S_97 q_97 => ?_)
  obtain ⟨M_97, N_97, rfl, k_97, rfl⟩ := q_97
  refine a_aload_n X dX4_take_100 rfl ?_
  refine a_getr X lf4_24 (by assumption) rfl (by omega) dX4_take_101 ?_
  refine a_aload_n X dX4_take_104 rfl ?_
  refine a_getr X lf4_24 (by assumption) rfl (by omega) dX4_take_105 ?_
  refine a_callSNx X dX4_take_108 miX7_copy lm4_59 (s_X7_copy (P := P) (by assumption) (by assumption) (by first | decide | assumption) (by first | decide | assumption) (by omega) (by omega)) rfl rfl (Nat.le_of_ble_eq_true rfl) ⟨by decide, by decide, by decide, by decide⟩ (fun r_108 S_108 q_108 => ?_)
  obtain ⟨M_108, N_108, rfl, k_108, rfl⟩ := q_108
  refine a_aload_n X dX4_take_111 rfl ?_
  refine a_getr X lf4_27 (by assumption) rfl (by omega) dX4_take_112 ?_
  refine a_aload_n X dX4_take_115 rfl ?_
  refine a_getr X lf4_27 (by assumption) rfl (by omega) dX4_take_116 ?_
  refine a_callSNx X dX4_take_119 miX7_copy lm4_59 (s_X7_copy (P := P) (by assumption) (by assumption) (by first | decide | assumption) (by first | decide | assumption) (by omega) (by omega)) rfl rfl (Nat.le_of_ble_eq_true rfl) ⟨by decide, by decide, by decide, by decide⟩ (fun r_119 S_119 q_119 => ?_)
  obtain ⟨M_119, N_119, rfl, k_119, rfl⟩ := q_119
  refine a_aload_n X dX4_take_122 rfl ?_
  refine a_getr X lf4_30 (by assumption) rfl (by omega) dX4_take_123 ?_
  refine a_aload_n X dX4_take_126 rfl ?_
  refine a_getr X lf4_30 (by assumption) rfl (by omega) dX4_take_127 ?_
  refine a_callSNx X dX4_take_130 miX7_copy lm4_59 (s_X7_copy (P := P) (by assumption) (by assumption) (by first | decide | assumption) (by first | decide | assumption) (by omega) (by omega)) rfl rfl (Nat.le_of_ble_eq_true rfl) ⟨by decide, by decide, by decide, by decide⟩ (fun r_130 S_130 q_130 => ?_)
  obtain ⟨M_130, N_130, rfl, k_130, rfl⟩ := q_130
  refine a_vret X hr dX4_take_133 ⟨by decide, by decide⟩ ?_
  subst hF
  exact ⟨_, _, rfl, (by (try dsimp only); repeat first | assumption | exact zK.rf | refine zK.zu ?_ (by omega) | refine zK.zu0 ?_ (by decide) | refine zK.zwr ?_ (by omega) | refine zK.zfil ?_ (by omega) | refine zK.zcpy ?_ (by omega) | refine zK.trans ?_ (by assumption) | dsimp only), rfl⟩
set_option maxRecDepth 100000 in
theorem s_X4_join {l : Launch} {G : zG} {b : Nat} {S : zS} {P : Nat} {Q : Nat} {v0 : Int32} {v1 : Int32} (hQ : LX4 S.1 Q) (rQ : P < Q ∧ Q + 8 ≤ P + 200) : zM l G b yX4_join cX4_join 4 none 2 0 0 [.ref Q, .int v0, .int v1] S (fun r z => ∃ M' N', z = (S.1, M', N') ∧ zK P S.2.1 M' ∧ r = none) := by
  refine zM.of miX4_join (Nat.le_of_ble_eq_true rfl) ?_
  intro p e s m args below meth c X hr hname
  generalize hF : ((fun r z => ∃ M' N', z = (S.1, M', N') ∧ zK P S.2.1 M' ∧ r = none) : Option Value → zS → Prop) = FQ
  change Zw p l e { frames := 2, cells := 0, slots := 0, locals := 80 * 2 } s m args below meth c G b 4 (MQ below (zQ G b FQ) args s 0 0 (fun q : Nat => b ≤ q)) 0 0 0 [some (.ref Q), some (.int v0), some (.int v1), none] [] S
  obtain ⟨q_lt, q_o, q_quota, q_score, q_guest, q_party, q_wishCount, q_wishes, q_has⟩ := id hQ
  refine a_iload_n X dX4_join_0 rfl ?_
  refine a_iconst (v := 3) X dX4_join_1 (by decide) ?_
  refine a_imul X dX4_join_2 ?_
  refine a_istore_n X dX4_join_3 (by decide) ?_
  refine a_aload_n X dX4_join_4 rfl ?_
  refine a_iconst (v := 1) X dX4_join_5 (by decide) ?_
  refine a_iload_n X dX4_join_6 rfl ?_
  refine a_ishl X dX4_join_7 ?_
  refine a_aload_n X dX4_join_8 rfl ?_
  refine a_getr X lf4_27 (by assumption) rfl (by omega) dX4_join_9 ?_
  refine a_iload_n X dX4_join_12 rfl ?_
  refine a_callSNv X dX4_join_13 miX7_cell lm4_67 (c_cell (by assumption) (by first | decide | assumption)) rfl rfl (Nat.le_of_ble_eq_true rfl) ⟨by decide, by decide, by decide, by decide⟩ ?_
  refine a_aload_n X dX4_join_16 rfl ?_
  refine a_getr X lf4_27 (by assumption) rfl (by omega) dX4_join_17 ?_
  refine a_iload_n X dX4_join_20 rfl ?_
  refine a_iconst (v := 1) X dX4_join_21 (by decide) ?_
  refine a_iadd X dX4_join_22 ?_
  refine a_callSNv X dX4_join_23 miX7_cell lm4_67 (c_cell (by assumption) (by first | decide | assumption)) rfl rfl (Nat.le_of_ble_eq_true rfl) ⟨by decide, by decide, by decide, by decide⟩ ?_
  refine a_aload_n X dX4_join_26 rfl ?_
  refine a_getr X lf4_27 (by assumption) rfl (by omega) dX4_join_27 ?_
  refine a_iload_n X dX4_join_30 rfl ?_
  refine a_iconst (v := 2) X dX4_join_31 (by decide) ?_
  refine a_iadd X dX4_join_32 ?_
  refine a_callSNv X dX4_join_33 miX7_cell lm4_67 (c_cell (by assumption) (by first | decide | assumption)) rfl rfl (Nat.le_of_ble_eq_true rfl) ⟨by decide, by decide, by decide, by decide⟩ ?_
  refine a_callVx X dX4_join_36 miX4_wishFor lm4_71 (s_X4_wishFor (P := P) (by assumption) (by omega)) (by assumption) rfl rfl rfl (Nat.le_of_ble_eq_true rfl) ⟨by decide, by decide, by decide, by decide⟩ (fun r_36 S_36 q_36 => ?_)
  obtain ⟨M_36, N_36, rfl, k_36, rfl⟩ := q_36
  refine a_aload_n X dX4_join_39 rfl ?_
  refine a_iconst (v := 1) X dX4_join_40 (by decide) ?_
  refine a_iload_n X dX4_join_41 rfl ?_
  refine a_ishl X dX4_join_42 ?_
  refine a_iconst (v := 1) X dX4_join_43 (by decide) ?_
  refine a_iload_n X dX4_join_44 rfl ?_
  refine a_ishl X dX4_join_45 ?_
  refine a_ior X dX4_join_46 ?_
  refine a_callVx X dX4_join_47 miX4_addParty lm4_75 (s_X4_addParty (P := P) (by assumption) (by omega)) (by assumption) rfl rfl rfl (Nat.le_of_ble_eq_true rfl) ⟨by decide, by decide, by decide, by decide⟩ (fun r_47 S_47 q_47 => ?_)
  obtain ⟨M_47, N_47, rfl, k_47, rfl⟩ := q_47
  refine a_vret X hr dX4_join_50 ⟨by decide, by decide⟩ ?_
  subst hF
  exact ⟨_, _, rfl, (by (try dsimp only); repeat first | assumption | exact zK.rf | refine zK.zu ?_ (by omega) | refine zK.zu0 ?_ (by decide) | refine zK.zwr ?_ (by omega) | refine zK.zfil ?_ (by omega) | refine zK.zcpy ?_ (by omega) | refine zK.trans ?_ (by assumption) | dsimp only), rfl⟩
set_option maxRecDepth 100000 in
theorem s_X6_note {l : Launch} {G : zG} {b : Nat} {S : zS} {P : Nat} {Q : Nat} {v0 : Int32} {v1 : Int32} (hQ : LX6 S.1 Q) (rQ : P < Q ∧ Q + 33 ≤ P + 200) : zM l G b yX6_note cX6_note 4 none 3 0 0 [.ref Q, .int v0, .int v1] S (fun r z => ∃ M' N', z = (S.1, M', N') ∧ zK P S.2.1 M' ∧ r = none) := by
  refine zM.of miX6_note (Nat.le_of_ble_eq_true rfl) ?_
  intro p e s m args below meth c X hr hname
  generalize hF : ((fun r z => ∃ M' N', z = (S.1, M', N') ∧ zK P S.2.1 M' ∧ r = none) : Option Value → zS → Prop) = FQ
  change Zw p l e { frames := 3, cells := 0, slots := 0, locals := 80 * 3 } s m args below meth c G b 4 (MQ below (zQ G b FQ) args s 0 0 (fun q : Nat => b ≤ q)) 0 0 0 [some (.ref Q), some (.int v0), some (.int v1), none] [] S
  obtain ⟨q_lt, q_o, q_times, q_firstWish, q_dry, q_list, q_pool, q_result⟩ := id hQ
  obtain ⟨q_list_lt, q_list_o, q_list_quota, q_list_score, q_list_guest, q_list_party, q_list_wishCount, q_list_wishes, q_list_has⟩ := id q_list
  obtain ⟨q_pool_lt, q_pool_o, q_pool_quota, q_pool_preferred, q_pool_forGuests, q_pool_applicantOf, q_pool_size, q_pool_guestCount, q_pool_score, q_pool_tickets, q_pool_bits, q_pool_party, q_pool_wishCount, q_pool_wishes⟩ := id q_pool
  obtain ⟨q_result_lt, q_result_o, q_result_line, q_result_unitOf, q_result_roundOf, q_result_leftTags, q_result_leftGuests, q_result_leftPreferred, q_result_ranked⟩ := id q_result
  have J_109 : ∀ (x1_109 : Int32) (x2_109 : Int32) (x3_109 : Int32) (M2 : Nat → Nat → Int32) (N2 : Nat → Nat → Int64), zK P S.2.1 M2 → Zw p l e { frames := 3, cells := 0, slots := 0, locals := 80 * 3 } s m args below meth c G b 4 (MQ below (zQ G b FQ) args s 0 0 (fun q : Nat => b ≤ q)) 0 0 109 [some (.ref (Q)), some (.int x1_109), some (.int x2_109), some (.int x3_109)] [] (S.1, M2, N2) := by
    intro x1_109 x2_109 x3_109 M2_109 N2_109 k_109
    refine a_vret X hr dX6_note_109 ⟨by decide, by decide⟩ ?_
    subst hF
    exact ⟨_, _, rfl, (by (try dsimp only); repeat first | assumption | exact zK.rf | refine zK.zu ?_ (by omega) | refine zK.zu0 ?_ (by decide) | refine zK.zwr ?_ (by omega) | refine zK.zfil ?_ (by omega) | refine zK.zcpy ?_ (by omega) | refine zK.trans ?_ (by assumption) | dsimp only), rfl⟩
  refine a_aload_n X dX6_note_0 rfl ?_
  refine a_getr X lf6_31 (by assumption) rfl (by omega) dX6_note_1 ?_
  refine a_getr X lf6_79 (by assumption) rfl (by omega) dX6_note_4 ?_
  refine a_iload_n X dX6_note_7 rfl ?_
  refine a_callSNv X dX6_note_8 miX7_cell lm6_82 (c_cell (by assumption) (by first | decide | assumption)) rfl rfl (Nat.le_of_ble_eq_true rfl) ⟨by decide, by decide, by decide, by decide⟩ ?_
  refine a_istore_n X dX6_note_11 (by decide) ?_
  refine a_aload_n X dX6_note_12 rfl ?_
  refine a_getr X lf6_38 (by assumption) rfl (by omega) dX6_note_13 ?_
  refine a_getr X lf6_86 (by assumption) rfl (by omega) dX6_note_16 ?_
  refine a_iload_n X dX6_note_19 rfl ?_
  refine a_callSNv X dX6_note_20 miX7_cell lm6_82 (c_cell (by assumption) (by first | decide | assumption)) rfl rfl (Nat.le_of_ble_eq_true rfl) ⟨by decide, by decide, by decide, by decide⟩ ?_
  refine a_iconst (v := -1) X dX6_note_23 (by decide) ?_
  refine a_icmp_ne (tgt := 56) X dX6_note_24 (by decide) (fun h_24 => ?_) (fun h_24 => ?_)
  · refine a_aload_n X dX6_note_56 rfl ?_
    refine a_getr X lf6_18 (by assumption) rfl (by omega) dX6_note_57 ?_
    refine a_iload_n X dX6_note_60 rfl ?_
    refine a_iconst (v := 0) X dX6_note_61 (by decide) ?_
    refine a_callSNx X dX6_note_62 miX7_put lm6_99 (s_X7_put (P := P) (by assumption) (by first | decide | assumption) (by omega)) rfl rfl (Nat.le_of_ble_eq_true rfl) ⟨by decide, by decide, by decide, by decide⟩ (fun r_62 S_62 q_62 => ?_)
    obtain ⟨M_62, N_62, rfl, k_62, rfl⟩ := q_62
    refine a_aload_n X dX6_note_65 rfl ?_
    refine a_getr X lf6_9 (by assumption) rfl (by omega) dX6_note_66 ?_
    refine a_iload_n X dX6_note_69 rfl ?_
    refine a_iconst (v := 1) X dX6_note_70 (by decide) ?_
    refine a_callSNx X dX6_note_71 miX7_add lm6_89 (s_X7_add (P := P) (by assumption) (by first | decide | assumption) (by omega)) rfl rfl (Nat.le_of_ble_eq_true rfl) ⟨by decide, by decide, by decide, by decide⟩ (fun r_71 S_71 q_71 => ?_)
    obtain ⟨M_71, N_71, rfl, k_71, rfl⟩ := q_71
    refine a_aload_n X dX6_note_74 rfl ?_
    refine a_getr X lf6_38 (by assumption) rfl (by omega) dX6_note_75 ?_
    refine a_aload_n X dX6_note_78 rfl ?_
    refine a_getr X lf6_31 (by assumption) rfl (by omega) dX6_note_79 ?_
    refine a_iload_n X dX6_note_82 rfl ?_
    refine a_callVx X dX6_note_83 miX5_hasFirst lm6_102 (s_X5_hasFirst (P := P) (by assumption) (by omega) (by assumption) (by omega)) (by assumption) rfl rfl rfl (Nat.le_of_ble_eq_true rfl) ⟨by decide, by decide, by decide, by decide⟩ (fun r_83 S_83 q_83 => ?_)
    obtain ⟨rfl, ⟨v_83, rfl, b_83⟩⟩ := q_83
    refine a_if_eq (tgt := 109) X dX6_note_86 (by decide) (fun h_86 => ?_) (fun h_86 => ?_)
    · exact Zw.to2 (J_109 _ _ _ _ _ (by (try dsimp only); repeat first | assumption | exact zK.rf | refine zK.zu ?_ (by omega) | refine zK.zu0 ?_ (by decide) | refine zK.zwr ?_ (by omega) | refine zK.zfil ?_ (by omega) | refine zK.zcpy ?_ (by omega) | refine zK.trans ?_ (by assumption) | dsimp only) ) rfl rfl rfl
    · refine a_aload_n X dX6_note_89 rfl ?_
      refine a_getr X lf6_15 (by assumption) rfl (by omega) dX6_note_90 ?_
      refine a_iload_n X dX6_note_93 rfl ?_
      refine a_callSNv X dX6_note_94 miX7_cell lm6_82 (c_cell (by assumption) (by first | decide | assumption)) rfl rfl (Nat.le_of_ble_eq_true rfl) ⟨by decide, by decide, by decide, by decide⟩ ?_
      refine a_if_ne (tgt := 109) X dX6_note_97 (by decide) (fun h_97 => ?_) (fun h_97 => ?_)
      · exact Zw.to2 (J_109 _ _ _ _ _ (by (try dsimp only); repeat first | assumption | exact zK.rf | refine zK.zu ?_ (by omega) | refine zK.zu0 ?_ (by decide) | refine zK.zwr ?_ (by omega) | refine zK.zfil ?_ (by omega) | refine zK.zcpy ?_ (by omega) | refine zK.trans ?_ (by assumption) | dsimp only) ) rfl rfl rfl
      · refine a_aload_n X dX6_note_100 rfl ?_
        refine a_getr X lf6_15 (by assumption) rfl (by omega) dX6_note_101 ?_
        refine a_iload_n X dX6_note_104 rfl ?_
        refine a_iload_n X dX6_note_105 rfl ?_
        refine a_callSNx X dX6_note_106 miX7_put lm6_99 (s_X7_put (P := P) (by assumption) (by first | decide | assumption) (by omega)) rfl rfl (Nat.le_of_ble_eq_true rfl) ⟨by decide, by decide, by decide, by decide⟩ (fun r_106 S_106 q_106 => ?_)
        obtain ⟨M_106, N_106, rfl, k_106, rfl⟩ := q_106
        exact Zw.to2 (J_109 _ _ _ _ _ (by (try dsimp only); repeat first | assumption | exact zK.rf | refine zK.zu ?_ (by omega) | refine zK.zu0 ?_ (by decide) | refine zK.zwr ?_ (by omega) | refine zK.zfil ?_ (by omega) | refine zK.zcpy ?_ (by omega) | refine zK.trans ?_ (by assumption) | dsimp only) ) rfl rfl rfl
  · refine a_aload_n X dX6_note_27 rfl ?_
    refine a_getr X lf6_18 (by assumption) rfl (by omega) dX6_note_28 ?_
    refine a_iload_n X dX6_note_31 rfl ?_
    refine a_iconst (v := 1) X dX6_note_32 (by decide) ?_
    refine a_callSNx X dX6_note_33 miX7_add lm6_89 (s_X7_add (P := P) (by assumption) (by first | decide | assumption) (by omega)) rfl rfl (Nat.le_of_ble_eq_true rfl) ⟨by decide, by decide, by decide, by decide⟩ (fun r_33 S_33 q_33 => ?_)
    obtain ⟨M_33, N_33, rfl, k_33, rfl⟩ := q_33
    refine a_aload_n X dX6_note_36 rfl ?_
    refine a_aload_n X dX6_note_37 rfl ?_
    refine a_geti X lf6_46 (by assumption) rfl dX6_note_38 ?_
    refine a_aload_n X dX6_note_41 rfl ?_
    refine a_getr X lf6_18 (by assumption) rfl (by omega) dX6_note_42 ?_
    refine a_iload_n X dX6_note_45 rfl ?_
    refine a_callSNv X dX6_note_46 miX7_cell lm6_82 (c_cell (by assumption) (by first | decide | assumption)) rfl rfl (Nat.le_of_ble_eq_true rfl) ⟨by decide, by decide, by decide, by decide⟩ ?_
    refine a_mmax X lm6_93 zmath1 zmath0 zmathc1 ⟨by decide, Nat.le_of_ble_eq_true rfl, by decide, by decide⟩ dX6_note_49 ?_
    refine a_puti X lf6_46 (by assumption) rfl dX6_note_52 ?_
    refine a_vret X hr dX6_note_55 ⟨by decide, by decide⟩ ?_
    subst hF
    exact ⟨_, _, rfl, (by (try dsimp only); repeat first | assumption | exact zK.rf | refine zK.zu ?_ (by omega) | refine zK.zu0 ?_ (by decide) | refine zK.zwr ?_ (by omega) | refine zK.zfil ?_ (by omega) | refine zK.zcpy ?_ (by omega) | refine zK.trans ?_ (by assumption) | dsimp only), rfl⟩
set_option maxRecDepth 100000 in
theorem s_X6_unserved {l : Launch} {G : zG} {b : Nat} {S : zS} {P : Nat} {Q : Nat} {v0 : Int32} (hQ : LX6 S.1 Q) (rQ : P < Q ∧ Q + 33 ≤ P + 200) : zM l G b yX6_unserved cX6_unserved 4 (some .int) 1 0 0 [.ref Q, .int v0] S (fun r z => z = S ∧ ∃ v : Int32, r = some (.int v)) := by
  refine zM.of miX6_unserved (Nat.le_of_ble_eq_true rfl) ?_
  intro p e s m args below meth c X hr hname
  generalize hF : ((fun r z => z = S ∧ ∃ v : Int32, r = some (.int v)) : Option Value → zS → Prop) = FQ
  change Zw p l e { frames := 1, cells := 0, slots := 0, locals := 80 * 1 } s m args below meth c G b 4 (MQ below (zQ G b FQ) args s 0 0 (fun q : Nat => b ≤ q)) 0 0 0 [some (.ref Q), some (.int v0), none, none] [] S
  obtain ⟨q_lt, q_o, q_times, q_firstWish, q_dry, q_list, q_pool, q_result⟩ := id hQ
  obtain ⟨q_list_lt, q_list_o, q_list_quota, q_list_score, q_list_guest, q_list_party, q_list_wishCount, q_list_wishes, q_list_has⟩ := id q_list
  obtain ⟨q_pool_lt, q_pool_o, q_pool_quota, q_pool_preferred, q_pool_forGuests, q_pool_applicantOf, q_pool_size, q_pool_guestCount, q_pool_score, q_pool_tickets, q_pool_bits, q_pool_party, q_pool_wishCount, q_pool_wishes⟩ := id q_pool
  obtain ⟨q_result_lt, q_result_o, q_result_line, q_result_unitOf, q_result_roundOf, q_result_leftTags, q_result_leftGuests, q_result_leftPreferred, q_result_ranked⟩ := id q_result
  have L_4 : ∀ u : Nat, ∀ (x1_4 : Int32) (x2_4 : Int32) (x3_4 : Int32), (2147483648 - x3_4.toInt).toNat < u → Zw p l e { frames := 1, cells := 0, slots := 0, locals := 80 * 1 } s m args below meth c G b 4 (MQ below (zQ G b FQ) args s 0 0 (fun q : Nat => b ≤ q)) 0 0 4 [some (.ref (Q)), some (.int x1_4), some (.int x2_4), some (.int x3_4)] [] S := by
    intro u
    induction u with
    | zero => intro x1_4 x2_4 x3_4 hm_4; exact absurd hm_4 (Nat.not_lt_zero _)
    | succ u_4 ih_4 =>
      intro x1_4 x2_4 x3_4 hm_4
      have J_28 : ∀ (x1_28 : Int32) (x2_28 : Int32) (x3_28 : Int32) (y0_28 : Int32) (y1_28 : Int32), ((2147483648 - x3_28.toInt).toNat < u_4 + 1) → (x3_28.toInt < 2147483647) → Zw p l e { frames := 1, cells := 0, slots := 0, locals := 80 * 1 } s m args below meth c G b 4 (MQ below (zQ G b FQ) args s 0 0 (fun q : Nat => b ≤ q)) 0 0 28 [some (.ref (Q)), some (.int x1_28), some (.int x2_28), some (.int x3_28)] [(.int y1_28), (.int y0_28)] S := by
        intro x1_28 x2_28 x3_28 y0_28 y1_28 f0_28 f1_28
        refine a_ior X dX6_unserved_28 ?_
        refine a_istore_n X dX6_unserved_29 (by decide) ?_
        refine a_iinc X dX6_unserved_30 (by decide) rfl rfl ?_
        refine a_goto (tgt := 4) X dX6_unserved_33 (by decide) ?_
        exact Zw.to2 (ih_4 _ _ _  (z_up f1_28 f0_28)) rfl rfl rfl
      refine a_iload_n X dX6_unserved_4 rfl ?_
      refine a_iload_n X dX6_unserved_5 rfl ?_
      refine a_icmp_ge (tgt := 36) X dX6_unserved_6 (by decide) (fun h_6 => ?_) (fun h_6 => ?_)
      · refine a_iload_n X dX6_unserved_36 rfl ?_
        refine a_iret X hr dX6_unserved_37 ⟨by decide, by decide⟩ ?_
        subst hF
        exact ⟨rfl, ⟨_, rfl⟩⟩
      · refine a_iload_n X dX6_unserved_9 rfl ?_
        refine a_aload_n X dX6_unserved_10 rfl ?_
        refine a_getr X lf6_9 (by assumption) rfl (by omega) dX6_unserved_11 ?_
        refine a_iload_n X dX6_unserved_14 rfl ?_
        refine a_callSNv X dX6_unserved_15 miX7_cell lm6_82 (c_cell (by assumption) (by first | decide | assumption)) rfl rfl (Nat.le_of_ble_eq_true rfl) ⟨by decide, by decide, by decide, by decide⟩ ?_
        refine a_if_ne (tgt := 27) X dX6_unserved_18 (by decide) (fun h_18 => ?_) (fun h_18 => ?_)
        · refine a_iconst (v := 0) X dX6_unserved_27 (by decide) ?_
          exact Zw.to2 (J_28 _ _ _ _ _ hm_4 (by first | assumption | exact z_lt (by assumption) | exact z_lt2 (by assumption) | exact z_lt3 (by assumption) (by decide))) rfl rfl rfl
        · refine a_iconst (v := 1) X dX6_unserved_21 (by decide) ?_
          refine a_iload_n X dX6_unserved_22 rfl ?_
          refine a_ishl X dX6_unserved_23 ?_
          refine a_goto (tgt := 28) X dX6_unserved_24 (by decide) ?_
          exact Zw.to2 (J_28 _ _ _ _ _ hm_4 (by first | assumption | exact z_lt (by assumption) | exact z_lt2 (by assumption) | exact z_lt3 (by assumption) (by decide))) rfl rfl rfl
  have H_4 : ∀ (x1_4 : Int32) (x2_4 : Int32) (x3_4 : Int32), Zw p l e { frames := 1, cells := 0, slots := 0, locals := 80 * 1 } s m args below meth c G b 4 (MQ below (zQ G b FQ) args s 0 0 (fun q : Nat => b ≤ q)) 0 0 4 [some (.ref (Q)), some (.int x1_4), some (.int x2_4), some (.int x3_4)] [] S := fun x1_4 x2_4 x3_4  => L_4 _ x1_4 x2_4 x3_4  (Nat.lt_succ_self _)
  refine a_iconst (v := 0) X dX6_unserved_0 (by decide) ?_
  refine a_istore_n X dX6_unserved_1 (by decide) ?_
  refine a_iconst (v := 0) X dX6_unserved_2 (by decide) ?_
  refine a_istore_n X dX6_unserved_3 (by decide) ?_
  exact Zw.to2 (H_4 _ _ _ ) rfl rfl rfl
set_option maxRecDepth 100000 in
theorem s_X3_isBlank {l : Launch} {G : zG} {b : Nat} {S : zS} {P : Nat} {v0 : Int32}  : zM l G b yX3_isBlank cX3_isBlank 1 (some .boolean) 0 0 0 [.int v0] S (fun r z => z = S ∧ ∃ v : Int32, r = some (.int v) ∧ (v = 0 ∨ v = 1)) := by
  refine zM.of miX3_isBlank (Nat.le_of_ble_eq_true rfl) ?_
  intro p e s m args below meth c X hr hname
  generalize hF : ((fun r z => z = S ∧ ∃ v : Int32, r = some (.int v) ∧ (v = 0 ∨ v = 1)) : Option Value → zS → Prop) = FQ
  change Zw p l e { frames := 0, cells := 0, slots := 0, locals := 80 * 0 } s m args below meth c G b 1 (MQ below (zQ G b FQ) args s 0 0 (fun q : Nat => b ≤ q)) 0 0 0 [some (.int v0)] [] S
  have J_17 : ∀ (x0_17 : Int32) (y0_17 : Int32), (y0_17 = 0 ∨ y0_17 = 1) → Zw p l e { frames := 0, cells := 0, slots := 0, locals := 80 * 0 } s m args below meth c G b 1 (MQ below (zQ G b FQ) args s 0 0 (fun q : Nat => b ≤ q)) 0 0 17 [some (.int x0_17)] [(.int y0_17)] S := by
    intro x0_17 y0_17 f0_17
    refine a_zret X (by first | exact Or.inl rfl | exact Or.inr rfl | assumption) hr dX3_isBlank_17 ⟨by decide, by decide⟩ ?_
    subst hF
    exact ⟨rfl, ⟨_, rfl, (by first | exact Or.inl rfl | exact Or.inr rfl | assumption | ((try dsimp only); (repeat rw [zwr_row (by omega)]); assumption))⟩⟩
  have J_12 : ∀ (x0_12 : Int32), Zw p l e { frames := 0, cells := 0, slots := 0, locals := 80 * 0 } s m args below meth c G b 1 (MQ below (zQ G b FQ) args s 0 0 (fun q : Nat => b ≤ q)) 0 0 12 [some (.int x0_12)] [] S := by
    intro x0_12
    refine a_iconst (v := 1) X dX3_isBlank_12 (by decide) ?_
    refine a_goto (tgt := 17) X dX3_isBlank_13 (by decide) ?_
    exact Zw.to2 (J_17 _ _ (by first | exact Or.inl rfl | exact Or.inr rfl | assumption | ((try dsimp only); (repeat rw [zwr_row (by omega)]); assumption))) rfl rfl rfl
  refine a_iload_n X dX3_isBlank_0 rfl ?_
  refine a_bipush (v := 10) X dX3_isBlank_1 (by decide) ?_
  refine a_icmp_eq (tgt := 12) X dX3_isBlank_3 (by decide) (fun h_3 => ?_) (fun h_3 => ?_)
  · exact Zw.to2 (J_12 _ ) rfl rfl rfl
  · refine a_iload_n X dX3_isBlank_6 rfl ?_
    refine a_bipush (v := 32) X dX3_isBlank_7 (by decide) ?_
    refine a_icmp_ne (tgt := 16) X dX3_isBlank_9 (by decide) (fun h_9 => ?_) (fun h_9 => ?_)
    · refine a_iconst (v := 0) X dX3_isBlank_16 (by decide) ?_
      exact Zw.to2 (J_17 _ _ (by first | exact Or.inl rfl | exact Or.inr rfl | assumption | ((try dsimp only); (repeat rw [zwr_row (by omega)]); assumption))) rfl rfl rfl
    · exact Zw.to2 (J_12 _ ) rfl rfl rfl
set_option maxRecDepth 100000 in
theorem s_X3_isLetter {l : Launch} {G : zG} {b : Nat} {S : zS} {P : Nat} {v0 : Int32}  : zM l G b yX3_isLetter cX3_isLetter 1 (some .boolean) 0 0 0 [.int v0] S (fun r z => z = S ∧ ∃ v : Int32, r = some (.int v) ∧ (v = 0 ∨ v = 1)) := by
  refine zM.of miX3_isLetter (Nat.le_of_ble_eq_true rfl) ?_
  intro p e s m args below meth c X hr hname
  generalize hF : ((fun r z => z = S ∧ ∃ v : Int32, r = some (.int v) ∧ (v = 0 ∨ v = 1)) : Option Value → zS → Prop) = FQ
  change Zw p l e { frames := 0, cells := 0, slots := 0, locals := 80 * 0 } s m args below meth c G b 1 (MQ below (zQ G b FQ) args s 0 0 (fun q : Nat => b ≤ q)) 0 0 0 [some (.int v0)] [] S
  have J_17 : ∀ (x0_17 : Int32) (y0_17 : Int32), (y0_17 = 0 ∨ y0_17 = 1) → Zw p l e { frames := 0, cells := 0, slots := 0, locals := 80 * 0 } s m args below meth c G b 1 (MQ below (zQ G b FQ) args s 0 0 (fun q : Nat => b ≤ q)) 0 0 17 [some (.int x0_17)] [(.int y0_17)] S := by
    intro x0_17 y0_17 f0_17
    refine a_zret X (by first | exact Or.inl rfl | exact Or.inr rfl | assumption) hr dX3_isLetter_17 ⟨by decide, by decide⟩ ?_
    subst hF
    exact ⟨rfl, ⟨_, rfl, (by first | exact Or.inl rfl | exact Or.inr rfl | assumption | ((try dsimp only); (repeat rw [zwr_row (by omega)]); assumption))⟩⟩
  have J_16 : ∀ (x0_16 : Int32), Zw p l e { frames := 0, cells := 0, slots := 0, locals := 80 * 0 } s m args below meth c G b 1 (MQ below (zQ G b FQ) args s 0 0 (fun q : Nat => b ≤ q)) 0 0 16 [some (.int x0_16)] [] S := by
    intro x0_16
    refine a_iconst (v := 0) X dX3_isLetter_16 (by decide) ?_
    exact Zw.to2 (J_17 _ _ (by first | exact Or.inl rfl | exact Or.inr rfl | assumption | ((try dsimp only); (repeat rw [zwr_row (by omega)]); assumption))) rfl rfl rfl
  refine a_iload_n X dX3_isLetter_0 rfl ?_
  refine a_bipush (v := 97) X dX3_isLetter_1 (by decide) ?_
  refine a_icmp_lt (tgt := 16) X dX3_isLetter_3 (by decide) (fun h_3 => ?_) (fun h_3 => ?_)
  · exact Zw.to2 (J_16 _ ) rfl rfl rfl
  · refine a_iload_n X dX3_isLetter_6 rfl ?_
    refine a_bipush (v := 122) X dX3_isLetter_7 (by decide) ?_
    refine a_icmp_gt (tgt := 16) X dX3_isLetter_9 (by decide) (fun h_9 => ?_) (fun h_9 => ?_)
    · exact Zw.to2 (J_16 _ ) rfl rfl rfl
    · refine a_iconst (v := 1) X dX3_isLetter_12 (by decide) ?_
      refine a_goto (tgt := 17) X dX3_isLetter_13 (by decide) ?_
      exact Zw.to2 (J_17 _ _ (by first | exact Or.inl rfl | exact Or.inr rfl | assumption | ((try dsimp only); (repeat rw [zwr_row (by omega)]); assumption))) rfl rfl rfl
set_option maxRecDepth 100000 in
theorem s_X3_isDigit {l : Launch} {G : zG} {b : Nat} {S : zS} {P : Nat} {v0 : Int32}  : zM l G b yX3_isDigit cX3_isDigit 1 (some .boolean) 0 0 0 [.int v0] S (fun r z => z = S ∧ ∃ v : Int32, r = some (.int v) ∧ (v = 0 ∨ v = 1)) := by
  refine zM.of miX3_isDigit (Nat.le_of_ble_eq_true rfl) ?_
  intro p e s m args below meth c X hr hname
  generalize hF : ((fun r z => z = S ∧ ∃ v : Int32, r = some (.int v) ∧ (v = 0 ∨ v = 1)) : Option Value → zS → Prop) = FQ
  change Zw p l e { frames := 0, cells := 0, slots := 0, locals := 80 * 0 } s m args below meth c G b 1 (MQ below (zQ G b FQ) args s 0 0 (fun q : Nat => b ≤ q)) 0 0 0 [some (.int v0)] [] S
  have J_17 : ∀ (x0_17 : Int32) (y0_17 : Int32), (y0_17 = 0 ∨ y0_17 = 1) → Zw p l e { frames := 0, cells := 0, slots := 0, locals := 80 * 0 } s m args below meth c G b 1 (MQ below (zQ G b FQ) args s 0 0 (fun q : Nat => b ≤ q)) 0 0 17 [some (.int x0_17)] [(.int y0_17)] S := by
    intro x0_17 y0_17 f0_17
    refine a_zret X (by first | exact Or.inl rfl | exact Or.inr rfl | assumption) hr dX3_isDigit_17 ⟨by decide, by decide⟩ ?_
    subst hF
    exact ⟨rfl, ⟨_, rfl, (by first | exact Or.inl rfl | exact Or.inr rfl | assumption | ((try dsimp only); (repeat rw [zwr_row (by omega)]); assumption))⟩⟩
  have J_16 : ∀ (x0_16 : Int32), Zw p l e { frames := 0, cells := 0, slots := 0, locals := 80 * 0 } s m args below meth c G b 1 (MQ below (zQ G b FQ) args s 0 0 (fun q : Nat => b ≤ q)) 0 0 16 [some (.int x0_16)] [] S := by
    intro x0_16
    refine a_iconst (v := 0) X dX3_isDigit_16 (by decide) ?_
    exact Zw.to2 (J_17 _ _ (by first | exact Or.inl rfl | exact Or.inr rfl | assumption | ((try dsimp only); (repeat rw [zwr_row (by omega)]); assumption))) rfl rfl rfl
  refine a_iload_n X dX3_isDigit_0 rfl ?_
  refine a_bipush (v := 48) X dX3_isDigit_1 (by decide) ?_
  refine a_icmp_lt (tgt := 16) X dX3_isDigit_3 (by decide) (fun h_3 => ?_) (fun h_3 => ?_)
  · exact Zw.to2 (J_16 _ ) rfl rfl rfl
  · refine a_iload_n X dX3_isDigit_6 rfl ?_
    refine a_bipush (v := 57) X dX3_isDigit_7 (by decide) ?_
    refine a_icmp_gt (tgt := 16) X dX3_isDigit_9 (by decide) (fun h_9 => ?_) (fun h_9 => ?_)
    · exact Zw.to2 (J_16 _ ) rfl rfl rfl
    · refine a_iconst (v := 1) X dX3_isDigit_12 (by decide) ?_
      refine a_goto (tgt := 17) X dX3_isDigit_13 (by decide) ?_
      exact Zw.to2 (J_17 _ _ (by first | exact Or.inl rfl | exact Or.inr rfl | assumption | ((try dsimp only); (repeat rw [zwr_row (by omega)]); assumption))) rfl rfl rfl
set_option maxRecDepth 100000 in
theorem s_X3_find {l : Launch} {G : zG} {b : Nat} {S : zS} {P : Nat} {Q : Nat} {nQ : Nat} {v0 : Int32} {v1 : Int64} (hQ : S.1[Q]? = some (3, nQ, [])) (lQ : nQ < 2 ^ 31) : zM l G b yX3_find cX3_find 5 (some .int) 1 0 0 [.ref Q, .int v0, .long v1] S (fun r z => z = S ∧ ∃ v : Int32, r = some (.int v)) := by
  refine zM.of miX3_find (Nat.le_of_ble_eq_true rfl) ?_
  intro p e s m args below meth c X hr hname
  generalize hF : ((fun r z => z = S ∧ ∃ v : Int32, r = some (.int v)) : Option Value → zS → Prop) = FQ
  change Zw p l e { frames := 1, cells := 0, slots := 0, locals := 80 * 1 } s m args below meth c G b 5 (MQ below (zQ G b FQ) args s 0 0 (fun q : Nat => b ≤ q)) 0 0 0 [some (.ref Q), some (.int v0), some (.long v1), none, none] [] S
  have L_3 : ∀ u : Nat, ∀ (x1_3 : Int32) (x2_3 : Int64) (x4_3 : Int32), (2147483648 - x4_3.toInt).toNat < u → Zw p l e { frames := 1, cells := 0, slots := 0, locals := 80 * 1 } s m args below meth c G b 5 (MQ below (zQ G b FQ) args s 0 0 (fun q : Nat => b ≤ q)) 0 0 3 [some (.ref (Q)), some (.int x1_3), some (.long x2_3), none, some (.int x4_3)] [] S := by
    intro u
    induction u with
    | zero => intro x1_3 x2_3 x4_3 hm_3; exact absurd hm_3 (Nat.not_lt_zero _)
    | succ u_3 ih_3 =>
      intro x1_3 x2_3 x4_3 hm_3
      refine a_iload X dX3_find_3 rfl ?_
      refine a_iload_n X dX3_find_5 rfl ?_
      refine a_icmp_ge (tgt := 29) X dX3_find_6 (by decide) (fun h_6 => ?_) (fun h_6 => ?_)
      · refine a_iconst (v := -1) X dX3_find_29 (by decide) ?_
        refine a_iret X hr dX3_find_30 ⟨by decide, by decide⟩ ?_
        subst hF
        exact ⟨rfl, ⟨_, rfl⟩⟩
      · refine a_aload_n X dX3_find_9 rfl ?_
        refine a_iload X dX3_find_10 rfl ?_
        refine a_callSNv X dX3_find_12 miX7_bigCell lm3_246 (c_bigCell (by assumption) (by first | decide | assumption)) rfl rfl (Nat.le_of_ble_eq_true rfl) ⟨by decide, by decide, by decide, by decide⟩ ?_
        refine a_lload_n X dX3_find_15 rfl ?_
        refine a_lcmp X dX3_find_16 ?_
        refine a_if_ne (tgt := 23) X dX3_find_17 (by decide) (fun h_17 => ?_) (fun h_17 => ?_)
        · refine a_iinc X dX3_find_23 (by decide) rfl rfl ?_
          refine a_goto (tgt := 3) X dX3_find_26 (by decide) ?_
          exact Zw.to2 (ih_3 _ _ _  (z_up (by first | assumption | exact z_lt (by assumption) | exact z_lt2 (by assumption) | exact z_lt3 (by assumption) (by decide)) hm_3)) rfl rfl rfl
        · refine a_iload X dX3_find_20 rfl ?_
          refine a_iret X hr dX3_find_22 ⟨by decide, by decide⟩ ?_
          subst hF
          exact ⟨rfl, ⟨_, rfl⟩⟩
  have H_3 : ∀ (x1_3 : Int32) (x2_3 : Int64) (x4_3 : Int32), Zw p l e { frames := 1, cells := 0, slots := 0, locals := 80 * 1 } s m args below meth c G b 5 (MQ below (zQ G b FQ) args s 0 0 (fun q : Nat => b ≤ q)) 0 0 3 [some (.ref (Q)), some (.int x1_3), some (.long x2_3), none, some (.int x4_3)] [] S := fun x1_3 x2_3 x4_3  => L_3 _ x1_3 x2_3 x4_3  (Nat.lt_succ_self _)
  refine a_iconst (v := 0) X dX3_find_0 (by decide) ?_
  refine a_istore X dX3_find_1 (by decide) ?_
  exact Zw.to2 (H_3 _ _ _ ) rfl rfl rfl
set_option maxRecDepth 100000 in
theorem s_X3_isTaken {l : Launch} {G : zG} {b : Nat} {S : zS} {P : Nat} {Q : Nat} {v0 : Int64} (hQ : LX3 S.1 Q) (rQ : P < Q ∧ Q + 14 ≤ P + 200) : zM l G b yX3_isTaken cX3_isTaken 3 (some .boolean) 2 0 0 [.ref Q, .long v0] S (fun r z => z = S ∧ ∃ v : Int32, r = some (.int v) ∧ (v = 0 ∨ v = 1)) := by
  refine zM.of miX3_isTaken (Nat.le_of_ble_eq_true rfl) ?_
  intro p e s m args below meth c X hr hname
  generalize hF : ((fun r z => z = S ∧ ∃ v : Int32, r = some (.int v) ∧ (v = 0 ∨ v = 1)) : Option Value → zS → Prop) = FQ
  change Zw p l e { frames := 2, cells := 0, slots := 0, locals := 80 * 2 } s m args below meth c G b 3 (MQ below (zQ G b FQ) args s 0 0 (fun q : Nat => b ≤ q)) 0 0 0 [some (.ref Q), some (.long v0), none] [] S
  obtain ⟨q_lt, q_o, q_draft, q_text, q_unitNames, q_hunterNames, q_partyNames, q_asked⟩ := id hQ
  obtain ⟨q_draft_lt, q_draft_o, q_draft_quota, q_draft_score, q_draft_guest, q_draft_party, q_draft_wishCount, q_draft_wishes, q_draft_has⟩ := id q_draft
  have J_62 : ∀ (x1_62 : Int64) (y0_62 : Int32), (y0_62 = 0 ∨ y0_62 = 1) → Zw p l e { frames := 2, cells := 0, slots := 0, locals := 80 * 2 } s m args below meth c G b 3 (MQ below (zQ G b FQ) args s 0 0 (fun q : Nat => b ≤ q)) 0 0 62 [some (.ref (Q)), some (.long x1_62), none] [(.int y0_62)] S := by
    intro x1_62 y0_62 f0_62
    refine a_zret X (by first | exact Or.inl rfl | exact Or.inr rfl | assumption) hr dX3_isTaken_62 ⟨by decide, by decide⟩ ?_
    subst hF
    exact ⟨rfl, ⟨_, rfl, (by first | exact Or.inl rfl | exact Or.inr rfl | assumption | ((try dsimp only); (repeat rw [zwr_row (by omega)]); assumption))⟩⟩
  have J_57 : ∀ (x1_57 : Int64), Zw p l e { frames := 2, cells := 0, slots := 0, locals := 80 * 2 } s m args below meth c G b 3 (MQ below (zQ G b FQ) args s 0 0 (fun q : Nat => b ≤ q)) 0 0 57 [some (.ref (Q)), some (.long x1_57), none] [] S := by
    intro x1_57
    refine a_iconst (v := 1) X dX3_isTaken_57 (by decide) ?_
    refine a_goto (tgt := 62) X dX3_isTaken_58 (by decide) ?_
    exact Zw.to2 (J_62 _ _ (by first | exact Or.inl rfl | exact Or.inr rfl | assumption | ((try dsimp only); (repeat rw [zwr_row (by omega)]); assumption))) rfl rfl rfl
  refine a_aload_n X dX3_isTaken_0 rfl ?_
  refine a_getr X lf3_29 (by assumption) rfl (by omega) dX3_isTaken_1 ?_
  refine a_aload_n X dX3_isTaken_4 rfl ?_
  refine a_getr X lf3_12 (by assumption) rfl (by omega) dX3_isTaken_5 ?_
  refine a_geti X lf3_142 (by assumption) rfl dX3_isTaken_8 ?_
  refine a_lload_n X dX3_isTaken_11 rfl ?_
  refine a_callSx X dX3_isTaken_12 miX3_find lm3_202 (s_X3_find (P := P) (by assumption) (by first | assumption | decide)) rfl rfl (Nat.le_of_ble_eq_true rfl) ⟨by decide, by decide, by decide, by decide⟩ (fun r_12 S_12 q_12 => ?_)
  obtain ⟨rfl, ⟨v_12, rfl⟩⟩ := q_12
  refine a_iconst (v := -1) X dX3_isTaken_15 (by decide) ?_
  refine a_icmp_ne (tgt := 57) X dX3_isTaken_16 (by decide) (fun h_16 => ?_) (fun h_16 => ?_)
  · exact Zw.to2 (J_57 _ ) rfl rfl rfl
  · refine a_aload_n X dX3_isTaken_19 rfl ?_
    refine a_getr X lf3_33 (by assumption) rfl (by omega) dX3_isTaken_20 ?_
    refine a_aload_n X dX3_isTaken_23 rfl ?_
    refine a_getr X lf3_12 (by assumption) rfl (by omega) dX3_isTaken_24 ?_
    refine a_geti X lf3_151 (by assumption) rfl dX3_isTaken_27 ?_
    refine a_lload_n X dX3_isTaken_30 rfl ?_
    refine a_callSx X dX3_isTaken_31 miX3_find lm3_202 (s_X3_find (P := P) (by assumption) (by first | assumption | decide)) rfl rfl (Nat.le_of_ble_eq_true rfl) ⟨by decide, by decide, by decide, by decide⟩ (fun r_31 S_31 q_31 => ?_)
    obtain ⟨rfl, ⟨v_31, rfl⟩⟩ := q_31
    refine a_iconst (v := -1) X dX3_isTaken_34 (by decide) ?_
    refine a_icmp_ne (tgt := 57) X dX3_isTaken_35 (by decide) (fun h_35 => ?_) (fun h_35 => ?_)
    · exact Zw.to2 (J_57 _ ) rfl rfl rfl
    · refine a_aload_n X dX3_isTaken_38 rfl ?_
      refine a_getr X lf3_36 (by assumption) rfl (by omega) dX3_isTaken_39 ?_
      refine a_aload_n X dX3_isTaken_42 rfl ?_
      refine a_getr X lf3_12 (by assumption) rfl (by omega) dX3_isTaken_43 ?_
      refine a_geti X lf3_157 (by assumption) rfl dX3_isTaken_46 ?_
      refine a_lload_n X dX3_isTaken_49 rfl ?_
      refine a_callSx X dX3_isTaken_50 miX3_find lm3_202 (s_X3_find (P := P) (by assumption) (by first | assumption | decide)) rfl rfl (Nat.le_of_ble_eq_true rfl) ⟨by decide, by decide, by decide, by decide⟩ (fun r_50 S_50 q_50 => ?_)
      obtain ⟨rfl, ⟨v_50, rfl⟩⟩ := q_50
      refine a_iconst (v := -1) X dX3_isTaken_53 (by decide) ?_
      refine a_icmp_eq (tgt := 61) X dX3_isTaken_54 (by decide) (fun h_54 => ?_) (fun h_54 => ?_)
      · refine a_iconst (v := 0) X dX3_isTaken_61 (by decide) ?_
        exact Zw.to2 (J_62 _ _ (by first | exact Or.inl rfl | exact Or.inr rfl | assumption | ((try dsimp only); (repeat rw [zwr_row (by omega)]); assumption))) rfl rfl rfl
      · exact Zw.to2 (J_57 _ ) rfl rfl rfl
set_option maxRecDepth 100000 in
theorem s_X3_isFree {l : Launch} {G : zG} {b : Nat} {S : zS} {P : Nat} {Q : Nat} {v0 : Int32} (hQ : LX3 S.1 Q) (rQ : P < Q ∧ Q + 14 ≤ P + 200) : zM l G b yX3_isFree cX3_isFree 2 (some .boolean) 1 0 0 [.ref Q, .int v0] S (fun r z => z = S ∧ ∃ v : Int32, r = some (.int v) ∧ (v = 0 ∨ v = 1)) := by
  refine zM.of miX3_isFree (Nat.le_of_ble_eq_true rfl) ?_
  intro p e s m args below meth c X hr hname
  generalize hF : ((fun r z => z = S ∧ ∃ v : Int32, r = some (.int v) ∧ (v = 0 ∨ v = 1)) : Option Value → zS → Prop) = FQ
  change Zw p l e { frames := 1, cells := 0, slots := 0, locals := 80 * 1 } s m args below meth c G b 2 (MQ below (zQ G b FQ) args s 0 0 (fun q : Nat => b ≤ q)) 0 0 0 [some (.ref Q), some (.int v0)] [] S
  obtain ⟨q_lt, q_o, q_draft, q_text, q_unitNames, q_hunterNames, q_partyNames, q_asked⟩ := id hQ
  obtain ⟨q_draft_lt, q_draft_o, q_draft_quota, q_draft_score, q_draft_guest, q_draft_party, q_draft_wishCount, q_draft_wishes, q_draft_has⟩ := id q_draft
  have J_39 : ∀ (x1_39 : Int32) (y0_39 : Int32), (y0_39 = 0 ∨ y0_39 = 1) → Zw p l e { frames := 1, cells := 0, slots := 0, locals := 80 * 1 } s m args below meth c G b 2 (MQ below (zQ G b FQ) args s 0 0 (fun q : Nat => b ≤ q)) 0 0 39 [some (.ref (Q)), some (.int x1_39)] [(.int y0_39)] S := by
    intro x1_39 y0_39 f0_39
    refine a_zret X (by first | exact Or.inl rfl | exact Or.inr rfl | assumption) hr dX3_isFree_39 ⟨by decide, by decide⟩ ?_
    subst hF
    exact ⟨rfl, ⟨_, rfl, (by first | exact Or.inl rfl | exact Or.inr rfl | assumption | ((try dsimp only); (repeat rw [zwr_row (by omega)]); assumption))⟩⟩
  have J_38 : ∀ (x1_38 : Int32), Zw p l e { frames := 1, cells := 0, slots := 0, locals := 80 * 1 } s m args below meth c G b 2 (MQ below (zQ G b FQ) args s 0 0 (fun q : Nat => b ≤ q)) 0 0 38 [some (.ref (Q)), some (.int x1_38)] [] S := by
    intro x1_38
    refine a_iconst (v := 0) X dX3_isFree_38 (by decide) ?_
    exact Zw.to2 (J_39 _ _ (by first | exact Or.inl rfl | exact Or.inr rfl | assumption | ((try dsimp only); (repeat rw [zwr_row (by omega)]); assumption))) rfl rfl rfl
  refine a_iload_n X dX3_isFree_0 rfl ?_
  refine a_iconst (v := -1) X dX3_isFree_1 (by decide) ?_
  refine a_icmp_eq (tgt := 38) X dX3_isFree_2 (by decide) (fun h_2 => ?_) (fun h_2 => ?_)
  · exact Zw.to2 (J_38 _ ) rfl rfl rfl
  · refine a_aload_n X dX3_isFree_5 rfl ?_
    refine a_getr X lf3_12 (by assumption) rfl (by omega) dX3_isFree_6 ?_
    refine a_getr X lf3_250 (by assumption) rfl (by omega) dX3_isFree_9 ?_
    refine a_iload_n X dX3_isFree_12 rfl ?_
    refine a_callSNv X dX3_isFree_13 miX7_cell lm3_81 (c_cell (by assumption) (by first | decide | assumption)) rfl rfl (Nat.le_of_ble_eq_true rfl) ⟨by decide, by decide, by decide, by decide⟩ ?_
    refine a_iconst (v := -1) X dX3_isFree_16 (by decide) ?_
    refine a_icmp_ne (tgt := 38) X dX3_isFree_17 (by decide) (fun h_17 => ?_) (fun h_17 => ?_)
    · exact Zw.to2 (J_38 _ ) rfl rfl rfl
    · refine a_aload_n X dX3_isFree_20 rfl ?_
      refine a_getr X lf3_12 (by assumption) rfl (by omega) dX3_isFree_21 ?_
      refine a_getr X lf3_252 (by assumption) rfl (by omega) dX3_isFree_24 ?_
      refine a_iload_n X dX3_isFree_27 rfl ?_
      refine a_callSNv X dX3_isFree_28 miX7_cell lm3_81 (c_cell (by assumption) (by first | decide | assumption)) rfl rfl (Nat.le_of_ble_eq_true rfl) ⟨by decide, by decide, by decide, by decide⟩ ?_
      refine a_if_ne (tgt := 38) X dX3_isFree_31 (by decide) (fun h_31 => ?_) (fun h_31 => ?_)
      · exact Zw.to2 (J_38 _ ) rfl rfl rfl
      · refine a_iconst (v := 1) X dX3_isFree_34 (by decide) ?_
        refine a_goto (tgt := 39) X dX3_isFree_35 (by decide) ?_
        exact Zw.to2 (J_39 _ _ (by first | exact Or.inl rfl | exact Or.inr rfl | assumption | ((try dsimp only); (repeat rw [zwr_row (by omega)]); assumption))) rfl rfl rfl
set_option maxRecDepth 100000 in
theorem s_X3_asker {l : Launch} {G : zG} {b : Nat} {S : zS} {P : Nat} {Q : Nat} (hQ : LX3 S.1 Q) (rQ : P < Q ∧ Q + 14 ≤ P + 200) : zM l G b yX3_asker cX3_asker 5 (some .int) 2 0 0 [.ref Q] S (fun r z => z = S ∧ ∃ v : Int32, r = some (.int v)) := by
  refine zM.of miX3_asker (Nat.le_of_ble_eq_true rfl) ?_
  intro p e s m args below meth c X hr hname
  generalize hF : ((fun r z => z = S ∧ ∃ v : Int32, r = some (.int v)) : Option Value → zS → Prop) = FQ
  change Zw p l e { frames := 2, cells := 0, slots := 0, locals := 80 * 2 } s m args below meth c G b 5 (MQ below (zQ G b FQ) args s 0 0 (fun q : Nat => b ≤ q)) 0 0 0 [some (.ref Q), none, none, none, none] [] S
  obtain ⟨q_lt, q_o, q_draft, q_text, q_unitNames, q_hunterNames, q_partyNames, q_asked⟩ := id hQ
  obtain ⟨q_draft_lt, q_draft_o, q_draft_quota, q_draft_score, q_draft_guest, q_draft_party, q_draft_wishCount, q_draft_wishes, q_draft_has⟩ := id q_draft
  have J_116 : ∀ (x1_116 : Int32) (x2_116 : Int32) (x3_116 : Int32) (x4_116 : Int32), Zw p l e { frames := 2, cells := 0, slots := 0, locals := 80 * 2 } s m args below meth c G b 5 (MQ below (zQ G b FQ) args s 0 0 (fun q : Nat => b ≤ q)) 0 0 116 [some (.ref (Q)), some (.int x1_116), some (.int x2_116), some (.int x3_116), some (.int x4_116)] [] S := by
    intro x1_116 x2_116 x3_116 x4_116
    refine a_iload_n X dX3_asker_116 rfl ?_
    refine a_iret X hr dX3_asker_117 ⟨by decide, by decide⟩ ?_
    subst hF
    exact ⟨rfl, ⟨_, rfl⟩⟩
  have L_55 : ∀ u : Nat, ∀ (x1_55 : Int32) (x2_55 : Int32) (x3_55 : Int32) (x4_55 : Int32), (2147483648 - x4_55.toInt).toNat < u → Zw p l e { frames := 2, cells := 0, slots := 0, locals := 80 * 2 } s m args below meth c G b 5 (MQ below (zQ G b FQ) args s 0 0 (fun q : Nat => b ≤ q)) 0 0 55 [some (.ref (Q)), some (.int x1_55), some (.int x2_55), some (.int x3_55), some (.int x4_55)] [] S := by
    intro u
    induction u with
    | zero => intro x1_55 x2_55 x3_55 x4_55 hm_55; exact absurd hm_55 (Nat.not_lt_zero _)
    | succ u_55 ih_55 =>
      intro x1_55 x2_55 x3_55 x4_55 hm_55
      have J_110 : ∀ (x1_110 : Int32) (x2_110 : Int32) (x3_110 : Int32) (x4_110 : Int32), ((2147483648 - x4_110.toInt).toNat < u_55 + 1) → (x4_110.toInt < 2147483647) → Zw p l e { frames := 2, cells := 0, slots := 0, locals := 80 * 2 } s m args below meth c G b 5 (MQ below (zQ G b FQ) args s 0 0 (fun q : Nat => b ≤ q)) 0 0 110 [some (.ref (Q)), some (.int x1_110), some (.int x2_110), some (.int x3_110), some (.int x4_110)] [] S := by
        intro x1_110 x2_110 x3_110 x4_110 f0_110 f1_110
        refine a_iinc X dX3_asker_110 (by decide) rfl rfl ?_
        refine a_goto (tgt := 55) X dX3_asker_113 (by decide) ?_
        exact Zw.to2 (ih_55 _ _ _ _  (z_up f1_110 f0_110)) rfl rfl rfl
      refine a_iload_n X dX3_asker_55 rfl ?_
      refine a_iconst (v := -1) X dX3_asker_56 (by decide) ?_
      refine a_icmp_eq (tgt := 116) X dX3_asker_57 (by decide) (fun h_57 => ?_) (fun h_57 => ?_)
      · exact Zw.to2 (J_116 _ _ _ _ ) rfl rfl rfl
      · refine a_iload X dX3_asker_60 rfl ?_
        refine a_aload_n X dX3_asker_62 rfl ?_
        refine a_getr X lf3_12 (by assumption) rfl (by omega) dX3_asker_63 ?_
        refine a_geti X lf3_151 (by assumption) rfl dX3_asker_66 ?_
        refine a_icmp_ge (tgt := 116) X dX3_asker_69 (by decide) (fun h_69 => ?_) (fun h_69 => ?_)
        · exact Zw.to2 (J_116 _ _ _ _ ) rfl rfl rfl
        · refine a_aload_n X dX3_asker_72 rfl ?_
          refine a_getr X lf3_12 (by assumption) rfl (by omega) dX3_asker_73 ?_
          refine a_getr X lf3_250 (by assumption) rfl (by omega) dX3_asker_76 ?_
          refine a_iload X dX3_asker_79 rfl ?_
          refine a_callSNv X dX3_asker_81 miX7_cell lm3_81 (c_cell (by assumption) (by first | decide | assumption)) rfl rfl (Nat.le_of_ble_eq_true rfl) ⟨by decide, by decide, by decide, by decide⟩ ?_
          refine a_iload_n X dX3_asker_84 rfl ?_
          refine a_icmp_ne (tgt := 110) X dX3_asker_85 (by decide) (fun h_85 => ?_) (fun h_85 => ?_)
          · exact Zw.to2 (J_110 _ _ _ _ hm_55 (by first | assumption | exact z_lt (by assumption) | exact z_lt2 (by assumption) | exact z_lt3 (by assumption) (by decide))) rfl rfl rfl
          · refine a_aload_n X dX3_asker_88 rfl ?_
            refine a_getr X lf3_12 (by assumption) rfl (by omega) dX3_asker_89 ?_
            refine a_getr X lf3_252 (by assumption) rfl (by omega) dX3_asker_92 ?_
            refine a_iload X dX3_asker_95 rfl ?_
            refine a_callSNv X dX3_asker_97 miX7_cell lm3_81 (c_cell (by assumption) (by first | decide | assumption)) rfl rfl (Nat.le_of_ble_eq_true rfl) ⟨by decide, by decide, by decide, by decide⟩ ?_
            refine a_if_ne (tgt := 110) X dX3_asker_100 (by decide) (fun h_100 => ?_) (fun h_100 => ?_)
            · exact Zw.to2 (J_110 _ _ _ _ hm_55 (by first | assumption | exact z_lt (by assumption) | exact z_lt2 (by assumption) | exact z_lt3 (by assumption) (by decide))) rfl rfl rfl
            · refine a_iload_n X dX3_asker_103 rfl ?_
              refine a_iconst (v := 1) X dX3_asker_104 (by decide) ?_
              refine a_iload X dX3_asker_105 rfl ?_
              refine a_ishl X dX3_asker_107 ?_
              refine a_ior X dX3_asker_108 ?_
              refine a_istore_n X dX3_asker_109 (by decide) ?_
              exact Zw.to2 (J_110 _ _ _ _ hm_55 (by first | assumption | exact z_lt (by assumption) | exact z_lt2 (by assumption) | exact z_lt3 (by assumption) (by decide))) rfl rfl rfl
  have H_55 : ∀ (x1_55 : Int32) (x2_55 : Int32) (x3_55 : Int32) (x4_55 : Int32), Zw p l e { frames := 2, cells := 0, slots := 0, locals := 80 * 2 } s m args below meth c G b 5 (MQ below (zQ G b FQ) args s 0 0 (fun q : Nat => b ≤ q)) 0 0 55 [some (.ref (Q)), some (.int x1_55), some (.int x2_55), some (.int x3_55), some (.int x4_55)] [] S := fun x1_55 x2_55 x3_55 x4_55  => L_55 _ x1_55 x2_55 x3_55 x4_55  (Nat.lt_succ_self _)
  refine a_aload_n X dX3_asker_0 rfl ?_
  refine a_getr X lf3_33 (by assumption) rfl (by omega) dX3_asker_1 ?_
  refine a_aload_n X dX3_asker_4 rfl ?_
  refine a_getr X lf3_12 (by assumption) rfl (by omega) dX3_asker_5 ?_
  refine a_geti X lf3_151 (by assumption) rfl dX3_asker_8 ?_
  refine a_aload_n X dX3_asker_11 rfl ?_
  refine a_getl X lf3_104 (by assumption) rfl dX3_asker_12 ?_
  refine a_callSx X dX3_asker_15 miX3_find lm3_202 (s_X3_find (P := P) (by assumption) (by first | assumption | decide)) rfl rfl (Nat.le_of_ble_eq_true rfl) ⟨by decide, by decide, by decide, by decide⟩ (fun r_15 S_15 q_15 => ?_)
  obtain ⟨rfl, ⟨v_15, rfl⟩⟩ := q_15
  refine a_istore_n X dX3_asker_18 (by decide) ?_
  refine a_aload_n X dX3_asker_19 rfl ?_
  refine a_iload_n X dX3_asker_20 rfl ?_
  refine a_callVx X dX3_asker_21 miX3_isFree lm3_206 (s_X3_isFree (P := P) (by assumption) (by omega)) (by assumption) rfl rfl rfl (Nat.le_of_ble_eq_true rfl) ⟨by decide, by decide, by decide, by decide⟩ (fun r_21 S_21 q_21 => ?_)
  obtain ⟨rfl, ⟨v_21, rfl, b_21⟩⟩ := q_21
  refine a_if_eq (tgt := 31) X dX3_asker_24 (by decide) (fun h_24 => ?_) (fun h_24 => ?_)
  · refine a_aload_n X dX3_asker_31 rfl ?_
    refine a_getr X lf3_36 (by assumption) rfl (by omega) dX3_asker_32 ?_
    refine a_aload_n X dX3_asker_35 rfl ?_
    refine a_getr X lf3_12 (by assumption) rfl (by omega) dX3_asker_36 ?_
    refine a_geti X lf3_157 (by assumption) rfl dX3_asker_39 ?_
    refine a_aload_n X dX3_asker_42 rfl ?_
    refine a_getl X lf3_104 (by assumption) rfl dX3_asker_43 ?_
    refine a_callSx X dX3_asker_46 miX3_find lm3_202 (s_X3_find (P := P) (by assumption) (by first | assumption | decide)) rfl rfl (Nat.le_of_ble_eq_true rfl) ⟨by decide, by decide, by decide, by decide⟩ (fun r_46 S_46 q_46 => ?_)
    obtain ⟨rfl, ⟨v_46, rfl⟩⟩ := q_46
    refine a_istore_n X dX3_asker_49 (by decide) ?_
    refine a_iconst (v := 0) X dX3_asker_50 (by decide) ?_
    refine a_istore_n X dX3_asker_51 (by decide) ?_
    refine a_iconst (v := 0) X dX3_asker_52 (by decide) ?_
    refine a_istore X dX3_asker_53 (by decide) ?_
    exact Zw.to2 (H_55 _ _ _ _ ) rfl rfl rfl
  · refine a_iconst (v := 1) X dX3_asker_27 (by decide) ?_
    refine a_iload_n X dX3_asker_28 rfl ?_
    refine a_ishl X dX3_asker_29 ?_
    refine a_iret X hr dX3_asker_30 ⟨by decide, by decide⟩ ?_
    subst hF
    exact ⟨rfl, ⟨_, rfl⟩⟩
set_option maxRecDepth 100000 in
theorem s_X3_fail {l : Launch} {G : zG} {b : Nat} {S : zS} {P : Nat} {Q : Nat} {v0 : Int32} (hQ : LX3 S.1 Q) (rQ : P < Q ∧ Q + 14 ≤ P + 200) : zM l G b yX3_fail cX3_fail 2 (some .boolean) 0 0 0 [.ref Q, .int v0] S (fun r z => ∃ M' N', z = (S.1, M', N') ∧ zK P S.2.1 M' ∧ ∃ v : Int32, r = some (.int v) ∧ (v = 0 ∨ v = 1)) := by
  refine zM.of miX3_fail (Nat.le_of_ble_eq_true rfl) ?_
  intro p e s m args below meth c X hr hname
  generalize hF : ((fun r z => ∃ M' N', z = (S.1, M', N') ∧ zK P S.2.1 M' ∧ ∃ v : Int32, r = some (.int v) ∧ (v = 0 ∨ v = 1)) : Option Value → zS → Prop) = FQ
  change Zw p l e { frames := 0, cells := 0, slots := 0, locals := 80 * 0 } s m args below meth c G b 2 (MQ below (zQ G b FQ) args s 0 0 (fun q : Nat => b ≤ q)) 0 0 0 [some (.ref Q), some (.int v0)] [] S
  obtain ⟨q_lt, q_o, q_draft, q_text, q_unitNames, q_hunterNames, q_partyNames, q_asked⟩ := id hQ
  obtain ⟨q_draft_lt, q_draft_o, q_draft_quota, q_draft_score, q_draft_guest, q_draft_party, q_draft_wishCount, q_draft_wishes, q_draft_has⟩ := id q_draft
  have J_14 : ∀ (x1_14 : Int32) (y1_14 : Int32) (M2 : Nat → Nat → Int32) (N2 : Nat → Nat → Int64), zK P S.2.1 M2 → Zw p l e { frames := 0, cells := 0, slots := 0, locals := 80 * 0 } s m args below meth c G b 2 (MQ below (zQ G b FQ) args s 0 0 (fun q : Nat => b ≤ q)) 0 0 14 [some (.ref (Q)), some (.int x1_14)] [(.int y1_14), (.ref (Q))] (S.1, M2, N2) := by
    intro x1_14 y1_14 M2_14 N2_14 k_14
    refine a_puti X lf3_18 (by assumption) rfl dX3_fail_14 ?_
    refine a_aload_n X dX3_fail_17 rfl ?_
    refine a_aload_n X dX3_fail_18 rfl ?_
    refine a_geti X lf3_89 (by assumption) rfl dX3_fail_19 ?_
    refine a_puti X lf3_22 (by assumption) rfl dX3_fail_22 ?_
    refine a_iconst (v := 0) X dX3_fail_25 (by decide) ?_
    refine a_zret X (by first | exact Or.inl rfl | exact Or.inr rfl | assumption) hr dX3_fail_26 ⟨by decide, by decide⟩ ?_
    subst hF
    exact ⟨_, _, rfl, (by (try dsimp only); repeat first | assumption | exact zK.rf | refine zK.zu ?_ (by omega) | refine zK.zu0 ?_ (by decide) | refine zK.zwr ?_ (by omega) | refine zK.zfil ?_ (by omega) | refine zK.zcpy ?_ (by omega) | refine zK.trans ?_ (by assumption) | dsimp only), ⟨_, rfl, (by first | exact Or.inl rfl | exact Or.inr rfl | assumption | ((try dsimp only); (repeat rw [zwr_row (by omega)]); assumption))⟩⟩
  refine a_aload_n X dX3_fail_0 rfl ?_
  refine a_aload_n X dX3_fail_1 rfl ?_
  refine a_geti X lf3_74 (by assumption) rfl dX3_fail_2 ?_
  refine a_iconst (v := 4) X dX3_fail_5 (by decide) ?_
  refine a_icmp_ne (tgt := 13) X dX3_fail_6 (by decide) (fun h_6 => ?_) (fun h_6 => ?_)
  · refine a_iload_n X dX3_fail_13 rfl ?_
    exact Zw.to2 (J_14 _ _ _ _ (by (try dsimp only); repeat first | assumption | exact zK.rf | refine zK.zu ?_ (by omega) | refine zK.zu0 ?_ (by decide) | refine zK.zwr ?_ (by omega) | refine zK.zfil ?_ (by omega) | refine zK.zcpy ?_ (by omega) | refine zK.trans ?_ (by assumption) | dsimp only) ) rfl rfl rfl
  · refine a_iconst (v := 1) X dX3_fail_9 (by decide) ?_
    refine a_goto (tgt := 14) X dX3_fail_10 (by decide) ?_
    exact Zw.to2 (J_14 _ _ _ _ (by (try dsimp only); repeat first | assumption | exact zK.rf | refine zK.zu ?_ (by omega) | refine zK.zu0 ?_ (by decide) | refine zK.zwr ?_ (by omega) | refine zK.zfil ?_ (by omega) | refine zK.zcpy ?_ (by omega) | refine zK.trans ?_ (by assumption) | dsimp only) ) rfl rfl rfl
set_option maxRecDepth 100000 in
theorem s_X1_forget {l : Launch} {G : zG} {b : Nat} {S : zS} {P : Nat} {Q : Nat} (hQ : LX1 S.1 Q) (rQ : P < Q ∧ Q + 66 ≤ P + 200) : zM l G b yX1_forget cX1_forget 1 none 0 0 0 [.ref Q] S (fun r z => ∃ M' N', z = (S.1, M', N') ∧ zK P S.2.1 M' ∧ r = none) := by
  refine zM.of miX1_forget (Nat.le_of_ble_eq_true rfl) ?_
  intro p e s m args below meth c X hr hname
  generalize hF : ((fun r z => ∃ M' N', z = (S.1, M', N') ∧ zK P S.2.1 M' ∧ r = none) : Option Value → zS → Prop) = FQ
  change Zw p l e { frames := 0, cells := 0, slots := 0, locals := 80 * 0 } s m args below meth c G b 1 (MQ below (zQ G b FQ) args s 0 0 (fun q : Nat => b ≤ q)) 0 0 0 [some (.ref Q)] [] S
  obtain ⟨q_lt, q_o, q_stood, q_stood0, q_stood1, q_stood2, q_stood3, q_stood4, q_stood5, q_stood6, q_stood7⟩ := id hQ
  refine a_aload_n X dX1_forget_0 rfl ?_
  refine a_iconst (v := 0) X dX1_forget_1 (by decide) ?_
  refine a_puti X lf1_18 (by assumption) rfl dX1_forget_2 ?_
  refine a_vret X hr dX1_forget_5 ⟨by decide, by decide⟩ ?_
  subst hF
  exact ⟨_, _, rfl, (by (try dsimp only); repeat first | assumption | exact zK.rf | refine zK.zu ?_ (by omega) | refine zK.zu0 ?_ (by decide) | refine zK.zwr ?_ (by omega) | refine zK.zfil ?_ (by omega) | refine zK.zcpy ?_ (by omega) | refine zK.trans ?_ (by assumption) | dsimp only), rfl⟩
set_option maxRecDepth 100000 in
theorem s_X7_refuse {l : Launch} {G : zG} {b : Nat} {S : zS} {P : Nat} {v0 : Int32} (hT : LX7 S.1 P) : zM l G b yX7_refuse cX7_refuse 2 (some .int) 0 0 0 [.ref P, .int v0] S (fun r z => ∃ M' N', z = (S.1, M', N') ∧ zK P S.2.1 M' ∧ ∃ v : Int32, r = some (.int v)) := by
  refine zM.of miX7_refuse (Nat.le_of_ble_eq_true rfl) ?_
  intro p e s m args below meth c X hr hname
  generalize hF : ((fun r z => ∃ M' N', z = (S.1, M', N') ∧ zK P S.2.1 M' ∧ ∃ v : Int32, r = some (.int v)) : Option Value → zS → Prop) = FQ
  change Zw p l e { frames := 0, cells := 0, slots := 0, locals := 80 * 0 } s m args below meth c G b 2 (MQ below (zQ G b FQ) args s 0 0 (fun q : Nat => b ≤ q)) 0 0 0 [some (.ref P), some (.int v0)] [] S
  obtain ⟨lt, o, tape, out, reader, list, past, pool, result, odds, paper, trial, trialPool, trialResult, trialOdds⟩ := id hT
  obtain ⟨reader_lt, reader_o, reader_draft, reader_text, reader_unitNames, reader_hunterNames, reader_partyNames, reader_asked⟩ := id reader
  obtain ⟨list_lt, list_o, list_quota, list_score, list_guest, list_party, list_wishCount, list_wishes, list_has⟩ := id list
  obtain ⟨past_lt, past_o, past_stood, past_stood0, past_stood1, past_stood2, past_stood3, past_stood4, past_stood5, past_stood6, past_stood7⟩ := id past
  obtain ⟨pool_lt, pool_o, pool_quota, pool_preferred, pool_forGuests, pool_applicantOf, pool_size, pool_guestCount, pool_score, pool_tickets, pool_bits, pool_party, pool_wishCount, pool_wishes⟩ := id pool
  obtain ⟨result_lt, result_o, result_line, result_unitOf, result_roundOf, result_leftTags, result_leftGuests, result_leftPreferred, result_ranked⟩ := id result
  obtain ⟨odds_lt, odds_o, odds_sets, odds_seen, odds_atUnit, odds_early, odds_result⟩ := id odds
  obtain ⟨paper_lt, paper_o, paper_times, paper_firstWish, paper_dry, paper_list, paper_pool, paper_result⟩ := id paper
  obtain ⟨trial_lt, trial_o, trial_quota, trial_score, trial_guest, trial_party, trial_wishCount, trial_wishes, trial_has⟩ := id trial
  obtain ⟨trialPool_lt, trialPool_o, trialPool_quota, trialPool_preferred, trialPool_forGuests, trialPool_applicantOf, trialPool_size, trialPool_guestCount, trialPool_score, trialPool_tickets, trialPool_bits, trialPool_party, trialPool_wishCount, trialPool_wishes⟩ := id trialPool
  obtain ⟨trialResult_lt, trialResult_o, trialResult_line, trialResult_unitOf, trialResult_roundOf, trialResult_leftTags, trialResult_leftGuests, trialResult_leftPreferred, trialResult_ranked⟩ := id trialResult
  obtain ⟨trialOdds_lt, trialOdds_o, trialOdds_sets, trialOdds_seen, trialOdds_atUnit, trialOdds_early, trialOdds_result⟩ := id trialOdds
  refine a_aload_n X dX7_refuse_0 rfl ?_
  refine a_iload_n X dX7_refuse_1 rfl ?_
  refine a_puti X lf7_88 (by assumption) rfl dX7_refuse_2 ?_
  refine a_iconst (v := -1) X dX7_refuse_5 (by decide) ?_
  refine a_iret X hr dX7_refuse_6 ⟨by decide, by decide⟩ ?_
  subst hF
  exact ⟨_, _, rfl, (by (try dsimp only); repeat first | assumption | exact zK.rf | refine zK.zu ?_ (by omega) | refine zK.zu0 ?_ (by decide) | refine zK.zwr ?_ (by omega) | refine zK.zfil ?_ (by omega) | refine zK.zcpy ?_ (by omega) | refine zK.trans ?_ (by assumption) | dsimp only), ⟨_, rfl⟩⟩
set_option maxRecDepth 100000 in
theorem s_X7_answer {l : Launch} {G : zG} {b : Nat} {S : zS} {P : Nat} {v0 : Int32} (hT : LX7 S.1 P) : zM l G b yX7_answer cX7_answer 2 (some .int) 0 0 0 [.ref P, .int v0] S (fun r z => ∃ M' N', z = (S.1, M', N') ∧ zK P S.2.1 M' ∧ ∃ v : Int32, r = some (.int v)) := by
  refine zM.of miX7_answer (Nat.le_of_ble_eq_true rfl) ?_
  intro p e s m args below meth c X hr hname
  generalize hF : ((fun r z => ∃ M' N', z = (S.1, M', N') ∧ zK P S.2.1 M' ∧ ∃ v : Int32, r = some (.int v)) : Option Value → zS → Prop) = FQ
  change Zw p l e { frames := 0, cells := 0, slots := 0, locals := 80 * 0 } s m args below meth c G b 2 (MQ below (zQ G b FQ) args s 0 0 (fun q : Nat => b ≤ q)) 0 0 0 [some (.ref P), some (.int v0)] [] S
  obtain ⟨lt, o, tape, out, reader, list, past, pool, result, odds, paper, trial, trialPool, trialResult, trialOdds⟩ := id hT
  obtain ⟨reader_lt, reader_o, reader_draft, reader_text, reader_unitNames, reader_hunterNames, reader_partyNames, reader_asked⟩ := id reader
  obtain ⟨list_lt, list_o, list_quota, list_score, list_guest, list_party, list_wishCount, list_wishes, list_has⟩ := id list
  obtain ⟨past_lt, past_o, past_stood, past_stood0, past_stood1, past_stood2, past_stood3, past_stood4, past_stood5, past_stood6, past_stood7⟩ := id past
  obtain ⟨pool_lt, pool_o, pool_quota, pool_preferred, pool_forGuests, pool_applicantOf, pool_size, pool_guestCount, pool_score, pool_tickets, pool_bits, pool_party, pool_wishCount, pool_wishes⟩ := id pool
  obtain ⟨result_lt, result_o, result_line, result_unitOf, result_roundOf, result_leftTags, result_leftGuests, result_leftPreferred, result_ranked⟩ := id result
  obtain ⟨odds_lt, odds_o, odds_sets, odds_seen, odds_atUnit, odds_early, odds_result⟩ := id odds
  obtain ⟨paper_lt, paper_o, paper_times, paper_firstWish, paper_dry, paper_list, paper_pool, paper_result⟩ := id paper
  obtain ⟨trial_lt, trial_o, trial_quota, trial_score, trial_guest, trial_party, trial_wishCount, trial_wishes, trial_has⟩ := id trial
  obtain ⟨trialPool_lt, trialPool_o, trialPool_quota, trialPool_preferred, trialPool_forGuests, trialPool_applicantOf, trialPool_size, trialPool_guestCount, trialPool_score, trialPool_tickets, trialPool_bits, trialPool_party, trialPool_wishCount, trialPool_wishes⟩ := id trialPool
  obtain ⟨trialResult_lt, trialResult_o, trialResult_line, trialResult_unitOf, trialResult_roundOf, trialResult_leftTags, trialResult_leftGuests, trialResult_leftPreferred, trialResult_ranked⟩ := id trialResult
  obtain ⟨trialOdds_lt, trialOdds_o, trialOdds_sets, trialOdds_seen, trialOdds_atUnit, trialOdds_early, trialOdds_result⟩ := id trialOdds
  refine a_aload_n X dX7_answer_0 rfl ?_
  refine a_iconst (v := 0) X dX7_answer_1 (by decide) ?_
  refine a_puti X lf7_88 (by assumption) rfl dX7_answer_2 ?_
  refine a_iload_n X dX7_answer_5 rfl ?_
  refine a_iret X hr dX7_answer_6 ⟨by decide, by decide⟩ ?_
  subst hF
  exact ⟨_, _, rfl, (by (try dsimp only); repeat first | assumption | exact zK.rf | refine zK.zu ?_ (by omega) | refine zK.zu0 ?_ (by decide) | refine zK.zwr ?_ (by omega) | refine zK.zfil ?_ (by omega) | refine zK.zcpy ?_ (by omega) | refine zK.trans ?_ (by assumption) | dsimp only), ⟨_, rfl⟩⟩
set_option maxRecDepth 100000 in
theorem s_X7_answerParts {l : Launch} {G : zG} {b : Nat} {S : zS} {P : Nat} {v0 : Int64} (hT : LX7 S.1 P) : zM l G b yX7_answerParts cX7_answerParts 3 (some .long) 0 0 0 [.ref P, .long v0] S (fun r z => ∃ M' N', z = (S.1, M', N') ∧ zK P S.2.1 M' ∧ ∃ v : Int64, r = some (.long v)) := by
  refine zM.of miX7_answerParts (Nat.le_of_ble_eq_true rfl) ?_
  intro p e s m args below meth c X hr hname
  generalize hF : ((fun r z => ∃ M' N', z = (S.1, M', N') ∧ zK P S.2.1 M' ∧ ∃ v : Int64, r = some (.long v)) : Option Value → zS → Prop) = FQ
  change Zw p l e { frames := 0, cells := 0, slots := 0, locals := 80 * 0 } s m args below meth c G b 3 (MQ below (zQ G b FQ) args s 0 0 (fun q : Nat => b ≤ q)) 0 0 0 [some (.ref P), some (.long v0), none] [] S
  obtain ⟨lt, o, tape, out, reader, list, past, pool, result, odds, paper, trial, trialPool, trialResult, trialOdds⟩ := id hT
  obtain ⟨reader_lt, reader_o, reader_draft, reader_text, reader_unitNames, reader_hunterNames, reader_partyNames, reader_asked⟩ := id reader
  obtain ⟨list_lt, list_o, list_quota, list_score, list_guest, list_party, list_wishCount, list_wishes, list_has⟩ := id list
  obtain ⟨past_lt, past_o, past_stood, past_stood0, past_stood1, past_stood2, past_stood3, past_stood4, past_stood5, past_stood6, past_stood7⟩ := id past
  obtain ⟨pool_lt, pool_o, pool_quota, pool_preferred, pool_forGuests, pool_applicantOf, pool_size, pool_guestCount, pool_score, pool_tickets, pool_bits, pool_party, pool_wishCount, pool_wishes⟩ := id pool
  obtain ⟨result_lt, result_o, result_line, result_unitOf, result_roundOf, result_leftTags, result_leftGuests, result_leftPreferred, result_ranked⟩ := id result
  obtain ⟨odds_lt, odds_o, odds_sets, odds_seen, odds_atUnit, odds_early, odds_result⟩ := id odds
  obtain ⟨paper_lt, paper_o, paper_times, paper_firstWish, paper_dry, paper_list, paper_pool, paper_result⟩ := id paper
  obtain ⟨trial_lt, trial_o, trial_quota, trial_score, trial_guest, trial_party, trial_wishCount, trial_wishes, trial_has⟩ := id trial
  obtain ⟨trialPool_lt, trialPool_o, trialPool_quota, trialPool_preferred, trialPool_forGuests, trialPool_applicantOf, trialPool_size, trialPool_guestCount, trialPool_score, trialPool_tickets, trialPool_bits, trialPool_party, trialPool_wishCount, trialPool_wishes⟩ := id trialPool
  obtain ⟨trialResult_lt, trialResult_o, trialResult_line, trialResult_unitOf, trialResult_roundOf, trialResult_leftTags, trialResult_leftGuests, trialResult_leftPreferred, trialResult_ranked⟩ := id trialResult
  obtain ⟨trialOdds_lt, trialOdds_o, trialOdds_sets, trialOdds_seen, trialOdds_atUnit, trialOdds_early, trialOdds_result⟩ := id trialOdds
  refine a_aload_n X dX7_answerParts_0 rfl ?_
  refine a_iconst (v := 0) X dX7_answerParts_1 (by decide) ?_
  refine a_puti X lf7_88 (by assumption) rfl dX7_answerParts_2 ?_
  refine a_lload_n X dX7_answerParts_5 rfl ?_
  refine a_lret X hr dX7_answerParts_6 ⟨by decide, by decide⟩ ?_
  subst hF
  exact ⟨_, _, rfl, (by (try dsimp only); repeat first | assumption | exact zK.rf | refine zK.zu ?_ (by omega) | refine zK.zu0 ?_ (by decide) | refine zK.zwr ?_ (by omega) | refine zK.zfil ?_ (by omega) | refine zK.zcpy ?_ (by omega) | refine zK.trans ?_ (by assumption) | dsimp only), ⟨_, rfl⟩⟩
set_option maxRecDepth 100000 in
theorem s_X7_isHunter {l : Launch} {G : zG} {b : Nat} {S : zS} {P : Nat} {v0 : Int32} (hT : LX7 S.1 P) : zM l G b yX7_isHunter cX7_isHunter 2 (some .boolean) 0 0 0 [.ref P, .int v0] S (fun r z => z = S ∧ ∃ v : Int32, r = some (.int v) ∧ (v = 0 ∨ v = 1)) := by
  refine zM.of miX7_isHunter (Nat.le_of_ble_eq_true rfl) ?_
  intro p e s m args below meth c X hr hname
  generalize hF : ((fun r z => z = S ∧ ∃ v : Int32, r = some (.int v) ∧ (v = 0 ∨ v = 1)) : Option Value → zS → Prop) = FQ
  change Zw p l e { frames := 0, cells := 0, slots := 0, locals := 80 * 0 } s m args below meth c G b 2 (MQ below (zQ G b FQ) args s 0 0 (fun q : Nat => b ≤ q)) 0 0 0 [some (.ref P), some (.int v0)] [] S
  obtain ⟨lt, o, tape, out, reader, list, past, pool, result, odds, paper, trial, trialPool, trialResult, trialOdds⟩ := id hT
  obtain ⟨reader_lt, reader_o, reader_draft, reader_text, reader_unitNames, reader_hunterNames, reader_partyNames, reader_asked⟩ := id reader
  obtain ⟨list_lt, list_o, list_quota, list_score, list_guest, list_party, list_wishCount, list_wishes, list_has⟩ := id list
  obtain ⟨past_lt, past_o, past_stood, past_stood0, past_stood1, past_stood2, past_stood3, past_stood4, past_stood5, past_stood6, past_stood7⟩ := id past
  obtain ⟨pool_lt, pool_o, pool_quota, pool_preferred, pool_forGuests, pool_applicantOf, pool_size, pool_guestCount, pool_score, pool_tickets, pool_bits, pool_party, pool_wishCount, pool_wishes⟩ := id pool
  obtain ⟨result_lt, result_o, result_line, result_unitOf, result_roundOf, result_leftTags, result_leftGuests, result_leftPreferred, result_ranked⟩ := id result
  obtain ⟨odds_lt, odds_o, odds_sets, odds_seen, odds_atUnit, odds_early, odds_result⟩ := id odds
  obtain ⟨paper_lt, paper_o, paper_times, paper_firstWish, paper_dry, paper_list, paper_pool, paper_result⟩ := id paper
  obtain ⟨trial_lt, trial_o, trial_quota, trial_score, trial_guest, trial_party, trial_wishCount, trial_wishes, trial_has⟩ := id trial
  obtain ⟨trialPool_lt, trialPool_o, trialPool_quota, trialPool_preferred, trialPool_forGuests, trialPool_applicantOf, trialPool_size, trialPool_guestCount, trialPool_score, trialPool_tickets, trialPool_bits, trialPool_party, trialPool_wishCount, trialPool_wishes⟩ := id trialPool
  obtain ⟨trialResult_lt, trialResult_o, trialResult_line, trialResult_unitOf, trialResult_roundOf, trialResult_leftTags, trialResult_leftGuests, trialResult_leftPreferred, trialResult_ranked⟩ := id trialResult
  obtain ⟨trialOdds_lt, trialOdds_o, trialOdds_sets, trialOdds_seen, trialOdds_atUnit, trialOdds_early, trialOdds_result⟩ := id trialOdds
  have J_20 : ∀ (x1_20 : Int32) (y0_20 : Int32), (y0_20 = 0 ∨ y0_20 = 1) → Zw p l e { frames := 0, cells := 0, slots := 0, locals := 80 * 0 } s m args below meth c G b 2 (MQ below (zQ G b FQ) args s 0 0 (fun q : Nat => b ≤ q)) 0 0 20 [some (.ref (P)), some (.int x1_20)] [(.int y0_20)] S := by
    intro x1_20 y0_20 f0_20
    refine a_zret X (by first | exact Or.inl rfl | exact Or.inr rfl | assumption) hr dX7_isHunter_20 ⟨by decide, by decide⟩ ?_
    subst hF
    exact ⟨rfl, ⟨_, rfl, (by first | exact Or.inl rfl | exact Or.inr rfl | assumption | ((try dsimp only); (repeat rw [zwr_row (by omega)]); assumption))⟩⟩
  have J_19 : ∀ (x1_19 : Int32), Zw p l e { frames := 0, cells := 0, slots := 0, locals := 80 * 0 } s m args below meth c G b 2 (MQ below (zQ G b FQ) args s 0 0 (fun q : Nat => b ≤ q)) 0 0 19 [some (.ref (P)), some (.int x1_19)] [] S := by
    intro x1_19
    refine a_iconst (v := 0) X dX7_isHunter_19 (by decide) ?_
    exact Zw.to2 (J_20 _ _ (by first | exact Or.inl rfl | exact Or.inr rfl | assumption | ((try dsimp only); (repeat rw [zwr_row (by omega)]); assumption))) rfl rfl rfl
  refine a_iload_n X dX7_isHunter_0 rfl ?_
  refine a_if_lt (tgt := 19) X dX7_isHunter_1 (by decide) (fun h_1 => ?_) (fun h_1 => ?_)
  · exact Zw.to2 (J_19 _ ) rfl rfl rfl
  · refine a_iload_n X dX7_isHunter_4 rfl ?_
    refine a_aload_n X dX7_isHunter_5 rfl ?_
    refine a_getr X lf7_26 (by assumption) rfl (by omega) dX7_isHunter_6 ?_
    refine a_geti X lf7_119 (by assumption) rfl dX7_isHunter_9 ?_
    refine a_icmp_ge (tgt := 19) X dX7_isHunter_12 (by decide) (fun h_12 => ?_) (fun h_12 => ?_)
    · exact Zw.to2 (J_19 _ ) rfl rfl rfl
    · refine a_iconst (v := 1) X dX7_isHunter_15 (by decide) ?_
      refine a_goto (tgt := 20) X dX7_isHunter_16 (by decide) ?_
      exact Zw.to2 (J_20 _ _ (by first | exact Or.inl rfl | exact Or.inr rfl | assumption | ((try dsimp only); (repeat rw [zwr_row (by omega)]); assumption))) rfl rfl rfl
set_option maxRecDepth 100000 in
theorem s_X7_isUnit {l : Launch} {G : zG} {b : Nat} {S : zS} {P : Nat} {v0 : Int32} (hT : LX7 S.1 P) : zM l G b yX7_isUnit cX7_isUnit 2 (some .boolean) 0 0 0 [.ref P, .int v0] S (fun r z => z = S ∧ ∃ v : Int32, r = some (.int v) ∧ (v = 0 ∨ v = 1)) := by
  refine zM.of miX7_isUnit (Nat.le_of_ble_eq_true rfl) ?_
  intro p e s m args below meth c X hr hname
  generalize hF : ((fun r z => z = S ∧ ∃ v : Int32, r = some (.int v) ∧ (v = 0 ∨ v = 1)) : Option Value → zS → Prop) = FQ
  change Zw p l e { frames := 0, cells := 0, slots := 0, locals := 80 * 0 } s m args below meth c G b 2 (MQ below (zQ G b FQ) args s 0 0 (fun q : Nat => b ≤ q)) 0 0 0 [some (.ref P), some (.int v0)] [] S
  obtain ⟨lt, o, tape, out, reader, list, past, pool, result, odds, paper, trial, trialPool, trialResult, trialOdds⟩ := id hT
  obtain ⟨reader_lt, reader_o, reader_draft, reader_text, reader_unitNames, reader_hunterNames, reader_partyNames, reader_asked⟩ := id reader
  obtain ⟨list_lt, list_o, list_quota, list_score, list_guest, list_party, list_wishCount, list_wishes, list_has⟩ := id list
  obtain ⟨past_lt, past_o, past_stood, past_stood0, past_stood1, past_stood2, past_stood3, past_stood4, past_stood5, past_stood6, past_stood7⟩ := id past
  obtain ⟨pool_lt, pool_o, pool_quota, pool_preferred, pool_forGuests, pool_applicantOf, pool_size, pool_guestCount, pool_score, pool_tickets, pool_bits, pool_party, pool_wishCount, pool_wishes⟩ := id pool
  obtain ⟨result_lt, result_o, result_line, result_unitOf, result_roundOf, result_leftTags, result_leftGuests, result_leftPreferred, result_ranked⟩ := id result
  obtain ⟨odds_lt, odds_o, odds_sets, odds_seen, odds_atUnit, odds_early, odds_result⟩ := id odds
  obtain ⟨paper_lt, paper_o, paper_times, paper_firstWish, paper_dry, paper_list, paper_pool, paper_result⟩ := id paper
  obtain ⟨trial_lt, trial_o, trial_quota, trial_score, trial_guest, trial_party, trial_wishCount, trial_wishes, trial_has⟩ := id trial
  obtain ⟨trialPool_lt, trialPool_o, trialPool_quota, trialPool_preferred, trialPool_forGuests, trialPool_applicantOf, trialPool_size, trialPool_guestCount, trialPool_score, trialPool_tickets, trialPool_bits, trialPool_party, trialPool_wishCount, trialPool_wishes⟩ := id trialPool
  obtain ⟨trialResult_lt, trialResult_o, trialResult_line, trialResult_unitOf, trialResult_roundOf, trialResult_leftTags, trialResult_leftGuests, trialResult_leftPreferred, trialResult_ranked⟩ := id trialResult
  obtain ⟨trialOdds_lt, trialOdds_o, trialOdds_sets, trialOdds_seen, trialOdds_atUnit, trialOdds_early, trialOdds_result⟩ := id trialOdds
  have J_20 : ∀ (x1_20 : Int32) (y0_20 : Int32), (y0_20 = 0 ∨ y0_20 = 1) → Zw p l e { frames := 0, cells := 0, slots := 0, locals := 80 * 0 } s m args below meth c G b 2 (MQ below (zQ G b FQ) args s 0 0 (fun q : Nat => b ≤ q)) 0 0 20 [some (.ref (P)), some (.int x1_20)] [(.int y0_20)] S := by
    intro x1_20 y0_20 f0_20
    refine a_zret X (by first | exact Or.inl rfl | exact Or.inr rfl | assumption) hr dX7_isUnit_20 ⟨by decide, by decide⟩ ?_
    subst hF
    exact ⟨rfl, ⟨_, rfl, (by first | exact Or.inl rfl | exact Or.inr rfl | assumption | ((try dsimp only); (repeat rw [zwr_row (by omega)]); assumption))⟩⟩
  have J_19 : ∀ (x1_19 : Int32), Zw p l e { frames := 0, cells := 0, slots := 0, locals := 80 * 0 } s m args below meth c G b 2 (MQ below (zQ G b FQ) args s 0 0 (fun q : Nat => b ≤ q)) 0 0 19 [some (.ref (P)), some (.int x1_19)] [] S := by
    intro x1_19
    refine a_iconst (v := 0) X dX7_isUnit_19 (by decide) ?_
    exact Zw.to2 (J_20 _ _ (by first | exact Or.inl rfl | exact Or.inr rfl | assumption | ((try dsimp only); (repeat rw [zwr_row (by omega)]); assumption))) rfl rfl rfl
  refine a_iload_n X dX7_isUnit_0 rfl ?_
  refine a_if_lt (tgt := 19) X dX7_isUnit_1 (by decide) (fun h_1 => ?_) (fun h_1 => ?_)
  · exact Zw.to2 (J_19 _ ) rfl rfl rfl
  · refine a_iload_n X dX7_isUnit_4 rfl ?_
    refine a_aload_n X dX7_isUnit_5 rfl ?_
    refine a_getr X lf7_26 (by assumption) rfl (by omega) dX7_isUnit_6 ?_
    refine a_geti X lf7_131 (by assumption) rfl dX7_isUnit_9 ?_
    refine a_icmp_ge (tgt := 19) X dX7_isUnit_12 (by decide) (fun h_12 => ?_) (fun h_12 => ?_)
    · exact Zw.to2 (J_19 _ ) rfl rfl rfl
    · refine a_iconst (v := 1) X dX7_isUnit_15 (by decide) ?_
      refine a_goto (tgt := 20) X dX7_isUnit_16 (by decide) ?_
      exact Zw.to2 (J_20 _ _ (by first | exact Or.inl rfl | exact Or.inr rfl | assumption | ((try dsimp only); (repeat rw [zwr_row (by omega)]); assumption))) rfl rfl rfl
set_option maxRecDepth 100000 in
theorem s_X7_isParty {l : Launch} {G : zG} {b : Nat} {S : zS} {P : Nat} {v0 : Int32} (hT : LX7 S.1 P) : zM l G b yX7_isParty cX7_isParty 2 (some .boolean) 0 0 0 [.ref P, .int v0] S (fun r z => z = S ∧ ∃ v : Int32, r = some (.int v) ∧ (v = 0 ∨ v = 1)) := by
  refine zM.of miX7_isParty (Nat.le_of_ble_eq_true rfl) ?_
  intro p e s m args below meth c X hr hname
  generalize hF : ((fun r z => z = S ∧ ∃ v : Int32, r = some (.int v) ∧ (v = 0 ∨ v = 1)) : Option Value → zS → Prop) = FQ
  change Zw p l e { frames := 0, cells := 0, slots := 0, locals := 80 * 0 } s m args below meth c G b 2 (MQ below (zQ G b FQ) args s 0 0 (fun q : Nat => b ≤ q)) 0 0 0 [some (.ref P), some (.int v0)] [] S
  obtain ⟨lt, o, tape, out, reader, list, past, pool, result, odds, paper, trial, trialPool, trialResult, trialOdds⟩ := id hT
  obtain ⟨reader_lt, reader_o, reader_draft, reader_text, reader_unitNames, reader_hunterNames, reader_partyNames, reader_asked⟩ := id reader
  obtain ⟨list_lt, list_o, list_quota, list_score, list_guest, list_party, list_wishCount, list_wishes, list_has⟩ := id list
  obtain ⟨past_lt, past_o, past_stood, past_stood0, past_stood1, past_stood2, past_stood3, past_stood4, past_stood5, past_stood6, past_stood7⟩ := id past
  obtain ⟨pool_lt, pool_o, pool_quota, pool_preferred, pool_forGuests, pool_applicantOf, pool_size, pool_guestCount, pool_score, pool_tickets, pool_bits, pool_party, pool_wishCount, pool_wishes⟩ := id pool
  obtain ⟨result_lt, result_o, result_line, result_unitOf, result_roundOf, result_leftTags, result_leftGuests, result_leftPreferred, result_ranked⟩ := id result
  obtain ⟨odds_lt, odds_o, odds_sets, odds_seen, odds_atUnit, odds_early, odds_result⟩ := id odds
  obtain ⟨paper_lt, paper_o, paper_times, paper_firstWish, paper_dry, paper_list, paper_pool, paper_result⟩ := id paper
  obtain ⟨trial_lt, trial_o, trial_quota, trial_score, trial_guest, trial_party, trial_wishCount, trial_wishes, trial_has⟩ := id trial
  obtain ⟨trialPool_lt, trialPool_o, trialPool_quota, trialPool_preferred, trialPool_forGuests, trialPool_applicantOf, trialPool_size, trialPool_guestCount, trialPool_score, trialPool_tickets, trialPool_bits, trialPool_party, trialPool_wishCount, trialPool_wishes⟩ := id trialPool
  obtain ⟨trialResult_lt, trialResult_o, trialResult_line, trialResult_unitOf, trialResult_roundOf, trialResult_leftTags, trialResult_leftGuests, trialResult_leftPreferred, trialResult_ranked⟩ := id trialResult
  obtain ⟨trialOdds_lt, trialOdds_o, trialOdds_sets, trialOdds_seen, trialOdds_atUnit, trialOdds_early, trialOdds_result⟩ := id trialOdds
  have J_20 : ∀ (x1_20 : Int32) (y0_20 : Int32), (y0_20 = 0 ∨ y0_20 = 1) → Zw p l e { frames := 0, cells := 0, slots := 0, locals := 80 * 0 } s m args below meth c G b 2 (MQ below (zQ G b FQ) args s 0 0 (fun q : Nat => b ≤ q)) 0 0 20 [some (.ref (P)), some (.int x1_20)] [(.int y0_20)] S := by
    intro x1_20 y0_20 f0_20
    refine a_zret X (by first | exact Or.inl rfl | exact Or.inr rfl | assumption) hr dX7_isParty_20 ⟨by decide, by decide⟩ ?_
    subst hF
    exact ⟨rfl, ⟨_, rfl, (by first | exact Or.inl rfl | exact Or.inr rfl | assumption | ((try dsimp only); (repeat rw [zwr_row (by omega)]); assumption))⟩⟩
  have J_19 : ∀ (x1_19 : Int32), Zw p l e { frames := 0, cells := 0, slots := 0, locals := 80 * 0 } s m args below meth c G b 2 (MQ below (zQ G b FQ) args s 0 0 (fun q : Nat => b ≤ q)) 0 0 19 [some (.ref (P)), some (.int x1_19)] [] S := by
    intro x1_19
    refine a_iconst (v := 0) X dX7_isParty_19 (by decide) ?_
    exact Zw.to2 (J_20 _ _ (by first | exact Or.inl rfl | exact Or.inr rfl | assumption | ((try dsimp only); (repeat rw [zwr_row (by omega)]); assumption))) rfl rfl rfl
  refine a_iload_n X dX7_isParty_0 rfl ?_
  refine a_if_lt (tgt := 19) X dX7_isParty_1 (by decide) (fun h_1 => ?_) (fun h_1 => ?_)
  · exact Zw.to2 (J_19 _ ) rfl rfl rfl
  · refine a_iload_n X dX7_isParty_4 rfl ?_
    refine a_aload_n X dX7_isParty_5 rfl ?_
    refine a_getr X lf7_26 (by assumption) rfl (by omega) dX7_isParty_6 ?_
    refine a_geti X lf7_137 (by assumption) rfl dX7_isParty_9 ?_
    refine a_icmp_ge (tgt := 19) X dX7_isParty_12 (by decide) (fun h_12 => ?_) (fun h_12 => ?_)
    · exact Zw.to2 (J_19 _ ) rfl rfl rfl
    · refine a_iconst (v := 1) X dX7_isParty_15 (by decide) ?_
      refine a_goto (tgt := 20) X dX7_isParty_16 (by decide) ?_
      exact Zw.to2 (J_20 _ _ (by first | exact Or.inl rfl | exact Or.inr rfl | assumption | ((try dsimp only); (repeat rw [zwr_row (by omega)]); assumption))) rfl rfl rfl
set_option maxRecDepth 100000 in
theorem s_X7_isApplicant {l : Launch} {G : zG} {b : Nat} {S : zS} {P : Nat} {v0 : Int32} (hT : LX7 S.1 P) : zM l G b yX7_isApplicant cX7_isApplicant 2 (some .boolean) 0 0 0 [.ref P, .int v0] S (fun r z => z = S ∧ ∃ v : Int32, r = some (.int v) ∧ (v = 0 ∨ v = 1)) := by
  refine zM.of miX7_isApplicant (Nat.le_of_ble_eq_true rfl) ?_
  intro p e s m args below meth c X hr hname
  generalize hF : ((fun r z => z = S ∧ ∃ v : Int32, r = some (.int v) ∧ (v = 0 ∨ v = 1)) : Option Value → zS → Prop) = FQ
  change Zw p l e { frames := 0, cells := 0, slots := 0, locals := 80 * 0 } s m args below meth c G b 2 (MQ below (zQ G b FQ) args s 0 0 (fun q : Nat => b ≤ q)) 0 0 0 [some (.ref P), some (.int v0)] [] S
  obtain ⟨lt, o, tape, out, reader, list, past, pool, result, odds, paper, trial, trialPool, trialResult, trialOdds⟩ := id hT
  obtain ⟨reader_lt, reader_o, reader_draft, reader_text, reader_unitNames, reader_hunterNames, reader_partyNames, reader_asked⟩ := id reader
  obtain ⟨list_lt, list_o, list_quota, list_score, list_guest, list_party, list_wishCount, list_wishes, list_has⟩ := id list
  obtain ⟨past_lt, past_o, past_stood, past_stood0, past_stood1, past_stood2, past_stood3, past_stood4, past_stood5, past_stood6, past_stood7⟩ := id past
  obtain ⟨pool_lt, pool_o, pool_quota, pool_preferred, pool_forGuests, pool_applicantOf, pool_size, pool_guestCount, pool_score, pool_tickets, pool_bits, pool_party, pool_wishCount, pool_wishes⟩ := id pool
  obtain ⟨result_lt, result_o, result_line, result_unitOf, result_roundOf, result_leftTags, result_leftGuests, result_leftPreferred, result_ranked⟩ := id result
  obtain ⟨odds_lt, odds_o, odds_sets, odds_seen, odds_atUnit, odds_early, odds_result⟩ := id odds
  obtain ⟨paper_lt, paper_o, paper_times, paper_firstWish, paper_dry, paper_list, paper_pool, paper_result⟩ := id paper
  obtain ⟨trial_lt, trial_o, trial_quota, trial_score, trial_guest, trial_party, trial_wishCount, trial_wishes, trial_has⟩ := id trial
  obtain ⟨trialPool_lt, trialPool_o, trialPool_quota, trialPool_preferred, trialPool_forGuests, trialPool_applicantOf, trialPool_size, trialPool_guestCount, trialPool_score, trialPool_tickets, trialPool_bits, trialPool_party, trialPool_wishCount, trialPool_wishes⟩ := id trialPool
  obtain ⟨trialResult_lt, trialResult_o, trialResult_line, trialResult_unitOf, trialResult_roundOf, trialResult_leftTags, trialResult_leftGuests, trialResult_leftPreferred, trialResult_ranked⟩ := id trialResult
  obtain ⟨trialOdds_lt, trialOdds_o, trialOdds_sets, trialOdds_seen, trialOdds_atUnit, trialOdds_early, trialOdds_result⟩ := id trialOdds
  have J_20 : ∀ (x1_20 : Int32) (y0_20 : Int32), (y0_20 = 0 ∨ y0_20 = 1) → Zw p l e { frames := 0, cells := 0, slots := 0, locals := 80 * 0 } s m args below meth c G b 2 (MQ below (zQ G b FQ) args s 0 0 (fun q : Nat => b ≤ q)) 0 0 20 [some (.ref (P)), some (.int x1_20)] [(.int y0_20)] S := by
    intro x1_20 y0_20 f0_20
    refine a_zret X (by first | exact Or.inl rfl | exact Or.inr rfl | assumption) hr dX7_isApplicant_20 ⟨by decide, by decide⟩ ?_
    subst hF
    exact ⟨rfl, ⟨_, rfl, (by first | exact Or.inl rfl | exact Or.inr rfl | assumption | ((try dsimp only); (repeat rw [zwr_row (by omega)]); assumption))⟩⟩
  have J_19 : ∀ (x1_19 : Int32), Zw p l e { frames := 0, cells := 0, slots := 0, locals := 80 * 0 } s m args below meth c G b 2 (MQ below (zQ G b FQ) args s 0 0 (fun q : Nat => b ≤ q)) 0 0 19 [some (.ref (P)), some (.int x1_19)] [] S := by
    intro x1_19
    refine a_iconst (v := 0) X dX7_isApplicant_19 (by decide) ?_
    exact Zw.to2 (J_20 _ _ (by first | exact Or.inl rfl | exact Or.inr rfl | assumption | ((try dsimp only); (repeat rw [zwr_row (by omega)]); assumption))) rfl rfl rfl
  refine a_iload_n X dX7_isApplicant_0 rfl ?_
  refine a_if_lt (tgt := 19) X dX7_isApplicant_1 (by decide) (fun h_1 => ?_) (fun h_1 => ?_)
  · exact Zw.to2 (J_19 _ ) rfl rfl rfl
  · refine a_iload_n X dX7_isApplicant_4 rfl ?_
    refine a_aload_n X dX7_isApplicant_5 rfl ?_
    refine a_getr X lf7_40 (by assumption) rfl (by omega) dX7_isApplicant_6 ?_
    refine a_geti X lf7_140 (by assumption) rfl dX7_isApplicant_9 ?_
    refine a_icmp_ge (tgt := 19) X dX7_isApplicant_12 (by decide) (fun h_12 => ?_) (fun h_12 => ?_)
    · exact Zw.to2 (J_19 _ ) rfl rfl rfl
    · refine a_iconst (v := 1) X dX7_isApplicant_15 (by decide) ?_
      refine a_goto (tgt := 20) X dX7_isApplicant_16 (by decide) ?_
      exact Zw.to2 (J_20 _ _ (by first | exact Or.inl rfl | exact Or.inr rfl | assumption | ((try dsimp only); (repeat rw [zwr_row (by omega)]); assumption))) rfl rfl rfl
set_option maxRecDepth 100000 in
theorem s_X7_isSeed {l : Launch} {G : zG} {b : Nat} {S : zS} {P : Nat} {v0 : Int32}  : zM l G b yX7_isSeed cX7_isSeed 1 (some .boolean) 0 0 0 [.int v0] S (fun r z => z = S ∧ ∃ v : Int32, r = some (.int v) ∧ (v = 0 ∨ v = 1)) := by
  refine zM.of miX7_isSeed (Nat.le_of_ble_eq_true rfl) ?_
  intro p e s m args below meth c X hr hname
  generalize hF : ((fun r z => z = S ∧ ∃ v : Int32, r = some (.int v) ∧ (v = 0 ∨ v = 1)) : Option Value → zS → Prop) = FQ
  change Zw p l e { frames := 0, cells := 0, slots := 0, locals := 80 * 0 } s m args below meth c G b 1 (MQ below (zQ G b FQ) args s 0 0 (fun q : Nat => b ≤ q)) 0 0 0 [some (.int v0)] [] S
  have J_16 : ∀ (x0_16 : Int32) (y0_16 : Int32), (y0_16 = 0 ∨ y0_16 = 1) → Zw p l e { frames := 0, cells := 0, slots := 0, locals := 80 * 0 } s m args below meth c G b 1 (MQ below (zQ G b FQ) args s 0 0 (fun q : Nat => b ≤ q)) 0 0 16 [some (.int x0_16)] [(.int y0_16)] S := by
    intro x0_16 y0_16 f0_16
    refine a_zret X (by first | exact Or.inl rfl | exact Or.inr rfl | assumption) hr dX7_isSeed_16 ⟨by decide, by decide⟩ ?_
    subst hF
    exact ⟨rfl, ⟨_, rfl, (by first | exact Or.inl rfl | exact Or.inr rfl | assumption | ((try dsimp only); (repeat rw [zwr_row (by omega)]); assumption))⟩⟩
  have J_15 : ∀ (x0_15 : Int32), Zw p l e { frames := 0, cells := 0, slots := 0, locals := 80 * 0 } s m args below meth c G b 1 (MQ below (zQ G b FQ) args s 0 0 (fun q : Nat => b ≤ q)) 0 0 15 [some (.int x0_15)] [] S := by
    intro x0_15
    refine a_iconst (v := 0) X dX7_isSeed_15 (by decide) ?_
    exact Zw.to2 (J_16 _ _ (by first | exact Or.inl rfl | exact Or.inr rfl | assumption | ((try dsimp only); (repeat rw [zwr_row (by omega)]); assumption))) rfl rfl rfl
  refine a_iload_n X dX7_isSeed_0 rfl ?_
  refine a_if_lt (tgt := 15) X dX7_isSeed_1 (by decide) (fun h_1 => ?_) (fun h_1 => ?_)
  · exact Zw.to2 (J_15 _ ) rfl rfl rfl
  · refine a_iload_n X dX7_isSeed_4 rfl ?_
    refine a_ldcw X dX7_isSeed_5 lk7_395 ?_
    refine a_icmp_gt (tgt := 15) X dX7_isSeed_8 (by decide) (fun h_8 => ?_) (fun h_8 => ?_)
    · exact Zw.to2 (J_15 _ ) rfl rfl rfl
    · refine a_iconst (v := 1) X dX7_isSeed_11 (by decide) ?_
      refine a_goto (tgt := 16) X dX7_isSeed_12 (by decide) ?_
      exact Zw.to2 (J_16 _ _ (by first | exact Or.inl rfl | exact Or.inr rfl | assumption | ((try dsimp only); (repeat rw [zwr_row (by omega)]); assumption))) rfl rfl rfl
set_option maxRecDepth 100000 in
theorem s_X7_areYears {l : Launch} {G : zG} {b : Nat} {S : zS} {P : Nat} {v0 : Int32} {v1 : Int32}  : zM l G b yX7_areYears cX7_areYears 2 (some .boolean) 1 0 0 [.int v0, .int v1] S (fun r z => z = S ∧ ∃ v : Int32, r = some (.int v) ∧ (v = 0 ∨ v = 1)) := by
  refine zM.of miX7_areYears (Nat.le_of_ble_eq_true rfl) ?_
  intro p e s m args below meth c X hr hname
  generalize hF : ((fun r z => z = S ∧ ∃ v : Int32, r = some (.int v) ∧ (v = 0 ∨ v = 1)) : Option Value → zS → Prop) = FQ
  change Zw p l e { frames := 1, cells := 0, slots := 0, locals := 80 * 1 } s m args below meth c G b 2 (MQ below (zQ G b FQ) args s 0 0 (fun q : Nat => b ≤ q)) 0 0 0 [some (.int v0), some (.int v1)] [] S
  have J_32 : ∀ (x0_32 : Int32) (x1_32 : Int32) (y0_32 : Int32), (y0_32 = 0 ∨ y0_32 = 1) → Zw p l e { frames := 1, cells := 0, slots := 0, locals := 80 * 1 } s m args below meth c G b 2 (MQ below (zQ G b FQ) args s 0 0 (fun q : Nat => b ≤ q)) 0 0 32 [some (.int x0_32), some (.int x1_32)] [(.int y0_32)] S := by
    intro x0_32 x1_32 y0_32 f0_32
    refine a_zret X (by first | exact Or.inl rfl | exact Or.inr rfl | assumption) hr dX7_areYears_32 ⟨by decide, by decide⟩ ?_
    subst hF
    exact ⟨rfl, ⟨_, rfl, (by first | exact Or.inl rfl | exact Or.inr rfl | assumption | ((try dsimp only); (repeat rw [zwr_row (by omega)]); assumption))⟩⟩
  have J_31 : ∀ (x0_31 : Int32) (x1_31 : Int32), Zw p l e { frames := 1, cells := 0, slots := 0, locals := 80 * 1 } s m args below meth c G b 2 (MQ below (zQ G b FQ) args s 0 0 (fun q : Nat => b ≤ q)) 0 0 31 [some (.int x0_31), some (.int x1_31)] [] S := by
    intro x0_31 x1_31
    refine a_iconst (v := 0) X dX7_areYears_31 (by decide) ?_
    exact Zw.to2 (J_32 _ _ _ (by first | exact Or.inl rfl | exact Or.inr rfl | assumption | ((try dsimp only); (repeat rw [zwr_row (by omega)]); assumption))) rfl rfl rfl
  refine a_iload_n X dX7_areYears_0 rfl ?_
  refine a_callSx X dX7_areYears_1 miX7_isSeed lm7_237 (s_X7_isSeed (P := P)) rfl rfl (Nat.le_of_ble_eq_true rfl) ⟨by decide, by decide, by decide, by decide⟩ (fun r_1 S_1 q_1 => ?_)
  obtain ⟨rfl, ⟨v_1, rfl, b_1⟩⟩ := q_1
  refine a_if_eq (tgt := 31) X dX7_areYears_4 (by decide) (fun h_4 => ?_) (fun h_4 => ?_)
  · exact Zw.to2 (J_31 _ _ ) rfl rfl rfl
  · refine a_iload_n X dX7_areYears_7 rfl ?_
    refine a_iconst (v := 1) X dX7_areYears_8 (by decide) ?_
    refine a_icmp_lt (tgt := 31) X dX7_areYears_9 (by decide) (fun h_9 => ?_) (fun h_9 => ?_)
    · exact Zw.to2 (J_31 _ _ ) rfl rfl rfl
    · refine a_iload_n X dX7_areYears_12 rfl ?_
      refine a_bipush (v := 30) X dX7_areYears_13 (by decide) ?_
      refine a_icmp_gt (tgt := 31) X dX7_areYears_15 (by decide) (fun h_15 => ?_) (fun h_15 => ?_)
      · exact Zw.to2 (J_31 _ _ ) rfl rfl rfl
      · refine a_iload_n X dX7_areYears_18 rfl ?_
        refine a_ldcw X dX7_areYears_19 lk7_395 ?_
        refine a_iload_n X dX7_areYears_22 rfl ?_
        refine a_isub X dX7_areYears_23 ?_
        refine a_icmp_gt (tgt := 31) X dX7_areYears_24 (by decide) (fun h_24 => ?_) (fun h_24 => ?_)
        · exact Zw.to2 (J_31 _ _ ) rfl rfl rfl
        · refine a_iconst (v := 1) X dX7_areYears_27 (by decide) ?_
          refine a_goto (tgt := 32) X dX7_areYears_28 (by decide) ?_
          exact Zw.to2 (J_32 _ _ _ (by first | exact Or.inl rfl | exact Or.inr rfl | assumption | ((try dsimp only); (repeat rw [zwr_row (by omega)]); assumption))) rfl rfl rfl
set_option maxRecDepth 100000 in
theorem s_X7_isUnitOrNone {l : Launch} {G : zG} {b : Nat} {S : zS} {P : Nat} {v0 : Int32} (hT : LX7 S.1 P) : zM l G b yX7_isUnitOrNone cX7_isUnitOrNone 2 (some .boolean) 1 0 0 [.ref P, .int v0] S (fun r z => z = S ∧ ∃ v : Int32, r = some (.int v) ∧ (v = 0 ∨ v = 1)) := by
  refine zM.of miX7_isUnitOrNone (Nat.le_of_ble_eq_true rfl) ?_
  intro p e s m args below meth c X hr hname
  generalize hF : ((fun r z => z = S ∧ ∃ v : Int32, r = some (.int v) ∧ (v = 0 ∨ v = 1)) : Option Value → zS → Prop) = FQ
  change Zw p l e { frames := 1, cells := 0, slots := 0, locals := 80 * 1 } s m args below meth c G b 2 (MQ below (zQ G b FQ) args s 0 0 (fun q : Nat => b ≤ q)) 0 0 0 [some (.ref P), some (.int v0)] [] S
  obtain ⟨lt, o, tape, out, reader, list, past, pool, result, odds, paper, trial, trialPool, trialResult, trialOdds⟩ := id hT
  obtain ⟨reader_lt, reader_o, reader_draft, reader_text, reader_unitNames, reader_hunterNames, reader_partyNames, reader_asked⟩ := id reader
  obtain ⟨list_lt, list_o, list_quota, list_score, list_guest, list_party, list_wishCount, list_wishes, list_has⟩ := id list
  obtain ⟨past_lt, past_o, past_stood, past_stood0, past_stood1, past_stood2, past_stood3, past_stood4, past_stood5, past_stood6, past_stood7⟩ := id past
  obtain ⟨pool_lt, pool_o, pool_quota, pool_preferred, pool_forGuests, pool_applicantOf, pool_size, pool_guestCount, pool_score, pool_tickets, pool_bits, pool_party, pool_wishCount, pool_wishes⟩ := id pool
  obtain ⟨result_lt, result_o, result_line, result_unitOf, result_roundOf, result_leftTags, result_leftGuests, result_leftPreferred, result_ranked⟩ := id result
  obtain ⟨odds_lt, odds_o, odds_sets, odds_seen, odds_atUnit, odds_early, odds_result⟩ := id odds
  obtain ⟨paper_lt, paper_o, paper_times, paper_firstWish, paper_dry, paper_list, paper_pool, paper_result⟩ := id paper
  obtain ⟨trial_lt, trial_o, trial_quota, trial_score, trial_guest, trial_party, trial_wishCount, trial_wishes, trial_has⟩ := id trial
  obtain ⟨trialPool_lt, trialPool_o, trialPool_quota, trialPool_preferred, trialPool_forGuests, trialPool_applicantOf, trialPool_size, trialPool_guestCount, trialPool_score, trialPool_tickets, trialPool_bits, trialPool_party, trialPool_wishCount, trialPool_wishes⟩ := id trialPool
  obtain ⟨trialResult_lt, trialResult_o, trialResult_line, trialResult_unitOf, trialResult_roundOf, trialResult_leftTags, trialResult_leftGuests, trialResult_leftPreferred, trialResult_ranked⟩ := id trialResult
  obtain ⟨trialOdds_lt, trialOdds_o, trialOdds_sets, trialOdds_seen, trialOdds_atUnit, trialOdds_early, trialOdds_result⟩ := id trialOdds
  have J_18 : ∀ (x1_18 : Int32) (y0_18 : Int32), (y0_18 = 0 ∨ y0_18 = 1) → Zw p l e { frames := 1, cells := 0, slots := 0, locals := 80 * 1 } s m args below meth c G b 2 (MQ below (zQ G b FQ) args s 0 0 (fun q : Nat => b ≤ q)) 0 0 18 [some (.ref (P)), some (.int x1_18)] [(.int y0_18)] S := by
    intro x1_18 y0_18 f0_18
    refine a_zret X (by first | exact Or.inl rfl | exact Or.inr rfl | assumption) hr dX7_isUnitOrNone_18 ⟨by decide, by decide⟩ ?_
    subst hF
    exact ⟨rfl, ⟨_, rfl, (by first | exact Or.inl rfl | exact Or.inr rfl | assumption | ((try dsimp only); (repeat rw [zwr_row (by omega)]); assumption))⟩⟩
  have J_13 : ∀ (x1_13 : Int32), Zw p l e { frames := 1, cells := 0, slots := 0, locals := 80 * 1 } s m args below meth c G b 2 (MQ below (zQ G b FQ) args s 0 0 (fun q : Nat => b ≤ q)) 0 0 13 [some (.ref (P)), some (.int x1_13)] [] S := by
    intro x1_13
    refine a_iconst (v := 1) X dX7_isUnitOrNone_13 (by decide) ?_
    refine a_goto (tgt := 18) X dX7_isUnitOrNone_14 (by decide) ?_
    exact Zw.to2 (J_18 _ _ (by first | exact Or.inl rfl | exact Or.inr rfl | assumption | ((try dsimp only); (repeat rw [zwr_row (by omega)]); assumption))) rfl rfl rfl
  refine a_iload_n X dX7_isUnitOrNone_0 rfl ?_
  refine a_iconst (v := -1) X dX7_isUnitOrNone_1 (by decide) ?_
  refine a_icmp_eq (tgt := 13) X dX7_isUnitOrNone_2 (by decide) (fun h_2 => ?_) (fun h_2 => ?_)
  · exact Zw.to2 (J_13 _ ) rfl rfl rfl
  · refine a_aload_n X dX7_isUnitOrNone_5 rfl ?_
    refine a_iload_n X dX7_isUnitOrNone_6 rfl ?_
    refine a_callVx X dX7_isUnitOrNone_7 miX7_isUnit lm7_188 (s_X7_isUnit (P := P) (by assumption)) (by assumption) rfl rfl rfl (Nat.le_of_ble_eq_true rfl) ⟨by decide, by decide, by decide, by decide⟩ (fun r_7 S_7 q_7 => ?_)
    obtain ⟨rfl, ⟨v_7, rfl, b_7⟩⟩ := q_7
    refine a_if_eq (tgt := 17) X dX7_isUnitOrNone_10 (by decide) (fun h_10 => ?_) (fun h_10 => ?_)
    · refine a_iconst (v := 0) X dX7_isUnitOrNone_17 (by decide) ?_
      exact Zw.to2 (J_18 _ _ (by first | exact Or.inl rfl | exact Or.inr rfl | assumption | ((try dsimp only); (repeat rw [zwr_row (by omega)]); assumption))) rfl rfl rfl
    · exact Zw.to2 (J_13 _ ) rfl rfl rfl
set_option maxRecDepth 100000 in
theorem s_X7_commonDivisor {l : Launch} {G : zG} {b : Nat} {S : zS} {P : Nat} {v0 : Int32} {v1 : Int32}  : zM l G b yX7_commonDivisor cX7_commonDivisor 6 (some .int) 0 0 0 [.int v0, .int v1] S (fun r z => z = S ∧ ∃ v : Int32, r = some (.int v)) := by
  refine zM.of miX7_commonDivisor (Nat.le_of_ble_eq_true rfl) ?_
  intro p e s m args below meth c X hr hname
  generalize hF : ((fun r z => z = S ∧ ∃ v : Int32, r = some (.int v)) : Option Value → zS → Prop) = FQ
  change Zw p l e { frames := 0, cells := 0, slots := 0, locals := 80 * 0 } s m args below meth c G b 6 (MQ below (zQ G b FQ) args s 0 0 (fun q : Nat => b ≤ q)) 0 0 0 [some (.int v0), some (.int v1), none, none, none, none] [] S
  have J_34 : ∀ (x0_34 : Int32) (x1_34 : Int32) (x2_34 : Int32) (x3_34 : Int32) (x4_34 : Int32) (x5_34 : Option Value), Zw p l e { frames := 0, cells := 0, slots := 0, locals := 80 * 0 } s m args below meth c G b 6 (MQ below (zQ G b FQ) args s 0 0 (fun q : Nat => b ≤ q)) 0 0 34 [some (.int x0_34), some (.int x1_34), some (.int x2_34), some (.int x3_34), some (.int x4_34), x5_34] [] S := by
    intro x0_34 x1_34 x2_34 x3_34 x4_34 x5_34
    refine a_iload_n X dX7_commonDivisor_34 rfl ?_
    refine a_iret X hr dX7_commonDivisor_35 ⟨by decide, by decide⟩ ?_
    subst hF
    exact ⟨rfl, ⟨_, rfl⟩⟩
  have L_7 : ∀ u : Nat, ∀ (x0_7 : Int32) (x1_7 : Int32) (x2_7 : Int32) (x3_7 : Int32) (x4_7 : Int32) (x5_7 : Option Value), (2147483648 - x4_7.toInt).toNat < u → Zw p l e { frames := 0, cells := 0, slots := 0, locals := 80 * 0 } s m args below meth c G b 6 (MQ below (zQ G b FQ) args s 0 0 (fun q : Nat => b ≤ q)) 0 0 7 [some (.int x0_7), some (.int x1_7), some (.int x2_7), some (.int x3_7), some (.int x4_7), x5_7] [] S := by
    intro u
    induction u with
    | zero => intro x0_7 x1_7 x2_7 x3_7 x4_7 x5_7 hm_7; exact absurd hm_7 (Nat.not_lt_zero _)
    | succ u_7 ih_7 =>
      intro x0_7 x1_7 x2_7 x3_7 x4_7 x5_7 hm_7
      refine a_iload X dX7_commonDivisor_7 rfl ?_
      refine a_bipush (v := 100) X dX7_commonDivisor_9 (by decide) ?_
      refine a_icmp_ge (tgt := 34) X dX7_commonDivisor_11 (by decide) (fun h_11 => ?_) (fun h_11 => ?_)
      · exact Zw.to2 (J_34 _ _ _ _ _ _ ) rfl rfl rfl
      · refine a_iload_n X dX7_commonDivisor_14 rfl ?_
        refine a_if_eq (tgt := 34) X dX7_commonDivisor_15 (by decide) (fun h_15 => ?_) (fun h_15 => ?_)
        · exact Zw.to2 (J_34 _ _ _ _ _ _ ) rfl rfl rfl
        · refine a_iload_n X dX7_commonDivisor_18 rfl ?_
          refine a_iload_n X dX7_commonDivisor_19 rfl ?_
          refine a_irem X dX7_commonDivisor_20 (by first | assumption | decide | exact z_nzl (by assumption)) ?_
          refine a_istore X dX7_commonDivisor_21 (by decide) ?_
          refine a_iload_n X dX7_commonDivisor_23 rfl ?_
          refine a_istore_n X dX7_commonDivisor_24 (by decide) ?_
          refine a_iload X dX7_commonDivisor_25 rfl ?_
          refine a_istore_n X dX7_commonDivisor_27 (by decide) ?_
          refine a_iinc X dX7_commonDivisor_28 (by decide) rfl rfl ?_
          refine a_goto (tgt := 7) X dX7_commonDivisor_31 (by decide) ?_
          exact Zw.to2 (ih_7 _ _ _ _ _ _  (z_up (by first | assumption | exact z_lt (by assumption) | exact z_lt2 (by assumption) | exact z_lt3 (by assumption) (by decide)) hm_7)) rfl rfl rfl
  have H_7 : ∀ (x0_7 : Int32) (x1_7 : Int32) (x2_7 : Int32) (x3_7 : Int32) (x4_7 : Int32) (x5_7 : Option Value), Zw p l e { frames := 0, cells := 0, slots := 0, locals := 80 * 0 } s m args below meth c G b 6 (MQ below (zQ G b FQ) args s 0 0 (fun q : Nat => b ≤ q)) 0 0 7 [some (.int x0_7), some (.int x1_7), some (.int x2_7), some (.int x3_7), some (.int x4_7), x5_7] [] S := fun x0_7 x1_7 x2_7 x3_7 x4_7 x5_7  => L_7 _ x0_7 x1_7 x2_7 x3_7 x4_7 x5_7  (Nat.lt_succ_self _)
  refine a_iload_n X dX7_commonDivisor_0 rfl ?_
  refine a_istore_n X dX7_commonDivisor_1 (by decide) ?_
  refine a_iload_n X dX7_commonDivisor_2 rfl ?_
  refine a_istore_n X dX7_commonDivisor_3 (by decide) ?_
  refine a_iconst (v := 0) X dX7_commonDivisor_4 (by decide) ?_
  refine a_istore X dX7_commonDivisor_5 (by decide) ?_
  exact Zw.to2 (H_7 _ _ _ _ _ _ ) rfl rfl rfl
set_option maxRecDepth 100000 in
theorem s_X7_lowest {l : Launch} {G : zG} {b : Nat} {S : zS} {P : Nat} {v0 : Int32} {v1 : Int32} {v2 : Int32}  : zM l G b yX7_lowest cX7_lowest 5 (some .int) 1 0 0 [.int v0, .int v1, .int v2] S (fun r z => z = S ∧ ∃ v : Int32, r = some (.int v)) := by
  refine zM.of miX7_lowest (Nat.le_of_ble_eq_true rfl) ?_
  intro p e s m args below meth c X hr hname
  generalize hF : ((fun r z => z = S ∧ ∃ v : Int32, r = some (.int v)) : Option Value → zS → Prop) = FQ
  change Zw p l e { frames := 1, cells := 0, slots := 0, locals := 80 * 1 } s m args below meth c G b 5 (MQ below (zQ G b FQ) args s 0 0 (fun q : Nat => b ≤ q)) 0 0 0 [some (.int v0), some (.int v1), some (.int v2), none, none] [] S
  have J_30 : ∀ (x0_30 : Int32) (x1_30 : Int32) (x2_30 : Int32) (x3_30 : Int32) (x4_30 : Int32) (y0_30 : Int32), Zw p l e { frames := 1, cells := 0, slots := 0, locals := 80 * 1 } s m args below meth c G b 5 (MQ below (zQ G b FQ) args s 0 0 (fun q : Nat => b ≤ q)) 0 0 30 [some (.int x0_30), some (.int x1_30), some (.int x2_30), some (.int x3_30), some (.int x4_30)] [(.int y0_30)] S := by
    intro x0_30 x1_30 x2_30 x3_30 x4_30 y0_30
    refine a_iret X hr dX7_lowest_30 ⟨by decide, by decide⟩ ?_
    subst hF
    exact ⟨rfl, ⟨_, rfl⟩⟩
  have J_15 : ∀ (x0_15 : Int32) (x1_15 : Int32) (x2_15 : Int32) (x3_15 : Int32) (x4_15 : Option Value) (y0_15 : Int32), Zw p l e { frames := 1, cells := 0, slots := 0, locals := 80 * 1 } s m args below meth c G b 5 (MQ below (zQ G b FQ) args s 0 0 (fun q : Nat => b ≤ q)) 0 0 15 [some (.int x0_15), some (.int x1_15), some (.int x2_15), some (.int x3_15), x4_15] [(.int y0_15)] S := by
    intro x0_15 x1_15 x2_15 x3_15 x4_15 y0_15
    refine a_istore X dX7_lowest_15 (by decide) ?_
    refine a_iload_n X dX7_lowest_17 rfl ?_
    refine a_if_ne (tgt := 26) X dX7_lowest_18 (by decide) (fun h_18 => ?_) (fun h_18 => ?_)
    · refine a_iload X dX7_lowest_26 rfl ?_
      refine a_iload_n X dX7_lowest_28 rfl ?_
      refine a_idiv X dX7_lowest_29 (by first | assumption | decide | exact z_nzl (by assumption)) ?_
      exact Zw.to2 (J_30 _ _ _ _ _ _ ) rfl rfl rfl
    · refine a_iload X dX7_lowest_21 rfl ?_
      refine a_goto (tgt := 30) X dX7_lowest_23 (by decide) ?_
      exact Zw.to2 (J_30 _ _ _ _ _ _ ) rfl rfl rfl
  refine a_iload_n X dX7_lowest_0 rfl ?_
  refine a_iload_n X dX7_lowest_1 rfl ?_
  refine a_callSx X dX7_lowest_2 miX7_commonDivisor lm7_416 (s_X7_commonDivisor (P := P)) rfl rfl (Nat.le_of_ble_eq_true rfl) ⟨by decide, by decide, by decide, by decide⟩ (fun r_2 S_2 q_2 => ?_)
  obtain ⟨rfl, ⟨v_2, rfl⟩⟩ := q_2
  refine a_istore_n X dX7_lowest_5 (by decide) ?_
  refine a_iload_n X dX7_lowest_6 rfl ?_
  refine a_if_ne (tgt := 14) X dX7_lowest_7 (by decide) (fun h_7 => ?_) (fun h_7 => ?_)
  · refine a_iload_n X dX7_lowest_14 rfl ?_
    exact Zw.to2 (J_15 _ _ _ _ _ _ ) rfl rfl rfl
  · refine a_iload_n X dX7_lowest_10 rfl ?_
    refine a_goto (tgt := 15) X dX7_lowest_11 (by decide) ?_
    exact Zw.to2 (J_15 _ _ _ _ _ _ ) rfl rfl rfl
set_option maxRecDepth 100000 in
theorem s_X7_changed {l : Launch} {G : zG} {b : Nat} {S : zS} {P : Nat} {v0 : Int32} (hT : LX7 S.1 P) : zM l G b yX7_changed cX7_changed 2 (some .int) 3 0 0 [.ref P, .int v0] S (fun r z => ∃ M' N', z = (S.1, M', N') ∧ zK P S.2.1 M' ∧ ∃ v : Int32, r = some (.int v)) := by
  refine zM.of miX7_changed (Nat.le_of_ble_eq_true rfl) ?_
  intro p e s m args below meth c X hr hname
  generalize hF : ((fun r z => ∃ M' N', z = (S.1, M', N') ∧ zK P S.2.1 M' ∧ ∃ v : Int32, r = some (.int v)) : Option Value → zS → Prop) = FQ
  change Zw p l e { frames := 3, cells := 0, slots := 0, locals := 80 * 3 } s m args below meth c G b 2 (MQ below (zQ G b FQ) args s 0 0 (fun q : Nat => b ≤ q)) 0 0 0 [some (.ref P), some (.int v0)] [] S
  obtain ⟨lt, o, tape, out, reader, list, past, pool, result, odds, paper, trial, trialPool, trialResult, trialOdds⟩ := id hT
  obtain ⟨reader_lt, reader_o, reader_draft, reader_text, reader_unitNames, reader_hunterNames, reader_partyNames, reader_asked⟩ := id reader
  obtain ⟨list_lt, list_o, list_quota, list_score, list_guest, list_party, list_wishCount, list_wishes, list_has⟩ := id list
  obtain ⟨past_lt, past_o, past_stood, past_stood0, past_stood1, past_stood2, past_stood3, past_stood4, past_stood5, past_stood6, past_stood7⟩ := id past
  obtain ⟨pool_lt, pool_o, pool_quota, pool_preferred, pool_forGuests, pool_applicantOf, pool_size, pool_guestCount, pool_score, pool_tickets, pool_bits, pool_party, pool_wishCount, pool_wishes⟩ := id pool
  obtain ⟨result_lt, result_o, result_line, result_unitOf, result_roundOf, result_leftTags, result_leftGuests, result_leftPreferred, result_ranked⟩ := id result
  obtain ⟨odds_lt, odds_o, odds_sets, odds_seen, odds_atUnit, odds_early, odds_result⟩ := id odds
  obtain ⟨paper_lt, paper_o, paper_times, paper_firstWish, paper_dry, paper_list, paper_pool, paper_result⟩ := id paper
  obtain ⟨trial_lt, trial_o, trial_quota, trial_score, trial_guest, trial_party, trial_wishCount, trial_wishes, trial_has⟩ := id trial
  obtain ⟨trialPool_lt, trialPool_o, trialPool_quota, trialPool_preferred, trialPool_forGuests, trialPool_applicantOf, trialPool_size, trialPool_guestCount, trialPool_score, trialPool_tickets, trialPool_bits, trialPool_party, trialPool_wishCount, trialPool_wishes⟩ := id trialPool
  obtain ⟨trialResult_lt, trialResult_o, trialResult_line, trialResult_unitOf, trialResult_roundOf, trialResult_leftTags, trialResult_leftGuests, trialResult_leftPreferred, trialResult_ranked⟩ := id trialResult
  obtain ⟨trialOdds_lt, trialOdds_o, trialOdds_sets, trialOdds_seen, trialOdds_atUnit, trialOdds_early, trialOdds_result⟩ := id trialOdds
  refine a_aload_n X dX7_changed_0 rfl ?_
  refine a_getr X lf7_40 (by assumption) rfl (by omega) dX7_changed_1 ?_
  refine a_aload_n X dX7_changed_4 rfl ?_
  refine a_getr X lf7_26 (by assumption) rfl (by omega) dX7_changed_5 ?_
  refine a_callVx X dX7_changed_8 miX2_gather lm7_80 (s_X2_gather (P := P) (by assumption) (by omega) (by assumption) (by omega)) (by assumption) rfl rfl rfl (Nat.le_of_ble_eq_true rfl) ⟨by decide, by decide, by decide, by decide⟩ (fun r_8 S_8 q_8 => ?_)
  obtain ⟨M_8, N_8, rfl, k_8, rfl⟩ := q_8
  refine a_aload_n X dX7_changed_11 rfl ?_
  refine a_iconst (v := 0) X dX7_changed_12 (by decide) ?_
  refine a_putz X (by first | exact Or.inl rfl | exact Or.inr rfl | assumption) lf7_368 (by assumption) rfl dX7_changed_13 ?_
  refine a_aload_n X dX7_changed_16 rfl ?_
  refine a_iload_n X dX7_changed_17 rfl ?_
  refine a_callVx X dX7_changed_18 miX7_answer lm7_134 (s_X7_answer (P := P) (by assumption)) (by assumption) rfl rfl rfl (Nat.le_of_ble_eq_true rfl) ⟨by decide, by decide, by decide, by decide⟩ (fun r_18 S_18 q_18 => ?_)
  obtain ⟨M_18, N_18, rfl, k_18, ⟨v_18, rfl⟩⟩ := q_18
  refine a_iret X hr dX7_changed_21 ⟨by decide, by decide⟩ ?_
  subst hF
  exact ⟨_, _, rfl, (by (try dsimp only); repeat first | assumption | exact zK.rf | refine zK.zu ?_ (by omega) | refine zK.zu0 ?_ (by decide) | refine zK.zwr ?_ (by omega) | refine zK.zfil ?_ (by omega) | refine zK.zcpy ?_ (by omega) | refine zK.trans ?_ (by assumption) | dsimp only), ⟨_, rfl⟩⟩
set_option maxRecDepth 100000 in
theorem s_X7_many {l : Launch} {G : zG} {b : Nat} {S : zS} {P : Nat} {v0 : Int32} (hT : LX7 S.1 P) : zM l G b yX7_many cX7_many 2 (some .int) 1 0 0 [.ref P, .int v0] S (fun r z => ∃ M' N', z = (S.1, M', N') ∧ zK P S.2.1 M' ∧ ∃ v : Int32, r = some (.int v)) := by
  refine zM.of miX7_many (Nat.le_of_ble_eq_true rfl) ?_
  intro p e s m args below meth c X hr hname
  generalize hF : ((fun r z => ∃ M' N', z = (S.1, M', N') ∧ zK P S.2.1 M' ∧ ∃ v : Int32, r = some (.int v)) : Option Value → zS → Prop) = FQ
  change Zw p l e { frames := 1, cells := 0, slots := 0, locals := 80 * 1 } s m args below meth c G b 2 (MQ below (zQ G b FQ) args s 0 0 (fun q : Nat => b ≤ q)) 0 0 0 [some (.ref P), some (.int v0)] [] S
  obtain ⟨lt, o, tape, out, reader, list, past, pool, result, odds, paper, trial, trialPool, trialResult, trialOdds⟩ := id hT
  obtain ⟨reader_lt, reader_o, reader_draft, reader_text, reader_unitNames, reader_hunterNames, reader_partyNames, reader_asked⟩ := id reader
  obtain ⟨list_lt, list_o, list_quota, list_score, list_guest, list_party, list_wishCount, list_wishes, list_has⟩ := id list
  obtain ⟨past_lt, past_o, past_stood, past_stood0, past_stood1, past_stood2, past_stood3, past_stood4, past_stood5, past_stood6, past_stood7⟩ := id past
  obtain ⟨pool_lt, pool_o, pool_quota, pool_preferred, pool_forGuests, pool_applicantOf, pool_size, pool_guestCount, pool_score, pool_tickets, pool_bits, pool_party, pool_wishCount, pool_wishes⟩ := id pool
  obtain ⟨result_lt, result_o, result_line, result_unitOf, result_roundOf, result_leftTags, result_leftGuests, result_leftPreferred, result_ranked⟩ := id result
  obtain ⟨odds_lt, odds_o, odds_sets, odds_seen, odds_atUnit, odds_early, odds_result⟩ := id odds
  obtain ⟨paper_lt, paper_o, paper_times, paper_firstWish, paper_dry, paper_list, paper_pool, paper_result⟩ := id paper
  obtain ⟨trial_lt, trial_o, trial_quota, trial_score, trial_guest, trial_party, trial_wishCount, trial_wishes, trial_has⟩ := id trial
  obtain ⟨trialPool_lt, trialPool_o, trialPool_quota, trialPool_preferred, trialPool_forGuests, trialPool_applicantOf, trialPool_size, trialPool_guestCount, trialPool_score, trialPool_tickets, trialPool_bits, trialPool_party, trialPool_wishCount, trialPool_wishes⟩ := id trialPool
  obtain ⟨trialResult_lt, trialResult_o, trialResult_line, trialResult_unitOf, trialResult_roundOf, trialResult_leftTags, trialResult_leftGuests, trialResult_leftPreferred, trialResult_ranked⟩ := id trialResult
  obtain ⟨trialOdds_lt, trialOdds_o, trialOdds_sets, trialOdds_seen, trialOdds_atUnit, trialOdds_early, trialOdds_result⟩ := id trialOdds
  refine a_iload_n X dX7_many_0 rfl ?_
  refine a_tsw (tg := [60, 72, 84, 96, 108, 120, 132, 144, 156, 168, 183]) (td := 198) X dX7_many_1 (by decide +kernel) (by decide) (by decide) (fun k_1 t_1 ht_1 hx_1 => ?_) (fun h_1 => ?_)
  · match k_1, ht_1, hx_1 with
    | 0, ht_1, hx_1 =>
      cases ht_1
      refine a_aload_n X dX7_many_60 rfl ?_
      refine a_aload_n X dX7_many_61 rfl ?_
      refine a_getr X lf7_26 (by assumption) rfl (by omega) dX7_many_62 ?_
      refine a_geti X lf7_131 (by assumption) rfl dX7_many_65 ?_
      refine a_callVx X dX7_many_68 miX7_answer lm7_134 (s_X7_answer (P := P) (by assumption)) (by assumption) rfl rfl rfl (Nat.le_of_ble_eq_true rfl) ⟨by decide, by decide, by decide, by decide⟩ (fun r_68 S_68 q_68 => ?_)
      obtain ⟨M_68, N_68, rfl, k_68, ⟨v_68, rfl⟩⟩ := q_68
      refine a_iret X hr dX7_many_71 ⟨by decide, by decide⟩ ?_
      subst hF
      exact ⟨_, _, rfl, (by (try dsimp only); repeat first | assumption | exact zK.rf | refine zK.zu ?_ (by omega) | refine zK.zu0 ?_ (by decide) | refine zK.zwr ?_ (by omega) | refine zK.zfil ?_ (by omega) | refine zK.zcpy ?_ (by omega) | refine zK.trans ?_ (by assumption) | dsimp only), ⟨_, rfl⟩⟩
    | 1, ht_1, hx_1 =>
      cases ht_1
      refine a_aload_n X dX7_many_72 rfl ?_
      refine a_aload_n X dX7_many_73 rfl ?_
      refine a_getr X lf7_26 (by assumption) rfl (by omega) dX7_many_74 ?_
      refine a_geti X lf7_119 (by assumption) rfl dX7_many_77 ?_
      refine a_callVx X dX7_many_80 miX7_answer lm7_134 (s_X7_answer (P := P) (by assumption)) (by assumption) rfl rfl rfl (Nat.le_of_ble_eq_true rfl) ⟨by decide, by decide, by decide, by decide⟩ (fun r_80 S_80 q_80 => ?_)
      obtain ⟨M_80, N_80, rfl, k_80, ⟨v_80, rfl⟩⟩ := q_80
      refine a_iret X hr dX7_many_83 ⟨by decide, by decide⟩ ?_
      subst hF
      exact ⟨_, _, rfl, (by (try dsimp only); repeat first | assumption | exact zK.rf | refine zK.zu ?_ (by omega) | refine zK.zu0 ?_ (by decide) | refine zK.zwr ?_ (by omega) | refine zK.zfil ?_ (by omega) | refine zK.zcpy ?_ (by omega) | refine zK.trans ?_ (by assumption) | dsimp only), ⟨_, rfl⟩⟩
    | 2, ht_1, hx_1 =>
      cases ht_1
      refine a_aload_n X dX7_many_84 rfl ?_
      refine a_aload_n X dX7_many_85 rfl ?_
      refine a_getr X lf7_26 (by assumption) rfl (by omega) dX7_many_86 ?_
      refine a_geti X lf7_137 (by assumption) rfl dX7_many_89 ?_
      refine a_callVx X dX7_many_92 miX7_answer lm7_134 (s_X7_answer (P := P) (by assumption)) (by assumption) rfl rfl rfl (Nat.le_of_ble_eq_true rfl) ⟨by decide, by decide, by decide, by decide⟩ (fun r_92 S_92 q_92 => ?_)
      obtain ⟨M_92, N_92, rfl, k_92, ⟨v_92, rfl⟩⟩ := q_92
      refine a_iret X hr dX7_many_95 ⟨by decide, by decide⟩ ?_
      subst hF
      exact ⟨_, _, rfl, (by (try dsimp only); repeat first | assumption | exact zK.rf | refine zK.zu ?_ (by omega) | refine zK.zu0 ?_ (by decide) | refine zK.zwr ?_ (by omega) | refine zK.zfil ?_ (by omega) | refine zK.zcpy ?_ (by omega) | refine zK.trans ?_ (by assumption) | dsimp only), ⟨_, rfl⟩⟩
    | 3, ht_1, hx_1 =>
      cases ht_1
      refine a_aload_n X dX7_many_96 rfl ?_
      refine a_aload_n X dX7_many_97 rfl ?_
      refine a_getr X lf7_40 (by assumption) rfl (by omega) dX7_many_98 ?_
      refine a_geti X lf7_140 (by assumption) rfl dX7_many_101 ?_
      refine a_callVx X dX7_many_104 miX7_answer lm7_134 (s_X7_answer (P := P) (by assumption)) (by assumption) rfl rfl rfl (Nat.le_of_ble_eq_true rfl) ⟨by decide, by decide, by decide, by decide⟩ (fun r_104 S_104 q_104 => ?_)
      obtain ⟨M_104, N_104, rfl, k_104, ⟨v_104, rfl⟩⟩ := q_104
      refine a_iret X hr dX7_many_107 ⟨by decide, by decide⟩ ?_
      subst hF
      exact ⟨_, _, rfl, (by (try dsimp only); repeat first | assumption | exact zK.rf | refine zK.zu ?_ (by omega) | refine zK.zu0 ?_ (by decide) | refine zK.zwr ?_ (by omega) | refine zK.zfil ?_ (by omega) | refine zK.zcpy ?_ (by omega) | refine zK.trans ?_ (by assumption) | dsimp only), ⟨_, rfl⟩⟩
    | 4, ht_1, hx_1 =>
      cases ht_1
      refine a_aload_n X dX7_many_108 rfl ?_
      refine a_aload_n X dX7_many_109 rfl ?_
      refine a_getr X lf7_26 (by assumption) rfl (by omega) dX7_many_110 ?_
      refine a_geti X lf7_143 (by assumption) rfl dX7_many_113 ?_
      refine a_callVx X dX7_many_116 miX7_answer lm7_134 (s_X7_answer (P := P) (by assumption)) (by assumption) rfl rfl rfl (Nat.le_of_ble_eq_true rfl) ⟨by decide, by decide, by decide, by decide⟩ (fun r_116 S_116 q_116 => ?_)
      obtain ⟨M_116, N_116, rfl, k_116, ⟨v_116, rfl⟩⟩ := q_116
      refine a_iret X hr dX7_many_119 ⟨by decide, by decide⟩ ?_
      subst hF
      exact ⟨_, _, rfl, (by (try dsimp only); repeat first | assumption | exact zK.rf | refine zK.zu ?_ (by omega) | refine zK.zu0 ?_ (by decide) | refine zK.zwr ?_ (by omega) | refine zK.zfil ?_ (by omega) | refine zK.zcpy ?_ (by omega) | refine zK.trans ?_ (by assumption) | dsimp only), ⟨_, rfl⟩⟩
    | 5, ht_1, hx_1 =>
      cases ht_1
      refine a_aload_n X dX7_many_120 rfl ?_
      refine a_aload_n X dX7_many_121 rfl ?_
      refine a_getr X lf7_26 (by assumption) rfl (by omega) dX7_many_122 ?_
      refine a_geti X lf7_146 (by assumption) rfl dX7_many_125 ?_
      refine a_callVx X dX7_many_128 miX7_answer lm7_134 (s_X7_answer (P := P) (by assumption)) (by assumption) rfl rfl rfl (Nat.le_of_ble_eq_true rfl) ⟨by decide, by decide, by decide, by decide⟩ (fun r_128 S_128 q_128 => ?_)
      obtain ⟨M_128, N_128, rfl, k_128, ⟨v_128, rfl⟩⟩ := q_128
      refine a_iret X hr dX7_many_131 ⟨by decide, by decide⟩ ?_
      subst hF
      exact ⟨_, _, rfl, (by (try dsimp only); repeat first | assumption | exact zK.rf | refine zK.zu ?_ (by omega) | refine zK.zu0 ?_ (by decide) | refine zK.zwr ?_ (by omega) | refine zK.zfil ?_ (by omega) | refine zK.zcpy ?_ (by omega) | refine zK.trans ?_ (by assumption) | dsimp only), ⟨_, rfl⟩⟩
    | 6, ht_1, hx_1 =>
      cases ht_1
      refine a_aload_n X dX7_many_132 rfl ?_
      refine a_aload_n X dX7_many_133 rfl ?_
      refine a_getr X lf7_26 (by assumption) rfl (by omega) dX7_many_134 ?_
      refine a_geti X lf7_149 (by assumption) rfl dX7_many_137 ?_
      refine a_callVx X dX7_many_140 miX7_answer lm7_134 (s_X7_answer (P := P) (by assumption)) (by assumption) rfl rfl rfl (Nat.le_of_ble_eq_true rfl) ⟨by decide, by decide, by decide, by decide⟩ (fun r_140 S_140 q_140 => ?_)
      obtain ⟨M_140, N_140, rfl, k_140, ⟨v_140, rfl⟩⟩ := q_140
      refine a_iret X hr dX7_many_143 ⟨by decide, by decide⟩ ?_
      subst hF
      exact ⟨_, _, rfl, (by (try dsimp only); repeat first | assumption | exact zK.rf | refine zK.zu ?_ (by omega) | refine zK.zu0 ?_ (by decide) | refine zK.zwr ?_ (by omega) | refine zK.zfil ?_ (by omega) | refine zK.zcpy ?_ (by omega) | refine zK.trans ?_ (by assumption) | dsimp only), ⟨_, rfl⟩⟩
    | 7, ht_1, hx_1 =>
      cases ht_1
      refine a_aload_n X dX7_many_144 rfl ?_
      refine a_aload_n X dX7_many_145 rfl ?_
      refine a_getr X lf7_26 (by assumption) rfl (by omega) dX7_many_146 ?_
      refine a_geti X lf7_152 (by assumption) rfl dX7_many_149 ?_
      refine a_callVx X dX7_many_152 miX7_answer lm7_134 (s_X7_answer (P := P) (by assumption)) (by assumption) rfl rfl rfl (Nat.le_of_ble_eq_true rfl) ⟨by decide, by decide, by decide, by decide⟩ (fun r_152 S_152 q_152 => ?_)
      obtain ⟨M_152, N_152, rfl, k_152, ⟨v_152, rfl⟩⟩ := q_152
      refine a_iret X hr dX7_many_155 ⟨by decide, by decide⟩ ?_
      subst hF
      exact ⟨_, _, rfl, (by (try dsimp only); repeat first | assumption | exact zK.rf | refine zK.zu ?_ (by omega) | refine zK.zu0 ?_ (by decide) | refine zK.zwr ?_ (by omega) | refine zK.zfil ?_ (by omega) | refine zK.zcpy ?_ (by omega) | refine zK.trans ?_ (by assumption) | dsimp only), ⟨_, rfl⟩⟩
    | 8, ht_1, hx_1 =>
      cases ht_1
      refine a_aload_n X dX7_many_156 rfl ?_
      refine a_aload_n X dX7_many_157 rfl ?_
      refine a_getr X lf7_33 (by assumption) rfl (by omega) dX7_many_158 ?_
      refine a_geti X lf7_155 (by assumption) rfl dX7_many_161 ?_
      refine a_callVx X dX7_many_164 miX7_answer lm7_134 (s_X7_answer (P := P) (by assumption)) (by assumption) rfl rfl rfl (Nat.le_of_ble_eq_true rfl) ⟨by decide, by decide, by decide, by decide⟩ (fun r_164 S_164 q_164 => ?_)
      obtain ⟨M_164, N_164, rfl, k_164, ⟨v_164, rfl⟩⟩ := q_164
      refine a_iret X hr dX7_many_167 ⟨by decide, by decide⟩ ?_
      subst hF
      exact ⟨_, _, rfl, (by (try dsimp only); repeat first | assumption | exact zK.rf | refine zK.zu ?_ (by omega) | refine zK.zu0 ?_ (by decide) | refine zK.zwr ?_ (by omega) | refine zK.zfil ?_ (by omega) | refine zK.zcpy ?_ (by omega) | refine zK.trans ?_ (by assumption) | dsimp only), ⟨_, rfl⟩⟩
    | 9, ht_1, hx_1 =>
      cases ht_1
      refine a_aload_n X dX7_many_168 rfl ?_
      refine a_aload_n X dX7_many_169 rfl ?_
      refine a_getr X lf7_26 (by assumption) rfl (by omega) dX7_many_170 ?_
      refine a_getr X lf7_158 (by assumption) rfl (by omega) dX7_many_173 ?_
      refine a_callSv X dX7_many_176 miX7_sum lm7_161 (c_sum (by assumption) (by decide)) rfl rfl (Nat.le_of_ble_eq_true rfl) ⟨by decide, by decide, by decide, by decide⟩ ?_
      refine a_callVx X dX7_many_179 miX7_answer lm7_134 (s_X7_answer (P := P) (by assumption)) (by assumption) rfl rfl rfl (Nat.le_of_ble_eq_true rfl) ⟨by decide, by decide, by decide, by decide⟩ (fun r_179 S_179 q_179 => ?_)
      obtain ⟨M_179, N_179, rfl, k_179, ⟨v_179, rfl⟩⟩ := q_179
      refine a_iret X hr dX7_many_182 ⟨by decide, by decide⟩ ?_
      subst hF
      exact ⟨_, _, rfl, (by (try dsimp only); repeat first | assumption | exact zK.rf | refine zK.zu ?_ (by omega) | refine zK.zu0 ?_ (by decide) | refine zK.zwr ?_ (by omega) | refine zK.zfil ?_ (by omega) | refine zK.zcpy ?_ (by omega) | refine zK.trans ?_ (by assumption) | dsimp only), ⟨_, rfl⟩⟩
    | 10, ht_1, hx_1 =>
      cases ht_1
      refine a_aload_n X dX7_many_183 rfl ?_
      refine a_aload_n X dX7_many_184 rfl ?_
      refine a_getr X lf7_26 (by assumption) rfl (by omega) dX7_many_185 ?_
      refine a_getr X lf7_165 (by assumption) rfl (by omega) dX7_many_188 ?_
      refine a_callSv X dX7_many_191 miX7_sum lm7_161 (c_sum (by assumption) (by decide)) rfl rfl (Nat.le_of_ble_eq_true rfl) ⟨by decide, by decide, by decide, by decide⟩ ?_
      refine a_callVx X dX7_many_194 miX7_answer lm7_134 (s_X7_answer (P := P) (by assumption)) (by assumption) rfl rfl rfl (Nat.le_of_ble_eq_true rfl) ⟨by decide, by decide, by decide, by decide⟩ (fun r_194 S_194 q_194 => ?_)
      obtain ⟨M_194, N_194, rfl, k_194, ⟨v_194, rfl⟩⟩ := q_194
      refine a_iret X hr dX7_many_197 ⟨by decide, by decide⟩ ?_
      subst hF
      exact ⟨_, _, rfl, (by (try dsimp only); repeat first | assumption | exact zK.rf | refine zK.zu ?_ (by omega) | refine zK.zu0 ?_ (by decide) | refine zK.zwr ?_ (by omega) | refine zK.zfil ?_ (by omega) | refine zK.zcpy ?_ (by omega) | refine zK.trans ?_ (by assumption) | dsimp only), ⟨_, rfl⟩⟩
  · refine a_aload_n X dX7_many_198 rfl ?_
    refine a_iconst (v := 1) X dX7_many_199 (by decide) ?_
    refine a_callVx X dX7_many_200 miX7_refuse lm7_102 (s_X7_refuse (P := P) (by assumption)) (by assumption) rfl rfl rfl (Nat.le_of_ble_eq_true rfl) ⟨by decide, by decide, by decide, by decide⟩ (fun r_200 S_200 q_200 => ?_)
    obtain ⟨M_200, N_200, rfl, k_200, ⟨v_200, rfl⟩⟩ := q_200
    refine a_iret X hr dX7_many_203 ⟨by decide, by decide⟩ ?_
    subst hF
    exact ⟨_, _, rfl, (by (try dsimp only); repeat first | assumption | exact zK.rf | refine zK.zu ?_ (by omega) | refine zK.zu0 ?_ (by decide) | refine zK.zwr ?_ (by omega) | refine zK.zfil ?_ (by omega) | refine zK.zcpy ?_ (by omega) | refine zK.trans ?_ (by assumption) | dsimp only), ⟨_, rfl⟩⟩
set_option maxRecDepth 100000 in
theorem s_X7_hunter {l : Launch} {G : zG} {b : Nat} {S : zS} {P : Nat} {v0 : Int32} {v1 : Int32} (hT : LX7 S.1 P) : zM l G b yX7_hunter cX7_hunter 3 (some .int) 1 0 0 [.ref P, .int v0, .int v1] S (fun r z => ∃ M' N', z = (S.1, M', N') ∧ zK P S.2.1 M' ∧ ∃ v : Int32, r = some (.int v)) := by
  refine zM.of miX7_hunter (Nat.le_of_ble_eq_true rfl) ?_
  intro p e s m args below meth c X hr hname
  generalize hF : ((fun r z => ∃ M' N', z = (S.1, M', N') ∧ zK P S.2.1 M' ∧ ∃ v : Int32, r = some (.int v)) : Option Value → zS → Prop) = FQ
  change Zw p l e { frames := 1, cells := 0, slots := 0, locals := 80 * 1 } s m args below meth c G b 3 (MQ below (zQ G b FQ) args s 0 0 (fun q : Nat => b ≤ q)) 0 0 0 [some (.ref P), some (.int v0), some (.int v1)] [] S
  obtain ⟨lt, o, tape, out, reader, list, past, pool, result, odds, paper, trial, trialPool, trialResult, trialOdds⟩ := id hT
  obtain ⟨reader_lt, reader_o, reader_draft, reader_text, reader_unitNames, reader_hunterNames, reader_partyNames, reader_asked⟩ := id reader
  obtain ⟨list_lt, list_o, list_quota, list_score, list_guest, list_party, list_wishCount, list_wishes, list_has⟩ := id list
  obtain ⟨past_lt, past_o, past_stood, past_stood0, past_stood1, past_stood2, past_stood3, past_stood4, past_stood5, past_stood6, past_stood7⟩ := id past
  obtain ⟨pool_lt, pool_o, pool_quota, pool_preferred, pool_forGuests, pool_applicantOf, pool_size, pool_guestCount, pool_score, pool_tickets, pool_bits, pool_party, pool_wishCount, pool_wishes⟩ := id pool
  obtain ⟨result_lt, result_o, result_line, result_unitOf, result_roundOf, result_leftTags, result_leftGuests, result_leftPreferred, result_ranked⟩ := id result
  obtain ⟨odds_lt, odds_o, odds_sets, odds_seen, odds_atUnit, odds_early, odds_result⟩ := id odds
  obtain ⟨paper_lt, paper_o, paper_times, paper_firstWish, paper_dry, paper_list, paper_pool, paper_result⟩ := id paper
  obtain ⟨trial_lt, trial_o, trial_quota, trial_score, trial_guest, trial_party, trial_wishCount, trial_wishes, trial_has⟩ := id trial
  obtain ⟨trialPool_lt, trialPool_o, trialPool_quota, trialPool_preferred, trialPool_forGuests, trialPool_applicantOf, trialPool_size, trialPool_guestCount, trialPool_score, trialPool_tickets, trialPool_bits, trialPool_party, trialPool_wishCount, trialPool_wishes⟩ := id trialPool
  obtain ⟨trialResult_lt, trialResult_o, trialResult_line, trialResult_unitOf, trialResult_roundOf, trialResult_leftTags, trialResult_leftGuests, trialResult_leftPreferred, trialResult_ranked⟩ := id trialResult
  obtain ⟨trialOdds_lt, trialOdds_o, trialOdds_sets, trialOdds_seen, trialOdds_atUnit, trialOdds_early, trialOdds_result⟩ := id trialOdds
  have J_9 : ∀ (x1_9 : Int32) (x2_9 : Int32) (M2 : Nat → Nat → Int32) (N2 : Nat → Nat → Int64), zK P S.2.1 M2 → Zw p l e { frames := 1, cells := 0, slots := 0, locals := 80 * 1 } s m args below meth c G b 3 (MQ below (zQ G b FQ) args s 0 0 (fun q : Nat => b ≤ q)) 0 0 9 [some (.ref (P)), some (.int x1_9), some (.int x2_9)] [] (S.1, M2, N2) := by
    intro x1_9 x2_9 M2_9 N2_9 k_9
    refine a_aload_n X dX7_hunter_9 rfl ?_
    refine a_iconst (v := 1) X dX7_hunter_10 (by decide) ?_
    refine a_callVx X dX7_hunter_11 miX7_refuse lm7_102 (s_X7_refuse (P := P) (by assumption)) (by assumption) rfl rfl rfl (Nat.le_of_ble_eq_true rfl) ⟨by decide, by decide, by decide, by decide⟩ (fun r_11 S_11 q_11 => ?_)
    obtain ⟨M_11, N_11, rfl, k_11, ⟨v_11, rfl⟩⟩ := q_11
    refine a_iret X hr dX7_hunter_14 ⟨by decide, by decide⟩ ?_
    subst hF
    exact ⟨_, _, rfl, (by (try dsimp only); repeat first | assumption | exact zK.rf | refine zK.zu ?_ (by omega) | refine zK.zu0 ?_ (by decide) | refine zK.zwr ?_ (by omega) | refine zK.zfil ?_ (by omega) | refine zK.zcpy ?_ (by omega) | refine zK.trans ?_ (by assumption) | dsimp only), ⟨_, rfl⟩⟩
  refine a_iload_n X dX7_hunter_0 rfl ?_
  refine a_if_lt (tgt := 9) X dX7_hunter_1 (by decide) (fun h_1 => ?_) (fun h_1 => ?_)
  · exact Zw.to2 (J_9 _ _ _ _ (by (try dsimp only); repeat first | assumption | exact zK.rf | refine zK.zu ?_ (by omega) | refine zK.zu0 ?_ (by decide) | refine zK.zwr ?_ (by omega) | refine zK.zfil ?_ (by omega) | refine zK.zcpy ?_ (by omega) | refine zK.trans ?_ (by assumption) | dsimp only) ) rfl rfl rfl
  · refine a_iload_n X dX7_hunter_4 rfl ?_
    refine a_iconst (v := 4) X dX7_hunter_5 (by decide) ?_
    refine a_icmp_le (tgt := 15) X dX7_hunter_6 (by decide) (fun h_6 => ?_) (fun h_6 => ?_)
    · refine a_aload_n X dX7_hunter_15 rfl ?_
      refine a_iload_n X dX7_hunter_16 rfl ?_
      refine a_callVx X dX7_hunter_17 miX7_isHunter lm7_168 (s_X7_isHunter (P := P) (by assumption)) (by assumption) rfl rfl rfl (Nat.le_of_ble_eq_true rfl) ⟨by decide, by decide, by decide, by decide⟩ (fun r_17 S_17 q_17 => ?_)
      obtain ⟨rfl, ⟨v_17, rfl, b_17⟩⟩ := q_17
      refine a_if_ne (tgt := 29) X dX7_hunter_20 (by decide) (fun h_20 => ?_) (fun h_20 => ?_)
      · refine a_iload_n X dX7_hunter_29 rfl ?_
        refine a_tsw (tg := [60, 76, 92, 108]) (td := 124) X dX7_hunter_30 (by decide +kernel) (by decide) (by decide) (fun k_30 t_30 ht_30 hx_30 => ?_) (fun h_30 => ?_)
        · match k_30, ht_30, hx_30 with
          | 0, ht_30, hx_30 =>
            cases ht_30
            refine a_aload_n X dX7_hunter_60 rfl ?_
            refine a_aload_n X dX7_hunter_61 rfl ?_
            refine a_getr X lf7_26 (by assumption) rfl (by omega) dX7_hunter_62 ?_
            refine a_getr X lf7_172 (by assumption) rfl (by omega) dX7_hunter_65 ?_
            refine a_iload_n X dX7_hunter_68 rfl ?_
            refine a_callSv X dX7_hunter_69 miX7_cell lm7_175 (c_cell (by assumption) (by first | decide | assumption)) rfl rfl (Nat.le_of_ble_eq_true rfl) ⟨by decide, by decide, by decide, by decide⟩ ?_
            refine a_callVx X dX7_hunter_72 miX7_answer lm7_134 (s_X7_answer (P := P) (by assumption)) (by assumption) rfl rfl rfl (Nat.le_of_ble_eq_true rfl) ⟨by decide, by decide, by decide, by decide⟩ (fun r_72 S_72 q_72 => ?_)
            obtain ⟨M_72, N_72, rfl, k_72, ⟨v_72, rfl⟩⟩ := q_72
            refine a_iret X hr dX7_hunter_75 ⟨by decide, by decide⟩ ?_
            subst hF
            exact ⟨_, _, rfl, (by (try dsimp only); repeat first | assumption | exact zK.rf | refine zK.zu ?_ (by omega) | refine zK.zu0 ?_ (by decide) | refine zK.zwr ?_ (by omega) | refine zK.zfil ?_ (by omega) | refine zK.zcpy ?_ (by omega) | refine zK.trans ?_ (by assumption) | dsimp only), ⟨_, rfl⟩⟩
          | 1, ht_30, hx_30 =>
            cases ht_30
            refine a_aload_n X dX7_hunter_76 rfl ?_
            refine a_aload_n X dX7_hunter_77 rfl ?_
            refine a_getr X lf7_26 (by assumption) rfl (by omega) dX7_hunter_78 ?_
            refine a_getr X lf7_165 (by assumption) rfl (by omega) dX7_hunter_81 ?_
            refine a_iload_n X dX7_hunter_84 rfl ?_
            refine a_callSv X dX7_hunter_85 miX7_cell lm7_175 (c_cell (by assumption) (by first | decide | assumption)) rfl rfl (Nat.le_of_ble_eq_true rfl) ⟨by decide, by decide, by decide, by decide⟩ ?_
            refine a_callVx X dX7_hunter_88 miX7_answer lm7_134 (s_X7_answer (P := P) (by assumption)) (by assumption) rfl rfl rfl (Nat.le_of_ble_eq_true rfl) ⟨by decide, by decide, by decide, by decide⟩ (fun r_88 S_88 q_88 => ?_)
            obtain ⟨M_88, N_88, rfl, k_88, ⟨v_88, rfl⟩⟩ := q_88
            refine a_iret X hr dX7_hunter_91 ⟨by decide, by decide⟩ ?_
            subst hF
            exact ⟨_, _, rfl, (by (try dsimp only); repeat first | assumption | exact zK.rf | refine zK.zu ?_ (by omega) | refine zK.zu0 ?_ (by decide) | refine zK.zwr ?_ (by omega) | refine zK.zfil ?_ (by omega) | refine zK.zcpy ?_ (by omega) | refine zK.trans ?_ (by assumption) | dsimp only), ⟨_, rfl⟩⟩
          | 2, ht_30, hx_30 =>
            cases ht_30
            refine a_aload_n X dX7_hunter_92 rfl ?_
            refine a_aload_n X dX7_hunter_93 rfl ?_
            refine a_getr X lf7_26 (by assumption) rfl (by omega) dX7_hunter_94 ?_
            refine a_getr X lf7_179 (by assumption) rfl (by omega) dX7_hunter_97 ?_
            refine a_iload_n X dX7_hunter_100 rfl ?_
            refine a_callSv X dX7_hunter_101 miX7_cell lm7_175 (c_cell (by assumption) (by first | decide | assumption)) rfl rfl (Nat.le_of_ble_eq_true rfl) ⟨by decide, by decide, by decide, by decide⟩ ?_
            refine a_callVx X dX7_hunter_104 miX7_answer lm7_134 (s_X7_answer (P := P) (by assumption)) (by assumption) rfl rfl rfl (Nat.le_of_ble_eq_true rfl) ⟨by decide, by decide, by decide, by decide⟩ (fun r_104 S_104 q_104 => ?_)
            obtain ⟨M_104, N_104, rfl, k_104, ⟨v_104, rfl⟩⟩ := q_104
            refine a_iret X hr dX7_hunter_107 ⟨by decide, by decide⟩ ?_
            subst hF
            exact ⟨_, _, rfl, (by (try dsimp only); repeat first | assumption | exact zK.rf | refine zK.zu ?_ (by omega) | refine zK.zu0 ?_ (by decide) | refine zK.zwr ?_ (by omega) | refine zK.zfil ?_ (by omega) | refine zK.zcpy ?_ (by omega) | refine zK.trans ?_ (by assumption) | dsimp only), ⟨_, rfl⟩⟩
          | 3, ht_30, hx_30 =>
            cases ht_30
            refine a_aload_n X dX7_hunter_108 rfl ?_
            refine a_aload_n X dX7_hunter_109 rfl ?_
            refine a_getr X lf7_40 (by assumption) rfl (by omega) dX7_hunter_110 ?_
            refine a_getr X lf7_182 (by assumption) rfl (by omega) dX7_hunter_113 ?_
            refine a_iload_n X dX7_hunter_116 rfl ?_
            refine a_callSv X dX7_hunter_117 miX7_cell lm7_175 (c_cell (by assumption) (by first | decide | assumption)) rfl rfl (Nat.le_of_ble_eq_true rfl) ⟨by decide, by decide, by decide, by decide⟩ ?_
            refine a_callVx X dX7_hunter_120 miX7_answer lm7_134 (s_X7_answer (P := P) (by assumption)) (by assumption) rfl rfl rfl (Nat.le_of_ble_eq_true rfl) ⟨by decide, by decide, by decide, by decide⟩ (fun r_120 S_120 q_120 => ?_)
            obtain ⟨M_120, N_120, rfl, k_120, ⟨v_120, rfl⟩⟩ := q_120
            refine a_iret X hr dX7_hunter_123 ⟨by decide, by decide⟩ ?_
            subst hF
            exact ⟨_, _, rfl, (by (try dsimp only); repeat first | assumption | exact zK.rf | refine zK.zu ?_ (by omega) | refine zK.zu0 ?_ (by decide) | refine zK.zwr ?_ (by omega) | refine zK.zfil ?_ (by omega) | refine zK.zcpy ?_ (by omega) | refine zK.trans ?_ (by assumption) | dsimp only), ⟨_, rfl⟩⟩
        · refine a_aload_n X dX7_hunter_124 rfl ?_
          refine a_aload_n X dX7_hunter_125 rfl ?_
          refine a_getr X lf7_26 (by assumption) rfl (by omega) dX7_hunter_126 ?_
          refine a_getr X lf7_185 (by assumption) rfl (by omega) dX7_hunter_129 ?_
          refine a_iload_n X dX7_hunter_132 rfl ?_
          refine a_callSv X dX7_hunter_133 miX7_cell lm7_175 (c_cell (by assumption) (by first | decide | assumption)) rfl rfl (Nat.le_of_ble_eq_true rfl) ⟨by decide, by decide, by decide, by decide⟩ ?_
          refine a_callVx X dX7_hunter_136 miX7_answer lm7_134 (s_X7_answer (P := P) (by assumption)) (by assumption) rfl rfl rfl (Nat.le_of_ble_eq_true rfl) ⟨by decide, by decide, by decide, by decide⟩ (fun r_136 S_136 q_136 => ?_)
          obtain ⟨M_136, N_136, rfl, k_136, ⟨v_136, rfl⟩⟩ := q_136
          refine a_iret X hr dX7_hunter_139 ⟨by decide, by decide⟩ ?_
          subst hF
          exact ⟨_, _, rfl, (by (try dsimp only); repeat first | assumption | exact zK.rf | refine zK.zu ?_ (by omega) | refine zK.zu0 ?_ (by decide) | refine zK.zwr ?_ (by omega) | refine zK.zfil ?_ (by omega) | refine zK.zcpy ?_ (by omega) | refine zK.trans ?_ (by assumption) | dsimp only), ⟨_, rfl⟩⟩
      · refine a_aload_n X dX7_hunter_23 rfl ?_
        refine a_iconst (v := 2) X dX7_hunter_24 (by decide) ?_
        refine a_callVx X dX7_hunter_25 miX7_refuse lm7_102 (s_X7_refuse (P := P) (by assumption)) (by assumption) rfl rfl rfl (Nat.le_of_ble_eq_true rfl) ⟨by decide, by decide, by decide, by decide⟩ (fun r_25 S_25 q_25 => ?_)
        obtain ⟨M_25, N_25, rfl, k_25, ⟨v_25, rfl⟩⟩ := q_25
        refine a_iret X hr dX7_hunter_28 ⟨by decide, by decide⟩ ?_
        subst hF
        exact ⟨_, _, rfl, (by (try dsimp only); repeat first | assumption | exact zK.rf | refine zK.zu ?_ (by omega) | refine zK.zu0 ?_ (by decide) | refine zK.zwr ?_ (by omega) | refine zK.zfil ?_ (by omega) | refine zK.zcpy ?_ (by omega) | refine zK.trans ?_ (by assumption) | dsimp only), ⟨_, rfl⟩⟩
    · exact Zw.to2 (J_9 _ _ _ _ (by (try dsimp only); repeat first | assumption | exact zK.rf | refine zK.zu ?_ (by omega) | refine zK.zu0 ?_ (by decide) | refine zK.zwr ?_ (by omega) | refine zK.zfil ?_ (by omega) | refine zK.zcpy ?_ (by omega) | refine zK.trans ?_ (by assumption) | dsimp only) ) rfl rfl rfl
set_option maxRecDepth 100000 in
theorem s_X7_unit {l : Launch} {G : zG} {b : Nat} {S : zS} {P : Nat} {v0 : Int32} {v1 : Int32} (hT : LX7 S.1 P) : zM l G b yX7_unit cX7_unit 3 (some .int) 4 0 0 [.ref P, .int v0, .int v1] S (fun r z => ∃ M' N', z = (S.1, M', N') ∧ zK P S.2.1 M' ∧ ∃ v : Int32, r = some (.int v)) := by
  refine zM.of miX7_unit (Nat.le_of_ble_eq_true rfl) ?_
  intro p e s m args below meth c X hr hname
  generalize hF : ((fun r z => ∃ M' N', z = (S.1, M', N') ∧ zK P S.2.1 M' ∧ ∃ v : Int32, r = some (.int v)) : Option Value → zS → Prop) = FQ
  change Zw p l e { frames := 4, cells := 0, slots := 0, locals := 80 * 4 } s m args below meth c G b 3 (MQ below (zQ G b FQ) args s 0 0 (fun q : Nat => b ≤ q)) 0 0 0 [some (.ref P), some (.int v0), some (.int v1)] [] S
  obtain ⟨lt, o, tape, out, reader, list, past, pool, result, odds, paper, trial, trialPool, trialResult, trialOdds⟩ := id hT
  obtain ⟨reader_lt, reader_o, reader_draft, reader_text, reader_unitNames, reader_hunterNames, reader_partyNames, reader_asked⟩ := id reader
  obtain ⟨list_lt, list_o, list_quota, list_score, list_guest, list_party, list_wishCount, list_wishes, list_has⟩ := id list
  obtain ⟨past_lt, past_o, past_stood, past_stood0, past_stood1, past_stood2, past_stood3, past_stood4, past_stood5, past_stood6, past_stood7⟩ := id past
  obtain ⟨pool_lt, pool_o, pool_quota, pool_preferred, pool_forGuests, pool_applicantOf, pool_size, pool_guestCount, pool_score, pool_tickets, pool_bits, pool_party, pool_wishCount, pool_wishes⟩ := id pool
  obtain ⟨result_lt, result_o, result_line, result_unitOf, result_roundOf, result_leftTags, result_leftGuests, result_leftPreferred, result_ranked⟩ := id result
  obtain ⟨odds_lt, odds_o, odds_sets, odds_seen, odds_atUnit, odds_early, odds_result⟩ := id odds
  obtain ⟨paper_lt, paper_o, paper_times, paper_firstWish, paper_dry, paper_list, paper_pool, paper_result⟩ := id paper
  obtain ⟨trial_lt, trial_o, trial_quota, trial_score, trial_guest, trial_party, trial_wishCount, trial_wishes, trial_has⟩ := id trial
  obtain ⟨trialPool_lt, trialPool_o, trialPool_quota, trialPool_preferred, trialPool_forGuests, trialPool_applicantOf, trialPool_size, trialPool_guestCount, trialPool_score, trialPool_tickets, trialPool_bits, trialPool_party, trialPool_wishCount, trialPool_wishes⟩ := id trialPool
  obtain ⟨trialResult_lt, trialResult_o, trialResult_line, trialResult_unitOf, trialResult_roundOf, trialResult_leftTags, trialResult_leftGuests, trialResult_leftPreferred, trialResult_ranked⟩ := id trialResult
  obtain ⟨trialOdds_lt, trialOdds_o, trialOdds_sets, trialOdds_seen, trialOdds_atUnit, trialOdds_early, trialOdds_result⟩ := id trialOdds
  have J_9 : ∀ (x1_9 : Int32) (x2_9 : Int32) (M2 : Nat → Nat → Int32) (N2 : Nat → Nat → Int64), zK P S.2.1 M2 → Zw p l e { frames := 4, cells := 0, slots := 0, locals := 80 * 4 } s m args below meth c G b 3 (MQ below (zQ G b FQ) args s 0 0 (fun q : Nat => b ≤ q)) 0 0 9 [some (.ref (P)), some (.int x1_9), some (.int x2_9)] [] (S.1, M2, N2) := by
    intro x1_9 x2_9 M2_9 N2_9 k_9
    refine a_aload_n X dX7_unit_9 rfl ?_
    refine a_iconst (v := 1) X dX7_unit_10 (by decide) ?_
    refine a_callVx X dX7_unit_11 miX7_refuse lm7_102 (s_X7_refuse (P := P) (by assumption)) (by assumption) rfl rfl rfl (Nat.le_of_ble_eq_true rfl) ⟨by decide, by decide, by decide, by decide⟩ (fun r_11 S_11 q_11 => ?_)
    obtain ⟨M_11, N_11, rfl, k_11, ⟨v_11, rfl⟩⟩ := q_11
    refine a_iret X hr dX7_unit_14 ⟨by decide, by decide⟩ ?_
    subst hF
    exact ⟨_, _, rfl, (by (try dsimp only); repeat first | assumption | exact zK.rf | refine zK.zu ?_ (by omega) | refine zK.zu0 ?_ (by decide) | refine zK.zwr ?_ (by omega) | refine zK.zfil ?_ (by omega) | refine zK.zcpy ?_ (by omega) | refine zK.trans ?_ (by assumption) | dsimp only), ⟨_, rfl⟩⟩
  refine a_iload_n X dX7_unit_0 rfl ?_
  refine a_if_lt (tgt := 9) X dX7_unit_1 (by decide) (fun h_1 => ?_) (fun h_1 => ?_)
  · exact Zw.to2 (J_9 _ _ _ _ (by (try dsimp only); repeat first | assumption | exact zK.rf | refine zK.zu ?_ (by omega) | refine zK.zu0 ?_ (by decide) | refine zK.zwr ?_ (by omega) | refine zK.zfil ?_ (by omega) | refine zK.zcpy ?_ (by omega) | refine zK.trans ?_ (by assumption) | dsimp only) ) rfl rfl rfl
  · refine a_iload_n X dX7_unit_4 rfl ?_
    refine a_iconst (v := 5) X dX7_unit_5 (by decide) ?_
    refine a_icmp_le (tgt := 15) X dX7_unit_6 (by decide) (fun h_6 => ?_) (fun h_6 => ?_)
    · refine a_aload_n X dX7_unit_15 rfl ?_
      refine a_iload_n X dX7_unit_16 rfl ?_
      refine a_callVx X dX7_unit_17 miX7_isUnit lm7_188 (s_X7_isUnit (P := P) (by assumption)) (by assumption) rfl rfl rfl (Nat.le_of_ble_eq_true rfl) ⟨by decide, by decide, by decide, by decide⟩ (fun r_17 S_17 q_17 => ?_)
      obtain ⟨rfl, ⟨v_17, rfl, b_17⟩⟩ := q_17
      refine a_if_ne (tgt := 29) X dX7_unit_20 (by decide) (fun h_20 => ?_) (fun h_20 => ?_)
      · refine a_iload_n X dX7_unit_29 rfl ?_
        refine a_tsw (tg := [64, 80, 96, 112, 125]) (td := 138) X dX7_unit_30 (by decide +kernel) (by decide) (by decide) (fun k_30 t_30 ht_30 hx_30 => ?_) (fun h_30 => ?_)
        · match k_30, ht_30, hx_30 with
          | 0, ht_30, hx_30 =>
            cases ht_30
            refine a_aload_n X dX7_unit_64 rfl ?_
            refine a_aload_n X dX7_unit_65 rfl ?_
            refine a_getr X lf7_26 (by assumption) rfl (by omega) dX7_unit_66 ?_
            refine a_getr X lf7_158 (by assumption) rfl (by omega) dX7_unit_69 ?_
            refine a_iload_n X dX7_unit_72 rfl ?_
            refine a_callSv X dX7_unit_73 miX7_cell lm7_175 (c_cell (by assumption) (by first | decide | assumption)) rfl rfl (Nat.le_of_ble_eq_true rfl) ⟨by decide, by decide, by decide, by decide⟩ ?_
            refine a_callVx X dX7_unit_76 miX7_answer lm7_134 (s_X7_answer (P := P) (by assumption)) (by assumption) rfl rfl rfl (Nat.le_of_ble_eq_true rfl) ⟨by decide, by decide, by decide, by decide⟩ (fun r_76 S_76 q_76 => ?_)
            obtain ⟨M_76, N_76, rfl, k_76, ⟨v_76, rfl⟩⟩ := q_76
            refine a_iret X hr dX7_unit_79 ⟨by decide, by decide⟩ ?_
            subst hF
            exact ⟨_, _, rfl, (by (try dsimp only); repeat first | assumption | exact zK.rf | refine zK.zu ?_ (by omega) | refine zK.zu0 ?_ (by decide) | refine zK.zwr ?_ (by omega) | refine zK.zfil ?_ (by omega) | refine zK.zcpy ?_ (by omega) | refine zK.trans ?_ (by assumption) | dsimp only), ⟨_, rfl⟩⟩
          | 1, ht_30, hx_30 =>
            cases ht_30
            refine a_aload_n X dX7_unit_80 rfl ?_
            refine a_aload_n X dX7_unit_81 rfl ?_
            refine a_getr X lf7_40 (by assumption) rfl (by omega) dX7_unit_82 ?_
            refine a_getr X lf7_191 (by assumption) rfl (by omega) dX7_unit_85 ?_
            refine a_iload_n X dX7_unit_88 rfl ?_
            refine a_callSv X dX7_unit_89 miX7_cell lm7_175 (c_cell (by assumption) (by first | decide | assumption)) rfl rfl (Nat.le_of_ble_eq_true rfl) ⟨by decide, by decide, by decide, by decide⟩ ?_
            refine a_callVx X dX7_unit_92 miX7_answer lm7_134 (s_X7_answer (P := P) (by assumption)) (by assumption) rfl rfl rfl (Nat.le_of_ble_eq_true rfl) ⟨by decide, by decide, by decide, by decide⟩ (fun r_92 S_92 q_92 => ?_)
            obtain ⟨M_92, N_92, rfl, k_92, ⟨v_92, rfl⟩⟩ := q_92
            refine a_iret X hr dX7_unit_95 ⟨by decide, by decide⟩ ?_
            subst hF
            exact ⟨_, _, rfl, (by (try dsimp only); repeat first | assumption | exact zK.rf | refine zK.zu ?_ (by omega) | refine zK.zu0 ?_ (by decide) | refine zK.zwr ?_ (by omega) | refine zK.zfil ?_ (by omega) | refine zK.zcpy ?_ (by omega) | refine zK.trans ?_ (by assumption) | dsimp only), ⟨_, rfl⟩⟩
          | 2, ht_30, hx_30 =>
            cases ht_30
            refine a_aload_n X dX7_unit_96 rfl ?_
            refine a_aload_n X dX7_unit_97 rfl ?_
            refine a_getr X lf7_40 (by assumption) rfl (by omega) dX7_unit_98 ?_
            refine a_getr X lf7_194 (by assumption) rfl (by omega) dX7_unit_101 ?_
            refine a_iload_n X dX7_unit_104 rfl ?_
            refine a_callSv X dX7_unit_105 miX7_cell lm7_175 (c_cell (by assumption) (by first | decide | assumption)) rfl rfl (Nat.le_of_ble_eq_true rfl) ⟨by decide, by decide, by decide, by decide⟩ ?_
            refine a_callVx X dX7_unit_108 miX7_answer lm7_134 (s_X7_answer (P := P) (by assumption)) (by assumption) rfl rfl rfl (Nat.le_of_ble_eq_true rfl) ⟨by decide, by decide, by decide, by decide⟩ (fun r_108 S_108 q_108 => ?_)
            obtain ⟨M_108, N_108, rfl, k_108, ⟨v_108, rfl⟩⟩ := q_108
            refine a_iret X hr dX7_unit_111 ⟨by decide, by decide⟩ ?_
            subst hF
            exact ⟨_, _, rfl, (by (try dsimp only); repeat first | assumption | exact zK.rf | refine zK.zu ?_ (by omega) | refine zK.zu0 ?_ (by decide) | refine zK.zwr ?_ (by omega) | refine zK.zfil ?_ (by omega) | refine zK.zcpy ?_ (by omega) | refine zK.trans ?_ (by assumption) | dsimp only), ⟨_, rfl⟩⟩
          | 3, ht_30, hx_30 =>
            cases ht_30
            refine a_aload_n X dX7_unit_112 rfl ?_
            refine a_aload_n X dX7_unit_113 rfl ?_
            refine a_getr X lf7_40 (by assumption) rfl (by omega) dX7_unit_114 ?_
            refine a_iload_n X dX7_unit_117 rfl ?_
            refine a_callVx X dX7_unit_118 miX2_firstApplicants lm7_197 (s_X2_firstApplicants (P := P) (by assumption) (by omega)) (by assumption) rfl rfl rfl (Nat.le_of_ble_eq_true rfl) ⟨by decide, by decide, by decide, by decide⟩ (fun r_118 S_118 q_118 => ?_)
            obtain ⟨rfl, ⟨v_118, rfl⟩⟩ := q_118
            refine a_callVx X dX7_unit_121 miX7_answer lm7_134 (s_X7_answer (P := P) (by assumption)) (by assumption) rfl rfl rfl (Nat.le_of_ble_eq_true rfl) ⟨by decide, by decide, by decide, by decide⟩ (fun r_121 S_121 q_121 => ?_)
            obtain ⟨M_121, N_121, rfl, k_121, ⟨v_121, rfl⟩⟩ := q_121
            refine a_iret X hr dX7_unit_124 ⟨by decide, by decide⟩ ?_
            subst hF
            exact ⟨_, _, rfl, (by (try dsimp only); repeat first | assumption | exact zK.rf | refine zK.zu ?_ (by omega) | refine zK.zu0 ?_ (by decide) | refine zK.zwr ?_ (by omega) | refine zK.zfil ?_ (by omega) | refine zK.zcpy ?_ (by omega) | refine zK.trans ?_ (by assumption) | dsimp only), ⟨_, rfl⟩⟩
          | 4, ht_30, hx_30 =>
            cases ht_30
            refine a_aload_n X dX7_unit_125 rfl ?_
            refine a_aload_n X dX7_unit_126 rfl ?_
            refine a_getr X lf7_40 (by assumption) rfl (by omega) dX7_unit_127 ?_
            refine a_iload_n X dX7_unit_130 rfl ?_
            refine a_callVx X dX7_unit_131 miX2_firstHunters lm7_200 (s_X2_firstHunters (P := P) (by assumption) (by omega)) (by assumption) rfl rfl rfl (Nat.le_of_ble_eq_true rfl) ⟨by decide, by decide, by decide, by decide⟩ (fun r_131 S_131 q_131 => ?_)
            obtain ⟨rfl, ⟨v_131, rfl⟩⟩ := q_131
            refine a_callVx X dX7_unit_134 miX7_answer lm7_134 (s_X7_answer (P := P) (by assumption)) (by assumption) rfl rfl rfl (Nat.le_of_ble_eq_true rfl) ⟨by decide, by decide, by decide, by decide⟩ (fun r_134 S_134 q_134 => ?_)
            obtain ⟨M_134, N_134, rfl, k_134, ⟨v_134, rfl⟩⟩ := q_134
            refine a_iret X hr dX7_unit_137 ⟨by decide, by decide⟩ ?_
            subst hF
            exact ⟨_, _, rfl, (by (try dsimp only); repeat first | assumption | exact zK.rf | refine zK.zu ?_ (by omega) | refine zK.zu0 ?_ (by decide) | refine zK.zwr ?_ (by omega) | refine zK.zfil ?_ (by omega) | refine zK.zcpy ?_ (by omega) | refine zK.trans ?_ (by assumption) | dsimp only), ⟨_, rfl⟩⟩
        · refine a_aload_n X dX7_unit_138 rfl ?_
          refine a_aload_n X dX7_unit_139 rfl ?_
          refine a_getr X lf7_40 (by assumption) rfl (by omega) dX7_unit_140 ?_
          refine a_iload_n X dX7_unit_143 rfl ?_
          refine a_callVx X dX7_unit_144 miX2_askers lm7_203 (s_X2_askers (P := P) (by assumption) (by omega)) (by assumption) rfl rfl rfl (Nat.le_of_ble_eq_true rfl) ⟨by decide, by decide, by decide, by decide⟩ (fun r_144 S_144 q_144 => ?_)
          obtain ⟨rfl, ⟨v_144, rfl⟩⟩ := q_144
          refine a_callVx X dX7_unit_147 miX7_answer lm7_134 (s_X7_answer (P := P) (by assumption)) (by assumption) rfl rfl rfl (Nat.le_of_ble_eq_true rfl) ⟨by decide, by decide, by decide, by decide⟩ (fun r_147 S_147 q_147 => ?_)
          obtain ⟨M_147, N_147, rfl, k_147, ⟨v_147, rfl⟩⟩ := q_147
          refine a_iret X hr dX7_unit_150 ⟨by decide, by decide⟩ ?_
          subst hF
          exact ⟨_, _, rfl, (by (try dsimp only); repeat first | assumption | exact zK.rf | refine zK.zu ?_ (by omega) | refine zK.zu0 ?_ (by decide) | refine zK.zwr ?_ (by omega) | refine zK.zfil ?_ (by omega) | refine zK.zcpy ?_ (by omega) | refine zK.trans ?_ (by assumption) | dsimp only), ⟨_, rfl⟩⟩
      · refine a_aload_n X dX7_unit_23 rfl ?_
        refine a_iconst (v := 2) X dX7_unit_24 (by decide) ?_
        refine a_callVx X dX7_unit_25 miX7_refuse lm7_102 (s_X7_refuse (P := P) (by assumption)) (by assumption) rfl rfl rfl (Nat.le_of_ble_eq_true rfl) ⟨by decide, by decide, by decide, by decide⟩ (fun r_25 S_25 q_25 => ?_)
        obtain ⟨M_25, N_25, rfl, k_25, ⟨v_25, rfl⟩⟩ := q_25
        refine a_iret X hr dX7_unit_28 ⟨by decide, by decide⟩ ?_
        subst hF
        exact ⟨_, _, rfl, (by (try dsimp only); repeat first | assumption | exact zK.rf | refine zK.zu ?_ (by omega) | refine zK.zu0 ?_ (by decide) | refine zK.zwr ?_ (by omega) | refine zK.zfil ?_ (by omega) | refine zK.zcpy ?_ (by omega) | refine zK.trans ?_ (by assumption) | dsimp only), ⟨_, rfl⟩⟩
    · exact Zw.to2 (J_9 _ _ _ _ (by (try dsimp only); repeat first | assumption | exact zK.rf | refine zK.zu ?_ (by omega) | refine zK.zu0 ?_ (by decide) | refine zK.zwr ?_ (by omega) | refine zK.zfil ?_ (by omega) | refine zK.zcpy ?_ (by omega) | refine zK.trans ?_ (by assumption) | dsimp only) ) rfl rfl rfl
set_option maxRecDepth 100000 in
theorem s_X7_applicant {l : Launch} {G : zG} {b : Nat} {S : zS} {P : Nat} {v0 : Int32} {v1 : Int32} (hT : LX7 S.1 P) : zM l G b yX7_applicant cX7_applicant 3 (some .int) 1 0 0 [.ref P, .int v0, .int v1] S (fun r z => ∃ M' N', z = (S.1, M', N') ∧ zK P S.2.1 M' ∧ ∃ v : Int32, r = some (.int v)) := by
  refine zM.of miX7_applicant (Nat.le_of_ble_eq_true rfl) ?_
  intro p e s m args below meth c X hr hname
  generalize hF : ((fun r z => ∃ M' N', z = (S.1, M', N') ∧ zK P S.2.1 M' ∧ ∃ v : Int32, r = some (.int v)) : Option Value → zS → Prop) = FQ
  change Zw p l e { frames := 1, cells := 0, slots := 0, locals := 80 * 1 } s m args below meth c G b 3 (MQ below (zQ G b FQ) args s 0 0 (fun q : Nat => b ≤ q)) 0 0 0 [some (.ref P), some (.int v0), some (.int v1)] [] S
  obtain ⟨lt, o, tape, out, reader, list, past, pool, result, odds, paper, trial, trialPool, trialResult, trialOdds⟩ := id hT
  obtain ⟨reader_lt, reader_o, reader_draft, reader_text, reader_unitNames, reader_hunterNames, reader_partyNames, reader_asked⟩ := id reader
  obtain ⟨list_lt, list_o, list_quota, list_score, list_guest, list_party, list_wishCount, list_wishes, list_has⟩ := id list
  obtain ⟨past_lt, past_o, past_stood, past_stood0, past_stood1, past_stood2, past_stood3, past_stood4, past_stood5, past_stood6, past_stood7⟩ := id past
  obtain ⟨pool_lt, pool_o, pool_quota, pool_preferred, pool_forGuests, pool_applicantOf, pool_size, pool_guestCount, pool_score, pool_tickets, pool_bits, pool_party, pool_wishCount, pool_wishes⟩ := id pool
  obtain ⟨result_lt, result_o, result_line, result_unitOf, result_roundOf, result_leftTags, result_leftGuests, result_leftPreferred, result_ranked⟩ := id result
  obtain ⟨odds_lt, odds_o, odds_sets, odds_seen, odds_atUnit, odds_early, odds_result⟩ := id odds
  obtain ⟨paper_lt, paper_o, paper_times, paper_firstWish, paper_dry, paper_list, paper_pool, paper_result⟩ := id paper
  obtain ⟨trial_lt, trial_o, trial_quota, trial_score, trial_guest, trial_party, trial_wishCount, trial_wishes, trial_has⟩ := id trial
  obtain ⟨trialPool_lt, trialPool_o, trialPool_quota, trialPool_preferred, trialPool_forGuests, trialPool_applicantOf, trialPool_size, trialPool_guestCount, trialPool_score, trialPool_tickets, trialPool_bits, trialPool_party, trialPool_wishCount, trialPool_wishes⟩ := id trialPool
  obtain ⟨trialResult_lt, trialResult_o, trialResult_line, trialResult_unitOf, trialResult_roundOf, trialResult_leftTags, trialResult_leftGuests, trialResult_leftPreferred, trialResult_ranked⟩ := id trialResult
  obtain ⟨trialOdds_lt, trialOdds_o, trialOdds_sets, trialOdds_seen, trialOdds_atUnit, trialOdds_early, trialOdds_result⟩ := id trialOdds
  have J_10 : ∀ (x1_10 : Int32) (x2_10 : Int32) (M2 : Nat → Nat → Int32) (N2 : Nat → Nat → Int64), zK P S.2.1 M2 → Zw p l e { frames := 1, cells := 0, slots := 0, locals := 80 * 1 } s m args below meth c G b 3 (MQ below (zQ G b FQ) args s 0 0 (fun q : Nat => b ≤ q)) 0 0 10 [some (.ref (P)), some (.int x1_10), some (.int x2_10)] [] (S.1, M2, N2) := by
    intro x1_10 x2_10 M2_10 N2_10 k_10
    refine a_aload_n X dX7_applicant_10 rfl ?_
    refine a_iconst (v := 1) X dX7_applicant_11 (by decide) ?_
    refine a_callVx X dX7_applicant_12 miX7_refuse lm7_102 (s_X7_refuse (P := P) (by assumption)) (by assumption) rfl rfl rfl (Nat.le_of_ble_eq_true rfl) ⟨by decide, by decide, by decide, by decide⟩ (fun r_12 S_12 q_12 => ?_)
    obtain ⟨M_12, N_12, rfl, k_12, ⟨v_12, rfl⟩⟩ := q_12
    refine a_iret X hr dX7_applicant_15 ⟨by decide, by decide⟩ ?_
    subst hF
    exact ⟨_, _, rfl, (by (try dsimp only); repeat first | assumption | exact zK.rf | refine zK.zu ?_ (by omega) | refine zK.zu0 ?_ (by decide) | refine zK.zwr ?_ (by omega) | refine zK.zfil ?_ (by omega) | refine zK.zcpy ?_ (by omega) | refine zK.trans ?_ (by assumption) | dsimp only), ⟨_, rfl⟩⟩
  refine a_iload_n X dX7_applicant_0 rfl ?_
  refine a_if_lt (tgt := 10) X dX7_applicant_1 (by decide) (fun h_1 => ?_) (fun h_1 => ?_)
  · exact Zw.to2 (J_10 _ _ _ _ (by (try dsimp only); repeat first | assumption | exact zK.rf | refine zK.zu ?_ (by omega) | refine zK.zu0 ?_ (by decide) | refine zK.zwr ?_ (by omega) | refine zK.zfil ?_ (by omega) | refine zK.zcpy ?_ (by omega) | refine zK.trans ?_ (by assumption) | dsimp only) ) rfl rfl rfl
  · refine a_iload_n X dX7_applicant_4 rfl ?_
    refine a_bipush (v := 6) X dX7_applicant_5 (by decide) ?_
    refine a_icmp_le (tgt := 16) X dX7_applicant_7 (by decide) (fun h_7 => ?_) (fun h_7 => ?_)
    · refine a_aload_n X dX7_applicant_16 rfl ?_
      refine a_iload_n X dX7_applicant_17 rfl ?_
      refine a_callVx X dX7_applicant_18 miX7_isApplicant lm7_206 (s_X7_isApplicant (P := P) (by assumption)) (by assumption) rfl rfl rfl (Nat.le_of_ble_eq_true rfl) ⟨by decide, by decide, by decide, by decide⟩ (fun r_18 S_18 q_18 => ?_)
      obtain ⟨rfl, ⟨v_18, rfl, b_18⟩⟩ := q_18
      refine a_if_ne (tgt := 30) X dX7_applicant_21 (by decide) (fun h_21 => ?_) (fun h_21 => ?_)
      · refine a_iload_n X dX7_applicant_30 rfl ?_
        refine a_tsw (tg := [68, 84, 100, 116, 132, 148]) (td := 164) X dX7_applicant_31 (by decide +kernel) (by decide) (by decide) (fun k_31 t_31 ht_31 hx_31 => ?_) (fun h_31 => ?_)
        · match k_31, ht_31, hx_31 with
          | 0, ht_31, hx_31 =>
            cases ht_31
            refine a_aload_n X dX7_applicant_68 rfl ?_
            refine a_aload_n X dX7_applicant_69 rfl ?_
            refine a_getr X lf7_40 (by assumption) rfl (by omega) dX7_applicant_70 ?_
            refine a_getr X lf7_209 (by assumption) rfl (by omega) dX7_applicant_73 ?_
            refine a_iload_n X dX7_applicant_76 rfl ?_
            refine a_callSv X dX7_applicant_77 miX7_cell lm7_175 (c_cell (by assumption) (by first | decide | assumption)) rfl rfl (Nat.le_of_ble_eq_true rfl) ⟨by decide, by decide, by decide, by decide⟩ ?_
            refine a_callVx X dX7_applicant_80 miX7_answer lm7_134 (s_X7_answer (P := P) (by assumption)) (by assumption) rfl rfl rfl (Nat.le_of_ble_eq_true rfl) ⟨by decide, by decide, by decide, by decide⟩ (fun r_80 S_80 q_80 => ?_)
            obtain ⟨M_80, N_80, rfl, k_80, ⟨v_80, rfl⟩⟩ := q_80
            refine a_iret X hr dX7_applicant_83 ⟨by decide, by decide⟩ ?_
            subst hF
            exact ⟨_, _, rfl, (by (try dsimp only); repeat first | assumption | exact zK.rf | refine zK.zu ?_ (by omega) | refine zK.zu0 ?_ (by decide) | refine zK.zwr ?_ (by omega) | refine zK.zfil ?_ (by omega) | refine zK.zcpy ?_ (by omega) | refine zK.trans ?_ (by assumption) | dsimp only), ⟨_, rfl⟩⟩
          | 1, ht_31, hx_31 =>
            cases ht_31
            refine a_aload_n X dX7_applicant_84 rfl ?_
            refine a_aload_n X dX7_applicant_85 rfl ?_
            refine a_getr X lf7_40 (by assumption) rfl (by omega) dX7_applicant_86 ?_
            refine a_getr X lf7_212 (by assumption) rfl (by omega) dX7_applicant_89 ?_
            refine a_iload_n X dX7_applicant_92 rfl ?_
            refine a_callSv X dX7_applicant_93 miX7_cell lm7_175 (c_cell (by assumption) (by first | decide | assumption)) rfl rfl (Nat.le_of_ble_eq_true rfl) ⟨by decide, by decide, by decide, by decide⟩ ?_
            refine a_callVx X dX7_applicant_96 miX7_answer lm7_134 (s_X7_answer (P := P) (by assumption)) (by assumption) rfl rfl rfl (Nat.le_of_ble_eq_true rfl) ⟨by decide, by decide, by decide, by decide⟩ (fun r_96 S_96 q_96 => ?_)
            obtain ⟨M_96, N_96, rfl, k_96, ⟨v_96, rfl⟩⟩ := q_96
            refine a_iret X hr dX7_applicant_99 ⟨by decide, by decide⟩ ?_
            subst hF
            exact ⟨_, _, rfl, (by (try dsimp only); repeat first | assumption | exact zK.rf | refine zK.zu ?_ (by omega) | refine zK.zu0 ?_ (by decide) | refine zK.zwr ?_ (by omega) | refine zK.zfil ?_ (by omega) | refine zK.zcpy ?_ (by omega) | refine zK.trans ?_ (by assumption) | dsimp only), ⟨_, rfl⟩⟩
          | 2, ht_31, hx_31 =>
            cases ht_31
            refine a_aload_n X dX7_applicant_100 rfl ?_
            refine a_aload_n X dX7_applicant_101 rfl ?_
            refine a_getr X lf7_40 (by assumption) rfl (by omega) dX7_applicant_102 ?_
            refine a_getr X lf7_215 (by assumption) rfl (by omega) dX7_applicant_105 ?_
            refine a_iload_n X dX7_applicant_108 rfl ?_
            refine a_callSv X dX7_applicant_109 miX7_cell lm7_175 (c_cell (by assumption) (by first | decide | assumption)) rfl rfl (Nat.le_of_ble_eq_true rfl) ⟨by decide, by decide, by decide, by decide⟩ ?_
            refine a_callVx X dX7_applicant_112 miX7_answer lm7_134 (s_X7_answer (P := P) (by assumption)) (by assumption) rfl rfl rfl (Nat.le_of_ble_eq_true rfl) ⟨by decide, by decide, by decide, by decide⟩ (fun r_112 S_112 q_112 => ?_)
            obtain ⟨M_112, N_112, rfl, k_112, ⟨v_112, rfl⟩⟩ := q_112
            refine a_iret X hr dX7_applicant_115 ⟨by decide, by decide⟩ ?_
            subst hF
            exact ⟨_, _, rfl, (by (try dsimp only); repeat first | assumption | exact zK.rf | refine zK.zu ?_ (by omega) | refine zK.zu0 ?_ (by decide) | refine zK.zwr ?_ (by omega) | refine zK.zfil ?_ (by omega) | refine zK.zcpy ?_ (by omega) | refine zK.trans ?_ (by assumption) | dsimp only), ⟨_, rfl⟩⟩
          | 3, ht_31, hx_31 =>
            cases ht_31
            refine a_aload_n X dX7_applicant_116 rfl ?_
            refine a_aload_n X dX7_applicant_117 rfl ?_
            refine a_getr X lf7_40 (by assumption) rfl (by omega) dX7_applicant_118 ?_
            refine a_getr X lf7_216 (by assumption) rfl (by omega) dX7_applicant_121 ?_
            refine a_iload_n X dX7_applicant_124 rfl ?_
            refine a_callSv X dX7_applicant_125 miX7_cell lm7_175 (c_cell (by assumption) (by first | decide | assumption)) rfl rfl (Nat.le_of_ble_eq_true rfl) ⟨by decide, by decide, by decide, by decide⟩ ?_
            refine a_callVx X dX7_applicant_128 miX7_answer lm7_134 (s_X7_answer (P := P) (by assumption)) (by assumption) rfl rfl rfl (Nat.le_of_ble_eq_true rfl) ⟨by decide, by decide, by decide, by decide⟩ (fun r_128 S_128 q_128 => ?_)
            obtain ⟨M_128, N_128, rfl, k_128, ⟨v_128, rfl⟩⟩ := q_128
            refine a_iret X hr dX7_applicant_131 ⟨by decide, by decide⟩ ?_
            subst hF
            exact ⟨_, _, rfl, (by (try dsimp only); repeat first | assumption | exact zK.rf | refine zK.zu ?_ (by omega) | refine zK.zu0 ?_ (by decide) | refine zK.zwr ?_ (by omega) | refine zK.zfil ?_ (by omega) | refine zK.zcpy ?_ (by omega) | refine zK.trans ?_ (by assumption) | dsimp only), ⟨_, rfl⟩⟩
          | 4, ht_31, hx_31 =>
            cases ht_31
            refine a_aload_n X dX7_applicant_132 rfl ?_
            refine a_aload_n X dX7_applicant_133 rfl ?_
            refine a_getr X lf7_40 (by assumption) rfl (by omega) dX7_applicant_134 ?_
            refine a_getr X lf7_219 (by assumption) rfl (by omega) dX7_applicant_137 ?_
            refine a_iload_n X dX7_applicant_140 rfl ?_
            refine a_callSv X dX7_applicant_141 miX7_cell lm7_175 (c_cell (by assumption) (by first | decide | assumption)) rfl rfl (Nat.le_of_ble_eq_true rfl) ⟨by decide, by decide, by decide, by decide⟩ ?_
            refine a_callVx X dX7_applicant_144 miX7_answer lm7_134 (s_X7_answer (P := P) (by assumption)) (by assumption) rfl rfl rfl (Nat.le_of_ble_eq_true rfl) ⟨by decide, by decide, by decide, by decide⟩ (fun r_144 S_144 q_144 => ?_)
            obtain ⟨M_144, N_144, rfl, k_144, ⟨v_144, rfl⟩⟩ := q_144
            refine a_iret X hr dX7_applicant_147 ⟨by decide, by decide⟩ ?_
            subst hF
            exact ⟨_, _, rfl, (by (try dsimp only); repeat first | assumption | exact zK.rf | refine zK.zu ?_ (by omega) | refine zK.zu0 ?_ (by decide) | refine zK.zwr ?_ (by omega) | refine zK.zfil ?_ (by omega) | refine zK.zcpy ?_ (by omega) | refine zK.trans ?_ (by assumption) | dsimp only), ⟨_, rfl⟩⟩
          | 5, ht_31, hx_31 =>
            cases ht_31
            refine a_aload_n X dX7_applicant_148 rfl ?_
            refine a_aload_n X dX7_applicant_149 rfl ?_
            refine a_getr X lf7_40 (by assumption) rfl (by omega) dX7_applicant_150 ?_
            refine a_getr X lf7_222 (by assumption) rfl (by omega) dX7_applicant_153 ?_
            refine a_iload_n X dX7_applicant_156 rfl ?_
            refine a_callSv X dX7_applicant_157 miX7_cell lm7_175 (c_cell (by assumption) (by first | decide | assumption)) rfl rfl (Nat.le_of_ble_eq_true rfl) ⟨by decide, by decide, by decide, by decide⟩ ?_
            refine a_callVx X dX7_applicant_160 miX7_answer lm7_134 (s_X7_answer (P := P) (by assumption)) (by assumption) rfl rfl rfl (Nat.le_of_ble_eq_true rfl) ⟨by decide, by decide, by decide, by decide⟩ (fun r_160 S_160 q_160 => ?_)
            obtain ⟨M_160, N_160, rfl, k_160, ⟨v_160, rfl⟩⟩ := q_160
            refine a_iret X hr dX7_applicant_163 ⟨by decide, by decide⟩ ?_
            subst hF
            exact ⟨_, _, rfl, (by (try dsimp only); repeat first | assumption | exact zK.rf | refine zK.zu ?_ (by omega) | refine zK.zu0 ?_ (by decide) | refine zK.zwr ?_ (by omega) | refine zK.zfil ?_ (by omega) | refine zK.zcpy ?_ (by omega) | refine zK.trans ?_ (by assumption) | dsimp only), ⟨_, rfl⟩⟩
        · refine a_aload_n X dX7_applicant_164 rfl ?_
          refine a_aload_n X dX7_applicant_165 rfl ?_
          refine a_getr X lf7_40 (by assumption) rfl (by omega) dX7_applicant_166 ?_
          refine a_getr X lf7_225 (by assumption) rfl (by omega) dX7_applicant_169 ?_
          refine a_iload_n X dX7_applicant_172 rfl ?_
          refine a_callSv X dX7_applicant_173 miX7_cell lm7_175 (c_cell (by assumption) (by first | decide | assumption)) rfl rfl (Nat.le_of_ble_eq_true rfl) ⟨by decide, by decide, by decide, by decide⟩ ?_
          refine a_callVx X dX7_applicant_176 miX7_answer lm7_134 (s_X7_answer (P := P) (by assumption)) (by assumption) rfl rfl rfl (Nat.le_of_ble_eq_true rfl) ⟨by decide, by decide, by decide, by decide⟩ (fun r_176 S_176 q_176 => ?_)
          obtain ⟨M_176, N_176, rfl, k_176, ⟨v_176, rfl⟩⟩ := q_176
          refine a_iret X hr dX7_applicant_179 ⟨by decide, by decide⟩ ?_
          subst hF
          exact ⟨_, _, rfl, (by (try dsimp only); repeat first | assumption | exact zK.rf | refine zK.zu ?_ (by omega) | refine zK.zu0 ?_ (by decide) | refine zK.zwr ?_ (by omega) | refine zK.zfil ?_ (by omega) | refine zK.zcpy ?_ (by omega) | refine zK.trans ?_ (by assumption) | dsimp only), ⟨_, rfl⟩⟩
      · refine a_aload_n X dX7_applicant_24 rfl ?_
        refine a_iconst (v := 2) X dX7_applicant_25 (by decide) ?_
        refine a_callVx X dX7_applicant_26 miX7_refuse lm7_102 (s_X7_refuse (P := P) (by assumption)) (by assumption) rfl rfl rfl (Nat.le_of_ble_eq_true rfl) ⟨by decide, by decide, by decide, by decide⟩ (fun r_26 S_26 q_26 => ?_)
        obtain ⟨M_26, N_26, rfl, k_26, ⟨v_26, rfl⟩⟩ := q_26
        refine a_iret X hr dX7_applicant_29 ⟨by decide, by decide⟩ ?_
        subst hF
        exact ⟨_, _, rfl, (by (try dsimp only); repeat first | assumption | exact zK.rf | refine zK.zu ?_ (by omega) | refine zK.zu0 ?_ (by decide) | refine zK.zwr ?_ (by omega) | refine zK.zfil ?_ (by omega) | refine zK.zcpy ?_ (by omega) | refine zK.trans ?_ (by assumption) | dsimp only), ⟨_, rfl⟩⟩
    · exact Zw.to2 (J_10 _ _ _ _ (by (try dsimp only); repeat first | assumption | exact zK.rf | refine zK.zu ?_ (by omega) | refine zK.zu0 ?_ (by decide) | refine zK.zwr ?_ (by omega) | refine zK.zfil ?_ (by omega) | refine zK.zcpy ?_ (by omega) | refine zK.trans ?_ (by assumption) | dsimp only) ) rfl rfl rfl
set_option maxRecDepth 100000 in
theorem s_X7_choice {l : Launch} {G : zG} {b : Nat} {S : zS} {P : Nat} {v0 : Int32} {v1 : Int32} (hT : LX7 S.1 P) : zM l G b yX7_choice cX7_choice 3 (some .int) 2 0 0 [.ref P, .int v0, .int v1] S (fun r z => ∃ M' N', z = (S.1, M', N') ∧ zK P S.2.1 M' ∧ ∃ v : Int32, r = some (.int v)) := by
  refine zM.of miX7_choice (Nat.le_of_ble_eq_true rfl) ?_
  intro p e s m args below meth c X hr hname
  generalize hF : ((fun r z => ∃ M' N', z = (S.1, M', N') ∧ zK P S.2.1 M' ∧ ∃ v : Int32, r = some (.int v)) : Option Value → zS → Prop) = FQ
  change Zw p l e { frames := 2, cells := 0, slots := 0, locals := 80 * 2 } s m args below meth c G b 3 (MQ below (zQ G b FQ) args s 0 0 (fun q : Nat => b ≤ q)) 0 0 0 [some (.ref P), some (.int v0), some (.int v1)] [] S
  obtain ⟨lt, o, tape, out, reader, list, past, pool, result, odds, paper, trial, trialPool, trialResult, trialOdds⟩ := id hT
  obtain ⟨reader_lt, reader_o, reader_draft, reader_text, reader_unitNames, reader_hunterNames, reader_partyNames, reader_asked⟩ := id reader
  obtain ⟨list_lt, list_o, list_quota, list_score, list_guest, list_party, list_wishCount, list_wishes, list_has⟩ := id list
  obtain ⟨past_lt, past_o, past_stood, past_stood0, past_stood1, past_stood2, past_stood3, past_stood4, past_stood5, past_stood6, past_stood7⟩ := id past
  obtain ⟨pool_lt, pool_o, pool_quota, pool_preferred, pool_forGuests, pool_applicantOf, pool_size, pool_guestCount, pool_score, pool_tickets, pool_bits, pool_party, pool_wishCount, pool_wishes⟩ := id pool
  obtain ⟨result_lt, result_o, result_line, result_unitOf, result_roundOf, result_leftTags, result_leftGuests, result_leftPreferred, result_ranked⟩ := id result
  obtain ⟨odds_lt, odds_o, odds_sets, odds_seen, odds_atUnit, odds_early, odds_result⟩ := id odds
  obtain ⟨paper_lt, paper_o, paper_times, paper_firstWish, paper_dry, paper_list, paper_pool, paper_result⟩ := id paper
  obtain ⟨trial_lt, trial_o, trial_quota, trial_score, trial_guest, trial_party, trial_wishCount, trial_wishes, trial_has⟩ := id trial
  obtain ⟨trialPool_lt, trialPool_o, trialPool_quota, trialPool_preferred, trialPool_forGuests, trialPool_applicantOf, trialPool_size, trialPool_guestCount, trialPool_score, trialPool_tickets, trialPool_bits, trialPool_party, trialPool_wishCount, trialPool_wishes⟩ := id trialPool
  obtain ⟨trialResult_lt, trialResult_o, trialResult_line, trialResult_unitOf, trialResult_roundOf, trialResult_leftTags, trialResult_leftGuests, trialResult_leftPreferred, trialResult_ranked⟩ := id trialResult
  obtain ⟨trialOdds_lt, trialOdds_o, trialOdds_sets, trialOdds_seen, trialOdds_atUnit, trialOdds_early, trialOdds_result⟩ := id trialOdds
  refine a_iload_n X dX7_choice_0 rfl ?_
  refine a_if_ge (tgt := 10) X dX7_choice_1 (by decide) (fun h_1 => ?_) (fun h_1 => ?_)
  · refine a_aload_n X dX7_choice_10 rfl ?_
    refine a_iload_n X dX7_choice_11 rfl ?_
    refine a_callVx X dX7_choice_12 miX7_isApplicant lm7_206 (s_X7_isApplicant (P := P) (by assumption)) (by assumption) rfl rfl rfl (Nat.le_of_ble_eq_true rfl) ⟨by decide, by decide, by decide, by decide⟩ (fun r_12 S_12 q_12 => ?_)
    obtain ⟨rfl, ⟨v_12, rfl, b_12⟩⟩ := q_12
    refine a_if_ne (tgt := 24) X dX7_choice_15 (by decide) (fun h_15 => ?_) (fun h_15 => ?_)
    · refine a_iload_n X dX7_choice_24 rfl ?_
      refine a_aload_n X dX7_choice_25 rfl ?_
      refine a_getr X lf7_40 (by assumption) rfl (by omega) dX7_choice_26 ?_
      refine a_getr X lf7_219 (by assumption) rfl (by omega) dX7_choice_29 ?_
      refine a_iload_n X dX7_choice_32 rfl ?_
      refine a_callSv X dX7_choice_33 miX7_cell lm7_175 (c_cell (by assumption) (by first | decide | assumption)) rfl rfl (Nat.le_of_ble_eq_true rfl) ⟨by decide, by decide, by decide, by decide⟩ ?_
      refine a_icmp_lt (tgt := 45) X dX7_choice_36 (by decide) (fun h_36 => ?_) (fun h_36 => ?_)
      · refine a_aload_n X dX7_choice_45 rfl ?_
        refine a_aload_n X dX7_choice_46 rfl ?_
        refine a_getr X lf7_40 (by assumption) rfl (by omega) dX7_choice_47 ?_
        refine a_iload_n X dX7_choice_50 rfl ?_
        refine a_iload_n X dX7_choice_51 rfl ?_
        refine a_callVx X dX7_choice_52 miX2_wish lm7_226 (s_X2_wish (P := P) (by assumption) (by omega)) (by assumption) rfl rfl rfl (Nat.le_of_ble_eq_true rfl) ⟨by decide, by decide, by decide, by decide⟩ (fun r_52 S_52 q_52 => ?_)
        obtain ⟨rfl, ⟨v_52, rfl⟩⟩ := q_52
        refine a_callVx X dX7_choice_55 miX7_answer lm7_134 (s_X7_answer (P := P) (by assumption)) (by assumption) rfl rfl rfl (Nat.le_of_ble_eq_true rfl) ⟨by decide, by decide, by decide, by decide⟩ (fun r_55 S_55 q_55 => ?_)
        obtain ⟨M_55, N_55, rfl, k_55, ⟨v_55, rfl⟩⟩ := q_55
        refine a_iret X hr dX7_choice_58 ⟨by decide, by decide⟩ ?_
        subst hF
        exact ⟨_, _, rfl, (by (try dsimp only); repeat first | assumption | exact zK.rf | refine zK.zu ?_ (by omega) | refine zK.zu0 ?_ (by decide) | refine zK.zwr ?_ (by omega) | refine zK.zfil ?_ (by omega) | refine zK.zcpy ?_ (by omega) | refine zK.trans ?_ (by assumption) | dsimp only), ⟨_, rfl⟩⟩
      · refine a_aload_n X dX7_choice_39 rfl ?_
        refine a_iconst (v := 5) X dX7_choice_40 (by decide) ?_
        refine a_callVx X dX7_choice_41 miX7_refuse lm7_102 (s_X7_refuse (P := P) (by assumption)) (by assumption) rfl rfl rfl (Nat.le_of_ble_eq_true rfl) ⟨by decide, by decide, by decide, by decide⟩ (fun r_41 S_41 q_41 => ?_)
        obtain ⟨M_41, N_41, rfl, k_41, ⟨v_41, rfl⟩⟩ := q_41
        refine a_iret X hr dX7_choice_44 ⟨by decide, by decide⟩ ?_
        subst hF
        exact ⟨_, _, rfl, (by (try dsimp only); repeat first | assumption | exact zK.rf | refine zK.zu ?_ (by omega) | refine zK.zu0 ?_ (by decide) | refine zK.zwr ?_ (by omega) | refine zK.zfil ?_ (by omega) | refine zK.zcpy ?_ (by omega) | refine zK.trans ?_ (by assumption) | dsimp only), ⟨_, rfl⟩⟩
    · refine a_aload_n X dX7_choice_18 rfl ?_
      refine a_iconst (v := 2) X dX7_choice_19 (by decide) ?_
      refine a_callVx X dX7_choice_20 miX7_refuse lm7_102 (s_X7_refuse (P := P) (by assumption)) (by assumption) rfl rfl rfl (Nat.le_of_ble_eq_true rfl) ⟨by decide, by decide, by decide, by decide⟩ (fun r_20 S_20 q_20 => ?_)
      obtain ⟨M_20, N_20, rfl, k_20, ⟨v_20, rfl⟩⟩ := q_20
      refine a_iret X hr dX7_choice_23 ⟨by decide, by decide⟩ ?_
      subst hF
      exact ⟨_, _, rfl, (by (try dsimp only); repeat first | assumption | exact zK.rf | refine zK.zu ?_ (by omega) | refine zK.zu0 ?_ (by decide) | refine zK.zwr ?_ (by omega) | refine zK.zfil ?_ (by omega) | refine zK.zcpy ?_ (by omega) | refine zK.trans ?_ (by assumption) | dsimp only), ⟨_, rfl⟩⟩
  · refine a_aload_n X dX7_choice_4 rfl ?_
    refine a_iconst (v := 1) X dX7_choice_5 (by decide) ?_
    refine a_callVx X dX7_choice_6 miX7_refuse lm7_102 (s_X7_refuse (P := P) (by assumption)) (by assumption) rfl rfl rfl (Nat.le_of_ble_eq_true rfl) ⟨by decide, by decide, by decide, by decide⟩ (fun r_6 S_6 q_6 => ?_)
    obtain ⟨M_6, N_6, rfl, k_6, ⟨v_6, rfl⟩⟩ := q_6
    refine a_iret X hr dX7_choice_9 ⟨by decide, by decide⟩ ?_
    subst hF
    exact ⟨_, _, rfl, (by (try dsimp only); repeat first | assumption | exact zK.rf | refine zK.zu ?_ (by omega) | refine zK.zu0 ?_ (by decide) | refine zK.zwr ?_ (by omega) | refine zK.zfil ?_ (by omega) | refine zK.zcpy ?_ (by omega) | refine zK.trans ?_ (by assumption) | dsimp only), ⟨_, rfl⟩⟩
set_option maxRecDepth 100000 in
theorem s_X7_demand {l : Launch} {G : zG} {b : Nat} {S : zS} {P : Nat} {v0 : Int32} {v1 : Int32} (hT : LX7 S.1 P) : zM l G b yX7_demand cX7_demand 3 (some .int) 4 0 0 [.ref P, .int v0, .int v1] S (fun r z => ∃ M' N', z = (S.1, M', N') ∧ zK P S.2.1 M' ∧ ∃ v : Int32, r = some (.int v)) := by
  refine zM.of miX7_demand (Nat.le_of_ble_eq_true rfl) ?_
  intro p e s m args below meth c X hr hname
  generalize hF : ((fun r z => ∃ M' N', z = (S.1, M', N') ∧ zK P S.2.1 M' ∧ ∃ v : Int32, r = some (.int v)) : Option Value → zS → Prop) = FQ
  change Zw p l e { frames := 4, cells := 0, slots := 0, locals := 80 * 4 } s m args below meth c G b 3 (MQ below (zQ G b FQ) args s 0 0 (fun q : Nat => b ≤ q)) 0 0 0 [some (.ref P), some (.int v0), some (.int v1)] [] S
  obtain ⟨lt, o, tape, out, reader, list, past, pool, result, odds, paper, trial, trialPool, trialResult, trialOdds⟩ := id hT
  obtain ⟨reader_lt, reader_o, reader_draft, reader_text, reader_unitNames, reader_hunterNames, reader_partyNames, reader_asked⟩ := id reader
  obtain ⟨list_lt, list_o, list_quota, list_score, list_guest, list_party, list_wishCount, list_wishes, list_has⟩ := id list
  obtain ⟨past_lt, past_o, past_stood, past_stood0, past_stood1, past_stood2, past_stood3, past_stood4, past_stood5, past_stood6, past_stood7⟩ := id past
  obtain ⟨pool_lt, pool_o, pool_quota, pool_preferred, pool_forGuests, pool_applicantOf, pool_size, pool_guestCount, pool_score, pool_tickets, pool_bits, pool_party, pool_wishCount, pool_wishes⟩ := id pool
  obtain ⟨result_lt, result_o, result_line, result_unitOf, result_roundOf, result_leftTags, result_leftGuests, result_leftPreferred, result_ranked⟩ := id result
  obtain ⟨odds_lt, odds_o, odds_sets, odds_seen, odds_atUnit, odds_early, odds_result⟩ := id odds
  obtain ⟨paper_lt, paper_o, paper_times, paper_firstWish, paper_dry, paper_list, paper_pool, paper_result⟩ := id paper
  obtain ⟨trial_lt, trial_o, trial_quota, trial_score, trial_guest, trial_party, trial_wishCount, trial_wishes, trial_has⟩ := id trial
  obtain ⟨trialPool_lt, trialPool_o, trialPool_quota, trialPool_preferred, trialPool_forGuests, trialPool_applicantOf, trialPool_size, trialPool_guestCount, trialPool_score, trialPool_tickets, trialPool_bits, trialPool_party, trialPool_wishCount, trialPool_wishes⟩ := id trialPool
  obtain ⟨trialResult_lt, trialResult_o, trialResult_line, trialResult_unitOf, trialResult_roundOf, trialResult_leftTags, trialResult_leftGuests, trialResult_leftPreferred, trialResult_ranked⟩ := id trialResult
  obtain ⟨trialOdds_lt, trialOdds_o, trialOdds_sets, trialOdds_seen, trialOdds_atUnit, trialOdds_early, trialOdds_result⟩ := id trialOdds
  have J_9 : ∀ (x1_9 : Int32) (x2_9 : Int32) (M2 : Nat → Nat → Int32) (N2 : Nat → Nat → Int64), zK P S.2.1 M2 → Zw p l e { frames := 4, cells := 0, slots := 0, locals := 80 * 4 } s m args below meth c G b 3 (MQ below (zQ G b FQ) args s 0 0 (fun q : Nat => b ≤ q)) 0 0 9 [some (.ref (P)), some (.int x1_9), some (.int x2_9)] [] (S.1, M2, N2) := by
    intro x1_9 x2_9 M2_9 N2_9 k_9
    refine a_aload_n X dX7_demand_9 rfl ?_
    refine a_iconst (v := 1) X dX7_demand_10 (by decide) ?_
    refine a_callVx X dX7_demand_11 miX7_refuse lm7_102 (s_X7_refuse (P := P) (by assumption)) (by assumption) rfl rfl rfl (Nat.le_of_ble_eq_true rfl) ⟨by decide, by decide, by decide, by decide⟩ (fun r_11 S_11 q_11 => ?_)
    obtain ⟨M_11, N_11, rfl, k_11, ⟨v_11, rfl⟩⟩ := q_11
    refine a_iret X hr dX7_demand_14 ⟨by decide, by decide⟩ ?_
    subst hF
    exact ⟨_, _, rfl, (by (try dsimp only); repeat first | assumption | exact zK.rf | refine zK.zu ?_ (by omega) | refine zK.zu0 ?_ (by decide) | refine zK.zwr ?_ (by omega) | refine zK.zfil ?_ (by omega) | refine zK.zcpy ?_ (by omega) | refine zK.trans ?_ (by assumption) | dsimp only), ⟨_, rfl⟩⟩
  refine a_iload_n X dX7_demand_0 rfl ?_
  refine a_if_lt (tgt := 9) X dX7_demand_1 (by decide) (fun h_1 => ?_) (fun h_1 => ?_)
  · exact Zw.to2 (J_9 _ _ _ _ (by (try dsimp only); repeat first | assumption | exact zK.rf | refine zK.zu ?_ (by omega) | refine zK.zu0 ?_ (by decide) | refine zK.zwr ?_ (by omega) | refine zK.zfil ?_ (by omega) | refine zK.zcpy ?_ (by omega) | refine zK.trans ?_ (by assumption) | dsimp only) ) rfl rfl rfl
  · refine a_iload_n X dX7_demand_4 rfl ?_
    refine a_iconst (v := 1) X dX7_demand_5 (by decide) ?_
    refine a_icmp_le (tgt := 15) X dX7_demand_6 (by decide) (fun h_6 => ?_) (fun h_6 => ?_)
    · refine a_aload_n X dX7_demand_15 rfl ?_
      refine a_iload_n X dX7_demand_16 rfl ?_
      refine a_callVx X dX7_demand_17 miX7_isUnit lm7_188 (s_X7_isUnit (P := P) (by assumption)) (by assumption) rfl rfl rfl (Nat.le_of_ble_eq_true rfl) ⟨by decide, by decide, by decide, by decide⟩ (fun r_17 S_17 q_17 => ?_)
      obtain ⟨rfl, ⟨v_17, rfl, b_17⟩⟩ := q_17
      refine a_if_ne (tgt := 29) X dX7_demand_20 (by decide) (fun h_20 => ?_) (fun h_20 => ?_)
      · refine a_aload_n X dX7_demand_29 rfl ?_
        refine a_getr X lf7_26 (by assumption) rfl (by omega) dX7_demand_30 ?_
        refine a_getr X lf7_158 (by assumption) rfl (by omega) dX7_demand_33 ?_
        refine a_iload_n X dX7_demand_36 rfl ?_
        refine a_callSv X dX7_demand_37 miX7_cell lm7_175 (c_cell (by assumption) (by first | decide | assumption)) rfl rfl (Nat.le_of_ble_eq_true rfl) ⟨by decide, by decide, by decide, by decide⟩ ?_
        refine a_if_ne (tgt := 49) X dX7_demand_40 (by decide) (fun h_40 => ?_) (fun h_40 => ?_)
        · refine a_aload_n X dX7_demand_49 rfl ?_
          refine a_aload_n X dX7_demand_50 rfl ?_
          refine a_getr X lf7_40 (by assumption) rfl (by omega) dX7_demand_51 ?_
          refine a_iload_n X dX7_demand_54 rfl ?_
          refine a_callVx X dX7_demand_55 miX2_firstHunters lm7_200 (s_X2_firstHunters (P := P) (by assumption) (by omega)) (by assumption) rfl rfl rfl (Nat.le_of_ble_eq_true rfl) ⟨by decide, by decide, by decide, by decide⟩ (fun r_55 S_55 q_55 => ?_)
          obtain ⟨rfl, ⟨v_55, rfl⟩⟩ := q_55
          refine a_aload_n X dX7_demand_58 rfl ?_
          refine a_getr X lf7_26 (by assumption) rfl (by omega) dX7_demand_59 ?_
          refine a_getr X lf7_158 (by assumption) rfl (by omega) dX7_demand_62 ?_
          refine a_iload_n X dX7_demand_65 rfl ?_
          refine a_callSv X dX7_demand_66 miX7_cell lm7_175 (c_cell (by assumption) (by first | decide | assumption)) rfl rfl (Nat.le_of_ble_eq_true rfl) ⟨by decide, by decide, by decide, by decide⟩ ?_
          refine a_iload_n X dX7_demand_69 rfl ?_
          refine a_callSx X dX7_demand_70 miX7_lowest lm7_230 (s_X7_lowest (P := P)) rfl rfl (Nat.le_of_ble_eq_true rfl) ⟨by decide, by decide, by decide, by decide⟩ (fun r_70 S_70 q_70 => ?_)
          obtain ⟨rfl, ⟨v_70, rfl⟩⟩ := q_70
          refine a_callVx X dX7_demand_73 miX7_answer lm7_134 (s_X7_answer (P := P) (by assumption)) (by assumption) rfl rfl rfl (Nat.le_of_ble_eq_true rfl) ⟨by decide, by decide, by decide, by decide⟩ (fun r_73 S_73 q_73 => ?_)
          obtain ⟨M_73, N_73, rfl, k_73, ⟨v_73, rfl⟩⟩ := q_73
          refine a_iret X hr dX7_demand_76 ⟨by decide, by decide⟩ ?_
          subst hF
          exact ⟨_, _, rfl, (by (try dsimp only); repeat first | assumption | exact zK.rf | refine zK.zu ?_ (by omega) | refine zK.zu0 ?_ (by decide) | refine zK.zwr ?_ (by omega) | refine zK.zfil ?_ (by omega) | refine zK.zcpy ?_ (by omega) | refine zK.trans ?_ (by assumption) | dsimp only), ⟨_, rfl⟩⟩
        · refine a_aload_n X dX7_demand_43 rfl ?_
          refine a_iconst (v := 5) X dX7_demand_44 (by decide) ?_
          refine a_callVx X dX7_demand_45 miX7_refuse lm7_102 (s_X7_refuse (P := P) (by assumption)) (by assumption) rfl rfl rfl (Nat.le_of_ble_eq_true rfl) ⟨by decide, by decide, by decide, by decide⟩ (fun r_45 S_45 q_45 => ?_)
          obtain ⟨M_45, N_45, rfl, k_45, ⟨v_45, rfl⟩⟩ := q_45
          refine a_iret X hr dX7_demand_48 ⟨by decide, by decide⟩ ?_
          subst hF
          exact ⟨_, _, rfl, (by (try dsimp only); repeat first | assumption | exact zK.rf | refine zK.zu ?_ (by omega) | refine zK.zu0 ?_ (by decide) | refine zK.zwr ?_ (by omega) | refine zK.zfil ?_ (by omega) | refine zK.zcpy ?_ (by omega) | refine zK.trans ?_ (by assumption) | dsimp only), ⟨_, rfl⟩⟩
      · refine a_aload_n X dX7_demand_23 rfl ?_
        refine a_iconst (v := 2) X dX7_demand_24 (by decide) ?_
        refine a_callVx X dX7_demand_25 miX7_refuse lm7_102 (s_X7_refuse (P := P) (by assumption)) (by assumption) rfl rfl rfl (Nat.le_of_ble_eq_true rfl) ⟨by decide, by decide, by decide, by decide⟩ (fun r_25 S_25 q_25 => ?_)
        obtain ⟨M_25, N_25, rfl, k_25, ⟨v_25, rfl⟩⟩ := q_25
        refine a_iret X hr dX7_demand_28 ⟨by decide, by decide⟩ ?_
        subst hF
        exact ⟨_, _, rfl, (by (try dsimp only); repeat first | assumption | exact zK.rf | refine zK.zu ?_ (by omega) | refine zK.zu0 ?_ (by decide) | refine zK.zwr ?_ (by omega) | refine zK.zfil ?_ (by omega) | refine zK.zcpy ?_ (by omega) | refine zK.trans ?_ (by assumption) | dsimp only), ⟨_, rfl⟩⟩
    · exact Zw.to2 (J_9 _ _ _ _ (by (try dsimp only); repeat first | assumption | exact zK.rf | refine zK.zu ?_ (by omega) | refine zK.zu0 ?_ (by decide) | refine zK.zwr ?_ (by omega) | refine zK.zfil ?_ (by omega) | refine zK.zcpy ?_ (by omega) | refine zK.trans ?_ (by assumption) | dsimp only) ) rfl rfl rfl
set_option maxRecDepth 100000 in
theorem s_X7_share {l : Launch} {G : zG} {b : Nat} {S : zS} {P : Nat} {v0 : Int32} {v1 : Int32} (hT : LX7 S.1 P) : zM l G b yX7_share cX7_share 3 (some .int) 2 0 0 [.ref P, .int v0, .int v1] S (fun r z => ∃ M' N', z = (S.1, M', N') ∧ zK P S.2.1 M' ∧ ∃ v : Int32, r = some (.int v)) := by
  refine zM.of miX7_share (Nat.le_of_ble_eq_true rfl) ?_
  intro p e s m args below meth c X hr hname
  generalize hF : ((fun r z => ∃ M' N', z = (S.1, M', N') ∧ zK P S.2.1 M' ∧ ∃ v : Int32, r = some (.int v)) : Option Value → zS → Prop) = FQ
  change Zw p l e { frames := 2, cells := 0, slots := 0, locals := 80 * 2 } s m args below meth c G b 3 (MQ below (zQ G b FQ) args s 0 0 (fun q : Nat => b ≤ q)) 0 0 0 [some (.ref P), some (.int v0), some (.int v1)] [] S
  obtain ⟨lt, o, tape, out, reader, list, past, pool, result, odds, paper, trial, trialPool, trialResult, trialOdds⟩ := id hT
  obtain ⟨reader_lt, reader_o, reader_draft, reader_text, reader_unitNames, reader_hunterNames, reader_partyNames, reader_asked⟩ := id reader
  obtain ⟨list_lt, list_o, list_quota, list_score, list_guest, list_party, list_wishCount, list_wishes, list_has⟩ := id list
  obtain ⟨past_lt, past_o, past_stood, past_stood0, past_stood1, past_stood2, past_stood3, past_stood4, past_stood5, past_stood6, past_stood7⟩ := id past
  obtain ⟨pool_lt, pool_o, pool_quota, pool_preferred, pool_forGuests, pool_applicantOf, pool_size, pool_guestCount, pool_score, pool_tickets, pool_bits, pool_party, pool_wishCount, pool_wishes⟩ := id pool
  obtain ⟨result_lt, result_o, result_line, result_unitOf, result_roundOf, result_leftTags, result_leftGuests, result_leftPreferred, result_ranked⟩ := id result
  obtain ⟨odds_lt, odds_o, odds_sets, odds_seen, odds_atUnit, odds_early, odds_result⟩ := id odds
  obtain ⟨paper_lt, paper_o, paper_times, paper_firstWish, paper_dry, paper_list, paper_pool, paper_result⟩ := id paper
  obtain ⟨trial_lt, trial_o, trial_quota, trial_score, trial_guest, trial_party, trial_wishCount, trial_wishes, trial_has⟩ := id trial
  obtain ⟨trialPool_lt, trialPool_o, trialPool_quota, trialPool_preferred, trialPool_forGuests, trialPool_applicantOf, trialPool_size, trialPool_guestCount, trialPool_score, trialPool_tickets, trialPool_bits, trialPool_party, trialPool_wishCount, trialPool_wishes⟩ := id trialPool
  obtain ⟨trialResult_lt, trialResult_o, trialResult_line, trialResult_unitOf, trialResult_roundOf, trialResult_leftTags, trialResult_leftGuests, trialResult_leftPreferred, trialResult_ranked⟩ := id trialResult
  obtain ⟨trialOdds_lt, trialOdds_o, trialOdds_sets, trialOdds_seen, trialOdds_atUnit, trialOdds_early, trialOdds_result⟩ := id trialOdds
  have J_9 : ∀ (x1_9 : Int32) (x2_9 : Int32) (M2 : Nat → Nat → Int32) (N2 : Nat → Nat → Int64), zK P S.2.1 M2 → Zw p l e { frames := 2, cells := 0, slots := 0, locals := 80 * 2 } s m args below meth c G b 3 (MQ below (zQ G b FQ) args s 0 0 (fun q : Nat => b ≤ q)) 0 0 9 [some (.ref (P)), some (.int x1_9), some (.int x2_9)] [] (S.1, M2, N2) := by
    intro x1_9 x2_9 M2_9 N2_9 k_9
    refine a_aload_n X dX7_share_9 rfl ?_
    refine a_iconst (v := 1) X dX7_share_10 (by decide) ?_
    refine a_callVx X dX7_share_11 miX7_refuse lm7_102 (s_X7_refuse (P := P) (by assumption)) (by assumption) rfl rfl rfl (Nat.le_of_ble_eq_true rfl) ⟨by decide, by decide, by decide, by decide⟩ (fun r_11 S_11 q_11 => ?_)
    obtain ⟨M_11, N_11, rfl, k_11, ⟨v_11, rfl⟩⟩ := q_11
    refine a_iret X hr dX7_share_14 ⟨by decide, by decide⟩ ?_
    subst hF
    exact ⟨_, _, rfl, (by (try dsimp only); repeat first | assumption | exact zK.rf | refine zK.zu ?_ (by omega) | refine zK.zu0 ?_ (by decide) | refine zK.zwr ?_ (by omega) | refine zK.zfil ?_ (by omega) | refine zK.zcpy ?_ (by omega) | refine zK.trans ?_ (by assumption) | dsimp only), ⟨_, rfl⟩⟩
  refine a_iload_n X dX7_share_0 rfl ?_
  refine a_if_lt (tgt := 9) X dX7_share_1 (by decide) (fun h_1 => ?_) (fun h_1 => ?_)
  · exact Zw.to2 (J_9 _ _ _ _ (by (try dsimp only); repeat first | assumption | exact zK.rf | refine zK.zu ?_ (by omega) | refine zK.zu0 ?_ (by decide) | refine zK.zwr ?_ (by omega) | refine zK.zfil ?_ (by omega) | refine zK.zcpy ?_ (by omega) | refine zK.trans ?_ (by assumption) | dsimp only) ) rfl rfl rfl
  · refine a_iload_n X dX7_share_4 rfl ?_
    refine a_iconst (v := 1) X dX7_share_5 (by decide) ?_
    refine a_icmp_le (tgt := 15) X dX7_share_6 (by decide) (fun h_6 => ?_) (fun h_6 => ?_)
    · refine a_aload_n X dX7_share_15 rfl ?_
      refine a_iload_n X dX7_share_16 rfl ?_
      refine a_callVx X dX7_share_17 miX7_isApplicant lm7_206 (s_X7_isApplicant (P := P) (by assumption)) (by assumption) rfl rfl rfl (Nat.le_of_ble_eq_true rfl) ⟨by decide, by decide, by decide, by decide⟩ (fun r_17 S_17 q_17 => ?_)
      obtain ⟨rfl, ⟨v_17, rfl, b_17⟩⟩ := q_17
      refine a_if_ne (tgt := 29) X dX7_share_20 (by decide) (fun h_20 => ?_) (fun h_20 => ?_)
      · refine a_aload_n X dX7_share_29 rfl ?_
        refine a_aload_n X dX7_share_30 rfl ?_
        refine a_getr X lf7_40 (by assumption) rfl (by omega) dX7_share_31 ?_
        refine a_getr X lf7_216 (by assumption) rfl (by omega) dX7_share_34 ?_
        refine a_iload_n X dX7_share_37 rfl ?_
        refine a_callSv X dX7_share_38 miX7_cell lm7_175 (c_cell (by assumption) (by first | decide | assumption)) rfl rfl (Nat.le_of_ble_eq_true rfl) ⟨by decide, by decide, by decide, by decide⟩ ?_
        refine a_aload_n X dX7_share_41 rfl ?_
        refine a_getr X lf7_40 (by assumption) rfl (by omega) dX7_share_42 ?_
        refine a_geti X lf7_234 (by assumption) rfl dX7_share_45 ?_
        refine a_iload_n X dX7_share_48 rfl ?_
        refine a_callSx X dX7_share_49 miX7_lowest lm7_230 (s_X7_lowest (P := P)) rfl rfl (Nat.le_of_ble_eq_true rfl) ⟨by decide, by decide, by decide, by decide⟩ (fun r_49 S_49 q_49 => ?_)
        obtain ⟨rfl, ⟨v_49, rfl⟩⟩ := q_49
        refine a_callVx X dX7_share_52 miX7_answer lm7_134 (s_X7_answer (P := P) (by assumption)) (by assumption) rfl rfl rfl (Nat.le_of_ble_eq_true rfl) ⟨by decide, by decide, by decide, by decide⟩ (fun r_52 S_52 q_52 => ?_)
        obtain ⟨M_52, N_52, rfl, k_52, ⟨v_52, rfl⟩⟩ := q_52
        refine a_iret X hr dX7_share_55 ⟨by decide, by decide⟩ ?_
        subst hF
        exact ⟨_, _, rfl, (by (try dsimp only); repeat first | assumption | exact zK.rf | refine zK.zu ?_ (by omega) | refine zK.zu0 ?_ (by decide) | refine zK.zwr ?_ (by omega) | refine zK.zfil ?_ (by omega) | refine zK.zcpy ?_ (by omega) | refine zK.trans ?_ (by assumption) | dsimp only), ⟨_, rfl⟩⟩
      · refine a_aload_n X dX7_share_23 rfl ?_
        refine a_iconst (v := 2) X dX7_share_24 (by decide) ?_
        refine a_callVx X dX7_share_25 miX7_refuse lm7_102 (s_X7_refuse (P := P) (by assumption)) (by assumption) rfl rfl rfl (Nat.le_of_ble_eq_true rfl) ⟨by decide, by decide, by decide, by decide⟩ (fun r_25 S_25 q_25 => ?_)
        obtain ⟨M_25, N_25, rfl, k_25, ⟨v_25, rfl⟩⟩ := q_25
        refine a_iret X hr dX7_share_28 ⟨by decide, by decide⟩ ?_
        subst hF
        exact ⟨_, _, rfl, (by (try dsimp only); repeat first | assumption | exact zK.rf | refine zK.zu ?_ (by omega) | refine zK.zu0 ?_ (by decide) | refine zK.zwr ?_ (by omega) | refine zK.zfil ?_ (by omega) | refine zK.zcpy ?_ (by omega) | refine zK.trans ?_ (by assumption) | dsimp only), ⟨_, rfl⟩⟩
    · exact Zw.to2 (J_9 _ _ _ _ (by (try dsimp only); repeat first | assumption | exact zK.rf | refine zK.zu ?_ (by omega) | refine zK.zu0 ?_ (by decide) | refine zK.zwr ?_ (by omega) | refine zK.zfil ?_ (by omega) | refine zK.zcpy ?_ (by omega) | refine zK.trans ?_ (by assumption) | dsimp only) ) rfl rfl rfl
set_option maxRecDepth 100000 in
theorem s_X7_order {l : Launch} {G : zG} {b : Nat} {S : zS} {P : Nat} {v0 : Int32} {v1 : Int32} (hT : LX7 S.1 P) : zM l G b yX7_order cX7_order 3 (some .int) 3 0 0 [.ref P, .int v0, .int v1] S (fun r z => ∃ M' N', z = (S.1, M', N') ∧ zK P S.2.1 M' ∧ ∃ v : Int32, r = some (.int v)) := by
  refine zM.of miX7_order (Nat.le_of_ble_eq_true rfl) ?_
  intro p e s m args below meth c X hr hname
  generalize hF : ((fun r z => ∃ M' N', z = (S.1, M', N') ∧ zK P S.2.1 M' ∧ ∃ v : Int32, r = some (.int v)) : Option Value → zS → Prop) = FQ
  change Zw p l e { frames := 3, cells := 0, slots := 0, locals := 80 * 3 } s m args below meth c G b 3 (MQ below (zQ G b FQ) args s 0 0 (fun q : Nat => b ≤ q)) 0 0 0 [some (.ref P), some (.int v0), some (.int v1)] [] S
  obtain ⟨lt, o, tape, out, reader, list, past, pool, result, odds, paper, trial, trialPool, trialResult, trialOdds⟩ := id hT
  obtain ⟨reader_lt, reader_o, reader_draft, reader_text, reader_unitNames, reader_hunterNames, reader_partyNames, reader_asked⟩ := id reader
  obtain ⟨list_lt, list_o, list_quota, list_score, list_guest, list_party, list_wishCount, list_wishes, list_has⟩ := id list
  obtain ⟨past_lt, past_o, past_stood, past_stood0, past_stood1, past_stood2, past_stood3, past_stood4, past_stood5, past_stood6, past_stood7⟩ := id past
  obtain ⟨pool_lt, pool_o, pool_quota, pool_preferred, pool_forGuests, pool_applicantOf, pool_size, pool_guestCount, pool_score, pool_tickets, pool_bits, pool_party, pool_wishCount, pool_wishes⟩ := id pool
  obtain ⟨result_lt, result_o, result_line, result_unitOf, result_roundOf, result_leftTags, result_leftGuests, result_leftPreferred, result_ranked⟩ := id result
  obtain ⟨odds_lt, odds_o, odds_sets, odds_seen, odds_atUnit, odds_early, odds_result⟩ := id odds
  obtain ⟨paper_lt, paper_o, paper_times, paper_firstWish, paper_dry, paper_list, paper_pool, paper_result⟩ := id paper
  obtain ⟨trial_lt, trial_o, trial_quota, trial_score, trial_guest, trial_party, trial_wishCount, trial_wishes, trial_has⟩ := id trial
  obtain ⟨trialPool_lt, trialPool_o, trialPool_quota, trialPool_preferred, trialPool_forGuests, trialPool_applicantOf, trialPool_size, trialPool_guestCount, trialPool_score, trialPool_tickets, trialPool_bits, trialPool_party, trialPool_wishCount, trialPool_wishes⟩ := id trialPool
  obtain ⟨trialResult_lt, trialResult_o, trialResult_line, trialResult_unitOf, trialResult_roundOf, trialResult_leftTags, trialResult_leftGuests, trialResult_leftPreferred, trialResult_ranked⟩ := id trialResult
  obtain ⟨trialOdds_lt, trialOdds_o, trialOdds_sets, trialOdds_seen, trialOdds_atUnit, trialOdds_early, trialOdds_result⟩ := id trialOdds
  have J_11 : ∀ (x1_11 : Int32) (x2_11 : Int32) (M2 : Nat → Nat → Int32) (N2 : Nat → Nat → Int64), zK P S.2.1 M2 → Zw p l e { frames := 3, cells := 0, slots := 0, locals := 80 * 3 } s m args below meth c G b 3 (MQ below (zQ G b FQ) args s 0 0 (fun q : Nat => b ≤ q)) 0 0 11 [some (.ref (P)), some (.int x1_11), some (.int x2_11)] [] (S.1, M2, N2) := by
    intro x1_11 x2_11 M2_11 N2_11 k_11
    refine a_aload_n X dX7_order_11 rfl ?_
    refine a_iconst (v := 1) X dX7_order_12 (by decide) ?_
    refine a_callVx X dX7_order_13 miX7_refuse lm7_102 (s_X7_refuse (P := P) (by assumption)) (by assumption) rfl rfl rfl (Nat.le_of_ble_eq_true rfl) ⟨by decide, by decide, by decide, by decide⟩ (fun r_13 S_13 q_13 => ?_)
    obtain ⟨M_13, N_13, rfl, k_13, ⟨v_13, rfl⟩⟩ := q_13
    refine a_iret X hr dX7_order_16 ⟨by decide, by decide⟩ ?_
    subst hF
    exact ⟨_, _, rfl, (by (try dsimp only); repeat first | assumption | exact zK.rf | refine zK.zu ?_ (by omega) | refine zK.zu0 ?_ (by decide) | refine zK.zwr ?_ (by omega) | refine zK.zfil ?_ (by omega) | refine zK.zcpy ?_ (by omega) | refine zK.trans ?_ (by assumption) | dsimp only), ⟨_, rfl⟩⟩
  refine a_iload_n X dX7_order_0 rfl ?_
  refine a_callSx X dX7_order_1 miX7_isSeed lm7_237 (s_X7_isSeed (P := P)) rfl rfl (Nat.le_of_ble_eq_true rfl) ⟨by decide, by decide, by decide, by decide⟩ (fun r_1 S_1 q_1 => ?_)
  obtain ⟨rfl, ⟨v_1, rfl, b_1⟩⟩ := q_1
  refine a_if_eq (tgt := 11) X dX7_order_4 (by decide) (fun h_4 => ?_) (fun h_4 => ?_)
  · exact Zw.to2 (J_11 _ _ _ _ (by (try dsimp only); repeat first | assumption | exact zK.rf | refine zK.zu ?_ (by omega) | refine zK.zu0 ?_ (by decide) | refine zK.zwr ?_ (by omega) | refine zK.zfil ?_ (by omega) | refine zK.zcpy ?_ (by omega) | refine zK.trans ?_ (by assumption) | dsimp only) ) rfl rfl rfl
  · refine a_iload_n X dX7_order_7 rfl ?_
    refine a_if_ge (tgt := 17) X dX7_order_8 (by decide) (fun h_8 => ?_) (fun h_8 => ?_)
    · refine a_iload_n X dX7_order_17 rfl ?_
      refine a_aload_n X dX7_order_18 rfl ?_
      refine a_getr X lf7_40 (by assumption) rfl (by omega) dX7_order_19 ?_
      refine a_geti X lf7_140 (by assumption) rfl dX7_order_22 ?_
      refine a_icmp_lt (tgt := 34) X dX7_order_25 (by decide) (fun h_25 => ?_) (fun h_25 => ?_)
      · refine a_aload_n X dX7_order_34 rfl ?_
        refine a_getr X lf7_47 (by assumption) rfl (by omega) dX7_order_35 ?_
        refine a_aload_n X dX7_order_38 rfl ?_
        refine a_getr X lf7_40 (by assumption) rfl (by omega) dX7_order_39 ?_
        refine a_iload_n X dX7_order_42 rfl ?_
        refine a_callVx X dX7_order_43 miX5_lineUp lm7_240 (s_X5_lineUp (P := P) (by assumption) (by omega) (by assumption) (by omega)) (by assumption) rfl rfl rfl (Nat.le_of_ble_eq_true rfl) ⟨by decide, by decide, by decide, by decide⟩ (fun r_43 S_43 q_43 => ?_)
        obtain ⟨M_43, N_43, rfl, k_43, rfl⟩ := q_43
        refine a_aload_n X dX7_order_46 rfl ?_
        refine a_aload_n X dX7_order_47 rfl ?_
        refine a_getr X lf7_47 (by assumption) rfl (by omega) dX7_order_48 ?_
        refine a_getr X lf7_244 (by assumption) rfl (by omega) dX7_order_51 ?_
        refine a_iload_n X dX7_order_54 rfl ?_
        refine a_callSv X dX7_order_55 miX7_cell lm7_175 (c_cell (by assumption) (by first | decide | assumption)) rfl rfl (Nat.le_of_ble_eq_true rfl) ⟨by decide, by decide, by decide, by decide⟩ ?_
        refine a_callVx X dX7_order_58 miX7_answer lm7_134 (s_X7_answer (P := P) (by assumption)) (by assumption) rfl rfl rfl (Nat.le_of_ble_eq_true rfl) ⟨by decide, by decide, by decide, by decide⟩ (fun r_58 S_58 q_58 => ?_)
        obtain ⟨M_58, N_58, rfl, k_58, ⟨v_58, rfl⟩⟩ := q_58
        refine a_iret X hr dX7_order_61 ⟨by decide, by decide⟩ ?_
        subst hF
        exact ⟨_, _, rfl, (by (try dsimp only); repeat first | assumption | exact zK.rf | refine zK.zu ?_ (by omega) | refine zK.zu0 ?_ (by decide) | refine zK.zwr ?_ (by omega) | refine zK.zfil ?_ (by omega) | refine zK.zcpy ?_ (by omega) | refine zK.trans ?_ (by assumption) | dsimp only), ⟨_, rfl⟩⟩
      · refine a_aload_n X dX7_order_28 rfl ?_
        refine a_iconst (v := 5) X dX7_order_29 (by decide) ?_
        refine a_callVx X dX7_order_30 miX7_refuse lm7_102 (s_X7_refuse (P := P) (by assumption)) (by assumption) rfl rfl rfl (Nat.le_of_ble_eq_true rfl) ⟨by decide, by decide, by decide, by decide⟩ (fun r_30 S_30 q_30 => ?_)
        obtain ⟨M_30, N_30, rfl, k_30, ⟨v_30, rfl⟩⟩ := q_30
        refine a_iret X hr dX7_order_33 ⟨by decide, by decide⟩ ?_
        subst hF
        exact ⟨_, _, rfl, (by (try dsimp only); repeat first | assumption | exact zK.rf | refine zK.zu ?_ (by omega) | refine zK.zu0 ?_ (by decide) | refine zK.zwr ?_ (by omega) | refine zK.zfil ?_ (by omega) | refine zK.zcpy ?_ (by omega) | refine zK.trans ?_ (by assumption) | dsimp only), ⟨_, rfl⟩⟩
    · exact Zw.to2 (J_11 _ _ _ _ (by (try dsimp only); repeat first | assumption | exact zK.rf | refine zK.zu ?_ (by omega) | refine zK.zu0 ?_ (by decide) | refine zK.zwr ?_ (by omega) | refine zK.zfil ?_ (by omega) | refine zK.zcpy ?_ (by omega) | refine zK.trans ?_ (by assumption) | dsimp only) ) rfl rfl rfl
set_option maxRecDepth 100000 in
theorem s_X7_drawn {l : Launch} {G : zG} {b : Nat} {S : zS} {P : Nat} {v0 : Int32} {v1 : Int32} (hT : LX7 S.1 P) : zM l G b yX7_drawn cX7_drawn 4 (some .int) 5 0 0 [.ref P, .int v0, .int v1] S (fun r z => ∃ M' N', z = (S.1, M', N') ∧ zK P S.2.1 M' ∧ ∃ v : Int32, r = some (.int v)) := by
  refine zM.of miX7_drawn (Nat.le_of_ble_eq_true rfl) ?_
  intro p e s m args below meth c X hr hname
  generalize hF : ((fun r z => ∃ M' N', z = (S.1, M', N') ∧ zK P S.2.1 M' ∧ ∃ v : Int32, r = some (.int v)) : Option Value → zS → Prop) = FQ
  change Zw p l e { frames := 5, cells := 0, slots := 0, locals := 80 * 5 } s m args below meth c G b 4 (MQ below (zQ G b FQ) args s 0 0 (fun q : Nat => b ≤ q)) 0 0 0 [some (.ref P), some (.int v0), some (.int v1), none] [] S
  obtain ⟨lt, o, tape, out, reader, list, past, pool, result, odds, paper, trial, trialPool, trialResult, trialOdds⟩ := id hT
  obtain ⟨reader_lt, reader_o, reader_draft, reader_text, reader_unitNames, reader_hunterNames, reader_partyNames, reader_asked⟩ := id reader
  obtain ⟨list_lt, list_o, list_quota, list_score, list_guest, list_party, list_wishCount, list_wishes, list_has⟩ := id list
  obtain ⟨past_lt, past_o, past_stood, past_stood0, past_stood1, past_stood2, past_stood3, past_stood4, past_stood5, past_stood6, past_stood7⟩ := id past
  obtain ⟨pool_lt, pool_o, pool_quota, pool_preferred, pool_forGuests, pool_applicantOf, pool_size, pool_guestCount, pool_score, pool_tickets, pool_bits, pool_party, pool_wishCount, pool_wishes⟩ := id pool
  obtain ⟨result_lt, result_o, result_line, result_unitOf, result_roundOf, result_leftTags, result_leftGuests, result_leftPreferred, result_ranked⟩ := id result
  obtain ⟨odds_lt, odds_o, odds_sets, odds_seen, odds_atUnit, odds_early, odds_result⟩ := id odds
  obtain ⟨paper_lt, paper_o, paper_times, paper_firstWish, paper_dry, paper_list, paper_pool, paper_result⟩ := id paper
  obtain ⟨trial_lt, trial_o, trial_quota, trial_score, trial_guest, trial_party, trial_wishCount, trial_wishes, trial_has⟩ := id trial
  obtain ⟨trialPool_lt, trialPool_o, trialPool_quota, trialPool_preferred, trialPool_forGuests, trialPool_applicantOf, trialPool_size, trialPool_guestCount, trialPool_score, trialPool_tickets, trialPool_bits, trialPool_party, trialPool_wishCount, trialPool_wishes⟩ := id trialPool
  obtain ⟨trialResult_lt, trialResult_o, trialResult_line, trialResult_unitOf, trialResult_roundOf, trialResult_leftTags, trialResult_leftGuests, trialResult_leftPreferred, trialResult_ranked⟩ := id trialResult
  obtain ⟨trialOdds_lt, trialOdds_o, trialOdds_sets, trialOdds_seen, trialOdds_atUnit, trialOdds_early, trialOdds_result⟩ := id trialOdds
  have J_69 : ∀ (x1_69 : Int32) (x2_69 : Int32) (x3_69 : Int32) (y0_69 : Int32) (M2 : Nat → Nat → Int32) (N2 : Nat → Nat → Int64), zK P S.2.1 M2 → Zw p l e { frames := 5, cells := 0, slots := 0, locals := 80 * 5 } s m args below meth c G b 4 (MQ below (zQ G b FQ) args s 0 0 (fun q : Nat => b ≤ q)) 0 0 69 [some (.ref (P)), some (.int x1_69), some (.int x2_69), some (.int x3_69)] [(.int y0_69)] (S.1, M2, N2) := by
    intro x1_69 x2_69 x3_69 y0_69 M2_69 N2_69 k_69
    refine a_iret X hr dX7_drawn_69 ⟨by decide, by decide⟩ ?_
    subst hF
    exact ⟨_, _, rfl, (by (try dsimp only); repeat first | assumption | exact zK.rf | refine zK.zu ?_ (by omega) | refine zK.zu0 ?_ (by decide) | refine zK.zwr ?_ (by omega) | refine zK.zfil ?_ (by omega) | refine zK.zcpy ?_ (by omega) | refine zK.trans ?_ (by assumption) | dsimp only), ⟨_, rfl⟩⟩
  refine a_iload_n X dX7_drawn_0 rfl ?_
  refine a_callSx X dX7_drawn_1 miX7_isSeed lm7_237 (s_X7_isSeed (P := P)) rfl rfl (Nat.le_of_ble_eq_true rfl) ⟨by decide, by decide, by decide, by decide⟩ (fun r_1 S_1 q_1 => ?_)
  obtain ⟨rfl, ⟨v_1, rfl, b_1⟩⟩ := q_1
  refine a_if_ne (tgt := 13) X dX7_drawn_4 (by decide) (fun h_4 => ?_) (fun h_4 => ?_)
  · refine a_aload_n X dX7_drawn_13 rfl ?_
    refine a_iload_n X dX7_drawn_14 rfl ?_
    refine a_callVx X dX7_drawn_15 miX7_isApplicant lm7_206 (s_X7_isApplicant (P := P) (by assumption)) (by assumption) rfl rfl rfl (Nat.le_of_ble_eq_true rfl) ⟨by decide, by decide, by decide, by decide⟩ (fun r_15 S_15 q_15 => ?_)
    obtain ⟨rfl, ⟨v_15, rfl, b_15⟩⟩ := q_15
    refine a_if_ne (tgt := 27) X dX7_drawn_18 (by decide) (fun h_18 => ?_) (fun h_18 => ?_)
    · refine a_aload_n X dX7_drawn_27 rfl ?_
      refine a_getr X lf7_47 (by assumption) rfl (by omega) dX7_drawn_28 ?_
      refine a_aload_n X dX7_drawn_31 rfl ?_
      refine a_getr X lf7_40 (by assumption) rfl (by omega) dX7_drawn_32 ?_
      refine a_iload_n X dX7_drawn_35 rfl ?_
      refine a_callVx X dX7_drawn_36 miX5_bySeed lm7_247 (s_X5_bySeed (P := P) (by assumption) (by omega) (by assumption) (by omega)) (by assumption) rfl rfl rfl (Nat.le_of_ble_eq_true rfl) ⟨by decide, by decide, by decide, by decide⟩ (fun r_36 S_36 q_36 => ?_)
      obtain ⟨M_36, N_36, rfl, k_36, rfl⟩ := q_36
      refine a_aload_n X dX7_drawn_39 rfl ?_
      refine a_getr X lf7_47 (by assumption) rfl (by omega) dX7_drawn_40 ?_
      refine a_getr X lf7_250 (by assumption) rfl (by omega) dX7_drawn_43 ?_
      refine a_iload_n X dX7_drawn_46 rfl ?_
      refine a_callSv X dX7_drawn_47 miX7_cell lm7_175 (c_cell (by assumption) (by first | decide | assumption)) rfl rfl (Nat.le_of_ble_eq_true rfl) ⟨by decide, by decide, by decide, by decide⟩ ?_
      refine a_istore_n X dX7_drawn_50 (by decide) ?_
      refine a_iload_n X dX7_drawn_51 rfl ?_
      refine a_iconst (v := -1) X dX7_drawn_52 (by decide) ?_
      refine a_icmp_ne (tgt := 64) X dX7_drawn_53 (by decide) (fun h_53 => ?_) (fun h_53 => ?_)
      · refine a_aload_n X dX7_drawn_64 rfl ?_
        refine a_iload_n X dX7_drawn_65 rfl ?_
        refine a_callVx X dX7_drawn_66 miX7_answer lm7_134 (s_X7_answer (P := P) (by assumption)) (by assumption) rfl rfl rfl (Nat.le_of_ble_eq_true rfl) ⟨by decide, by decide, by decide, by decide⟩ (fun r_66 S_66 q_66 => ?_)
        obtain ⟨M_66, N_66, rfl, k_66, ⟨v_66, rfl⟩⟩ := q_66
        exact Zw.to2 (J_69 _ _ _ _ _ _ (by (try dsimp only); repeat first | assumption | exact zK.rf | refine zK.zu ?_ (by omega) | refine zK.zu0 ?_ (by decide) | refine zK.zwr ?_ (by omega) | refine zK.zfil ?_ (by omega) | refine zK.zcpy ?_ (by omega) | refine zK.trans ?_ (by assumption) | dsimp only) ) rfl rfl rfl
      · refine a_aload_n X dX7_drawn_56 rfl ?_
        refine a_iconst (v := 5) X dX7_drawn_57 (by decide) ?_
        refine a_callVx X dX7_drawn_58 miX7_refuse lm7_102 (s_X7_refuse (P := P) (by assumption)) (by assumption) rfl rfl rfl (Nat.le_of_ble_eq_true rfl) ⟨by decide, by decide, by decide, by decide⟩ (fun r_58 S_58 q_58 => ?_)
        obtain ⟨M_58, N_58, rfl, k_58, ⟨v_58, rfl⟩⟩ := q_58
        refine a_goto (tgt := 69) X dX7_drawn_61 (by decide) ?_
        exact Zw.to2 (J_69 _ _ _ _ _ _ (by (try dsimp only); repeat first | assumption | exact zK.rf | refine zK.zu ?_ (by omega) | refine zK.zu0 ?_ (by decide) | refine zK.zwr ?_ (by omega) | refine zK.zfil ?_ (by omega) | refine zK.zcpy ?_ (by omega) | refine zK.trans ?_ (by assumption) | dsimp only) ) rfl rfl rfl
    · refine a_aload_n X dX7_drawn_21 rfl ?_
      refine a_iconst (v := 2) X dX7_drawn_22 (by decide) ?_
      refine a_callVx X dX7_drawn_23 miX7_refuse lm7_102 (s_X7_refuse (P := P) (by assumption)) (by assumption) rfl rfl rfl (Nat.le_of_ble_eq_true rfl) ⟨by decide, by decide, by decide, by decide⟩ (fun r_23 S_23 q_23 => ?_)
      obtain ⟨M_23, N_23, rfl, k_23, ⟨v_23, rfl⟩⟩ := q_23
      refine a_iret X hr dX7_drawn_26 ⟨by decide, by decide⟩ ?_
      subst hF
      exact ⟨_, _, rfl, (by (try dsimp only); repeat first | assumption | exact zK.rf | refine zK.zu ?_ (by omega) | refine zK.zu0 ?_ (by decide) | refine zK.zwr ?_ (by omega) | refine zK.zfil ?_ (by omega) | refine zK.zcpy ?_ (by omega) | refine zK.trans ?_ (by assumption) | dsimp only), ⟨_, rfl⟩⟩
  · refine a_aload_n X dX7_drawn_7 rfl ?_
    refine a_iconst (v := 1) X dX7_drawn_8 (by decide) ?_
    refine a_callVx X dX7_drawn_9 miX7_refuse lm7_102 (s_X7_refuse (P := P) (by assumption)) (by assumption) rfl rfl rfl (Nat.le_of_ble_eq_true rfl) ⟨by decide, by decide, by decide, by decide⟩ (fun r_9 S_9 q_9 => ?_)
    obtain ⟨M_9, N_9, rfl, k_9, ⟨v_9, rfl⟩⟩ := q_9
    refine a_iret X hr dX7_drawn_12 ⟨by decide, by decide⟩ ?_
    subst hF
    exact ⟨_, _, rfl, (by (try dsimp only); repeat first | assumption | exact zK.rf | refine zK.zu ?_ (by omega) | refine zK.zu0 ?_ (by decide) | refine zK.zwr ?_ (by omega) | refine zK.zfil ?_ (by omega) | refine zK.zcpy ?_ (by omega) | refine zK.trans ?_ (by assumption) | dsimp only), ⟨_, rfl⟩⟩
set_option maxRecDepth 100000 in
theorem s_X7_round {l : Launch} {G : zG} {b : Nat} {S : zS} {P : Nat} {v0 : Int32} {v1 : Int32} (hT : LX7 S.1 P) : zM l G b yX7_round cX7_round 3 (some .int) 5 0 0 [.ref P, .int v0, .int v1] S (fun r z => ∃ M' N', z = (S.1, M', N') ∧ zK P S.2.1 M' ∧ ∃ v : Int32, r = some (.int v)) := by
  refine zM.of miX7_round (Nat.le_of_ble_eq_true rfl) ?_
  intro p e s m args below meth c X hr hname
  generalize hF : ((fun r z => ∃ M' N', z = (S.1, M', N') ∧ zK P S.2.1 M' ∧ ∃ v : Int32, r = some (.int v)) : Option Value → zS → Prop) = FQ
  change Zw p l e { frames := 5, cells := 0, slots := 0, locals := 80 * 5 } s m args below meth c G b 3 (MQ below (zQ G b FQ) args s 0 0 (fun q : Nat => b ≤ q)) 0 0 0 [some (.ref P), some (.int v0), some (.int v1)] [] S
  obtain ⟨lt, o, tape, out, reader, list, past, pool, result, odds, paper, trial, trialPool, trialResult, trialOdds⟩ := id hT
  obtain ⟨reader_lt, reader_o, reader_draft, reader_text, reader_unitNames, reader_hunterNames, reader_partyNames, reader_asked⟩ := id reader
  obtain ⟨list_lt, list_o, list_quota, list_score, list_guest, list_party, list_wishCount, list_wishes, list_has⟩ := id list
  obtain ⟨past_lt, past_o, past_stood, past_stood0, past_stood1, past_stood2, past_stood3, past_stood4, past_stood5, past_stood6, past_stood7⟩ := id past
  obtain ⟨pool_lt, pool_o, pool_quota, pool_preferred, pool_forGuests, pool_applicantOf, pool_size, pool_guestCount, pool_score, pool_tickets, pool_bits, pool_party, pool_wishCount, pool_wishes⟩ := id pool
  obtain ⟨result_lt, result_o, result_line, result_unitOf, result_roundOf, result_leftTags, result_leftGuests, result_leftPreferred, result_ranked⟩ := id result
  obtain ⟨odds_lt, odds_o, odds_sets, odds_seen, odds_atUnit, odds_early, odds_result⟩ := id odds
  obtain ⟨paper_lt, paper_o, paper_times, paper_firstWish, paper_dry, paper_list, paper_pool, paper_result⟩ := id paper
  obtain ⟨trial_lt, trial_o, trial_quota, trial_score, trial_guest, trial_party, trial_wishCount, trial_wishes, trial_has⟩ := id trial
  obtain ⟨trialPool_lt, trialPool_o, trialPool_quota, trialPool_preferred, trialPool_forGuests, trialPool_applicantOf, trialPool_size, trialPool_guestCount, trialPool_score, trialPool_tickets, trialPool_bits, trialPool_party, trialPool_wishCount, trialPool_wishes⟩ := id trialPool
  obtain ⟨trialResult_lt, trialResult_o, trialResult_line, trialResult_unitOf, trialResult_roundOf, trialResult_leftTags, trialResult_leftGuests, trialResult_leftPreferred, trialResult_ranked⟩ := id trialResult
  obtain ⟨trialOdds_lt, trialOdds_o, trialOdds_sets, trialOdds_seen, trialOdds_atUnit, trialOdds_early, trialOdds_result⟩ := id trialOdds
  have J_77 : ∀ (x1_77 : Int32) (x2_77 : Int32) (y0_77 : Int32) (M2 : Nat → Nat → Int32) (N2 : Nat → Nat → Int64), zK P S.2.1 M2 → Zw p l e { frames := 5, cells := 0, slots := 0, locals := 80 * 5 } s m args below meth c G b 3 (MQ below (zQ G b FQ) args s 0 0 (fun q : Nat => b ≤ q)) 0 0 77 [some (.ref (P)), some (.int x1_77), some (.int x2_77)] [(.int y0_77)] (S.1, M2, N2) := by
    intro x1_77 x2_77 y0_77 M2_77 N2_77 k_77
    refine a_iret X hr dX7_round_77 ⟨by decide, by decide⟩ ?_
    subst hF
    exact ⟨_, _, rfl, (by (try dsimp only); repeat first | assumption | exact zK.rf | refine zK.zu ?_ (by omega) | refine zK.zu0 ?_ (by decide) | refine zK.zwr ?_ (by omega) | refine zK.zfil ?_ (by omega) | refine zK.zcpy ?_ (by omega) | refine zK.trans ?_ (by assumption) | dsimp only), ⟨_, rfl⟩⟩
  refine a_iload_n X dX7_round_0 rfl ?_
  refine a_callSx X dX7_round_1 miX7_isSeed lm7_237 (s_X7_isSeed (P := P)) rfl rfl (Nat.le_of_ble_eq_true rfl) ⟨by decide, by decide, by decide, by decide⟩ (fun r_1 S_1 q_1 => ?_)
  obtain ⟨rfl, ⟨v_1, rfl, b_1⟩⟩ := q_1
  refine a_if_ne (tgt := 13) X dX7_round_4 (by decide) (fun h_4 => ?_) (fun h_4 => ?_)
  · refine a_aload_n X dX7_round_13 rfl ?_
    refine a_iload_n X dX7_round_14 rfl ?_
    refine a_callVx X dX7_round_15 miX7_isApplicant lm7_206 (s_X7_isApplicant (P := P) (by assumption)) (by assumption) rfl rfl rfl (Nat.le_of_ble_eq_true rfl) ⟨by decide, by decide, by decide, by decide⟩ (fun r_15 S_15 q_15 => ?_)
    obtain ⟨rfl, ⟨v_15, rfl, b_15⟩⟩ := q_15
    refine a_if_ne (tgt := 27) X dX7_round_18 (by decide) (fun h_18 => ?_) (fun h_18 => ?_)
    · refine a_aload_n X dX7_round_27 rfl ?_
      refine a_getr X lf7_47 (by assumption) rfl (by omega) dX7_round_28 ?_
      refine a_aload_n X dX7_round_31 rfl ?_
      refine a_getr X lf7_40 (by assumption) rfl (by omega) dX7_round_32 ?_
      refine a_iload_n X dX7_round_35 rfl ?_
      refine a_callVx X dX7_round_36 miX5_bySeed lm7_247 (s_X5_bySeed (P := P) (by assumption) (by omega) (by assumption) (by omega)) (by assumption) rfl rfl rfl (Nat.le_of_ble_eq_true rfl) ⟨by decide, by decide, by decide, by decide⟩ (fun r_36 S_36 q_36 => ?_)
      obtain ⟨M_36, N_36, rfl, k_36, rfl⟩ := q_36
      refine a_aload_n X dX7_round_39 rfl ?_
      refine a_getr X lf7_47 (by assumption) rfl (by omega) dX7_round_40 ?_
      refine a_getr X lf7_250 (by assumption) rfl (by omega) dX7_round_43 ?_
      refine a_iload_n X dX7_round_46 rfl ?_
      refine a_callSv X dX7_round_47 miX7_cell lm7_175 (c_cell (by assumption) (by first | decide | assumption)) rfl rfl (Nat.le_of_ble_eq_true rfl) ⟨by decide, by decide, by decide, by decide⟩ ?_
      refine a_iconst (v := -1) X dX7_round_50 (by decide) ?_
      refine a_icmp_ne (tgt := 62) X dX7_round_51 (by decide) (fun h_51 => ?_) (fun h_51 => ?_)
      · refine a_aload_n X dX7_round_62 rfl ?_
        refine a_aload_n X dX7_round_63 rfl ?_
        refine a_getr X lf7_47 (by assumption) rfl (by omega) dX7_round_64 ?_
        refine a_getr X lf7_253 (by assumption) rfl (by omega) dX7_round_67 ?_
        refine a_iload_n X dX7_round_70 rfl ?_
        refine a_callSv X dX7_round_71 miX7_cell lm7_175 (c_cell (by assumption) (by first | decide | assumption)) rfl rfl (Nat.le_of_ble_eq_true rfl) ⟨by decide, by decide, by decide, by decide⟩ ?_
        refine a_callVx X dX7_round_74 miX7_answer lm7_134 (s_X7_answer (P := P) (by assumption)) (by assumption) rfl rfl rfl (Nat.le_of_ble_eq_true rfl) ⟨by decide, by decide, by decide, by decide⟩ (fun r_74 S_74 q_74 => ?_)
        obtain ⟨M_74, N_74, rfl, k_74, ⟨v_74, rfl⟩⟩ := q_74
        exact Zw.to2 (J_77 _ _ _ _ _ (by (try dsimp only); repeat first | assumption | exact zK.rf | refine zK.zu ?_ (by omega) | refine zK.zu0 ?_ (by decide) | refine zK.zwr ?_ (by omega) | refine zK.zfil ?_ (by omega) | refine zK.zcpy ?_ (by omega) | refine zK.trans ?_ (by assumption) | dsimp only) ) rfl rfl rfl
      · refine a_aload_n X dX7_round_54 rfl ?_
        refine a_iconst (v := 5) X dX7_round_55 (by decide) ?_
        refine a_callVx X dX7_round_56 miX7_refuse lm7_102 (s_X7_refuse (P := P) (by assumption)) (by assumption) rfl rfl rfl (Nat.le_of_ble_eq_true rfl) ⟨by decide, by decide, by decide, by decide⟩ (fun r_56 S_56 q_56 => ?_)
        obtain ⟨M_56, N_56, rfl, k_56, ⟨v_56, rfl⟩⟩ := q_56
        refine a_goto (tgt := 77) X dX7_round_59 (by decide) ?_
        exact Zw.to2 (J_77 _ _ _ _ _ (by (try dsimp only); repeat first | assumption | exact zK.rf | refine zK.zu ?_ (by omega) | refine zK.zu0 ?_ (by decide) | refine zK.zwr ?_ (by omega) | refine zK.zfil ?_ (by omega) | refine zK.zcpy ?_ (by omega) | refine zK.trans ?_ (by assumption) | dsimp only) ) rfl rfl rfl
    · refine a_aload_n X dX7_round_21 rfl ?_
      refine a_iconst (v := 2) X dX7_round_22 (by decide) ?_
      refine a_callVx X dX7_round_23 miX7_refuse lm7_102 (s_X7_refuse (P := P) (by assumption)) (by assumption) rfl rfl rfl (Nat.le_of_ble_eq_true rfl) ⟨by decide, by decide, by decide, by decide⟩ (fun r_23 S_23 q_23 => ?_)
      obtain ⟨M_23, N_23, rfl, k_23, ⟨v_23, rfl⟩⟩ := q_23
      refine a_iret X hr dX7_round_26 ⟨by decide, by decide⟩ ?_
      subst hF
      exact ⟨_, _, rfl, (by (try dsimp only); repeat first | assumption | exact zK.rf | refine zK.zu ?_ (by omega) | refine zK.zu0 ?_ (by decide) | refine zK.zwr ?_ (by omega) | refine zK.zfil ?_ (by omega) | refine zK.zcpy ?_ (by omega) | refine zK.trans ?_ (by assumption) | dsimp only), ⟨_, rfl⟩⟩
  · refine a_aload_n X dX7_round_7 rfl ?_
    refine a_iconst (v := 1) X dX7_round_8 (by decide) ?_
    refine a_callVx X dX7_round_9 miX7_refuse lm7_102 (s_X7_refuse (P := P) (by assumption)) (by assumption) rfl rfl rfl (Nat.le_of_ble_eq_true rfl) ⟨by decide, by decide, by decide, by decide⟩ (fun r_9 S_9 q_9 => ?_)
    obtain ⟨M_9, N_9, rfl, k_9, ⟨v_9, rfl⟩⟩ := q_9
    refine a_iret X hr dX7_round_12 ⟨by decide, by decide⟩ ?_
    subst hF
    exact ⟨_, _, rfl, (by (try dsimp only); repeat first | assumption | exact zK.rf | refine zK.zu ?_ (by omega) | refine zK.zu0 ?_ (by decide) | refine zK.zwr ?_ (by omega) | refine zK.zfil ?_ (by omega) | refine zK.zcpy ?_ (by omega) | refine zK.trans ?_ (by assumption) | dsimp only), ⟨_, rfl⟩⟩
set_option maxRecDepth 100000 in
theorem s_X7_left {l : Launch} {G : zG} {b : Nat} {S : zS} {P : Nat} {v0 : Int32} {v1 : Int32} {v2 : Int32} (hT : LX7 S.1 P) : zM l G b yX7_left cX7_left 5 (some .int) 5 0 0 [.ref P, .int v0, .int v1, .int v2] S (fun r z => ∃ M' N', z = (S.1, M', N') ∧ zK P S.2.1 M' ∧ ∃ v : Int32, r = some (.int v)) := by
  refine zM.of miX7_left (Nat.le_of_ble_eq_true rfl) ?_
  intro p e s m args below meth c X hr hname
  generalize hF : ((fun r z => ∃ M' N', z = (S.1, M', N') ∧ zK P S.2.1 M' ∧ ∃ v : Int32, r = some (.int v)) : Option Value → zS → Prop) = FQ
  change Zw p l e { frames := 5, cells := 0, slots := 0, locals := 80 * 5 } s m args below meth c G b 5 (MQ below (zQ G b FQ) args s 0 0 (fun q : Nat => b ≤ q)) 0 0 0 [some (.ref P), some (.int v0), some (.int v1), some (.int v2), none] [] S
  obtain ⟨lt, o, tape, out, reader, list, past, pool, result, odds, paper, trial, trialPool, trialResult, trialOdds⟩ := id hT
  obtain ⟨reader_lt, reader_o, reader_draft, reader_text, reader_unitNames, reader_hunterNames, reader_partyNames, reader_asked⟩ := id reader
  obtain ⟨list_lt, list_o, list_quota, list_score, list_guest, list_party, list_wishCount, list_wishes, list_has⟩ := id list
  obtain ⟨past_lt, past_o, past_stood, past_stood0, past_stood1, past_stood2, past_stood3, past_stood4, past_stood5, past_stood6, past_stood7⟩ := id past
  obtain ⟨pool_lt, pool_o, pool_quota, pool_preferred, pool_forGuests, pool_applicantOf, pool_size, pool_guestCount, pool_score, pool_tickets, pool_bits, pool_party, pool_wishCount, pool_wishes⟩ := id pool
  obtain ⟨result_lt, result_o, result_line, result_unitOf, result_roundOf, result_leftTags, result_leftGuests, result_leftPreferred, result_ranked⟩ := id result
  obtain ⟨odds_lt, odds_o, odds_sets, odds_seen, odds_atUnit, odds_early, odds_result⟩ := id odds
  obtain ⟨paper_lt, paper_o, paper_times, paper_firstWish, paper_dry, paper_list, paper_pool, paper_result⟩ := id paper
  obtain ⟨trial_lt, trial_o, trial_quota, trial_score, trial_guest, trial_party, trial_wishCount, trial_wishes, trial_has⟩ := id trial
  obtain ⟨trialPool_lt, trialPool_o, trialPool_quota, trialPool_preferred, trialPool_forGuests, trialPool_applicantOf, trialPool_size, trialPool_guestCount, trialPool_score, trialPool_tickets, trialPool_bits, trialPool_party, trialPool_wishCount, trialPool_wishes⟩ := id trialPool
  obtain ⟨trialResult_lt, trialResult_o, trialResult_line, trialResult_unitOf, trialResult_roundOf, trialResult_leftTags, trialResult_leftGuests, trialResult_leftPreferred, trialResult_ranked⟩ := id trialResult
  obtain ⟨trialOdds_lt, trialOdds_o, trialOdds_sets, trialOdds_seen, trialOdds_atUnit, trialOdds_early, trialOdds_result⟩ := id trialOdds
  have J_159 : ∀ (x1_159 : Int32) (x2_159 : Int32) (x3_159 : Int32) (x4_159 : Int32) (y0_159 : Int32) (M2 : Nat → Nat → Int32) (N2 : Nat → Nat → Int64), zK P S.2.1 M2 → Zw p l e { frames := 5, cells := 0, slots := 0, locals := 80 * 5 } s m args below meth c G b 5 (MQ below (zQ G b FQ) args s 0 0 (fun q : Nat => b ≤ q)) 0 0 159 [some (.ref (P)), some (.int x1_159), some (.int x2_159), some (.int x3_159), some (.int x4_159)] [(.int y0_159)] (S.1, M2, N2) := by
    intro x1_159 x2_159 x3_159 x4_159 y0_159 M2_159 N2_159 k_159
    refine a_iret X hr dX7_left_159 ⟨by decide, by decide⟩ ?_
    subst hF
    exact ⟨_, _, rfl, (by (try dsimp only); repeat first | assumption | exact zK.rf | refine zK.zu ?_ (by omega) | refine zK.zu0 ?_ (by decide) | refine zK.zwr ?_ (by omega) | refine zK.zfil ?_ (by omega) | refine zK.zcpy ?_ (by omega) | refine zK.trans ?_ (by assumption) | dsimp only), ⟨_, rfl⟩⟩
  have J_16 : ∀ (x1_16 : Int32) (x2_16 : Int32) (x3_16 : Int32) (x4_16 : Option Value) (M2 : Nat → Nat → Int32) (N2 : Nat → Nat → Int64), zK P S.2.1 M2 → Zw p l e { frames := 5, cells := 0, slots := 0, locals := 80 * 5 } s m args below meth c G b 5 (MQ below (zQ G b FQ) args s 0 0 (fun q : Nat => b ≤ q)) 0 0 16 [some (.ref (P)), some (.int x1_16), some (.int x2_16), some (.int x3_16), x4_16] [] (S.1, M2, N2) := by
    intro x1_16 x2_16 x3_16 x4_16 M2_16 N2_16 k_16
    refine a_aload_n X dX7_left_16 rfl ?_
    refine a_iconst (v := 1) X dX7_left_17 (by decide) ?_
    refine a_callVx X dX7_left_18 miX7_refuse lm7_102 (s_X7_refuse (P := P) (by assumption)) (by assumption) rfl rfl rfl (Nat.le_of_ble_eq_true rfl) ⟨by decide, by decide, by decide, by decide⟩ (fun r_18 S_18 q_18 => ?_)
    obtain ⟨M_18, N_18, rfl, k_18, ⟨v_18, rfl⟩⟩ := q_18
    refine a_iret X hr dX7_left_21 ⟨by decide, by decide⟩ ?_
    subst hF
    exact ⟨_, _, rfl, (by (try dsimp only); repeat first | assumption | exact zK.rf | refine zK.zu ?_ (by omega) | refine zK.zu0 ?_ (by decide) | refine zK.zwr ?_ (by omega) | refine zK.zfil ?_ (by omega) | refine zK.zcpy ?_ (by omega) | refine zK.trans ?_ (by assumption) | dsimp only), ⟨_, rfl⟩⟩
  refine a_iload_n X dX7_left_0 rfl ?_
  refine a_callSx X dX7_left_1 miX7_isSeed lm7_237 (s_X7_isSeed (P := P)) rfl rfl (Nat.le_of_ble_eq_true rfl) ⟨by decide, by decide, by decide, by decide⟩ (fun r_1 S_1 q_1 => ?_)
  obtain ⟨rfl, ⟨v_1, rfl, b_1⟩⟩ := q_1
  refine a_if_eq (tgt := 16) X dX7_left_4 (by decide) (fun h_4 => ?_) (fun h_4 => ?_)
  · exact Zw.to2 (J_16 _ _ _ _ _ _ (by (try dsimp only); repeat first | assumption | exact zK.rf | refine zK.zu ?_ (by omega) | refine zK.zu0 ?_ (by decide) | refine zK.zwr ?_ (by omega) | refine zK.zfil ?_ (by omega) | refine zK.zcpy ?_ (by omega) | refine zK.trans ?_ (by assumption) | dsimp only) ) rfl rfl rfl
  · refine a_iload_n X dX7_left_7 rfl ?_
    refine a_if_lt (tgt := 16) X dX7_left_8 (by decide) (fun h_8 => ?_) (fun h_8 => ?_)
    · exact Zw.to2 (J_16 _ _ _ _ _ _ (by (try dsimp only); repeat first | assumption | exact zK.rf | refine zK.zu ?_ (by omega) | refine zK.zu0 ?_ (by decide) | refine zK.zwr ?_ (by omega) | refine zK.zfil ?_ (by omega) | refine zK.zcpy ?_ (by omega) | refine zK.trans ?_ (by assumption) | dsimp only) ) rfl rfl rfl
    · refine a_iload_n X dX7_left_11 rfl ?_
      refine a_iconst (v := 3) X dX7_left_12 (by decide) ?_
      refine a_icmp_le (tgt := 22) X dX7_left_13 (by decide) (fun h_13 => ?_) (fun h_13 => ?_)
      · refine a_aload_n X dX7_left_22 rfl ?_
        refine a_iload_n X dX7_left_23 rfl ?_
        refine a_callVx X dX7_left_24 miX7_isUnit lm7_188 (s_X7_isUnit (P := P) (by assumption)) (by assumption) rfl rfl rfl (Nat.le_of_ble_eq_true rfl) ⟨by decide, by decide, by decide, by decide⟩ (fun r_24 S_24 q_24 => ?_)
        obtain ⟨rfl, ⟨v_24, rfl, b_24⟩⟩ := q_24
        refine a_if_ne (tgt := 36) X dX7_left_27 (by decide) (fun h_27 => ?_) (fun h_27 => ?_)
        · refine a_aload_n X dX7_left_36 rfl ?_
          refine a_getr X lf7_47 (by assumption) rfl (by omega) dX7_left_37 ?_
          refine a_aload_n X dX7_left_40 rfl ?_
          refine a_getr X lf7_40 (by assumption) rfl (by omega) dX7_left_41 ?_
          refine a_iload_n X dX7_left_44 rfl ?_
          refine a_callVx X dX7_left_45 miX5_bySeed lm7_247 (s_X5_bySeed (P := P) (by assumption) (by omega) (by assumption) (by omega)) (by assumption) rfl rfl rfl (Nat.le_of_ble_eq_true rfl) ⟨by decide, by decide, by decide, by decide⟩ (fun r_45 S_45 q_45 => ?_)
          obtain ⟨M_45, N_45, rfl, k_45, rfl⟩ := q_45
          refine a_iload_n X dX7_left_48 rfl ?_
          refine a_tsw (tg := [76, 92, 108]) (td := 125) X dX7_left_49 (by decide +kernel) (by decide) (by decide) (fun k_49 t_49 ht_49 hx_49 => ?_) (fun h_49 => ?_)
          · match k_49, ht_49, hx_49 with
            | 0, ht_49, hx_49 =>
              cases ht_49
              refine a_aload_n X dX7_left_76 rfl ?_
              refine a_aload_n X dX7_left_77 rfl ?_
              refine a_getr X lf7_47 (by assumption) rfl (by omega) dX7_left_78 ?_
              refine a_getr X lf7_256 (by assumption) rfl (by omega) dX7_left_81 ?_
              refine a_iload_n X dX7_left_84 rfl ?_
              refine a_callSv X dX7_left_85 miX7_cell lm7_175 (c_cell (by assumption) (by first | decide | assumption)) rfl rfl (Nat.le_of_ble_eq_true rfl) ⟨by decide, by decide, by decide, by decide⟩ ?_
              refine a_callVx X dX7_left_88 miX7_answer lm7_134 (s_X7_answer (P := P) (by assumption)) (by assumption) rfl rfl rfl (Nat.le_of_ble_eq_true rfl) ⟨by decide, by decide, by decide, by decide⟩ (fun r_88 S_88 q_88 => ?_)
              obtain ⟨M_88, N_88, rfl, k_88, ⟨v_88, rfl⟩⟩ := q_88
              refine a_iret X hr dX7_left_91 ⟨by decide, by decide⟩ ?_
              subst hF
              exact ⟨_, _, rfl, (by (try dsimp only); repeat first | assumption | exact zK.rf | refine zK.zu ?_ (by omega) | refine zK.zu0 ?_ (by decide) | refine zK.zwr ?_ (by omega) | refine zK.zfil ?_ (by omega) | refine zK.zcpy ?_ (by omega) | refine zK.trans ?_ (by assumption) | dsimp only), ⟨_, rfl⟩⟩
            | 1, ht_49, hx_49 =>
              cases ht_49
              refine a_aload_n X dX7_left_92 rfl ?_
              refine a_aload_n X dX7_left_93 rfl ?_
              refine a_getr X lf7_47 (by assumption) rfl (by omega) dX7_left_94 ?_
              refine a_getr X lf7_259 (by assumption) rfl (by omega) dX7_left_97 ?_
              refine a_iload_n X dX7_left_100 rfl ?_
              refine a_callSv X dX7_left_101 miX7_cell lm7_175 (c_cell (by assumption) (by first | decide | assumption)) rfl rfl (Nat.le_of_ble_eq_true rfl) ⟨by decide, by decide, by decide, by decide⟩ ?_
              refine a_callVx X dX7_left_104 miX7_answer lm7_134 (s_X7_answer (P := P) (by assumption)) (by assumption) rfl rfl rfl (Nat.le_of_ble_eq_true rfl) ⟨by decide, by decide, by decide, by decide⟩ (fun r_104 S_104 q_104 => ?_)
              obtain ⟨M_104, N_104, rfl, k_104, ⟨v_104, rfl⟩⟩ := q_104
              refine a_iret X hr dX7_left_107 ⟨by decide, by decide⟩ ?_
              subst hF
              exact ⟨_, _, rfl, (by (try dsimp only); repeat first | assumption | exact zK.rf | refine zK.zu ?_ (by omega) | refine zK.zu0 ?_ (by decide) | refine zK.zwr ?_ (by omega) | refine zK.zfil ?_ (by omega) | refine zK.zcpy ?_ (by omega) | refine zK.trans ?_ (by assumption) | dsimp only), ⟨_, rfl⟩⟩
            | 2, ht_49, hx_49 =>
              cases ht_49
              refine a_aload_n X dX7_left_108 rfl ?_
              refine a_aload_n X dX7_left_109 rfl ?_
              refine a_getr X lf7_47 (by assumption) rfl (by omega) dX7_left_110 ?_
              refine a_aload_n X dX7_left_113 rfl ?_
              refine a_getr X lf7_40 (by assumption) rfl (by omega) dX7_left_114 ?_
              refine a_iload_n X dX7_left_117 rfl ?_
              refine a_callVx X dX7_left_118 miX5_holders lm7_262 (s_X5_holders (P := P) (by assumption) (by omega) (by assumption) (by omega)) (by assumption) rfl rfl rfl (Nat.le_of_ble_eq_true rfl) ⟨by decide, by decide, by decide, by decide⟩ (fun r_118 S_118 q_118 => ?_)
              obtain ⟨rfl, ⟨v_118, rfl⟩⟩ := q_118
              refine a_callVx X dX7_left_121 miX7_answer lm7_134 (s_X7_answer (P := P) (by assumption)) (by assumption) rfl rfl rfl (Nat.le_of_ble_eq_true rfl) ⟨by decide, by decide, by decide, by decide⟩ (fun r_121 S_121 q_121 => ?_)
              obtain ⟨M_121, N_121, rfl, k_121, ⟨v_121, rfl⟩⟩ := q_121
              refine a_iret X hr dX7_left_124 ⟨by decide, by decide⟩ ?_
              subst hF
              exact ⟨_, _, rfl, (by (try dsimp only); repeat first | assumption | exact zK.rf | refine zK.zu ?_ (by omega) | refine zK.zu0 ?_ (by decide) | refine zK.zwr ?_ (by omega) | refine zK.zfil ?_ (by omega) | refine zK.zcpy ?_ (by omega) | refine zK.trans ?_ (by assumption) | dsimp only), ⟨_, rfl⟩⟩
          · refine a_aload_n X dX7_left_125 rfl ?_
            refine a_getr X lf7_47 (by assumption) rfl (by omega) dX7_left_126 ?_
            refine a_aload_n X dX7_left_129 rfl ?_
            refine a_getr X lf7_40 (by assumption) rfl (by omega) dX7_left_130 ?_
            refine a_iload_n X dX7_left_133 rfl ?_
            refine a_callVx X dX7_left_134 miX5_fewestPoints lm7_266 (s_X5_fewestPoints (P := P) (by assumption) (by omega) (by assumption) (by omega)) (by assumption) rfl rfl rfl (Nat.le_of_ble_eq_true rfl) ⟨by decide, by decide, by decide, by decide⟩ (fun r_134 S_134 q_134 => ?_)
            obtain ⟨rfl, ⟨v_134, rfl⟩⟩ := q_134
            refine a_istore X dX7_left_137 (by decide) ?_
            refine a_iload X dX7_left_139 rfl ?_
            refine a_iconst (v := -1) X dX7_left_141 (by decide) ?_
            refine a_icmp_ne (tgt := 153) X dX7_left_142 (by decide) (fun h_142 => ?_) (fun h_142 => ?_)
            · refine a_aload_n X dX7_left_153 rfl ?_
              refine a_iload X dX7_left_154 rfl ?_
              refine a_callVx X dX7_left_156 miX7_answer lm7_134 (s_X7_answer (P := P) (by assumption)) (by assumption) rfl rfl rfl (Nat.le_of_ble_eq_true rfl) ⟨by decide, by decide, by decide, by decide⟩ (fun r_156 S_156 q_156 => ?_)
              obtain ⟨M_156, N_156, rfl, k_156, ⟨v_156, rfl⟩⟩ := q_156
              exact Zw.to2 (J_159 _ _ _ _ _ _ _ (by (try dsimp only); repeat first | assumption | exact zK.rf | refine zK.zu ?_ (by omega) | refine zK.zu0 ?_ (by decide) | refine zK.zwr ?_ (by omega) | refine zK.zfil ?_ (by omega) | refine zK.zcpy ?_ (by omega) | refine zK.trans ?_ (by assumption) | dsimp only) ) rfl rfl rfl
            · refine a_aload_n X dX7_left_145 rfl ?_
              refine a_iconst (v := 5) X dX7_left_146 (by decide) ?_
              refine a_callVx X dX7_left_147 miX7_refuse lm7_102 (s_X7_refuse (P := P) (by assumption)) (by assumption) rfl rfl rfl (Nat.le_of_ble_eq_true rfl) ⟨by decide, by decide, by decide, by decide⟩ (fun r_147 S_147 q_147 => ?_)
              obtain ⟨M_147, N_147, rfl, k_147, ⟨v_147, rfl⟩⟩ := q_147
              refine a_goto (tgt := 159) X dX7_left_150 (by decide) ?_
              exact Zw.to2 (J_159 _ _ _ _ _ _ _ (by (try dsimp only); repeat first | assumption | exact zK.rf | refine zK.zu ?_ (by omega) | refine zK.zu0 ?_ (by decide) | refine zK.zwr ?_ (by omega) | refine zK.zfil ?_ (by omega) | refine zK.zcpy ?_ (by omega) | refine zK.trans ?_ (by assumption) | dsimp only) ) rfl rfl rfl
        · refine a_aload_n X dX7_left_30 rfl ?_
          refine a_iconst (v := 2) X dX7_left_31 (by decide) ?_
          refine a_callVx X dX7_left_32 miX7_refuse lm7_102 (s_X7_refuse (P := P) (by assumption)) (by assumption) rfl rfl rfl (Nat.le_of_ble_eq_true rfl) ⟨by decide, by decide, by decide, by decide⟩ (fun r_32 S_32 q_32 => ?_)
          obtain ⟨M_32, N_32, rfl, k_32, ⟨v_32, rfl⟩⟩ := q_32
          refine a_iret X hr dX7_left_35 ⟨by decide, by decide⟩ ?_
          subst hF
          exact ⟨_, _, rfl, (by (try dsimp only); repeat first | assumption | exact zK.rf | refine zK.zu ?_ (by omega) | refine zK.zu0 ?_ (by decide) | refine zK.zwr ?_ (by omega) | refine zK.zfil ?_ (by omega) | refine zK.zcpy ?_ (by omega) | refine zK.trans ?_ (by assumption) | dsimp only), ⟨_, rfl⟩⟩
      · exact Zw.to2 (J_16 _ _ _ _ _ _ (by (try dsimp only); repeat first | assumption | exact zK.rf | refine zK.zu ?_ (by omega) | refine zK.zu0 ?_ (by decide) | refine zK.zwr ?_ (by omega) | refine zK.zfil ?_ (by omega) | refine zK.zcpy ?_ (by omega) | refine zK.trans ?_ (by assumption) | dsimp only) ) rfl rfl rfl
set_option maxRecDepth 100000 in
theorem s_X7_winners {l : Launch} {G : zG} {b : Nat} {S : zS} {P : Nat} {v0 : Int32} (hT : LX7 S.1 P) : zM l G b yX7_winners cX7_winners 4 (some .int) 5 0 0 [.ref P, .int v0] S (fun r z => ∃ M' N', z = (S.1, M', N') ∧ zK P S.2.1 M' ∧ ∃ v : Int32, r = some (.int v)) := by
  refine zM.of miX7_winners (Nat.le_of_ble_eq_true rfl) ?_
  intro p e s m args below meth c X hr hname
  generalize hF : ((fun r z => ∃ M' N', z = (S.1, M', N') ∧ zK P S.2.1 M' ∧ ∃ v : Int32, r = some (.int v)) : Option Value → zS → Prop) = FQ
  change Zw p l e { frames := 5, cells := 0, slots := 0, locals := 80 * 5 } s m args below meth c G b 4 (MQ below (zQ G b FQ) args s 0 0 (fun q : Nat => b ≤ q)) 0 0 0 [some (.ref P), some (.int v0), none, none] [] S
  obtain ⟨lt, o, tape, out, reader, list, past, pool, result, odds, paper, trial, trialPool, trialResult, trialOdds⟩ := id hT
  obtain ⟨reader_lt, reader_o, reader_draft, reader_text, reader_unitNames, reader_hunterNames, reader_partyNames, reader_asked⟩ := id reader
  obtain ⟨list_lt, list_o, list_quota, list_score, list_guest, list_party, list_wishCount, list_wishes, list_has⟩ := id list
  obtain ⟨past_lt, past_o, past_stood, past_stood0, past_stood1, past_stood2, past_stood3, past_stood4, past_stood5, past_stood6, past_stood7⟩ := id past
  obtain ⟨pool_lt, pool_o, pool_quota, pool_preferred, pool_forGuests, pool_applicantOf, pool_size, pool_guestCount, pool_score, pool_tickets, pool_bits, pool_party, pool_wishCount, pool_wishes⟩ := id pool
  obtain ⟨result_lt, result_o, result_line, result_unitOf, result_roundOf, result_leftTags, result_leftGuests, result_leftPreferred, result_ranked⟩ := id result
  obtain ⟨odds_lt, odds_o, odds_sets, odds_seen, odds_atUnit, odds_early, odds_result⟩ := id odds
  obtain ⟨paper_lt, paper_o, paper_times, paper_firstWish, paper_dry, paper_list, paper_pool, paper_result⟩ := id paper
  obtain ⟨trial_lt, trial_o, trial_quota, trial_score, trial_guest, trial_party, trial_wishCount, trial_wishes, trial_has⟩ := id trial
  obtain ⟨trialPool_lt, trialPool_o, trialPool_quota, trialPool_preferred, trialPool_forGuests, trialPool_applicantOf, trialPool_size, trialPool_guestCount, trialPool_score, trialPool_tickets, trialPool_bits, trialPool_party, trialPool_wishCount, trialPool_wishes⟩ := id trialPool
  obtain ⟨trialResult_lt, trialResult_o, trialResult_line, trialResult_unitOf, trialResult_roundOf, trialResult_leftTags, trialResult_leftGuests, trialResult_leftPreferred, trialResult_ranked⟩ := id trialResult
  obtain ⟨trialOdds_lt, trialOdds_o, trialOdds_sets, trialOdds_seen, trialOdds_atUnit, trialOdds_early, trialOdds_result⟩ := id trialOdds
  have L_29 : ∀ u : Nat, ∀ (x1_29 : Int32) (x2_29 : Int32) (x3_29 : Int32) (M2 : Nat → Nat → Int32) (N2 : Nat → Nat → Int64), zK P S.2.1 M2 → (2147483648 - x3_29.toInt).toNat < u → Zw p l e { frames := 5, cells := 0, slots := 0, locals := 80 * 5 } s m args below meth c G b 4 (MQ below (zQ G b FQ) args s 0 0 (fun q : Nat => b ≤ q)) 0 0 29 [some (.ref (P)), some (.int x1_29), some (.int x2_29), some (.int x3_29)] [] (S.1, M2, N2) := by
    intro u
    induction u with
    | zero => intro x1_29 x2_29 x3_29 M2_29 N2_29 k_29 hm_29; exact absurd hm_29 (Nat.not_lt_zero _)
    | succ u_29 ih_29 =>
      intro x1_29 x2_29 x3_29 M2_29 N2_29 k_29 hm_29
      have J_69 : ∀ (x1_69 : Int32) (x2_69 : Int32) (x3_69 : Int32) (M2 : Nat → Nat → Int32) (N2 : Nat → Nat → Int64), zK P S.2.1 M2 → ((2147483648 - x3_69.toInt).toNat < u_29 + 1) → (x3_69.toInt < 2147483647) → Zw p l e { frames := 5, cells := 0, slots := 0, locals := 80 * 5 } s m args below meth c G b 4 (MQ below (zQ G b FQ) args s 0 0 (fun q : Nat => b ≤ q)) 0 0 69 [some (.ref (P)), some (.int x1_69), some (.int x2_69), some (.int x3_69)] [] (S.1, M2, N2) := by
        intro x1_69 x2_69 x3_69 M2_69 N2_69 k_69 f0_69 f1_69
        refine a_iinc X dX7_winners_69 (by decide) rfl rfl ?_
        refine a_goto (tgt := 29) X dX7_winners_72 (by decide) ?_
        exact Zw.to2 (ih_29 _ _ _ _ _ (by (try dsimp only); repeat first | assumption | exact zK.rf | refine zK.zu ?_ (by omega) | refine zK.zu0 ?_ (by decide) | refine zK.zwr ?_ (by omega) | refine zK.zfil ?_ (by omega) | refine zK.zcpy ?_ (by omega) | refine zK.trans ?_ (by assumption) | dsimp only)  (z_up f1_69 f0_69)) rfl rfl rfl
      refine a_iload_n X dX7_winners_29 rfl ?_
      refine a_aload_n X dX7_winners_30 rfl ?_
      refine a_getr X lf7_40 (by assumption) rfl (by omega) dX7_winners_31 ?_
      refine a_geti X lf7_140 (by assumption) rfl dX7_winners_34 ?_
      refine a_icmp_ge (tgt := 75) X dX7_winners_37 (by decide) (fun h_37 => ?_) (fun h_37 => ?_)
      · refine a_aload_n X dX7_winners_75 rfl ?_
        refine a_iload_n X dX7_winners_76 rfl ?_
        refine a_callVx X dX7_winners_77 miX7_answer lm7_134 (s_X7_answer (P := P) (by assumption)) (by assumption) rfl rfl rfl (Nat.le_of_ble_eq_true rfl) ⟨by decide, by decide, by decide, by decide⟩ (fun r_77 S_77 q_77 => ?_)
        obtain ⟨M_77, N_77, rfl, k_77, ⟨v_77, rfl⟩⟩ := q_77
        refine a_iret X hr dX7_winners_80 ⟨by decide, by decide⟩ ?_
        subst hF
        exact ⟨_, _, rfl, (by (try dsimp only); repeat first | assumption | exact zK.rf | refine zK.zu ?_ (by omega) | refine zK.zu0 ?_ (by decide) | refine zK.zwr ?_ (by omega) | refine zK.zfil ?_ (by omega) | refine zK.zcpy ?_ (by omega) | refine zK.trans ?_ (by assumption) | dsimp only), ⟨_, rfl⟩⟩
      · refine a_aload_n X dX7_winners_40 rfl ?_
        refine a_getr X lf7_47 (by assumption) rfl (by omega) dX7_winners_41 ?_
        refine a_getr X lf7_250 (by assumption) rfl (by omega) dX7_winners_44 ?_
        refine a_iload_n X dX7_winners_47 rfl ?_
        refine a_callSv X dX7_winners_48 miX7_cell lm7_175 (c_cell (by assumption) (by first | decide | assumption)) rfl rfl (Nat.le_of_ble_eq_true rfl) ⟨by decide, by decide, by decide, by decide⟩ ?_
        refine a_iconst (v := -1) X dX7_winners_51 (by decide) ?_
        refine a_icmp_eq (tgt := 69) X dX7_winners_52 (by decide) (fun h_52 => ?_) (fun h_52 => ?_)
        · exact Zw.to2 (J_69 _ _ _ _ _ (by (try dsimp only); repeat first | assumption | exact zK.rf | refine zK.zu ?_ (by omega) | refine zK.zu0 ?_ (by decide) | refine zK.zwr ?_ (by omega) | refine zK.zfil ?_ (by omega) | refine zK.zcpy ?_ (by omega) | refine zK.trans ?_ (by assumption) | dsimp only) hm_29 (by first | assumption | exact z_lt (by assumption) | exact z_lt2 (by assumption) | exact z_lt3 (by assumption) (by decide))) rfl rfl rfl
        · refine a_iload_n X dX7_winners_55 rfl ?_
          refine a_aload_n X dX7_winners_56 rfl ?_
          refine a_getr X lf7_40 (by assumption) rfl (by omega) dX7_winners_57 ?_
          refine a_getr X lf7_222 (by assumption) rfl (by omega) dX7_winners_60 ?_
          refine a_iload_n X dX7_winners_63 rfl ?_
          refine a_callSv X dX7_winners_64 miX7_cell lm7_175 (c_cell (by assumption) (by first | decide | assumption)) rfl rfl (Nat.le_of_ble_eq_true rfl) ⟨by decide, by decide, by decide, by decide⟩ ?_
          refine a_ior X dX7_winners_67 ?_
          refine a_istore_n X dX7_winners_68 (by decide) ?_
          exact Zw.to2 (J_69 _ _ _ _ _ (by (try dsimp only); repeat first | assumption | exact zK.rf | refine zK.zu ?_ (by omega) | refine zK.zu0 ?_ (by decide) | refine zK.zwr ?_ (by omega) | refine zK.zfil ?_ (by omega) | refine zK.zcpy ?_ (by omega) | refine zK.trans ?_ (by assumption) | dsimp only) hm_29 (by first | assumption | exact z_lt (by assumption) | exact z_lt2 (by assumption) | exact z_lt3 (by assumption) (by decide))) rfl rfl rfl
  have H_29 : ∀ (x1_29 : Int32) (x2_29 : Int32) (x3_29 : Int32) (M2 : Nat → Nat → Int32) (N2 : Nat → Nat → Int64), zK P S.2.1 M2 → Zw p l e { frames := 5, cells := 0, slots := 0, locals := 80 * 5 } s m args below meth c G b 4 (MQ below (zQ G b FQ) args s 0 0 (fun q : Nat => b ≤ q)) 0 0 29 [some (.ref (P)), some (.int x1_29), some (.int x2_29), some (.int x3_29)] [] (S.1, M2, N2) := fun x1_29 x2_29 x3_29 M2 N2 k  => L_29 _ x1_29 x2_29 x3_29 M2 N2 k  (Nat.lt_succ_self _)
  refine a_iload_n X dX7_winners_0 rfl ?_
  refine a_callSx X dX7_winners_1 miX7_isSeed lm7_237 (s_X7_isSeed (P := P)) rfl rfl (Nat.le_of_ble_eq_true rfl) ⟨by decide, by decide, by decide, by decide⟩ (fun r_1 S_1 q_1 => ?_)
  obtain ⟨rfl, ⟨v_1, rfl, b_1⟩⟩ := q_1
  refine a_if_ne (tgt := 13) X dX7_winners_4 (by decide) (fun h_4 => ?_) (fun h_4 => ?_)
  · refine a_aload_n X dX7_winners_13 rfl ?_
    refine a_getr X lf7_47 (by assumption) rfl (by omega) dX7_winners_14 ?_
    refine a_aload_n X dX7_winners_17 rfl ?_
    refine a_getr X lf7_40 (by assumption) rfl (by omega) dX7_winners_18 ?_
    refine a_iload_n X dX7_winners_21 rfl ?_
    refine a_callVx X dX7_winners_22 miX5_bySeed lm7_247 (s_X5_bySeed (P := P) (by assumption) (by omega) (by assumption) (by omega)) (by assumption) rfl rfl rfl (Nat.le_of_ble_eq_true rfl) ⟨by decide, by decide, by decide, by decide⟩ (fun r_22 S_22 q_22 => ?_)
    obtain ⟨M_22, N_22, rfl, k_22, rfl⟩ := q_22
    refine a_iconst (v := 0) X dX7_winners_25 (by decide) ?_
    refine a_istore_n X dX7_winners_26 (by decide) ?_
    refine a_iconst (v := 0) X dX7_winners_27 (by decide) ?_
    refine a_istore_n X dX7_winners_28 (by decide) ?_
    exact Zw.to2 (H_29 _ _ _ _ _ (by (try dsimp only); repeat first | assumption | exact zK.rf | refine zK.zu ?_ (by omega) | refine zK.zu0 ?_ (by decide) | refine zK.zwr ?_ (by omega) | refine zK.zfil ?_ (by omega) | refine zK.zcpy ?_ (by omega) | refine zK.trans ?_ (by assumption) | dsimp only) ) rfl rfl rfl
  · refine a_aload_n X dX7_winners_7 rfl ?_
    refine a_iconst (v := 1) X dX7_winners_8 (by decide) ?_
    refine a_callVx X dX7_winners_9 miX7_refuse lm7_102 (s_X7_refuse (P := P) (by assumption)) (by assumption) rfl rfl rfl (Nat.le_of_ble_eq_true rfl) ⟨by decide, by decide, by decide, by decide⟩ (fun r_9 S_9 q_9 => ?_)
    obtain ⟨M_9, N_9, rfl, k_9, ⟨v_9, rfl⟩⟩ := q_9
    refine a_iret X hr dX7_winners_12 ⟨by decide, by decide⟩ ?_
    subst hF
    exact ⟨_, _, rfl, (by (try dsimp only); repeat first | assumption | exact zK.rf | refine zK.zu ?_ (by omega) | refine zK.zu0 ?_ (by decide) | refine zK.zwr ?_ (by omega) | refine zK.zfil ?_ (by omega) | refine zK.zcpy ?_ (by omega) | refine zK.trans ?_ (by assumption) | dsimp only), ⟨_, rfl⟩⟩
set_option maxRecDepth 100000 in
theorem s_X7_waits {l : Launch} {G : zG} {b : Nat} {S : zS} {P : Nat} {v0 : Int32} {v1 : Int32} {v2 : Int32} (hT : LX7 S.1 P) : zM l G b yX7_waits cX7_waits 7 (some .int) 5 0 0 [.ref P, .int v0, .int v1, .int v2] S (fun r z => ∃ M' N', z = (S.1, M', N') ∧ zK P S.2.1 M' ∧ ∃ v : Int32, r = some (.int v)) := by
  refine zM.of miX7_waits (Nat.le_of_ble_eq_true rfl) ?_
  intro p e s m args below meth c X hr hname
  generalize hF : ((fun r z => ∃ M' N', z = (S.1, M', N') ∧ zK P S.2.1 M' ∧ ∃ v : Int32, r = some (.int v)) : Option Value → zS → Prop) = FQ
  change Zw p l e { frames := 5, cells := 0, slots := 0, locals := 80 * 5 } s m args below meth c G b 7 (MQ below (zQ G b FQ) args s 0 0 (fun q : Nat => b ≤ q)) 0 0 0 [some (.ref P), some (.int v0), some (.int v1), some (.int v2), none, none, none] [] S
  obtain ⟨lt, o, tape, out, reader, list, past, pool, result, odds, paper, trial, trialPool, trialResult, trialOdds⟩ := id hT
  obtain ⟨reader_lt, reader_o, reader_draft, reader_text, reader_unitNames, reader_hunterNames, reader_partyNames, reader_asked⟩ := id reader
  obtain ⟨list_lt, list_o, list_quota, list_score, list_guest, list_party, list_wishCount, list_wishes, list_has⟩ := id list
  obtain ⟨past_lt, past_o, past_stood, past_stood0, past_stood1, past_stood2, past_stood3, past_stood4, past_stood5, past_stood6, past_stood7⟩ := id past
  obtain ⟨pool_lt, pool_o, pool_quota, pool_preferred, pool_forGuests, pool_applicantOf, pool_size, pool_guestCount, pool_score, pool_tickets, pool_bits, pool_party, pool_wishCount, pool_wishes⟩ := id pool
  obtain ⟨result_lt, result_o, result_line, result_unitOf, result_roundOf, result_leftTags, result_leftGuests, result_leftPreferred, result_ranked⟩ := id result
  obtain ⟨odds_lt, odds_o, odds_sets, odds_seen, odds_atUnit, odds_early, odds_result⟩ := id odds
  obtain ⟨paper_lt, paper_o, paper_times, paper_firstWish, paper_dry, paper_list, paper_pool, paper_result⟩ := id paper
  obtain ⟨trial_lt, trial_o, trial_quota, trial_score, trial_guest, trial_party, trial_wishCount, trial_wishes, trial_has⟩ := id trial
  obtain ⟨trialPool_lt, trialPool_o, trialPool_quota, trialPool_preferred, trialPool_forGuests, trialPool_applicantOf, trialPool_size, trialPool_guestCount, trialPool_score, trialPool_tickets, trialPool_bits, trialPool_party, trialPool_wishCount, trialPool_wishes⟩ := id trialPool
  obtain ⟨trialResult_lt, trialResult_o, trialResult_line, trialResult_unitOf, trialResult_roundOf, trialResult_leftTags, trialResult_leftGuests, trialResult_leftPreferred, trialResult_ranked⟩ := id trialResult
  obtain ⟨trialOdds_lt, trialOdds_o, trialOdds_sets, trialOdds_seen, trialOdds_atUnit, trialOdds_early, trialOdds_result⟩ := id trialOdds
  have J_137 : ∀ (x1_137 : Int32) (x2_137 : Int32) (x3_137 : Int32) (x4_137 : Int32) (x5_137 : Int32) (x6_137 : Option Value) (y0_137 : Int32) (M2 : Nat → Nat → Int32) (N2 : Nat → Nat → Int64), zK P S.2.1 M2 → Zw p l e { frames := 5, cells := 0, slots := 0, locals := 80 * 5 } s m args below meth c G b 7 (MQ below (zQ G b FQ) args s 0 0 (fun q : Nat => b ≤ q)) 0 0 137 [some (.ref (P)), some (.int x1_137), some (.int x2_137), some (.int x3_137), some (.int x4_137), some (.int x5_137), x6_137] [(.int y0_137)] (S.1, M2, N2) := by
    intro x1_137 x2_137 x3_137 x4_137 x5_137 x6_137 y0_137 M2_137 N2_137 k_137
    refine a_iret X hr dX7_waits_137 ⟨by decide, by decide⟩ ?_
    subst hF
    exact ⟨_, _, rfl, (by (try dsimp only); repeat first | assumption | exact zK.rf | refine zK.zu ?_ (by omega) | refine zK.zu0 ?_ (by decide) | refine zK.zwr ?_ (by omega) | refine zK.zfil ?_ (by omega) | refine zK.zcpy ?_ (by omega) | refine zK.trans ?_ (by assumption) | dsimp only), ⟨_, rfl⟩⟩
  have L_50 : ∀ u : Nat, ∀ (x1_50 : Int32) (x2_50 : Int32) (x3_50 : Int32) (x4_50 : Int32) (x5_50 : Int32) (x6_50 : Option Value) (M2 : Nat → Nat → Int32) (N2 : Nat → Nat → Int64), zK P S.2.1 M2 → (2147483648 - x5_50.toInt).toNat < u → Zw p l e { frames := 5, cells := 0, slots := 0, locals := 80 * 5 } s m args below meth c G b 7 (MQ below (zQ G b FQ) args s 0 0 (fun q : Nat => b ≤ q)) 0 0 50 [some (.ref (P)), some (.int x1_50), some (.int x2_50), some (.int x3_50), some (.int x4_50), some (.int x5_50), x6_50] [] (S.1, M2, N2) := by
    intro u
    induction u with
    | zero => intro x1_50 x2_50 x3_50 x4_50 x5_50 x6_50 M2_50 N2_50 k_50 hm_50; exact absurd hm_50 (Nat.not_lt_zero _)
    | succ u_50 ih_50 =>
      intro x1_50 x2_50 x3_50 x4_50 x5_50 x6_50 M2_50 N2_50 k_50 hm_50
      have J_112 : ∀ (x1_112 : Int32) (x2_112 : Int32) (x3_112 : Int32) (x4_112 : Int32) (x5_112 : Int32) (x6_112 : Int32) (M2 : Nat → Nat → Int32) (N2 : Nat → Nat → Int64), zK P S.2.1 M2 → ((2147483648 - x5_112.toInt).toNat < u_50 + 1) → (x5_112.toInt < 2147483647) → Zw p l e { frames := 5, cells := 0, slots := 0, locals := 80 * 5 } s m args below meth c G b 7 (MQ below (zQ G b FQ) args s 0 0 (fun q : Nat => b ≤ q)) 0 0 112 [some (.ref (P)), some (.int x1_112), some (.int x2_112), some (.int x3_112), some (.int x4_112), some (.int x5_112), some (.int x6_112)] [] (S.1, M2, N2) := by
        intro x1_112 x2_112 x3_112 x4_112 x5_112 x6_112 M2_112 N2_112 k_112 f0_112 f1_112
        refine a_iinc X dX7_waits_112 (by decide) rfl rfl ?_
        refine a_goto (tgt := 50) X dX7_waits_115 (by decide) ?_
        exact Zw.to2 (ih_50 _ _ _ _ _ _ _ _ (by (try dsimp only); repeat first | assumption | exact zK.rf | refine zK.zu ?_ (by omega) | refine zK.zu0 ?_ (by decide) | refine zK.zwr ?_ (by omega) | refine zK.zfil ?_ (by omega) | refine zK.zcpy ?_ (by omega) | refine zK.trans ?_ (by assumption) | dsimp only)  (z_up f1_112 f0_112)) rfl rfl rfl
      refine a_iload X dX7_waits_50 rfl ?_
      refine a_aload_n X dX7_waits_52 rfl ?_
      refine a_getr X lf7_40 (by assumption) rfl (by omega) dX7_waits_53 ?_
      refine a_geti X lf7_140 (by assumption) rfl dX7_waits_56 ?_
      refine a_icmp_ge (tgt := 118) X dX7_waits_59 (by decide) (fun h_59 => ?_) (fun h_59 => ?_)
      · refine a_iload_n X dX7_waits_118 rfl ?_
        refine a_iconst (v := -1) X dX7_waits_119 (by decide) ?_
        refine a_icmp_ne (tgt := 132) X dX7_waits_120 (by decide) (fun h_120 => ?_) (fun h_120 => ?_)
        · refine a_aload_n X dX7_waits_132 rfl ?_
          refine a_iconst (v := 5) X dX7_waits_133 (by decide) ?_
          refine a_callVx X dX7_waits_134 miX7_refuse lm7_102 (s_X7_refuse (P := P) (by assumption)) (by assumption) rfl rfl rfl (Nat.le_of_ble_eq_true rfl) ⟨by decide, by decide, by decide, by decide⟩ (fun r_134 S_134 q_134 => ?_)
          obtain ⟨M_134, N_134, rfl, k_134, ⟨v_134, rfl⟩⟩ := q_134
          exact Zw.to2 (J_137 _ _ _ _ _ _ _ _ _ (by (try dsimp only); repeat first | assumption | exact zK.rf | refine zK.zu ?_ (by omega) | refine zK.zu0 ?_ (by decide) | refine zK.zwr ?_ (by omega) | refine zK.zfil ?_ (by omega) | refine zK.zcpy ?_ (by omega) | refine zK.trans ?_ (by assumption) | dsimp only) ) rfl rfl rfl
        · refine a_aload_n X dX7_waits_123 rfl ?_
          refine a_iload X dX7_waits_124 rfl ?_
          refine a_callVx X dX7_waits_126 miX7_answer lm7_134 (s_X7_answer (P := P) (by assumption)) (by assumption) rfl rfl rfl (Nat.le_of_ble_eq_true rfl) ⟨by decide, by decide, by decide, by decide⟩ (fun r_126 S_126 q_126 => ?_)
          obtain ⟨M_126, N_126, rfl, k_126, ⟨v_126, rfl⟩⟩ := q_126
          refine a_goto (tgt := 137) X dX7_waits_129 (by decide) ?_
          exact Zw.to2 (J_137 _ _ _ _ _ _ _ _ _ (by (try dsimp only); repeat first | assumption | exact zK.rf | refine zK.zu ?_ (by omega) | refine zK.zu0 ?_ (by decide) | refine zK.zwr ?_ (by omega) | refine zK.zfil ?_ (by omega) | refine zK.zcpy ?_ (by omega) | refine zK.trans ?_ (by assumption) | dsimp only) ) rfl rfl rfl
      · refine a_aload_n X dX7_waits_62 rfl ?_
        refine a_getr X lf7_47 (by assumption) rfl (by omega) dX7_waits_63 ?_
        refine a_getr X lf7_244 (by assumption) rfl (by omega) dX7_waits_66 ?_
        refine a_iload X dX7_waits_69 rfl ?_
        refine a_callSv X dX7_waits_71 miX7_cell lm7_175 (c_cell (by assumption) (by first | decide | assumption)) rfl rfl (Nat.le_of_ble_eq_true rfl) ⟨by decide, by decide, by decide, by decide⟩ ?_
        refine a_istore X dX7_waits_74 (by decide) ?_
        refine a_aload_n X dX7_waits_76 rfl ?_
        refine a_getr X lf7_47 (by assumption) rfl (by omega) dX7_waits_77 ?_
        refine a_aload_n X dX7_waits_80 rfl ?_
        refine a_getr X lf7_40 (by assumption) rfl (by omega) dX7_waits_81 ?_
        refine a_iload X dX7_waits_84 rfl ?_
        refine a_iload_n X dX7_waits_86 rfl ?_
        refine a_callVx X dX7_waits_87 miX5_isWaiting lm7_269 (s_X5_isWaiting (P := P) (by assumption) (by omega) (by assumption) (by omega)) (by assumption) rfl rfl rfl (Nat.le_of_ble_eq_true rfl) ⟨by decide, by decide, by decide, by decide⟩ (fun r_87 S_87 q_87 => ?_)
        obtain ⟨rfl, ⟨v_87, rfl, b_87⟩⟩ := q_87
        refine a_if_ne (tgt := 96) X dX7_waits_90 (by decide) (fun h_90 => ?_) (fun h_90 => ?_)
        · refine a_iload X dX7_waits_96 rfl ?_
          refine a_iload_n X dX7_waits_98 rfl ?_
          refine a_icmp_ne (tgt := 109) X dX7_waits_99 (by decide) (fun h_99 => ?_) (fun h_99 => ?_)
          · refine a_iinc X dX7_waits_109 (by decide) rfl rfl ?_
            exact Zw.to2 (J_112 _ _ _ _ _ _ _ _ (by (try dsimp only); repeat first | assumption | exact zK.rf | refine zK.zu ?_ (by omega) | refine zK.zu0 ?_ (by decide) | refine zK.zwr ?_ (by omega) | refine zK.zfil ?_ (by omega) | refine zK.zcpy ?_ (by omega) | refine zK.trans ?_ (by assumption) | dsimp only) hm_50 (by first | assumption | exact z_lt (by assumption) | exact z_lt2 (by assumption) | exact z_lt3 (by assumption) (by decide))) rfl rfl rfl
          · refine a_aload_n X dX7_waits_102 rfl ?_
            refine a_iload X dX7_waits_103 rfl ?_
            refine a_callVx X dX7_waits_105 miX7_answer lm7_134 (s_X7_answer (P := P) (by assumption)) (by assumption) rfl rfl rfl (Nat.le_of_ble_eq_true rfl) ⟨by decide, by decide, by decide, by decide⟩ (fun r_105 S_105 q_105 => ?_)
            obtain ⟨M_105, N_105, rfl, k_105, ⟨v_105, rfl⟩⟩ := q_105
            refine a_iret X hr dX7_waits_108 ⟨by decide, by decide⟩ ?_
            subst hF
            exact ⟨_, _, rfl, (by (try dsimp only); repeat first | assumption | exact zK.rf | refine zK.zu ?_ (by omega) | refine zK.zu0 ?_ (by decide) | refine zK.zwr ?_ (by omega) | refine zK.zfil ?_ (by omega) | refine zK.zcpy ?_ (by omega) | refine zK.trans ?_ (by assumption) | dsimp only), ⟨_, rfl⟩⟩
        · refine a_goto (tgt := 112) X dX7_waits_93 (by decide) ?_
          exact Zw.to2 (J_112 _ _ _ _ _ _ _ _ (by (try dsimp only); repeat first | assumption | exact zK.rf | refine zK.zu ?_ (by omega) | refine zK.zu0 ?_ (by decide) | refine zK.zwr ?_ (by omega) | refine zK.zfil ?_ (by omega) | refine zK.zcpy ?_ (by omega) | refine zK.trans ?_ (by assumption) | dsimp only) hm_50 (by first | assumption | exact z_lt (by assumption) | exact z_lt2 (by assumption) | exact z_lt3 (by assumption) (by decide))) rfl rfl rfl
  have H_50 : ∀ (x1_50 : Int32) (x2_50 : Int32) (x3_50 : Int32) (x4_50 : Int32) (x5_50 : Int32) (x6_50 : Option Value) (M2 : Nat → Nat → Int32) (N2 : Nat → Nat → Int64), zK P S.2.1 M2 → Zw p l e { frames := 5, cells := 0, slots := 0, locals := 80 * 5 } s m args below meth c G b 7 (MQ below (zQ G b FQ) args s 0 0 (fun q : Nat => b ≤ q)) 0 0 50 [some (.ref (P)), some (.int x1_50), some (.int x2_50), some (.int x3_50), some (.int x4_50), some (.int x5_50), x6_50] [] (S.1, M2, N2) := fun x1_50 x2_50 x3_50 x4_50 x5_50 x6_50 M2 N2 k  => L_50 _ x1_50 x2_50 x3_50 x4_50 x5_50 x6_50 M2 N2 k  (Nat.lt_succ_self _)
  have J_12 : ∀ (x1_12 : Int32) (x2_12 : Int32) (x3_12 : Int32) (x4_12 : Option Value) (x5_12 : Option Value) (x6_12 : Option Value) (M2 : Nat → Nat → Int32) (N2 : Nat → Nat → Int64), zK P S.2.1 M2 → Zw p l e { frames := 5, cells := 0, slots := 0, locals := 80 * 5 } s m args below meth c G b 7 (MQ below (zQ G b FQ) args s 0 0 (fun q : Nat => b ≤ q)) 0 0 12 [some (.ref (P)), some (.int x1_12), some (.int x2_12), some (.int x3_12), x4_12, x5_12, x6_12] [] (S.1, M2, N2) := by
    intro x1_12 x2_12 x3_12 x4_12 x5_12 x6_12 M2_12 N2_12 k_12
    refine a_aload_n X dX7_waits_12 rfl ?_
    refine a_iconst (v := 1) X dX7_waits_13 (by decide) ?_
    refine a_callVx X dX7_waits_14 miX7_refuse lm7_102 (s_X7_refuse (P := P) (by assumption)) (by assumption) rfl rfl rfl (Nat.le_of_ble_eq_true rfl) ⟨by decide, by decide, by decide, by decide⟩ (fun r_14 S_14 q_14 => ?_)
    obtain ⟨M_14, N_14, rfl, k_14, ⟨v_14, rfl⟩⟩ := q_14
    refine a_iret X hr dX7_waits_17 ⟨by decide, by decide⟩ ?_
    subst hF
    exact ⟨_, _, rfl, (by (try dsimp only); repeat first | assumption | exact zK.rf | refine zK.zu ?_ (by omega) | refine zK.zu0 ?_ (by decide) | refine zK.zwr ?_ (by omega) | refine zK.zfil ?_ (by omega) | refine zK.zcpy ?_ (by omega) | refine zK.trans ?_ (by assumption) | dsimp only), ⟨_, rfl⟩⟩
  refine a_iload_n X dX7_waits_0 rfl ?_
  refine a_callSx X dX7_waits_1 miX7_isSeed lm7_237 (s_X7_isSeed (P := P)) rfl rfl (Nat.le_of_ble_eq_true rfl) ⟨by decide, by decide, by decide, by decide⟩ (fun r_1 S_1 q_1 => ?_)
  obtain ⟨rfl, ⟨v_1, rfl, b_1⟩⟩ := q_1
  refine a_if_eq (tgt := 12) X dX7_waits_4 (by decide) (fun h_4 => ?_) (fun h_4 => ?_)
  · exact Zw.to2 (J_12 _ _ _ _ _ _ _ _ (by (try dsimp only); repeat first | assumption | exact zK.rf | refine zK.zu ?_ (by omega) | refine zK.zu0 ?_ (by decide) | refine zK.zwr ?_ (by omega) | refine zK.zfil ?_ (by omega) | refine zK.zcpy ?_ (by omega) | refine zK.trans ?_ (by assumption) | dsimp only) ) rfl rfl rfl
  · refine a_iload_n X dX7_waits_7 rfl ?_
    refine a_iconst (v := -1) X dX7_waits_8 (by decide) ?_
    refine a_icmp_ge (tgt := 18) X dX7_waits_9 (by decide) (fun h_9 => ?_) (fun h_9 => ?_)
    · refine a_aload_n X dX7_waits_18 rfl ?_
      refine a_iload_n X dX7_waits_19 rfl ?_
      refine a_callVx X dX7_waits_20 miX7_isUnit lm7_188 (s_X7_isUnit (P := P) (by assumption)) (by assumption) rfl rfl rfl (Nat.le_of_ble_eq_true rfl) ⟨by decide, by decide, by decide, by decide⟩ (fun r_20 S_20 q_20 => ?_)
      obtain ⟨rfl, ⟨v_20, rfl, b_20⟩⟩ := q_20
      refine a_if_ne (tgt := 32) X dX7_waits_23 (by decide) (fun h_23 => ?_) (fun h_23 => ?_)
      · refine a_aload_n X dX7_waits_32 rfl ?_
        refine a_getr X lf7_47 (by assumption) rfl (by omega) dX7_waits_33 ?_
        refine a_aload_n X dX7_waits_36 rfl ?_
        refine a_getr X lf7_40 (by assumption) rfl (by omega) dX7_waits_37 ?_
        refine a_iload_n X dX7_waits_40 rfl ?_
        refine a_callVx X dX7_waits_41 miX5_bySeed lm7_247 (s_X5_bySeed (P := P) (by assumption) (by omega) (by assumption) (by omega)) (by assumption) rfl rfl rfl (Nat.le_of_ble_eq_true rfl) ⟨by decide, by decide, by decide, by decide⟩ (fun r_41 S_41 q_41 => ?_)
        obtain ⟨M_41, N_41, rfl, k_41, rfl⟩ := q_41
        refine a_iconst (v := 0) X dX7_waits_44 (by decide) ?_
        refine a_istore X dX7_waits_45 (by decide) ?_
        refine a_iconst (v := 0) X dX7_waits_47 (by decide) ?_
        refine a_istore X dX7_waits_48 (by decide) ?_
        exact Zw.to2 (H_50 _ _ _ _ _ _ _ _ (by (try dsimp only); repeat first | assumption | exact zK.rf | refine zK.zu ?_ (by omega) | refine zK.zu0 ?_ (by decide) | refine zK.zwr ?_ (by omega) | refine zK.zfil ?_ (by omega) | refine zK.zcpy ?_ (by omega) | refine zK.trans ?_ (by assumption) | dsimp only) ) rfl rfl rfl
      · refine a_aload_n X dX7_waits_26 rfl ?_
        refine a_iconst (v := 2) X dX7_waits_27 (by decide) ?_
        refine a_callVx X dX7_waits_28 miX7_refuse lm7_102 (s_X7_refuse (P := P) (by assumption)) (by assumption) rfl rfl rfl (Nat.le_of_ble_eq_true rfl) ⟨by decide, by decide, by decide, by decide⟩ (fun r_28 S_28 q_28 => ?_)
        obtain ⟨M_28, N_28, rfl, k_28, ⟨v_28, rfl⟩⟩ := q_28
        refine a_iret X hr dX7_waits_31 ⟨by decide, by decide⟩ ?_
        subst hF
        exact ⟨_, _, rfl, (by (try dsimp only); repeat first | assumption | exact zK.rf | refine zK.zu ?_ (by omega) | refine zK.zu0 ?_ (by decide) | refine zK.zwr ?_ (by omega) | refine zK.zfil ?_ (by omega) | refine zK.zcpy ?_ (by omega) | refine zK.trans ?_ (by assumption) | dsimp only), ⟨_, rfl⟩⟩
    · exact Zw.to2 (J_12 _ _ _ _ _ _ _ _ (by (try dsimp only); repeat first | assumption | exact zK.rf | refine zK.zu ?_ (by omega) | refine zK.zu0 ?_ (by decide) | refine zK.zwr ?_ (by omega) | refine zK.zfil ?_ (by omega) | refine zK.zcpy ?_ (by omega) | refine zK.trans ?_ (by assumption) | dsimp only) ) rfl rfl rfl
set_option maxRecDepth 100000 in
theorem s_X7_next {l : Launch} {G : zG} {b : Nat} {S : zS} {P : Nat} {v0 : Int32} {v1 : Int32} {v2 : Int32} (hT : LX7 S.1 P) : zM l G b yX7_next cX7_next 8 (some .int) 5 0 0 [.ref P, .int v0, .int v1, .int v2] S (fun r z => ∃ M' N', z = (S.1, M', N') ∧ zK P S.2.1 M' ∧ ∃ v : Int32, r = some (.int v)) := by
  refine zM.of miX7_next (Nat.le_of_ble_eq_true rfl) ?_
  intro p e s m args below meth c X hr hname
  generalize hF : ((fun r z => ∃ M' N', z = (S.1, M', N') ∧ zK P S.2.1 M' ∧ ∃ v : Int32, r = some (.int v)) : Option Value → zS → Prop) = FQ
  change Zw p l e { frames := 5, cells := 0, slots := 0, locals := 80 * 5 } s m args below meth c G b 8 (MQ below (zQ G b FQ) args s 0 0 (fun q : Nat => b ≤ q)) 0 0 0 [some (.ref P), some (.int v0), some (.int v1), some (.int v2), none, none, none, none] [] S
  obtain ⟨lt, o, tape, out, reader, list, past, pool, result, odds, paper, trial, trialPool, trialResult, trialOdds⟩ := id hT
  obtain ⟨reader_lt, reader_o, reader_draft, reader_text, reader_unitNames, reader_hunterNames, reader_partyNames, reader_asked⟩ := id reader
  obtain ⟨list_lt, list_o, list_quota, list_score, list_guest, list_party, list_wishCount, list_wishes, list_has⟩ := id list
  obtain ⟨past_lt, past_o, past_stood, past_stood0, past_stood1, past_stood2, past_stood3, past_stood4, past_stood5, past_stood6, past_stood7⟩ := id past
  obtain ⟨pool_lt, pool_o, pool_quota, pool_preferred, pool_forGuests, pool_applicantOf, pool_size, pool_guestCount, pool_score, pool_tickets, pool_bits, pool_party, pool_wishCount, pool_wishes⟩ := id pool
  obtain ⟨result_lt, result_o, result_line, result_unitOf, result_roundOf, result_leftTags, result_leftGuests, result_leftPreferred, result_ranked⟩ := id result
  obtain ⟨odds_lt, odds_o, odds_sets, odds_seen, odds_atUnit, odds_early, odds_result⟩ := id odds
  obtain ⟨paper_lt, paper_o, paper_times, paper_firstWish, paper_dry, paper_list, paper_pool, paper_result⟩ := id paper
  obtain ⟨trial_lt, trial_o, trial_quota, trial_score, trial_guest, trial_party, trial_wishCount, trial_wishes, trial_has⟩ := id trial
  obtain ⟨trialPool_lt, trialPool_o, trialPool_quota, trialPool_preferred, trialPool_forGuests, trialPool_applicantOf, trialPool_size, trialPool_guestCount, trialPool_score, trialPool_tickets, trialPool_bits, trialPool_party, trialPool_wishCount, trialPool_wishes⟩ := id trialPool
  obtain ⟨trialResult_lt, trialResult_o, trialResult_line, trialResult_unitOf, trialResult_roundOf, trialResult_leftTags, trialResult_leftGuests, trialResult_leftPreferred, trialResult_ranked⟩ := id trialResult
  obtain ⟨trialOdds_lt, trialOdds_o, trialOdds_sets, trialOdds_seen, trialOdds_atUnit, trialOdds_early, trialOdds_result⟩ := id trialOdds
  have L_82 : ∀ u : Nat, ∀ (x1_82 : Int32) (x2_82 : Int32) (x3_82 : Int32) (x4_82 : Int32) (x5_82 : Int32) (x6_82 : Int32) (x7_82 : Option Value) (M2 : Nat → Nat → Int32) (N2 : Nat → Nat → Int64), zK P S.2.1 M2 → (2147483648 - x6_82.toInt).toNat < u → Zw p l e { frames := 5, cells := 0, slots := 0, locals := 80 * 5 } s m args below meth c G b 8 (MQ below (zQ G b FQ) args s 0 0 (fun q : Nat => b ≤ q)) 0 0 82 [some (.ref (P)), some (.int x1_82), some (.int x2_82), some (.int x3_82), some (.int x4_82), some (.int x5_82), some (.int x6_82), x7_82] [] (S.1, M2, N2) := by
    intro u
    induction u with
    | zero => intro x1_82 x2_82 x3_82 x4_82 x5_82 x6_82 x7_82 M2_82 N2_82 k_82 hm_82; exact absurd hm_82 (Nat.not_lt_zero _)
    | succ u_82 ih_82 =>
      intro x1_82 x2_82 x3_82 x4_82 x5_82 x6_82 x7_82 M2_82 N2_82 k_82 hm_82
      have J_148 : ∀ (x1_148 : Int32) (x2_148 : Int32) (x3_148 : Int32) (x4_148 : Int32) (x5_148 : Int32) (x6_148 : Int32) (x7_148 : Int32) (M2 : Nat → Nat → Int32) (N2 : Nat → Nat → Int64), zK P S.2.1 M2 → ((2147483648 - x6_148.toInt).toNat < u_82 + 1) → (x6_148.toInt < 2147483647) → Zw p l e { frames := 5, cells := 0, slots := 0, locals := 80 * 5 } s m args below meth c G b 8 (MQ below (zQ G b FQ) args s 0 0 (fun q : Nat => b ≤ q)) 0 0 148 [some (.ref (P)), some (.int x1_148), some (.int x2_148), some (.int x3_148), some (.int x4_148), some (.int x5_148), some (.int x6_148), some (.int x7_148)] [] (S.1, M2, N2) := by
        intro x1_148 x2_148 x3_148 x4_148 x5_148 x6_148 x7_148 M2_148 N2_148 k_148 f0_148 f1_148
        refine a_iinc X dX7_next_148 (by decide) rfl rfl ?_
        refine a_goto (tgt := 82) X dX7_next_151 (by decide) ?_
        exact Zw.to2 (ih_82 _ _ _ _ _ _ _ _ _ (by (try dsimp only); repeat first | assumption | exact zK.rf | refine zK.zu ?_ (by omega) | refine zK.zu0 ?_ (by decide) | refine zK.zwr ?_ (by omega) | refine zK.zfil ?_ (by omega) | refine zK.zcpy ?_ (by omega) | refine zK.trans ?_ (by assumption) | dsimp only)  (z_up f1_148 f0_148)) rfl rfl rfl
      refine a_iload X dX7_next_82 rfl ?_
      refine a_aload_n X dX7_next_84 rfl ?_
      refine a_getr X lf7_40 (by assumption) rfl (by omega) dX7_next_85 ?_
      refine a_geti X lf7_140 (by assumption) rfl dX7_next_88 ?_
      refine a_icmp_ge (tgt := 154) X dX7_next_91 (by decide) (fun h_91 => ?_) (fun h_91 => ?_)
      · refine a_aload_n X dX7_next_154 rfl ?_
        refine a_iconst (v := 5) X dX7_next_155 (by decide) ?_
        refine a_callVx X dX7_next_156 miX7_refuse lm7_102 (s_X7_refuse (P := P) (by assumption)) (by assumption) rfl rfl rfl (Nat.le_of_ble_eq_true rfl) ⟨by decide, by decide, by decide, by decide⟩ (fun r_156 S_156 q_156 => ?_)
        obtain ⟨M_156, N_156, rfl, k_156, ⟨v_156, rfl⟩⟩ := q_156
        refine a_iret X hr dX7_next_159 ⟨by decide, by decide⟩ ?_
        subst hF
        exact ⟨_, _, rfl, (by (try dsimp only); repeat first | assumption | exact zK.rf | refine zK.zu ?_ (by omega) | refine zK.zu0 ?_ (by decide) | refine zK.zwr ?_ (by omega) | refine zK.zfil ?_ (by omega) | refine zK.zcpy ?_ (by omega) | refine zK.trans ?_ (by assumption) | dsimp only), ⟨_, rfl⟩⟩
      · refine a_aload_n X dX7_next_94 rfl ?_
        refine a_getr X lf7_47 (by assumption) rfl (by omega) dX7_next_95 ?_
        refine a_getr X lf7_244 (by assumption) rfl (by omega) dX7_next_98 ?_
        refine a_iload X dX7_next_101 rfl ?_
        refine a_callSv X dX7_next_103 miX7_cell lm7_175 (c_cell (by assumption) (by first | decide | assumption)) rfl rfl (Nat.le_of_ble_eq_true rfl) ⟨by decide, by decide, by decide, by decide⟩ ?_
        refine a_istore X dX7_next_106 (by decide) ?_
        refine a_aload_n X dX7_next_108 rfl ?_
        refine a_getr X lf7_47 (by assumption) rfl (by omega) dX7_next_109 ?_
        refine a_aload_n X dX7_next_112 rfl ?_
        refine a_getr X lf7_40 (by assumption) rfl (by omega) dX7_next_113 ?_
        refine a_iload X dX7_next_116 rfl ?_
        refine a_iload_n X dX7_next_118 rfl ?_
        refine a_callVx X dX7_next_119 miX5_isWaiting lm7_269 (s_X5_isWaiting (P := P) (by assumption) (by omega) (by assumption) (by omega)) (by assumption) rfl rfl rfl (Nat.le_of_ble_eq_true rfl) ⟨by decide, by decide, by decide, by decide⟩ (fun r_119 S_119 q_119 => ?_)
        obtain ⟨rfl, ⟨v_119, rfl, b_119⟩⟩ := q_119
        refine a_if_eq (tgt := 148) X dX7_next_122 (by decide) (fun h_122 => ?_) (fun h_122 => ?_)
        · exact Zw.to2 (J_148 _ _ _ _ _ _ _ _ _ (by (try dsimp only); repeat first | assumption | exact zK.rf | refine zK.zu ?_ (by omega) | refine zK.zu0 ?_ (by decide) | refine zK.zwr ?_ (by omega) | refine zK.zfil ?_ (by omega) | refine zK.zcpy ?_ (by omega) | refine zK.trans ?_ (by assumption) | dsimp only) hm_82 (by first | assumption | exact z_lt (by assumption) | exact z_lt2 (by assumption) | exact z_lt3 (by assumption) (by decide))) rfl rfl rfl
        · refine a_aload_n X dX7_next_125 rfl ?_
          refine a_getr X lf7_40 (by assumption) rfl (by omega) dX7_next_126 ?_
          refine a_iload X dX7_next_129 rfl ?_
          refine a_iload X dX7_next_131 rfl ?_
          refine a_iload X dX7_next_133 rfl ?_
          refine a_callVx X dX7_next_135 miX2_fits lm7_273 (s_X2_fits (P := P) (by assumption) (by omega)) (by assumption) rfl rfl rfl (Nat.le_of_ble_eq_true rfl) ⟨by decide, by decide, by decide, by decide⟩ (fun r_135 S_135 q_135 => ?_)
          obtain ⟨rfl, ⟨v_135, rfl, b_135⟩⟩ := q_135
          refine a_if_eq (tgt := 148) X dX7_next_138 (by decide) (fun h_138 => ?_) (fun h_138 => ?_)
          · exact Zw.to2 (J_148 _ _ _ _ _ _ _ _ _ (by (try dsimp only); repeat first | assumption | exact zK.rf | refine zK.zu ?_ (by omega) | refine zK.zu0 ?_ (by decide) | refine zK.zwr ?_ (by omega) | refine zK.zfil ?_ (by omega) | refine zK.zcpy ?_ (by omega) | refine zK.trans ?_ (by assumption) | dsimp only) hm_82 (by first | assumption | exact z_lt (by assumption) | exact z_lt2 (by assumption) | exact z_lt3 (by assumption) (by decide))) rfl rfl rfl
          · refine a_aload_n X dX7_next_141 rfl ?_
            refine a_iload X dX7_next_142 rfl ?_
            refine a_callVx X dX7_next_144 miX7_answer lm7_134 (s_X7_answer (P := P) (by assumption)) (by assumption) rfl rfl rfl (Nat.le_of_ble_eq_true rfl) ⟨by decide, by decide, by decide, by decide⟩ (fun r_144 S_144 q_144 => ?_)
            obtain ⟨M_144, N_144, rfl, k_144, ⟨v_144, rfl⟩⟩ := q_144
            refine a_iret X hr dX7_next_147 ⟨by decide, by decide⟩ ?_
            subst hF
            exact ⟨_, _, rfl, (by (try dsimp only); repeat first | assumption | exact zK.rf | refine zK.zu ?_ (by omega) | refine zK.zu0 ?_ (by decide) | refine zK.zwr ?_ (by omega) | refine zK.zfil ?_ (by omega) | refine zK.zcpy ?_ (by omega) | refine zK.trans ?_ (by assumption) | dsimp only), ⟨_, rfl⟩⟩
  have H_82 : ∀ (x1_82 : Int32) (x2_82 : Int32) (x3_82 : Int32) (x4_82 : Int32) (x5_82 : Int32) (x6_82 : Int32) (x7_82 : Option Value) (M2 : Nat → Nat → Int32) (N2 : Nat → Nat → Int64), zK P S.2.1 M2 → Zw p l e { frames := 5, cells := 0, slots := 0, locals := 80 * 5 } s m args below meth c G b 8 (MQ below (zQ G b FQ) args s 0 0 (fun q : Nat => b ≤ q)) 0 0 82 [some (.ref (P)), some (.int x1_82), some (.int x2_82), some (.int x3_82), some (.int x4_82), some (.int x5_82), some (.int x6_82), x7_82] [] (S.1, M2, N2) := fun x1_82 x2_82 x3_82 x4_82 x5_82 x6_82 x7_82 M2 N2 k  => L_82 _ x1_82 x2_82 x3_82 x4_82 x5_82 x6_82 x7_82 M2 N2 k  (Nat.lt_succ_self _)
  have J_17 : ∀ (x1_17 : Int32) (x2_17 : Int32) (x3_17 : Int32) (x4_17 : Option Value) (x5_17 : Option Value) (x6_17 : Option Value) (x7_17 : Option Value) (M2 : Nat → Nat → Int32) (N2 : Nat → Nat → Int64), zK P S.2.1 M2 → Zw p l e { frames := 5, cells := 0, slots := 0, locals := 80 * 5 } s m args below meth c G b 8 (MQ below (zQ G b FQ) args s 0 0 (fun q : Nat => b ≤ q)) 0 0 17 [some (.ref (P)), some (.int x1_17), some (.int x2_17), some (.int x3_17), x4_17, x5_17, x6_17, x7_17] [] (S.1, M2, N2) := by
    intro x1_17 x2_17 x3_17 x4_17 x5_17 x6_17 x7_17 M2_17 N2_17 k_17
    refine a_aload_n X dX7_next_17 rfl ?_
    refine a_iconst (v := 1) X dX7_next_18 (by decide) ?_
    refine a_callVx X dX7_next_19 miX7_refuse lm7_102 (s_X7_refuse (P := P) (by assumption)) (by assumption) rfl rfl rfl (Nat.le_of_ble_eq_true rfl) ⟨by decide, by decide, by decide, by decide⟩ (fun r_19 S_19 q_19 => ?_)
    obtain ⟨M_19, N_19, rfl, k_19, ⟨v_19, rfl⟩⟩ := q_19
    refine a_iret X hr dX7_next_22 ⟨by decide, by decide⟩ ?_
    subst hF
    exact ⟨_, _, rfl, (by (try dsimp only); repeat first | assumption | exact zK.rf | refine zK.zu ?_ (by omega) | refine zK.zu0 ?_ (by decide) | refine zK.zwr ?_ (by omega) | refine zK.zfil ?_ (by omega) | refine zK.zcpy ?_ (by omega) | refine zK.trans ?_ (by assumption) | dsimp only), ⟨_, rfl⟩⟩
  refine a_iload_n X dX7_next_0 rfl ?_
  refine a_callSx X dX7_next_1 miX7_isSeed lm7_237 (s_X7_isSeed (P := P)) rfl rfl (Nat.le_of_ble_eq_true rfl) ⟨by decide, by decide, by decide, by decide⟩ (fun r_1 S_1 q_1 => ?_)
  obtain ⟨rfl, ⟨v_1, rfl, b_1⟩⟩ := q_1
  refine a_if_eq (tgt := 17) X dX7_next_4 (by decide) (fun h_4 => ?_) (fun h_4 => ?_)
  · exact Zw.to2 (J_17 _ _ _ _ _ _ _ _ _ (by (try dsimp only); repeat first | assumption | exact zK.rf | refine zK.zu ?_ (by omega) | refine zK.zu0 ?_ (by decide) | refine zK.zwr ?_ (by omega) | refine zK.zfil ?_ (by omega) | refine zK.zcpy ?_ (by omega) | refine zK.trans ?_ (by assumption) | dsimp only) ) rfl rfl rfl
  · refine a_iload_n X dX7_next_7 rfl ?_
    refine a_if_lt (tgt := 17) X dX7_next_8 (by decide) (fun h_8 => ?_) (fun h_8 => ?_)
    · exact Zw.to2 (J_17 _ _ _ _ _ _ _ _ _ (by (try dsimp only); repeat first | assumption | exact zK.rf | refine zK.zu ?_ (by omega) | refine zK.zu0 ?_ (by decide) | refine zK.zwr ?_ (by omega) | refine zK.zfil ?_ (by omega) | refine zK.zcpy ?_ (by omega) | refine zK.trans ?_ (by assumption) | dsimp only) ) rfl rfl rfl
    · refine a_iload_n X dX7_next_11 rfl ?_
      refine a_bipush (v := 20) X dX7_next_12 (by decide) ?_
      refine a_icmp_le (tgt := 23) X dX7_next_14 (by decide) (fun h_14 => ?_) (fun h_14 => ?_)
      · refine a_aload_n X dX7_next_23 rfl ?_
        refine a_iload_n X dX7_next_24 rfl ?_
        refine a_callVx X dX7_next_25 miX7_isUnit lm7_188 (s_X7_isUnit (P := P) (by assumption)) (by assumption) rfl rfl rfl (Nat.le_of_ble_eq_true rfl) ⟨by decide, by decide, by decide, by decide⟩ (fun r_25 S_25 q_25 => ?_)
        obtain ⟨rfl, ⟨v_25, rfl, b_25⟩⟩ := q_25
        refine a_if_ne (tgt := 37) X dX7_next_28 (by decide) (fun h_28 => ?_) (fun h_28 => ?_)
        · refine a_aload_n X dX7_next_37 rfl ?_
          refine a_getr X lf7_47 (by assumption) rfl (by omega) dX7_next_38 ?_
          refine a_aload_n X dX7_next_41 rfl ?_
          refine a_getr X lf7_40 (by assumption) rfl (by omega) dX7_next_42 ?_
          refine a_iload_n X dX7_next_45 rfl ?_
          refine a_callVx X dX7_next_46 miX5_bySeed lm7_247 (s_X5_bySeed (P := P) (by assumption) (by omega) (by assumption) (by omega)) (by assumption) rfl rfl rfl (Nat.le_of_ble_eq_true rfl) ⟨by decide, by decide, by decide, by decide⟩ (fun r_46 S_46 q_46 => ?_)
          obtain ⟨M_46, N_46, rfl, k_46, rfl⟩ := q_46
          refine a_aload_n X dX7_next_49 rfl ?_
          refine a_getr X lf7_47 (by assumption) rfl (by omega) dX7_next_50 ?_
          refine a_getr X lf7_256 (by assumption) rfl (by omega) dX7_next_53 ?_
          refine a_iload_n X dX7_next_56 rfl ?_
          refine a_callSv X dX7_next_57 miX7_cell lm7_175 (c_cell (by assumption) (by first | decide | assumption)) rfl rfl (Nat.le_of_ble_eq_true rfl) ⟨by decide, by decide, by decide, by decide⟩ ?_
          refine a_iload_n X dX7_next_60 rfl ?_
          refine a_iadd X dX7_next_61 ?_
          refine a_istore X dX7_next_62 (by decide) ?_
          refine a_aload_n X dX7_next_64 rfl ?_
          refine a_getr X lf7_47 (by assumption) rfl (by omega) dX7_next_65 ?_
          refine a_getr X lf7_259 (by assumption) rfl (by omega) dX7_next_68 ?_
          refine a_iload_n X dX7_next_71 rfl ?_
          refine a_callSv X dX7_next_72 miX7_cell lm7_175 (c_cell (by assumption) (by first | decide | assumption)) rfl rfl (Nat.le_of_ble_eq_true rfl) ⟨by decide, by decide, by decide, by decide⟩ ?_
          refine a_iload_n X dX7_next_75 rfl ?_
          refine a_iadd X dX7_next_76 ?_
          refine a_istore X dX7_next_77 (by decide) ?_
          refine a_iconst (v := 0) X dX7_next_79 (by decide) ?_
          refine a_istore X dX7_next_80 (by decide) ?_
          exact Zw.to2 (H_82 _ _ _ _ _ _ _ _ _ (by (try dsimp only); repeat first | assumption | exact zK.rf | refine zK.zu ?_ (by omega) | refine zK.zu0 ?_ (by decide) | refine zK.zwr ?_ (by omega) | refine zK.zfil ?_ (by omega) | refine zK.zcpy ?_ (by omega) | refine zK.trans ?_ (by assumption) | dsimp only) ) rfl rfl rfl
        · refine a_aload_n X dX7_next_31 rfl ?_
          refine a_iconst (v := 2) X dX7_next_32 (by decide) ?_
          refine a_callVx X dX7_next_33 miX7_refuse lm7_102 (s_X7_refuse (P := P) (by assumption)) (by assumption) rfl rfl rfl (Nat.le_of_ble_eq_true rfl) ⟨by decide, by decide, by decide, by decide⟩ (fun r_33 S_33 q_33 => ?_)
          obtain ⟨M_33, N_33, rfl, k_33, ⟨v_33, rfl⟩⟩ := q_33
          refine a_iret X hr dX7_next_36 ⟨by decide, by decide⟩ ?_
          subst hF
          exact ⟨_, _, rfl, (by (try dsimp only); repeat first | assumption | exact zK.rf | refine zK.zu ?_ (by omega) | refine zK.zu0 ?_ (by decide) | refine zK.zwr ?_ (by omega) | refine zK.zfil ?_ (by omega) | refine zK.zcpy ?_ (by omega) | refine zK.trans ?_ (by assumption) | dsimp only), ⟨_, rfl⟩⟩
      · exact Zw.to2 (J_17 _ _ _ _ _ _ _ _ _ (by (try dsimp only); repeat first | assumption | exact zK.rf | refine zK.zu ?_ (by omega) | refine zK.zu0 ?_ (by decide) | refine zK.zwr ?_ (by omega) | refine zK.zfil ?_ (by omega) | refine zK.zcpy ?_ (by omega) | refine zK.trans ?_ (by assumption) | dsimp only) ) rfl rfl rfl
set_option maxRecDepth 100000 in
theorem s_X7_envies {l : Launch} {G : zG} {b : Nat} {S : zS} {P : Nat} {v0 : Int32} {v1 : Int32} (hT : LX7 S.1 P) : zM l G b yX7_envies cX7_envies 7 (some .int) 5 0 0 [.ref P, .int v0, .int v1] S (fun r z => ∃ M' N', z = (S.1, M', N') ∧ zK P S.2.1 M' ∧ ∃ v : Int32, r = some (.int v)) := by
  refine zM.of miX7_envies (Nat.le_of_ble_eq_true rfl) ?_
  intro p e s m args below meth c X hr hname
  generalize hF : ((fun r z => ∃ M' N', z = (S.1, M', N') ∧ zK P S.2.1 M' ∧ ∃ v : Int32, r = some (.int v)) : Option Value → zS → Prop) = FQ
  change Zw p l e { frames := 5, cells := 0, slots := 0, locals := 80 * 5 } s m args below meth c G b 7 (MQ below (zQ G b FQ) args s 0 0 (fun q : Nat => b ≤ q)) 0 0 0 [some (.ref P), some (.int v0), some (.int v1), none, none, none, none] [] S
  obtain ⟨lt, o, tape, out, reader, list, past, pool, result, odds, paper, trial, trialPool, trialResult, trialOdds⟩ := id hT
  obtain ⟨reader_lt, reader_o, reader_draft, reader_text, reader_unitNames, reader_hunterNames, reader_partyNames, reader_asked⟩ := id reader
  obtain ⟨list_lt, list_o, list_quota, list_score, list_guest, list_party, list_wishCount, list_wishes, list_has⟩ := id list
  obtain ⟨past_lt, past_o, past_stood, past_stood0, past_stood1, past_stood2, past_stood3, past_stood4, past_stood5, past_stood6, past_stood7⟩ := id past
  obtain ⟨pool_lt, pool_o, pool_quota, pool_preferred, pool_forGuests, pool_applicantOf, pool_size, pool_guestCount, pool_score, pool_tickets, pool_bits, pool_party, pool_wishCount, pool_wishes⟩ := id pool
  obtain ⟨result_lt, result_o, result_line, result_unitOf, result_roundOf, result_leftTags, result_leftGuests, result_leftPreferred, result_ranked⟩ := id result
  obtain ⟨odds_lt, odds_o, odds_sets, odds_seen, odds_atUnit, odds_early, odds_result⟩ := id odds
  obtain ⟨paper_lt, paper_o, paper_times, paper_firstWish, paper_dry, paper_list, paper_pool, paper_result⟩ := id paper
  obtain ⟨trial_lt, trial_o, trial_quota, trial_score, trial_guest, trial_party, trial_wishCount, trial_wishes, trial_has⟩ := id trial
  obtain ⟨trialPool_lt, trialPool_o, trialPool_quota, trialPool_preferred, trialPool_forGuests, trialPool_applicantOf, trialPool_size, trialPool_guestCount, trialPool_score, trialPool_tickets, trialPool_bits, trialPool_party, trialPool_wishCount, trialPool_wishes⟩ := id trialPool
  obtain ⟨trialResult_lt, trialResult_o, trialResult_line, trialResult_unitOf, trialResult_roundOf, trialResult_leftTags, trialResult_leftGuests, trialResult_leftPreferred, trialResult_ranked⟩ := id trialResult
  obtain ⟨trialOdds_lt, trialOdds_o, trialOdds_sets, trialOdds_seen, trialOdds_atUnit, trialOdds_early, trialOdds_result⟩ := id trialOdds
  have L_44 : ∀ u : Nat, ∀ (x1_44 : Int32) (x2_44 : Int32) (x3_44 : Int32) (x4_44 : Int32) (x5_44 : Option Value) (x6_44 : Option Value) (M2 : Nat → Nat → Int32) (N2 : Nat → Nat → Int64), zK P S.2.1 M2 → (2147483648 - x4_44.toInt).toNat < u → Zw p l e { frames := 5, cells := 0, slots := 0, locals := 80 * 5 } s m args below meth c G b 7 (MQ below (zQ G b FQ) args s 0 0 (fun q : Nat => b ≤ q)) 0 0 44 [some (.ref (P)), some (.int x1_44), some (.int x2_44), some (.int x3_44), some (.int x4_44), x5_44, x6_44] [] (S.1, M2, N2) := by
    intro u
    induction u with
    | zero => intro x1_44 x2_44 x3_44 x4_44 x5_44 x6_44 M2_44 N2_44 k_44 hm_44; exact absurd hm_44 (Nat.not_lt_zero _)
    | succ u_44 ih_44 =>
      intro x1_44 x2_44 x3_44 x4_44 x5_44 x6_44 M2_44 N2_44 k_44 hm_44
      have J_147 : ∀ (x1_147 : Int32) (x2_147 : Int32) (x3_147 : Int32) (x4_147 : Int32) (x5_147 : Int32) (x6_147 : Option Value) (M2 : Nat → Nat → Int32) (N2 : Nat → Nat → Int64), zK P S.2.1 M2 → ((2147483648 - x4_147.toInt).toNat < u_44 + 1) → (x4_147.toInt < 2147483647) → Zw p l e { frames := 5, cells := 0, slots := 0, locals := 80 * 5 } s m args below meth c G b 7 (MQ below (zQ G b FQ) args s 0 0 (fun q : Nat => b ≤ q)) 0 0 147 [some (.ref (P)), some (.int x1_147), some (.int x2_147), some (.int x3_147), some (.int x4_147), some (.int x5_147), x6_147] [] (S.1, M2, N2) := by
        intro x1_147 x2_147 x3_147 x4_147 x5_147 x6_147 M2_147 N2_147 k_147 f0_147 f1_147
        refine a_iinc X dX7_envies_147 (by decide) rfl rfl ?_
        refine a_goto (tgt := 44) X dX7_envies_150 (by decide) ?_
        exact Zw.to2 (ih_44 _ _ _ _ _ _ _ _ (by (try dsimp only); repeat first | assumption | exact zK.rf | refine zK.zu ?_ (by omega) | refine zK.zu0 ?_ (by decide) | refine zK.zwr ?_ (by omega) | refine zK.zfil ?_ (by omega) | refine zK.zcpy ?_ (by omega) | refine zK.trans ?_ (by assumption) | dsimp only)  (z_up f1_147 f0_147)) rfl rfl rfl
      refine a_iload X dX7_envies_44 rfl ?_
      refine a_aload_n X dX7_envies_46 rfl ?_
      refine a_getr X lf7_40 (by assumption) rfl (by omega) dX7_envies_47 ?_
      refine a_geti X lf7_140 (by assumption) rfl dX7_envies_50 ?_
      refine a_icmp_ge (tgt := 153) X dX7_envies_53 (by decide) (fun h_53 => ?_) (fun h_53 => ?_)
      · refine a_aload_n X dX7_envies_153 rfl ?_
        refine a_iload_n X dX7_envies_154 rfl ?_
        refine a_callVx X dX7_envies_155 miX7_answer lm7_134 (s_X7_answer (P := P) (by assumption)) (by assumption) rfl rfl rfl (Nat.le_of_ble_eq_true rfl) ⟨by decide, by decide, by decide, by decide⟩ (fun r_155 S_155 q_155 => ?_)
        obtain ⟨M_155, N_155, rfl, k_155, ⟨v_155, rfl⟩⟩ := q_155
        refine a_iret X hr dX7_envies_158 ⟨by decide, by decide⟩ ?_
        subst hF
        exact ⟨_, _, rfl, (by (try dsimp only); repeat first | assumption | exact zK.rf | refine zK.zu ?_ (by omega) | refine zK.zu0 ?_ (by decide) | refine zK.zwr ?_ (by omega) | refine zK.zfil ?_ (by omega) | refine zK.zcpy ?_ (by omega) | refine zK.trans ?_ (by assumption) | dsimp only), ⟨_, rfl⟩⟩
      · refine a_aload_n X dX7_envies_56 rfl ?_
        refine a_getr X lf7_47 (by assumption) rfl (by omega) dX7_envies_57 ?_
        refine a_getr X lf7_250 (by assumption) rfl (by omega) dX7_envies_60 ?_
        refine a_iload X dX7_envies_63 rfl ?_
        refine a_callSv X dX7_envies_65 miX7_cell lm7_175 (c_cell (by assumption) (by first | decide | assumption)) rfl rfl (Nat.le_of_ble_eq_true rfl) ⟨by decide, by decide, by decide, by decide⟩ ?_
        refine a_istore X dX7_envies_68 (by decide) ?_
        refine a_iload X dX7_envies_70 rfl ?_
        refine a_iconst (v := -1) X dX7_envies_72 (by decide) ?_
        refine a_icmp_eq (tgt := 147) X dX7_envies_73 (by decide) (fun h_73 => ?_) (fun h_73 => ?_)
        · exact Zw.to2 (J_147 _ _ _ _ _ _ _ _ (by (try dsimp only); repeat first | assumption | exact zK.rf | refine zK.zu ?_ (by omega) | refine zK.zu0 ?_ (by decide) | refine zK.zwr ?_ (by omega) | refine zK.zfil ?_ (by omega) | refine zK.zcpy ?_ (by omega) | refine zK.trans ?_ (by assumption) | dsimp only) hm_44 (by first | assumption | exact z_lt (by assumption) | exact z_lt2 (by assumption) | exact z_lt3 (by assumption) (by decide))) rfl rfl rfl
        · refine a_aload_n X dX7_envies_76 rfl ?_
          refine a_getr X lf7_40 (by assumption) rfl (by omega) dX7_envies_77 ?_
          refine a_getr X lf7_215 (by assumption) rfl (by omega) dX7_envies_80 ?_
          refine a_iload X dX7_envies_83 rfl ?_
          refine a_callSv X dX7_envies_85 miX7_cell lm7_175 (c_cell (by assumption) (by first | decide | assumption)) rfl rfl (Nat.le_of_ble_eq_true rfl) ⟨by decide, by decide, by decide, by decide⟩ ?_
          refine a_aload_n X dX7_envies_88 rfl ?_
          refine a_getr X lf7_40 (by assumption) rfl (by omega) dX7_envies_89 ?_
          refine a_getr X lf7_215 (by assumption) rfl (by omega) dX7_envies_92 ?_
          refine a_iload_n X dX7_envies_95 rfl ?_
          refine a_callSv X dX7_envies_96 miX7_cell lm7_175 (c_cell (by assumption) (by first | decide | assumption)) rfl rfl (Nat.le_of_ble_eq_true rfl) ⟨by decide, by decide, by decide, by decide⟩ ?_
          refine a_icmp_lt (tgt := 105) X dX7_envies_99 (by decide) (fun h_99 => ?_) (fun h_99 => ?_)
          · refine a_aload_n X dX7_envies_105 rfl ?_
            refine a_getr X lf7_40 (by assumption) rfl (by omega) dX7_envies_106 ?_
            refine a_iload_n X dX7_envies_109 rfl ?_
            refine a_iload X dX7_envies_110 rfl ?_
            refine a_callVx X dX7_envies_112 miX2_rankOf lm7_277 (s_X2_rankOf (P := P) (by assumption) (by omega)) (by assumption) rfl rfl rfl (Nat.le_of_ble_eq_true rfl) ⟨by decide, by decide, by decide, by decide⟩ (fun r_112 S_112 q_112 => ?_)
            obtain ⟨rfl, ⟨v_112, rfl⟩⟩ := q_112
            refine a_istore X dX7_envies_115 (by decide) ?_
            refine a_iload X dX7_envies_117 rfl ?_
            refine a_iconst (v := -1) X dX7_envies_119 (by decide) ?_
            refine a_icmp_eq (tgt := 147) X dX7_envies_120 (by decide) (fun h_120 => ?_) (fun h_120 => ?_)
            · exact Zw.to2 (J_147 _ _ _ _ _ _ _ _ (by (try dsimp only); repeat first | assumption | exact zK.rf | refine zK.zu ?_ (by omega) | refine zK.zu0 ?_ (by decide) | refine zK.zwr ?_ (by omega) | refine zK.zfil ?_ (by omega) | refine zK.zcpy ?_ (by omega) | refine zK.trans ?_ (by assumption) | dsimp only) hm_44 (by first | assumption | exact z_lt (by assumption) | exact z_lt2 (by assumption) | exact z_lt3 (by assumption) (by decide))) rfl rfl rfl
            · refine a_iload X dX7_envies_123 rfl ?_
              refine a_aload_n X dX7_envies_125 rfl ?_
              refine a_getr X lf7_47 (by assumption) rfl (by omega) dX7_envies_126 ?_
              refine a_aload_n X dX7_envies_129 rfl ?_
              refine a_getr X lf7_40 (by assumption) rfl (by omega) dX7_envies_130 ?_
              refine a_iload_n X dX7_envies_133 rfl ?_
              refine a_callVx X dX7_envies_134 miX5_rankHeld lm7_280 (s_X5_rankHeld (P := P) (by assumption) (by omega) (by assumption) (by omega)) (by assumption) rfl rfl rfl (Nat.le_of_ble_eq_true rfl) ⟨by decide, by decide, by decide, by decide⟩ (fun r_134 S_134 q_134 => ?_)
              obtain ⟨rfl, ⟨v_134, rfl⟩⟩ := q_134
              refine a_icmp_ge (tgt := 147) X dX7_envies_137 (by decide) (fun h_137 => ?_) (fun h_137 => ?_)
              · exact Zw.to2 (J_147 _ _ _ _ _ _ _ _ (by (try dsimp only); repeat first | assumption | exact zK.rf | refine zK.zu ?_ (by omega) | refine zK.zu0 ?_ (by decide) | refine zK.zwr ?_ (by omega) | refine zK.zfil ?_ (by omega) | refine zK.zcpy ?_ (by omega) | refine zK.trans ?_ (by assumption) | dsimp only) hm_44 (by first | assumption | exact z_lt (by assumption) | exact z_lt2 (by assumption) | exact z_lt3 (by assumption) (by decide))) rfl rfl rfl
              · refine a_iload_n X dX7_envies_140 rfl ?_
                refine a_iconst (v := 1) X dX7_envies_141 (by decide) ?_
                refine a_iload X dX7_envies_142 rfl ?_
                refine a_ishl X dX7_envies_144 ?_
                refine a_ior X dX7_envies_145 ?_
                refine a_istore_n X dX7_envies_146 (by decide) ?_
                exact Zw.to2 (J_147 _ _ _ _ _ _ _ _ (by (try dsimp only); repeat first | assumption | exact zK.rf | refine zK.zu ?_ (by omega) | refine zK.zu0 ?_ (by decide) | refine zK.zwr ?_ (by omega) | refine zK.zfil ?_ (by omega) | refine zK.zcpy ?_ (by omega) | refine zK.trans ?_ (by assumption) | dsimp only) hm_44 (by first | assumption | exact z_lt (by assumption) | exact z_lt2 (by assumption) | exact z_lt3 (by assumption) (by decide))) rfl rfl rfl
          · refine a_goto (tgt := 147) X dX7_envies_102 (by decide) ?_
            exact Zw.to2 (J_147 _ _ _ _ _ _ _ _ (by (try dsimp only); repeat first | assumption | exact zK.rf | refine zK.zu ?_ (by omega) | refine zK.zu0 ?_ (by decide) | refine zK.zwr ?_ (by omega) | refine zK.zfil ?_ (by omega) | refine zK.zcpy ?_ (by omega) | refine zK.trans ?_ (by assumption) | dsimp only) hm_44 (by first | assumption | exact z_lt (by assumption) | exact z_lt2 (by assumption) | exact z_lt3 (by assumption) (by decide))) rfl rfl rfl
  have H_44 : ∀ (x1_44 : Int32) (x2_44 : Int32) (x3_44 : Int32) (x4_44 : Int32) (x5_44 : Option Value) (x6_44 : Option Value) (M2 : Nat → Nat → Int32) (N2 : Nat → Nat → Int64), zK P S.2.1 M2 → Zw p l e { frames := 5, cells := 0, slots := 0, locals := 80 * 5 } s m args below meth c G b 7 (MQ below (zQ G b FQ) args s 0 0 (fun q : Nat => b ≤ q)) 0 0 44 [some (.ref (P)), some (.int x1_44), some (.int x2_44), some (.int x3_44), some (.int x4_44), x5_44, x6_44] [] (S.1, M2, N2) := fun x1_44 x2_44 x3_44 x4_44 x5_44 x6_44 M2 N2 k  => L_44 _ x1_44 x2_44 x3_44 x4_44 x5_44 x6_44 M2 N2 k  (Nat.lt_succ_self _)
  refine a_iload_n X dX7_envies_0 rfl ?_
  refine a_callSx X dX7_envies_1 miX7_isSeed lm7_237 (s_X7_isSeed (P := P)) rfl rfl (Nat.le_of_ble_eq_true rfl) ⟨by decide, by decide, by decide, by decide⟩ (fun r_1 S_1 q_1 => ?_)
  obtain ⟨rfl, ⟨v_1, rfl, b_1⟩⟩ := q_1
  refine a_if_ne (tgt := 13) X dX7_envies_4 (by decide) (fun h_4 => ?_) (fun h_4 => ?_)
  · refine a_aload_n X dX7_envies_13 rfl ?_
    refine a_iload_n X dX7_envies_14 rfl ?_
    refine a_callVx X dX7_envies_15 miX7_isApplicant lm7_206 (s_X7_isApplicant (P := P) (by assumption)) (by assumption) rfl rfl rfl (Nat.le_of_ble_eq_true rfl) ⟨by decide, by decide, by decide, by decide⟩ (fun r_15 S_15 q_15 => ?_)
    obtain ⟨rfl, ⟨v_15, rfl, b_15⟩⟩ := q_15
    refine a_if_ne (tgt := 27) X dX7_envies_18 (by decide) (fun h_18 => ?_) (fun h_18 => ?_)
    · refine a_aload_n X dX7_envies_27 rfl ?_
      refine a_getr X lf7_47 (by assumption) rfl (by omega) dX7_envies_28 ?_
      refine a_aload_n X dX7_envies_31 rfl ?_
      refine a_getr X lf7_40 (by assumption) rfl (by omega) dX7_envies_32 ?_
      refine a_iload_n X dX7_envies_35 rfl ?_
      refine a_callVx X dX7_envies_36 miX5_bySeed lm7_247 (s_X5_bySeed (P := P) (by assumption) (by omega) (by assumption) (by omega)) (by assumption) rfl rfl rfl (Nat.le_of_ble_eq_true rfl) ⟨by decide, by decide, by decide, by decide⟩ (fun r_36 S_36 q_36 => ?_)
      obtain ⟨M_36, N_36, rfl, k_36, rfl⟩ := q_36
      refine a_iconst (v := 0) X dX7_envies_39 (by decide) ?_
      refine a_istore_n X dX7_envies_40 (by decide) ?_
      refine a_iconst (v := 0) X dX7_envies_41 (by decide) ?_
      refine a_istore X dX7_envies_42 (by decide) ?_
      exact Zw.to2 (H_44 _ _ _ _ _ _ _ _ (by (try dsimp only); repeat first | assumption | exact zK.rf | refine zK.zu ?_ (by omega) | refine zK.zu0 ?_ (by decide) | refine zK.zwr ?_ (by omega) | refine zK.zfil ?_ (by omega) | refine zK.zcpy ?_ (by omega) | refine zK.trans ?_ (by assumption) | dsimp only) ) rfl rfl rfl
    · refine a_aload_n X dX7_envies_21 rfl ?_
      refine a_iconst (v := 2) X dX7_envies_22 (by decide) ?_
      refine a_callVx X dX7_envies_23 miX7_refuse lm7_102 (s_X7_refuse (P := P) (by assumption)) (by assumption) rfl rfl rfl (Nat.le_of_ble_eq_true rfl) ⟨by decide, by decide, by decide, by decide⟩ (fun r_23 S_23 q_23 => ?_)
      obtain ⟨M_23, N_23, rfl, k_23, ⟨v_23, rfl⟩⟩ := q_23
      refine a_iret X hr dX7_envies_26 ⟨by decide, by decide⟩ ?_
      subst hF
      exact ⟨_, _, rfl, (by (try dsimp only); repeat first | assumption | exact zK.rf | refine zK.zu ?_ (by omega) | refine zK.zu0 ?_ (by decide) | refine zK.zwr ?_ (by omega) | refine zK.zfil ?_ (by omega) | refine zK.zcpy ?_ (by omega) | refine zK.trans ?_ (by assumption) | dsimp only), ⟨_, rfl⟩⟩
  · refine a_aload_n X dX7_envies_7 rfl ?_
    refine a_iconst (v := 1) X dX7_envies_8 (by decide) ?_
    refine a_callVx X dX7_envies_9 miX7_refuse lm7_102 (s_X7_refuse (P := P) (by assumption)) (by assumption) rfl rfl rfl (Nat.le_of_ble_eq_true rfl) ⟨by decide, by decide, by decide, by decide⟩ (fun r_9 S_9 q_9 => ?_)
    obtain ⟨M_9, N_9, rfl, k_9, ⟨v_9, rfl⟩⟩ := q_9
    refine a_iret X hr dX7_envies_12 ⟨by decide, by decide⟩ ?_
    subst hF
    exact ⟨_, _, rfl, (by (try dsimp only); repeat first | assumption | exact zK.rf | refine zK.zu ?_ (by omega) | refine zK.zu0 ?_ (by decide) | refine zK.zwr ?_ (by omega) | refine zK.zfil ?_ (by omega) | refine zK.zcpy ?_ (by omega) | refine zK.trans ?_ (by assumption) | dsimp only), ⟨_, rfl⟩⟩
set_option maxRecDepth 100000 in
theorem s_X7_spoils {l : Launch} {G : zG} {b : Nat} {S : zS} {P : Nat} {v0 : Int32} {v1 : Int32} (hT : LX7 S.1 P) : zM l G b yX7_spoils cX7_spoils 5 (some .int) 5 0 0 [.ref P, .int v0, .int v1] S (fun r z => ∃ M' N', z = (S.1, M', N') ∧ zK P S.2.1 M' ∧ ∃ v : Int32, r = some (.int v)) := by
  refine zM.of miX7_spoils (Nat.le_of_ble_eq_true rfl) ?_
  intro p e s m args below meth c X hr hname
  generalize hF : ((fun r z => ∃ M' N', z = (S.1, M', N') ∧ zK P S.2.1 M' ∧ ∃ v : Int32, r = some (.int v)) : Option Value → zS → Prop) = FQ
  change Zw p l e { frames := 5, cells := 0, slots := 0, locals := 80 * 5 } s m args below meth c G b 5 (MQ below (zQ G b FQ) args s 0 0 (fun q : Nat => b ≤ q)) 0 0 0 [some (.ref P), some (.int v0), some (.int v1), none, none] [] S
  obtain ⟨lt, o, tape, out, reader, list, past, pool, result, odds, paper, trial, trialPool, trialResult, trialOdds⟩ := id hT
  obtain ⟨reader_lt, reader_o, reader_draft, reader_text, reader_unitNames, reader_hunterNames, reader_partyNames, reader_asked⟩ := id reader
  obtain ⟨list_lt, list_o, list_quota, list_score, list_guest, list_party, list_wishCount, list_wishes, list_has⟩ := id list
  obtain ⟨past_lt, past_o, past_stood, past_stood0, past_stood1, past_stood2, past_stood3, past_stood4, past_stood5, past_stood6, past_stood7⟩ := id past
  obtain ⟨pool_lt, pool_o, pool_quota, pool_preferred, pool_forGuests, pool_applicantOf, pool_size, pool_guestCount, pool_score, pool_tickets, pool_bits, pool_party, pool_wishCount, pool_wishes⟩ := id pool
  obtain ⟨result_lt, result_o, result_line, result_unitOf, result_roundOf, result_leftTags, result_leftGuests, result_leftPreferred, result_ranked⟩ := id result
  obtain ⟨odds_lt, odds_o, odds_sets, odds_seen, odds_atUnit, odds_early, odds_result⟩ := id odds
  obtain ⟨paper_lt, paper_o, paper_times, paper_firstWish, paper_dry, paper_list, paper_pool, paper_result⟩ := id paper
  obtain ⟨trial_lt, trial_o, trial_quota, trial_score, trial_guest, trial_party, trial_wishCount, trial_wishes, trial_has⟩ := id trial
  obtain ⟨trialPool_lt, trialPool_o, trialPool_quota, trialPool_preferred, trialPool_forGuests, trialPool_applicantOf, trialPool_size, trialPool_guestCount, trialPool_score, trialPool_tickets, trialPool_bits, trialPool_party, trialPool_wishCount, trialPool_wishes⟩ := id trialPool
  obtain ⟨trialResult_lt, trialResult_o, trialResult_line, trialResult_unitOf, trialResult_roundOf, trialResult_leftTags, trialResult_leftGuests, trialResult_leftPreferred, trialResult_ranked⟩ := id trialResult
  obtain ⟨trialOdds_lt, trialOdds_o, trialOdds_sets, trialOdds_seen, trialOdds_atUnit, trialOdds_early, trialOdds_result⟩ := id trialOdds
  have L_99 : ∀ u : Nat, ∀ (x1_99 : Int32) (x2_99 : Int32) (x3_99 : Int32) (x4_99 : Int32) (M2 : Nat → Nat → Int32) (N2 : Nat → Nat → Int64), zK P S.2.1 M2 → (2147483648 - x4_99.toInt).toNat < u → Zw p l e { frames := 5, cells := 0, slots := 0, locals := 80 * 5 } s m args below meth c G b 5 (MQ below (zQ G b FQ) args s 0 0 (fun q : Nat => b ≤ q)) 0 0 99 [some (.ref (P)), some (.int x1_99), some (.int x2_99), some (.int x3_99), some (.int x4_99)] [] (S.1, M2, N2) := by
    intro u
    induction u with
    | zero => intro x1_99 x2_99 x3_99 x4_99 M2_99 N2_99 k_99 hm_99; exact absurd hm_99 (Nat.not_lt_zero _)
    | succ u_99 ih_99 =>
      intro x1_99 x2_99 x3_99 x4_99 M2_99 N2_99 k_99 hm_99
      have J_153 : ∀ (x1_153 : Int32) (x2_153 : Int32) (x3_153 : Int32) (x4_153 : Int32) (M2 : Nat → Nat → Int32) (N2 : Nat → Nat → Int64), zK P S.2.1 M2 → ((2147483648 - x4_153.toInt).toNat < u_99 + 1) → (x4_153.toInt < 2147483647) → Zw p l e { frames := 5, cells := 0, slots := 0, locals := 80 * 5 } s m args below meth c G b 5 (MQ below (zQ G b FQ) args s 0 0 (fun q : Nat => b ≤ q)) 0 0 153 [some (.ref (P)), some (.int x1_153), some (.int x2_153), some (.int x3_153), some (.int x4_153)] [] (S.1, M2, N2) := by
        intro x1_153 x2_153 x3_153 x4_153 M2_153 N2_153 k_153 f0_153 f1_153
        refine a_iinc X dX7_spoils_153 (by decide) rfl rfl ?_
        refine a_goto (tgt := 99) X dX7_spoils_156 (by decide) ?_
        exact Zw.to2 (ih_99 _ _ _ _ _ _ (by (try dsimp only); repeat first | assumption | exact zK.rf | refine zK.zu ?_ (by omega) | refine zK.zu0 ?_ (by decide) | refine zK.zwr ?_ (by omega) | refine zK.zfil ?_ (by omega) | refine zK.zcpy ?_ (by omega) | refine zK.trans ?_ (by assumption) | dsimp only)  (z_up f1_153 f0_153)) rfl rfl rfl
      refine a_iload X dX7_spoils_99 rfl ?_
      refine a_aload_n X dX7_spoils_101 rfl ?_
      refine a_getr X lf7_40 (by assumption) rfl (by omega) dX7_spoils_102 ?_
      refine a_geti X lf7_140 (by assumption) rfl dX7_spoils_105 ?_
      refine a_icmp_ge (tgt := 159) X dX7_spoils_108 (by decide) (fun h_108 => ?_) (fun h_108 => ?_)
      · refine a_aload_n X dX7_spoils_159 rfl ?_
        refine a_iload_n X dX7_spoils_160 rfl ?_
        refine a_callVx X dX7_spoils_161 miX7_answer lm7_134 (s_X7_answer (P := P) (by assumption)) (by assumption) rfl rfl rfl (Nat.le_of_ble_eq_true rfl) ⟨by decide, by decide, by decide, by decide⟩ (fun r_161 S_161 q_161 => ?_)
        obtain ⟨M_161, N_161, rfl, k_161, ⟨v_161, rfl⟩⟩ := q_161
        refine a_iret X hr dX7_spoils_164 ⟨by decide, by decide⟩ ?_
        subst hF
        exact ⟨_, _, rfl, (by (try dsimp only); repeat first | assumption | exact zK.rf | refine zK.zu ?_ (by omega) | refine zK.zu0 ?_ (by decide) | refine zK.zwr ?_ (by omega) | refine zK.zfil ?_ (by omega) | refine zK.zcpy ?_ (by omega) | refine zK.trans ?_ (by assumption) | dsimp only), ⟨_, rfl⟩⟩
      · refine a_iload X dX7_spoils_111 rfl ?_
        refine a_iload_n X dX7_spoils_113 rfl ?_
        refine a_icmp_eq (tgt := 153) X dX7_spoils_114 (by decide) (fun h_114 => ?_) (fun h_114 => ?_)
        · exact Zw.to2 (J_153 _ _ _ _ _ _ (by (try dsimp only); repeat first | assumption | exact zK.rf | refine zK.zu ?_ (by omega) | refine zK.zu0 ?_ (by decide) | refine zK.zwr ?_ (by omega) | refine zK.zfil ?_ (by omega) | refine zK.zcpy ?_ (by omega) | refine zK.trans ?_ (by assumption) | dsimp only) hm_99 (by first | assumption | exact z_lt (by assumption) | exact z_lt2 (by assumption) | exact z_lt3 (by assumption) (by decide))) rfl rfl rfl
        · refine a_aload_n X dX7_spoils_117 rfl ?_
          refine a_getr X lf7_71 (by assumption) rfl (by omega) dX7_spoils_118 ?_
          refine a_aload_n X dX7_spoils_121 rfl ?_
          refine a_getr X lf7_68 (by assumption) rfl (by omega) dX7_spoils_122 ?_
          refine a_iload X dX7_spoils_125 rfl ?_
          refine a_callVx X dX7_spoils_127 miX5_rankHeld lm7_280 (s_X5_rankHeld (P := P) (by assumption) (by omega) (by assumption) (by omega)) (by assumption) rfl rfl rfl (Nat.le_of_ble_eq_true rfl) ⟨by decide, by decide, by decide, by decide⟩ (fun r_127 S_127 q_127 => ?_)
          obtain ⟨rfl, ⟨v_127, rfl⟩⟩ := q_127
          refine a_aload_n X dX7_spoils_130 rfl ?_
          refine a_getr X lf7_47 (by assumption) rfl (by omega) dX7_spoils_131 ?_
          refine a_aload_n X dX7_spoils_134 rfl ?_
          refine a_getr X lf7_40 (by assumption) rfl (by omega) dX7_spoils_135 ?_
          refine a_iload X dX7_spoils_138 rfl ?_
          refine a_callVx X dX7_spoils_140 miX5_rankHeld lm7_280 (s_X5_rankHeld (P := P) (by assumption) (by omega) (by assumption) (by omega)) (by assumption) rfl rfl rfl (Nat.le_of_ble_eq_true rfl) ⟨by decide, by decide, by decide, by decide⟩ (fun r_140 S_140 q_140 => ?_)
          obtain ⟨rfl, ⟨v_140, rfl⟩⟩ := q_140
          refine a_icmp_ge (tgt := 153) X dX7_spoils_143 (by decide) (fun h_143 => ?_) (fun h_143 => ?_)
          · exact Zw.to2 (J_153 _ _ _ _ _ _ (by (try dsimp only); repeat first | assumption | exact zK.rf | refine zK.zu ?_ (by omega) | refine zK.zu0 ?_ (by decide) | refine zK.zwr ?_ (by omega) | refine zK.zfil ?_ (by omega) | refine zK.zcpy ?_ (by omega) | refine zK.trans ?_ (by assumption) | dsimp only) hm_99 (by first | assumption | exact z_lt (by assumption) | exact z_lt2 (by assumption) | exact z_lt3 (by assumption) (by decide))) rfl rfl rfl
          · refine a_iload_n X dX7_spoils_146 rfl ?_
            refine a_iconst (v := 1) X dX7_spoils_147 (by decide) ?_
            refine a_iload X dX7_spoils_148 rfl ?_
            refine a_ishl X dX7_spoils_150 ?_
            refine a_ior X dX7_spoils_151 ?_
            refine a_istore_n X dX7_spoils_152 (by decide) ?_
            exact Zw.to2 (J_153 _ _ _ _ _ _ (by (try dsimp only); repeat first | assumption | exact zK.rf | refine zK.zu ?_ (by omega) | refine zK.zu0 ?_ (by decide) | refine zK.zwr ?_ (by omega) | refine zK.zfil ?_ (by omega) | refine zK.zcpy ?_ (by omega) | refine zK.trans ?_ (by assumption) | dsimp only) hm_99 (by first | assumption | exact z_lt (by assumption) | exact z_lt2 (by assumption) | exact z_lt3 (by assumption) (by decide))) rfl rfl rfl
  have H_99 : ∀ (x1_99 : Int32) (x2_99 : Int32) (x3_99 : Int32) (x4_99 : Int32) (M2 : Nat → Nat → Int32) (N2 : Nat → Nat → Int64), zK P S.2.1 M2 → Zw p l e { frames := 5, cells := 0, slots := 0, locals := 80 * 5 } s m args below meth c G b 5 (MQ below (zQ G b FQ) args s 0 0 (fun q : Nat => b ≤ q)) 0 0 99 [some (.ref (P)), some (.int x1_99), some (.int x2_99), some (.int x3_99), some (.int x4_99)] [] (S.1, M2, N2) := fun x1_99 x2_99 x3_99 x4_99 M2 N2 k  => L_99 _ x1_99 x2_99 x3_99 x4_99 M2 N2 k  (Nat.lt_succ_self _)
  refine a_iload_n X dX7_spoils_0 rfl ?_
  refine a_callSx X dX7_spoils_1 miX7_isSeed lm7_237 (s_X7_isSeed (P := P)) rfl rfl (Nat.le_of_ble_eq_true rfl) ⟨by decide, by decide, by decide, by decide⟩ (fun r_1 S_1 q_1 => ?_)
  obtain ⟨rfl, ⟨v_1, rfl, b_1⟩⟩ := q_1
  refine a_if_ne (tgt := 13) X dX7_spoils_4 (by decide) (fun h_4 => ?_) (fun h_4 => ?_)
  · refine a_aload_n X dX7_spoils_13 rfl ?_
    refine a_iload_n X dX7_spoils_14 rfl ?_
    refine a_callVx X dX7_spoils_15 miX7_isApplicant lm7_206 (s_X7_isApplicant (P := P) (by assumption)) (by assumption) rfl rfl rfl (Nat.le_of_ble_eq_true rfl) ⟨by decide, by decide, by decide, by decide⟩ (fun r_15 S_15 q_15 => ?_)
    obtain ⟨rfl, ⟨v_15, rfl, b_15⟩⟩ := q_15
    refine a_if_ne (tgt := 27) X dX7_spoils_18 (by decide) (fun h_18 => ?_) (fun h_18 => ?_)
    · refine a_aload_n X dX7_spoils_27 rfl ?_
      refine a_getr X lf7_47 (by assumption) rfl (by omega) dX7_spoils_28 ?_
      refine a_aload_n X dX7_spoils_31 rfl ?_
      refine a_getr X lf7_40 (by assumption) rfl (by omega) dX7_spoils_32 ?_
      refine a_iload_n X dX7_spoils_35 rfl ?_
      refine a_callVx X dX7_spoils_36 miX5_bySeed lm7_247 (s_X5_bySeed (P := P) (by assumption) (by omega) (by assumption) (by omega)) (by assumption) rfl rfl rfl (Nat.le_of_ble_eq_true rfl) ⟨by decide, by decide, by decide, by decide⟩ (fun r_36 S_36 q_36 => ?_)
      obtain ⟨M_36, N_36, rfl, k_36, rfl⟩ := q_36
      refine a_aload_n X dX7_spoils_39 rfl ?_
      refine a_getr X lf7_65 (by assumption) rfl (by omega) dX7_spoils_40 ?_
      refine a_aload_n X dX7_spoils_43 rfl ?_
      refine a_getr X lf7_26 (by assumption) rfl (by omega) dX7_spoils_44 ?_
      refine a_callVx X dX7_spoils_47 miX4_take lm7_113 (s_X4_take (P := P) (by assumption) (by omega) (by assumption) (by omega) (by omega)) (by assumption) rfl rfl rfl (Nat.le_of_ble_eq_true rfl) ⟨by decide, by decide, by decide, by decide⟩ (fun r_47 S_47 q_47 => ?_)
      obtain ⟨M_47, N_47, rfl, k_47, rfl⟩ := q_47
      refine a_aload_n X dX7_spoils_50 rfl ?_
      refine a_getr X lf7_65 (by assumption) rfl (by omega) dX7_spoils_51 ?_
      refine a_aload_n X dX7_spoils_54 rfl ?_
      refine a_getr X lf7_40 (by assumption) rfl (by omega) dX7_spoils_55 ?_
      refine a_getr X lf7_222 (by assumption) rfl (by omega) dX7_spoils_58 ?_
      refine a_iload_n X dX7_spoils_61 rfl ?_
      refine a_callSv X dX7_spoils_62 miX7_cell lm7_175 (c_cell (by assumption) (by first | decide | assumption)) rfl rfl (Nat.le_of_ble_eq_true rfl) ⟨by decide, by decide, by decide, by decide⟩ ?_
      refine a_iconst (v := -1) X dX7_spoils_65 (by decide) ?_
      refine a_iconst (v := -1) X dX7_spoils_66 (by decide) ?_
      refine a_iconst (v := -1) X dX7_spoils_67 (by decide) ?_
      refine a_callVx X dX7_spoils_68 miX4_wishFor lm7_283 (s_X4_wishFor (P := P) (by assumption) (by omega)) (by assumption) rfl rfl rfl (Nat.le_of_ble_eq_true rfl) ⟨by decide, by decide, by decide, by decide⟩ (fun r_68 S_68 q_68 => ?_)
      obtain ⟨M_68, N_68, rfl, k_68, rfl⟩ := q_68
      refine a_aload_n X dX7_spoils_71 rfl ?_
      refine a_getr X lf7_68 (by assumption) rfl (by omega) dX7_spoils_72 ?_
      refine a_aload_n X dX7_spoils_75 rfl ?_
      refine a_getr X lf7_65 (by assumption) rfl (by omega) dX7_spoils_76 ?_
      refine a_callVx X dX7_spoils_79 miX2_gather lm7_80 (s_X2_gather (P := P) (by assumption) (by omega) (by assumption) (by omega)) (by assumption) rfl rfl rfl (Nat.le_of_ble_eq_true rfl) ⟨by decide, by decide, by decide, by decide⟩ (fun r_79 S_79 q_79 => ?_)
      obtain ⟨M_79, N_79, rfl, k_79, rfl⟩ := q_79
      refine a_aload_n X dX7_spoils_82 rfl ?_
      refine a_getr X lf7_71 (by assumption) rfl (by omega) dX7_spoils_83 ?_
      refine a_aload_n X dX7_spoils_86 rfl ?_
      refine a_getr X lf7_68 (by assumption) rfl (by omega) dX7_spoils_87 ?_
      refine a_iload_n X dX7_spoils_90 rfl ?_
      refine a_callVx X dX7_spoils_91 miX5_bySeed lm7_247 (s_X5_bySeed (P := P) (by assumption) (by omega) (by assumption) (by omega)) (by assumption) rfl rfl rfl (Nat.le_of_ble_eq_true rfl) ⟨by decide, by decide, by decide, by decide⟩ (fun r_91 S_91 q_91 => ?_)
      obtain ⟨M_91, N_91, rfl, k_91, rfl⟩ := q_91
      refine a_iconst (v := 0) X dX7_spoils_94 (by decide) ?_
      refine a_istore_n X dX7_spoils_95 (by decide) ?_
      refine a_iconst (v := 0) X dX7_spoils_96 (by decide) ?_
      refine a_istore X dX7_spoils_97 (by decide) ?_
      exact Zw.to2 (H_99 _ _ _ _ _ _ (by (try dsimp only); repeat first | assumption | exact zK.rf | refine zK.zu ?_ (by omega) | refine zK.zu0 ?_ (by decide) | refine zK.zwr ?_ (by omega) | refine zK.zfil ?_ (by omega) | refine zK.zcpy ?_ (by omega) | refine zK.trans ?_ (by assumption) | dsimp only) ) rfl rfl rfl
    · refine a_aload_n X dX7_spoils_21 rfl ?_
      refine a_iconst (v := 2) X dX7_spoils_22 (by decide) ?_
      refine a_callVx X dX7_spoils_23 miX7_refuse lm7_102 (s_X7_refuse (P := P) (by assumption)) (by assumption) rfl rfl rfl (Nat.le_of_ble_eq_true rfl) ⟨by decide, by decide, by decide, by decide⟩ (fun r_23 S_23 q_23 => ?_)
      obtain ⟨M_23, N_23, rfl, k_23, ⟨v_23, rfl⟩⟩ := q_23
      refine a_iret X hr dX7_spoils_26 ⟨by decide, by decide⟩ ?_
      subst hF
      exact ⟨_, _, rfl, (by (try dsimp only); repeat first | assumption | exact zK.rf | refine zK.zu ?_ (by omega) | refine zK.zu0 ?_ (by decide) | refine zK.zwr ?_ (by omega) | refine zK.zfil ?_ (by omega) | refine zK.zcpy ?_ (by omega) | refine zK.trans ?_ (by assumption) | dsimp only), ⟨_, rfl⟩⟩
  · refine a_aload_n X dX7_spoils_7 rfl ?_
    refine a_iconst (v := 1) X dX7_spoils_8 (by decide) ?_
    refine a_callVx X dX7_spoils_9 miX7_refuse lm7_102 (s_X7_refuse (P := P) (by assumption)) (by assumption) rfl rfl rfl (Nat.le_of_ble_eq_true rfl) ⟨by decide, by decide, by decide, by decide⟩ (fun r_9 S_9 q_9 => ?_)
    obtain ⟨M_9, N_9, rfl, k_9, ⟨v_9, rfl⟩⟩ := q_9
    refine a_iret X hr dX7_spoils_12 ⟨by decide, by decide⟩ ?_
    subst hF
    exact ⟨_, _, rfl, (by (try dsimp only); repeat first | assumption | exact zK.rf | refine zK.zu ?_ (by omega) | refine zK.zu0 ?_ (by decide) | refine zK.zwr ?_ (by omega) | refine zK.zfil ?_ (by omega) | refine zK.zcpy ?_ (by omega) | refine zK.trans ?_ (by assumption) | dsimp only), ⟨_, rfl⟩⟩
set_option maxRecDepth 100000 in
theorem s_X7_behind {l : Launch} {G : zG} {b : Nat} {S : zS} {P : Nat} {v0 : Int32} {v1 : Int32} (hT : LX7 S.1 P) : zM l G b yX7_behind cX7_behind 3 (some .int) 5 0 0 [.ref P, .int v0, .int v1] S (fun r z => ∃ M' N', z = (S.1, M', N') ∧ zK P S.2.1 M' ∧ ∃ v : Int32, r = some (.int v)) := by
  refine zM.of miX7_behind (Nat.le_of_ble_eq_true rfl) ?_
  intro p e s m args below meth c X hr hname
  generalize hF : ((fun r z => ∃ M' N', z = (S.1, M', N') ∧ zK P S.2.1 M' ∧ ∃ v : Int32, r = some (.int v)) : Option Value → zS → Prop) = FQ
  change Zw p l e { frames := 5, cells := 0, slots := 0, locals := 80 * 5 } s m args below meth c G b 3 (MQ below (zQ G b FQ) args s 0 0 (fun q : Nat => b ≤ q)) 0 0 0 [some (.ref P), some (.int v0), some (.int v1)] [] S
  obtain ⟨lt, o, tape, out, reader, list, past, pool, result, odds, paper, trial, trialPool, trialResult, trialOdds⟩ := id hT
  obtain ⟨reader_lt, reader_o, reader_draft, reader_text, reader_unitNames, reader_hunterNames, reader_partyNames, reader_asked⟩ := id reader
  obtain ⟨list_lt, list_o, list_quota, list_score, list_guest, list_party, list_wishCount, list_wishes, list_has⟩ := id list
  obtain ⟨past_lt, past_o, past_stood, past_stood0, past_stood1, past_stood2, past_stood3, past_stood4, past_stood5, past_stood6, past_stood7⟩ := id past
  obtain ⟨pool_lt, pool_o, pool_quota, pool_preferred, pool_forGuests, pool_applicantOf, pool_size, pool_guestCount, pool_score, pool_tickets, pool_bits, pool_party, pool_wishCount, pool_wishes⟩ := id pool
  obtain ⟨result_lt, result_o, result_line, result_unitOf, result_roundOf, result_leftTags, result_leftGuests, result_leftPreferred, result_ranked⟩ := id result
  obtain ⟨odds_lt, odds_o, odds_sets, odds_seen, odds_atUnit, odds_early, odds_result⟩ := id odds
  obtain ⟨paper_lt, paper_o, paper_times, paper_firstWish, paper_dry, paper_list, paper_pool, paper_result⟩ := id paper
  obtain ⟨trial_lt, trial_o, trial_quota, trial_score, trial_guest, trial_party, trial_wishCount, trial_wishes, trial_has⟩ := id trial
  obtain ⟨trialPool_lt, trialPool_o, trialPool_quota, trialPool_preferred, trialPool_forGuests, trialPool_applicantOf, trialPool_size, trialPool_guestCount, trialPool_score, trialPool_tickets, trialPool_bits, trialPool_party, trialPool_wishCount, trialPool_wishes⟩ := id trialPool
  obtain ⟨trialResult_lt, trialResult_o, trialResult_line, trialResult_unitOf, trialResult_roundOf, trialResult_leftTags, trialResult_leftGuests, trialResult_leftPreferred, trialResult_ranked⟩ := id trialResult
  obtain ⟨trialOdds_lt, trialOdds_o, trialOdds_sets, trialOdds_seen, trialOdds_atUnit, trialOdds_early, trialOdds_result⟩ := id trialOdds
  refine a_iload_n X dX7_behind_0 rfl ?_
  refine a_callSx X dX7_behind_1 miX7_isSeed lm7_237 (s_X7_isSeed (P := P)) rfl rfl (Nat.le_of_ble_eq_true rfl) ⟨by decide, by decide, by decide, by decide⟩ (fun r_1 S_1 q_1 => ?_)
  obtain ⟨rfl, ⟨v_1, rfl, b_1⟩⟩ := q_1
  refine a_if_ne (tgt := 13) X dX7_behind_4 (by decide) (fun h_4 => ?_) (fun h_4 => ?_)
  · refine a_aload_n X dX7_behind_13 rfl ?_
    refine a_iload_n X dX7_behind_14 rfl ?_
    refine a_callVx X dX7_behind_15 miX7_isHunter lm7_168 (s_X7_isHunter (P := P) (by assumption)) (by assumption) rfl rfl rfl (Nat.le_of_ble_eq_true rfl) ⟨by decide, by decide, by decide, by decide⟩ (fun r_15 S_15 q_15 => ?_)
    obtain ⟨rfl, ⟨v_15, rfl, b_15⟩⟩ := q_15
    refine a_if_ne (tgt := 27) X dX7_behind_18 (by decide) (fun h_18 => ?_) (fun h_18 => ?_)
    · refine a_aload_n X dX7_behind_27 rfl ?_
      refine a_getr X lf7_47 (by assumption) rfl (by omega) dX7_behind_28 ?_
      refine a_aload_n X dX7_behind_31 rfl ?_
      refine a_getr X lf7_40 (by assumption) rfl (by omega) dX7_behind_32 ?_
      refine a_iload_n X dX7_behind_35 rfl ?_
      refine a_callVx X dX7_behind_36 miX5_bySeed lm7_247 (s_X5_bySeed (P := P) (by assumption) (by omega) (by assumption) (by omega)) (by assumption) rfl rfl rfl (Nat.le_of_ble_eq_true rfl) ⟨by decide, by decide, by decide, by decide⟩ (fun r_36 S_36 q_36 => ?_)
      obtain ⟨M_36, N_36, rfl, k_36, rfl⟩ := q_36
      refine a_aload_n X dX7_behind_39 rfl ?_
      refine a_aload_n X dX7_behind_40 rfl ?_
      refine a_getr X lf7_47 (by assumption) rfl (by omega) dX7_behind_41 ?_
      refine a_aload_n X dX7_behind_44 rfl ?_
      refine a_getr X lf7_40 (by assumption) rfl (by omega) dX7_behind_45 ?_
      refine a_aload_n X dX7_behind_48 rfl ?_
      refine a_getr X lf7_40 (by assumption) rfl (by omega) dX7_behind_49 ?_
      refine a_getr X lf7_182 (by assumption) rfl (by omega) dX7_behind_52 ?_
      refine a_iload_n X dX7_behind_55 rfl ?_
      refine a_callSv X dX7_behind_56 miX7_cell lm7_175 (c_cell (by assumption) (by first | decide | assumption)) rfl rfl (Nat.le_of_ble_eq_true rfl) ⟨by decide, by decide, by decide, by decide⟩ ?_
      refine a_aload_n X dX7_behind_59 rfl ?_
      refine a_getr X lf7_26 (by assumption) rfl (by omega) dX7_behind_60 ?_
      refine a_getr X lf7_172 (by assumption) rfl (by omega) dX7_behind_63 ?_
      refine a_iload_n X dX7_behind_66 rfl ?_
      refine a_callSv X dX7_behind_67 miX7_cell lm7_175 (c_cell (by assumption) (by first | decide | assumption)) rfl rfl (Nat.le_of_ble_eq_true rfl) ⟨by decide, by decide, by decide, by decide⟩ ?_
      refine a_callVx X dX7_behind_70 miX5_scoreBehind lm7_287 (s_X5_scoreBehind (P := P) (by assumption) (by omega) (by assumption) (by omega)) (by assumption) rfl rfl rfl (Nat.le_of_ble_eq_true rfl) ⟨by decide, by decide, by decide, by decide⟩ (fun r_70 S_70 q_70 => ?_)
      obtain ⟨rfl, ⟨v_70, rfl⟩⟩ := q_70
      refine a_callVx X dX7_behind_73 miX7_answer lm7_134 (s_X7_answer (P := P) (by assumption)) (by assumption) rfl rfl rfl (Nat.le_of_ble_eq_true rfl) ⟨by decide, by decide, by decide, by decide⟩ (fun r_73 S_73 q_73 => ?_)
      obtain ⟨M_73, N_73, rfl, k_73, ⟨v_73, rfl⟩⟩ := q_73
      refine a_iret X hr dX7_behind_76 ⟨by decide, by decide⟩ ?_
      subst hF
      exact ⟨_, _, rfl, (by (try dsimp only); repeat first | assumption | exact zK.rf | refine zK.zu ?_ (by omega) | refine zK.zu0 ?_ (by decide) | refine zK.zwr ?_ (by omega) | refine zK.zfil ?_ (by omega) | refine zK.zcpy ?_ (by omega) | refine zK.trans ?_ (by assumption) | dsimp only), ⟨_, rfl⟩⟩
    · refine a_aload_n X dX7_behind_21 rfl ?_
      refine a_iconst (v := 2) X dX7_behind_22 (by decide) ?_
      refine a_callVx X dX7_behind_23 miX7_refuse lm7_102 (s_X7_refuse (P := P) (by assumption)) (by assumption) rfl rfl rfl (Nat.le_of_ble_eq_true rfl) ⟨by decide, by decide, by decide, by decide⟩ (fun r_23 S_23 q_23 => ?_)
      obtain ⟨M_23, N_23, rfl, k_23, ⟨v_23, rfl⟩⟩ := q_23
      refine a_iret X hr dX7_behind_26 ⟨by decide, by decide⟩ ?_
      subst hF
      exact ⟨_, _, rfl, (by (try dsimp only); repeat first | assumption | exact zK.rf | refine zK.zu ?_ (by omega) | refine zK.zu0 ?_ (by decide) | refine zK.zwr ?_ (by omega) | refine zK.zfil ?_ (by omega) | refine zK.zcpy ?_ (by omega) | refine zK.trans ?_ (by assumption) | dsimp only), ⟨_, rfl⟩⟩
  · refine a_aload_n X dX7_behind_7 rfl ?_
    refine a_iconst (v := 1) X dX7_behind_8 (by decide) ?_
    refine a_callVx X dX7_behind_9 miX7_refuse lm7_102 (s_X7_refuse (P := P) (by assumption)) (by assumption) rfl rfl rfl (Nat.le_of_ble_eq_true rfl) ⟨by decide, by decide, by decide, by decide⟩ (fun r_9 S_9 q_9 => ?_)
    obtain ⟨M_9, N_9, rfl, k_9, ⟨v_9, rfl⟩⟩ := q_9
    refine a_iret X hr dX7_behind_12 ⟨by decide, by decide⟩ ?_
    subst hF
    exact ⟨_, _, rfl, (by (try dsimp only); repeat first | assumption | exact zK.rf | refine zK.zu ?_ (by omega) | refine zK.zu0 ?_ (by decide) | refine zK.zwr ?_ (by omega) | refine zK.zfil ?_ (by omega) | refine zK.zcpy ?_ (by omega) | refine zK.trans ?_ (by assumption) | dsimp only), ⟨_, rfl⟩⟩
set_option maxRecDepth 100000 in
theorem s_X7_lucky {l : Launch} {G : zG} {b : Nat} {S : zS} {P : Nat} {v0 : Int32} {v1 : Int32} (hT : LX7 S.1 P) : zM l G b yX7_lucky cX7_lucky 4 (some .int) 5 0 0 [.ref P, .int v0, .int v1] S (fun r z => ∃ M' N', z = (S.1, M', N') ∧ zK P S.2.1 M' ∧ ∃ v : Int32, r = some (.int v)) := by
  refine zM.of miX7_lucky (Nat.le_of_ble_eq_true rfl) ?_
  intro p e s m args below meth c X hr hname
  generalize hF : ((fun r z => ∃ M' N', z = (S.1, M', N') ∧ zK P S.2.1 M' ∧ ∃ v : Int32, r = some (.int v)) : Option Value → zS → Prop) = FQ
  change Zw p l e { frames := 5, cells := 0, slots := 0, locals := 80 * 5 } s m args below meth c G b 4 (MQ below (zQ G b FQ) args s 0 0 (fun q : Nat => b ≤ q)) 0 0 0 [some (.ref P), some (.int v0), some (.int v1), none] [] S
  obtain ⟨lt, o, tape, out, reader, list, past, pool, result, odds, paper, trial, trialPool, trialResult, trialOdds⟩ := id hT
  obtain ⟨reader_lt, reader_o, reader_draft, reader_text, reader_unitNames, reader_hunterNames, reader_partyNames, reader_asked⟩ := id reader
  obtain ⟨list_lt, list_o, list_quota, list_score, list_guest, list_party, list_wishCount, list_wishes, list_has⟩ := id list
  obtain ⟨past_lt, past_o, past_stood, past_stood0, past_stood1, past_stood2, past_stood3, past_stood4, past_stood5, past_stood6, past_stood7⟩ := id past
  obtain ⟨pool_lt, pool_o, pool_quota, pool_preferred, pool_forGuests, pool_applicantOf, pool_size, pool_guestCount, pool_score, pool_tickets, pool_bits, pool_party, pool_wishCount, pool_wishes⟩ := id pool
  obtain ⟨result_lt, result_o, result_line, result_unitOf, result_roundOf, result_leftTags, result_leftGuests, result_leftPreferred, result_ranked⟩ := id result
  obtain ⟨odds_lt, odds_o, odds_sets, odds_seen, odds_atUnit, odds_early, odds_result⟩ := id odds
  obtain ⟨paper_lt, paper_o, paper_times, paper_firstWish, paper_dry, paper_list, paper_pool, paper_result⟩ := id paper
  obtain ⟨trial_lt, trial_o, trial_quota, trial_score, trial_guest, trial_party, trial_wishCount, trial_wishes, trial_has⟩ := id trial
  obtain ⟨trialPool_lt, trialPool_o, trialPool_quota, trialPool_preferred, trialPool_forGuests, trialPool_applicantOf, trialPool_size, trialPool_guestCount, trialPool_score, trialPool_tickets, trialPool_bits, trialPool_party, trialPool_wishCount, trialPool_wishes⟩ := id trialPool
  obtain ⟨trialResult_lt, trialResult_o, trialResult_line, trialResult_unitOf, trialResult_roundOf, trialResult_leftTags, trialResult_leftGuests, trialResult_leftPreferred, trialResult_ranked⟩ := id trialResult
  obtain ⟨trialOdds_lt, trialOdds_o, trialOdds_sets, trialOdds_seen, trialOdds_atUnit, trialOdds_early, trialOdds_result⟩ := id trialOdds
  have L_36 : ∀ u : Nat, ∀ (x1_36 : Int32) (x2_36 : Int32) (x3_36 : Int32) (M2 : Nat → Nat → Int32) (N2 : Nat → Nat → Int64), zK P S.2.1 M2 → (2147483648 - x3_36.toInt).toNat < u → Zw p l e { frames := 5, cells := 0, slots := 0, locals := 80 * 5 } s m args below meth c G b 4 (MQ below (zQ G b FQ) args s 0 0 (fun q : Nat => b ≤ q)) 0 0 36 [some (.ref (P)), some (.int x1_36), some (.int x2_36), some (.int x3_36)] [] (S.1, M2, N2) := by
    intro u
    induction u with
    | zero => intro x1_36 x2_36 x3_36 M2_36 N2_36 k_36 hm_36; exact absurd hm_36 (Nat.not_lt_zero _)
    | succ u_36 ih_36 =>
      intro x1_36 x2_36 x3_36 M2_36 N2_36 k_36 hm_36
      refine a_iload_n X dX7_lucky_36 rfl ?_
      refine a_bipush (v := 50) X dX7_lucky_37 (by decide) ?_
      refine a_icmp_ge (tgt := 85) X dX7_lucky_39 (by decide) (fun h_39 => ?_) (fun h_39 => ?_)
      · refine a_aload_n X dX7_lucky_85 rfl ?_
        refine a_iconst (v := 5) X dX7_lucky_86 (by decide) ?_
        refine a_callVx X dX7_lucky_87 miX7_refuse lm7_102 (s_X7_refuse (P := P) (by assumption)) (by assumption) rfl rfl rfl (Nat.le_of_ble_eq_true rfl) ⟨by decide, by decide, by decide, by decide⟩ (fun r_87 S_87 q_87 => ?_)
        obtain ⟨M_87, N_87, rfl, k_87, ⟨v_87, rfl⟩⟩ := q_87
        refine a_iret X hr dX7_lucky_90 ⟨by decide, by decide⟩ ?_
        subst hF
        exact ⟨_, _, rfl, (by (try dsimp only); repeat first | assumption | exact zK.rf | refine zK.zu ?_ (by omega) | refine zK.zu0 ?_ (by decide) | refine zK.zwr ?_ (by omega) | refine zK.zfil ?_ (by omega) | refine zK.zcpy ?_ (by omega) | refine zK.trans ?_ (by assumption) | dsimp only), ⟨_, rfl⟩⟩
      · refine a_aload_n X dX7_lucky_42 rfl ?_
        refine a_getr X lf7_47 (by assumption) rfl (by omega) dX7_lucky_43 ?_
        refine a_aload_n X dX7_lucky_46 rfl ?_
        refine a_getr X lf7_40 (by assumption) rfl (by omega) dX7_lucky_47 ?_
        refine a_iload_n X dX7_lucky_50 rfl ?_
        refine a_iload_n X dX7_lucky_51 rfl ?_
        refine a_iadd X dX7_lucky_52 ?_
        refine a_callVx X dX7_lucky_53 miX5_bySeed lm7_247 (s_X5_bySeed (P := P) (by assumption) (by omega) (by assumption) (by omega)) (by assumption) rfl rfl rfl (Nat.le_of_ble_eq_true rfl) ⟨by decide, by decide, by decide, by decide⟩ (fun r_53 S_53 q_53 => ?_)
        obtain ⟨M_53, N_53, rfl, k_53, rfl⟩ := q_53
        refine a_aload_n X dX7_lucky_56 rfl ?_
        refine a_getr X lf7_47 (by assumption) rfl (by omega) dX7_lucky_57 ?_
        refine a_aload_n X dX7_lucky_60 rfl ?_
        refine a_getr X lf7_40 (by assumption) rfl (by omega) dX7_lucky_61 ?_
        refine a_iload_n X dX7_lucky_64 rfl ?_
        refine a_callVx X dX7_lucky_65 miX5_hasFirst lm7_292 (s_X5_hasFirst (P := P) (by assumption) (by omega) (by assumption) (by omega)) (by assumption) rfl rfl rfl (Nat.le_of_ble_eq_true rfl) ⟨by decide, by decide, by decide, by decide⟩ (fun r_65 S_65 q_65 => ?_)
        obtain ⟨rfl, ⟨v_65, rfl, b_65⟩⟩ := q_65
        refine a_if_eq (tgt := 79) X dX7_lucky_68 (by decide) (fun h_68 => ?_) (fun h_68 => ?_)
        · refine a_iinc X dX7_lucky_79 (by decide) rfl rfl ?_
          refine a_goto (tgt := 36) X dX7_lucky_82 (by decide) ?_
          exact Zw.to2 (ih_36 _ _ _ _ _ (by (try dsimp only); repeat first | assumption | exact zK.rf | refine zK.zu ?_ (by omega) | refine zK.zu0 ?_ (by decide) | refine zK.zwr ?_ (by omega) | refine zK.zfil ?_ (by omega) | refine zK.zcpy ?_ (by omega) | refine zK.trans ?_ (by assumption) | dsimp only)  (z_up (by first | assumption | exact z_lt (by assumption) | exact z_lt2 (by assumption) | exact z_lt3 (by assumption) (by decide)) hm_36)) rfl rfl rfl
        · refine a_aload_n X dX7_lucky_71 rfl ?_
          refine a_iload_n X dX7_lucky_72 rfl ?_
          refine a_iload_n X dX7_lucky_73 rfl ?_
          refine a_iadd X dX7_lucky_74 ?_
          refine a_callVx X dX7_lucky_75 miX7_answer lm7_134 (s_X7_answer (P := P) (by assumption)) (by assumption) rfl rfl rfl (Nat.le_of_ble_eq_true rfl) ⟨by decide, by decide, by decide, by decide⟩ (fun r_75 S_75 q_75 => ?_)
          obtain ⟨M_75, N_75, rfl, k_75, ⟨v_75, rfl⟩⟩ := q_75
          refine a_iret X hr dX7_lucky_78 ⟨by decide, by decide⟩ ?_
          subst hF
          exact ⟨_, _, rfl, (by (try dsimp only); repeat first | assumption | exact zK.rf | refine zK.zu ?_ (by omega) | refine zK.zu0 ?_ (by decide) | refine zK.zwr ?_ (by omega) | refine zK.zfil ?_ (by omega) | refine zK.zcpy ?_ (by omega) | refine zK.trans ?_ (by assumption) | dsimp only), ⟨_, rfl⟩⟩
  have H_36 : ∀ (x1_36 : Int32) (x2_36 : Int32) (x3_36 : Int32) (M2 : Nat → Nat → Int32) (N2 : Nat → Nat → Int64), zK P S.2.1 M2 → Zw p l e { frames := 5, cells := 0, slots := 0, locals := 80 * 5 } s m args below meth c G b 4 (MQ below (zQ G b FQ) args s 0 0 (fun q : Nat => b ≤ q)) 0 0 36 [some (.ref (P)), some (.int x1_36), some (.int x2_36), some (.int x3_36)] [] (S.1, M2, N2) := fun x1_36 x2_36 x3_36 M2 N2 k  => L_36 _ x1_36 x2_36 x3_36 M2 N2 k  (Nat.lt_succ_self _)
  have J_14 : ∀ (x1_14 : Int32) (x2_14 : Int32) (x3_14 : Option Value) (M2 : Nat → Nat → Int32) (N2 : Nat → Nat → Int64), zK P S.2.1 M2 → Zw p l e { frames := 5, cells := 0, slots := 0, locals := 80 * 5 } s m args below meth c G b 4 (MQ below (zQ G b FQ) args s 0 0 (fun q : Nat => b ≤ q)) 0 0 14 [some (.ref (P)), some (.int x1_14), some (.int x2_14), x3_14] [] (S.1, M2, N2) := by
    intro x1_14 x2_14 x3_14 M2_14 N2_14 k_14
    refine a_aload_n X dX7_lucky_14 rfl ?_
    refine a_iconst (v := 1) X dX7_lucky_15 (by decide) ?_
    refine a_callVx X dX7_lucky_16 miX7_refuse lm7_102 (s_X7_refuse (P := P) (by assumption)) (by assumption) rfl rfl rfl (Nat.le_of_ble_eq_true rfl) ⟨by decide, by decide, by decide, by decide⟩ (fun r_16 S_16 q_16 => ?_)
    obtain ⟨M_16, N_16, rfl, k_16, ⟨v_16, rfl⟩⟩ := q_16
    refine a_iret X hr dX7_lucky_19 ⟨by decide, by decide⟩ ?_
    subst hF
    exact ⟨_, _, rfl, (by (try dsimp only); repeat first | assumption | exact zK.rf | refine zK.zu ?_ (by omega) | refine zK.zu0 ?_ (by decide) | refine zK.zwr ?_ (by omega) | refine zK.zfil ?_ (by omega) | refine zK.zcpy ?_ (by omega) | refine zK.trans ?_ (by assumption) | dsimp only), ⟨_, rfl⟩⟩
  refine a_iload_n X dX7_lucky_0 rfl ?_
  refine a_callSx X dX7_lucky_1 miX7_isSeed lm7_237 (s_X7_isSeed (P := P)) rfl rfl (Nat.le_of_ble_eq_true rfl) ⟨by decide, by decide, by decide, by decide⟩ (fun r_1 S_1 q_1 => ?_)
  obtain ⟨rfl, ⟨v_1, rfl, b_1⟩⟩ := q_1
  refine a_if_eq (tgt := 14) X dX7_lucky_4 (by decide) (fun h_4 => ?_) (fun h_4 => ?_)
  · exact Zw.to2 (J_14 _ _ _ _ _ (by (try dsimp only); repeat first | assumption | exact zK.rf | refine zK.zu ?_ (by omega) | refine zK.zu0 ?_ (by decide) | refine zK.zwr ?_ (by omega) | refine zK.zfil ?_ (by omega) | refine zK.zcpy ?_ (by omega) | refine zK.trans ?_ (by assumption) | dsimp only) ) rfl rfl rfl
  · refine a_iload_n X dX7_lucky_7 rfl ?_
    refine a_ldcw X dX7_lucky_8 lk7_291 ?_
    refine a_icmp_le (tgt := 20) X dX7_lucky_11 (by decide) (fun h_11 => ?_) (fun h_11 => ?_)
    · refine a_aload_n X dX7_lucky_20 rfl ?_
      refine a_iload_n X dX7_lucky_21 rfl ?_
      refine a_callVx X dX7_lucky_22 miX7_isApplicant lm7_206 (s_X7_isApplicant (P := P) (by assumption)) (by assumption) rfl rfl rfl (Nat.le_of_ble_eq_true rfl) ⟨by decide, by decide, by decide, by decide⟩ (fun r_22 S_22 q_22 => ?_)
      obtain ⟨rfl, ⟨v_22, rfl, b_22⟩⟩ := q_22
      refine a_if_ne (tgt := 34) X dX7_lucky_25 (by decide) (fun h_25 => ?_) (fun h_25 => ?_)
      · refine a_iconst (v := 0) X dX7_lucky_34 (by decide) ?_
        refine a_istore_n X dX7_lucky_35 (by decide) ?_
        exact Zw.to2 (H_36 _ _ _ _ _ (by (try dsimp only); repeat first | assumption | exact zK.rf | refine zK.zu ?_ (by omega) | refine zK.zu0 ?_ (by decide) | refine zK.zwr ?_ (by omega) | refine zK.zfil ?_ (by omega) | refine zK.zcpy ?_ (by omega) | refine zK.trans ?_ (by assumption) | dsimp only) ) rfl rfl rfl
      · refine a_aload_n X dX7_lucky_28 rfl ?_
        refine a_iconst (v := 2) X dX7_lucky_29 (by decide) ?_
        refine a_callVx X dX7_lucky_30 miX7_refuse lm7_102 (s_X7_refuse (P := P) (by assumption)) (by assumption) rfl rfl rfl (Nat.le_of_ble_eq_true rfl) ⟨by decide, by decide, by decide, by decide⟩ (fun r_30 S_30 q_30 => ?_)
        obtain ⟨M_30, N_30, rfl, k_30, ⟨v_30, rfl⟩⟩ := q_30
        refine a_iret X hr dX7_lucky_33 ⟨by decide, by decide⟩ ?_
        subst hF
        exact ⟨_, _, rfl, (by (try dsimp only); repeat first | assumption | exact zK.rf | refine zK.zu ?_ (by omega) | refine zK.zu0 ?_ (by decide) | refine zK.zwr ?_ (by omega) | refine zK.zfil ?_ (by omega) | refine zK.zcpy ?_ (by omega) | refine zK.trans ?_ (by assumption) | dsimp only), ⟨_, rfl⟩⟩
    · exact Zw.to2 (J_14 _ _ _ _ _ (by (try dsimp only); repeat first | assumption | exact zK.rf | refine zK.zu ?_ (by omega) | refine zK.zu0 ?_ (by decide) | refine zK.zwr ?_ (by omega) | refine zK.zfil ?_ (by omega) | refine zK.zcpy ?_ (by omega) | refine zK.trans ?_ (by assumption) | dsimp only) ) rfl rfl rfl
set_option maxRecDepth 100000 in
theorem s_X7_fault {l : Launch} {G : zG} {b : Nat} {S : zS} {P : Nat} {v0 : Int32} (hT : LX7 S.1 P) : zM l G b yX7_fault cX7_fault 2 (some .int) 0 0 0 [.ref P, .int v0] S (fun r z => z = S ∧ ∃ v : Int32, r = some (.int v)) := by
  refine zM.of miX7_fault (Nat.le_of_ble_eq_true rfl) ?_
  intro p e s m args below meth c X hr hname
  generalize hF : ((fun r z => z = S ∧ ∃ v : Int32, r = some (.int v)) : Option Value → zS → Prop) = FQ
  change Zw p l e { frames := 0, cells := 0, slots := 0, locals := 80 * 0 } s m args below meth c G b 2 (MQ below (zQ G b FQ) args s 0 0 (fun q : Nat => b ≤ q)) 0 0 0 [some (.ref P), some (.int v0)] [] S
  obtain ⟨lt, o, tape, out, reader, list, past, pool, result, odds, paper, trial, trialPool, trialResult, trialOdds⟩ := id hT
  obtain ⟨reader_lt, reader_o, reader_draft, reader_text, reader_unitNames, reader_hunterNames, reader_partyNames, reader_asked⟩ := id reader
  obtain ⟨list_lt, list_o, list_quota, list_score, list_guest, list_party, list_wishCount, list_wishes, list_has⟩ := id list
  obtain ⟨past_lt, past_o, past_stood, past_stood0, past_stood1, past_stood2, past_stood3, past_stood4, past_stood5, past_stood6, past_stood7⟩ := id past
  obtain ⟨pool_lt, pool_o, pool_quota, pool_preferred, pool_forGuests, pool_applicantOf, pool_size, pool_guestCount, pool_score, pool_tickets, pool_bits, pool_party, pool_wishCount, pool_wishes⟩ := id pool
  obtain ⟨result_lt, result_o, result_line, result_unitOf, result_roundOf, result_leftTags, result_leftGuests, result_leftPreferred, result_ranked⟩ := id result
  obtain ⟨odds_lt, odds_o, odds_sets, odds_seen, odds_atUnit, odds_early, odds_result⟩ := id odds
  obtain ⟨paper_lt, paper_o, paper_times, paper_firstWish, paper_dry, paper_list, paper_pool, paper_result⟩ := id paper
  obtain ⟨trial_lt, trial_o, trial_quota, trial_score, trial_guest, trial_party, trial_wishCount, trial_wishes, trial_has⟩ := id trial
  obtain ⟨trialPool_lt, trialPool_o, trialPool_quota, trialPool_preferred, trialPool_forGuests, trialPool_applicantOf, trialPool_size, trialPool_guestCount, trialPool_score, trialPool_tickets, trialPool_bits, trialPool_party, trialPool_wishCount, trialPool_wishes⟩ := id trialPool
  obtain ⟨trialResult_lt, trialResult_o, trialResult_line, trialResult_unitOf, trialResult_roundOf, trialResult_leftTags, trialResult_leftGuests, trialResult_leftPreferred, trialResult_ranked⟩ := id trialResult
  obtain ⟨trialOdds_lt, trialOdds_o, trialOdds_sets, trialOdds_seen, trialOdds_atUnit, trialOdds_early, trialOdds_result⟩ := id trialOdds
  have J_28 : ∀ (x1_28 : Int32) (y0_28 : Int32), Zw p l e { frames := 0, cells := 0, slots := 0, locals := 80 * 0 } s m args below meth c G b 2 (MQ below (zQ G b FQ) args s 0 0 (fun q : Nat => b ≤ q)) 0 0 28 [some (.ref (P)), some (.int x1_28)] [(.int y0_28)] S := by
    intro x1_28 y0_28
    refine a_iret X hr dX7_fault_28 ⟨by decide, by decide⟩ ?_
    subst hF
    exact ⟨rfl, ⟨_, rfl⟩⟩
  refine a_iload_n X dX7_fault_0 rfl ?_
  refine a_if_ne (tgt := 12) X dX7_fault_1 (by decide) (fun h_1 => ?_) (fun h_1 => ?_)
  · refine a_iload_n X dX7_fault_12 rfl ?_
    refine a_iconst (v := 1) X dX7_fault_13 (by decide) ?_
    refine a_icmp_ne (tgt := 27) X dX7_fault_14 (by decide) (fun h_14 => ?_) (fun h_14 => ?_)
    · refine a_iconst (v := -1) X dX7_fault_27 (by decide) ?_
      exact Zw.to2 (J_28 _ _ ) rfl rfl rfl
    · refine a_aload_n X dX7_fault_17 rfl ?_
      refine a_getr X lf7_19 (by assumption) rfl (by omega) dX7_fault_18 ?_
      refine a_geti X lf7_128 (by assumption) rfl dX7_fault_21 ?_
      refine a_goto (tgt := 28) X dX7_fault_24 (by decide) ?_
      exact Zw.to2 (J_28 _ _ ) rfl rfl rfl
  · refine a_aload_n X dX7_fault_4 rfl ?_
    refine a_getr X lf7_19 (by assumption) rfl (by omega) dX7_fault_5 ?_
    refine a_geti X lf7_125 (by assumption) rfl dX7_fault_8 ?_
    refine a_iret X hr dX7_fault_11 ⟨by decide, by decide⟩ ?_
    subst hF
    exact ⟨rfl, ⟨_, rfl⟩⟩
set_option maxRecDepth 100000 in
theorem s_X7_status {l : Launch} {G : zG} {b : Nat} {S : zS} {P : Nat} (hT : LX7 S.1 P) : zM l G b yX7_status cX7_status 1 (some .int) 0 0 0 [.ref P] S (fun r z => z = S ∧ ∃ v : Int32, r = some (.int v)) := by
  refine zM.of miX7_status (Nat.le_of_ble_eq_true rfl) ?_
  intro p e s m args below meth c X hr hname
  generalize hF : ((fun r z => z = S ∧ ∃ v : Int32, r = some (.int v)) : Option Value → zS → Prop) = FQ
  change Zw p l e { frames := 0, cells := 0, slots := 0, locals := 80 * 0 } s m args below meth c G b 1 (MQ below (zQ G b FQ) args s 0 0 (fun q : Nat => b ≤ q)) 0 0 0 [some (.ref P)] [] S
  obtain ⟨lt, o, tape, out, reader, list, past, pool, result, odds, paper, trial, trialPool, trialResult, trialOdds⟩ := id hT
  obtain ⟨reader_lt, reader_o, reader_draft, reader_text, reader_unitNames, reader_hunterNames, reader_partyNames, reader_asked⟩ := id reader
  obtain ⟨list_lt, list_o, list_quota, list_score, list_guest, list_party, list_wishCount, list_wishes, list_has⟩ := id list
  obtain ⟨past_lt, past_o, past_stood, past_stood0, past_stood1, past_stood2, past_stood3, past_stood4, past_stood5, past_stood6, past_stood7⟩ := id past
  obtain ⟨pool_lt, pool_o, pool_quota, pool_preferred, pool_forGuests, pool_applicantOf, pool_size, pool_guestCount, pool_score, pool_tickets, pool_bits, pool_party, pool_wishCount, pool_wishes⟩ := id pool
  obtain ⟨result_lt, result_o, result_line, result_unitOf, result_roundOf, result_leftTags, result_leftGuests, result_leftPreferred, result_ranked⟩ := id result
  obtain ⟨odds_lt, odds_o, odds_sets, odds_seen, odds_atUnit, odds_early, odds_result⟩ := id odds
  obtain ⟨paper_lt, paper_o, paper_times, paper_firstWish, paper_dry, paper_list, paper_pool, paper_result⟩ := id paper
  obtain ⟨trial_lt, trial_o, trial_quota, trial_score, trial_guest, trial_party, trial_wishCount, trial_wishes, trial_has⟩ := id trial
  obtain ⟨trialPool_lt, trialPool_o, trialPool_quota, trialPool_preferred, trialPool_forGuests, trialPool_applicantOf, trialPool_size, trialPool_guestCount, trialPool_score, trialPool_tickets, trialPool_bits, trialPool_party, trialPool_wishCount, trialPool_wishes⟩ := id trialPool
  obtain ⟨trialResult_lt, trialResult_o, trialResult_line, trialResult_unitOf, trialResult_roundOf, trialResult_leftTags, trialResult_leftGuests, trialResult_leftPreferred, trialResult_ranked⟩ := id trialResult
  obtain ⟨trialOdds_lt, trialOdds_o, trialOdds_sets, trialOdds_seen, trialOdds_atUnit, trialOdds_early, trialOdds_result⟩ := id trialOdds
  refine a_aload_n X dX7_status_0 rfl ?_
  refine a_geti X lf7_88 (by assumption) rfl dX7_status_1 ?_
  refine a_iret X hr dX7_status_4 ⟨by decide, by decide⟩ ?_
  subst hF
  exact ⟨rfl, ⟨_, rfl⟩⟩
set_option maxRecDepth 100000 in
theorem s_X7_reckon {l : Launch} {G : zG} {b : Nat} {S : zS} {P : Nat} (hT : LX7 S.1 P) : zM l G b yX7_reckon cX7_reckon 1 none 13 0 0 [.ref P] S (fun r z => ∃ M' N', z = (S.1, M', N') ∧ zK P S.2.1 M' ∧ r = none) := by
  refine zM.of miX7_reckon (Nat.le_of_ble_eq_true rfl) ?_
  intro p e s m args below meth c X hr hname
  generalize hF : ((fun r z => ∃ M' N', z = (S.1, M', N') ∧ zK P S.2.1 M' ∧ r = none) : Option Value → zS → Prop) = FQ
  change Zw p l e { frames := 13, cells := 0, slots := 0, locals := 80 * 13 } s m args below meth c G b 1 (MQ below (zQ G b FQ) args s 0 0 (fun q : Nat => b ≤ q)) 0 0 0 [some (.ref P)] [] S
  obtain ⟨lt, o, tape, out, reader, list, past, pool, result, odds, paper, trial, trialPool, trialResult, trialOdds⟩ := id hT
  obtain ⟨reader_lt, reader_o, reader_draft, reader_text, reader_unitNames, reader_hunterNames, reader_partyNames, reader_asked⟩ := id reader
  obtain ⟨list_lt, list_o, list_quota, list_score, list_guest, list_party, list_wishCount, list_wishes, list_has⟩ := id list
  obtain ⟨past_lt, past_o, past_stood, past_stood0, past_stood1, past_stood2, past_stood3, past_stood4, past_stood5, past_stood6, past_stood7⟩ := id past
  obtain ⟨pool_lt, pool_o, pool_quota, pool_preferred, pool_forGuests, pool_applicantOf, pool_size, pool_guestCount, pool_score, pool_tickets, pool_bits, pool_party, pool_wishCount, pool_wishes⟩ := id pool
  obtain ⟨result_lt, result_o, result_line, result_unitOf, result_roundOf, result_leftTags, result_leftGuests, result_leftPreferred, result_ranked⟩ := id result
  obtain ⟨odds_lt, odds_o, odds_sets, odds_seen, odds_atUnit, odds_early, odds_result⟩ := id odds
  obtain ⟨paper_lt, paper_o, paper_times, paper_firstWish, paper_dry, paper_list, paper_pool, paper_result⟩ := id paper
  obtain ⟨trial_lt, trial_o, trial_quota, trial_score, trial_guest, trial_party, trial_wishCount, trial_wishes, trial_has⟩ := id trial
  obtain ⟨trialPool_lt, trialPool_o, trialPool_quota, trialPool_preferred, trialPool_forGuests, trialPool_applicantOf, trialPool_size, trialPool_guestCount, trialPool_score, trialPool_tickets, trialPool_bits, trialPool_party, trialPool_wishCount, trialPool_wishes⟩ := id trialPool
  obtain ⟨trialResult_lt, trialResult_o, trialResult_line, trialResult_unitOf, trialResult_roundOf, trialResult_leftTags, trialResult_leftGuests, trialResult_leftPreferred, trialResult_ranked⟩ := id trialResult
  obtain ⟨trialOdds_lt, trialOdds_o, trialOdds_sets, trialOdds_seen, trialOdds_atUnit, trialOdds_early, trialOdds_result⟩ := id trialOdds
  have J_23 : ∀  (M2 : Nat → Nat → Int32) (N2 : Nat → Nat → Int64), zK P S.2.1 M2 → Zw p l e { frames := 13, cells := 0, slots := 0, locals := 80 * 13 } s m args below meth c G b 1 (MQ below (zQ G b FQ) args s 0 0 (fun q : Nat => b ≤ q)) 0 0 23 [some (.ref (P))] [] (S.1, M2, N2) := by
    intro M2_23 N2_23 k_23
    refine a_vret X hr dX7_reckon_23 ⟨by decide, by decide⟩ ?_
    subst hF
    exact ⟨_, _, rfl, (by (try dsimp only); repeat first | assumption | exact zK.rf | refine zK.zu ?_ (by omega) | refine zK.zu0 ?_ (by decide) | refine zK.zwr ?_ (by omega) | refine zK.zfil ?_ (by omega) | refine zK.zcpy ?_ (by omega) | refine zK.trans ?_ (by assumption) | dsimp only), rfl⟩
  refine a_aload_n X dX7_reckon_0 rfl ?_
  refine a_geti X lf7_368 (by assumption) rfl dX7_reckon_1 ?_
  refine a_if_ne (tgt := 23) X dX7_reckon_4 (by decide) (fun h_4 => ?_) (fun h_4 => ?_)
  · exact Zw.to2 (J_23  _ _ (by (try dsimp only); repeat first | assumption | exact zK.rf | refine zK.zu ?_ (by omega) | refine zK.zu0 ?_ (by decide) | refine zK.zwr ?_ (by omega) | refine zK.zfil ?_ (by omega) | refine zK.zcpy ?_ (by omega) | refine zK.trans ?_ (by assumption) | dsimp only) ) rfl rfl rfl
  · refine a_aload_n X dX7_reckon_7 rfl ?_
    refine a_getr X lf7_54 (by assumption) rfl (by omega) dX7_reckon_8 ?_
    refine a_aload_n X dX7_reckon_11 rfl ?_
    refine a_getr X lf7_40 (by assumption) rfl (by omega) dX7_reckon_12 ?_
    refine a_callVx X dX7_reckon_15 miX0_reckon lm7_339 (s_X0_reckon (P := P) (by assumption) (by omega) (by assumption) (by omega)) (by assumption) rfl rfl rfl (Nat.le_of_ble_eq_true rfl) ⟨by decide, by decide, by decide, by decide⟩ (fun r_15 S_15 q_15 => ?_)
    obtain ⟨M_15, N_15, rfl, k_15, rfl⟩ := q_15
    refine a_aload_n X dX7_reckon_18 rfl ?_
    refine a_iconst (v := 1) X dX7_reckon_19 (by decide) ?_
    refine a_putz X (by first | exact Or.inl rfl | exact Or.inr rfl | assumption) lf7_368 (by assumption) rfl dX7_reckon_20 ?_
    exact Zw.to2 (J_23  _ _ (by (try dsimp only); repeat first | assumption | exact zK.rf | refine zK.zu ?_ (by omega) | refine zK.zu0 ?_ (by decide) | refine zK.zwr ?_ (by omega) | refine zK.zfil ?_ (by omega) | refine zK.zcpy ?_ (by omega) | refine zK.trans ?_ (by assumption) | dsimp only) ) rfl rfl rfl
set_option maxRecDepth 100000 in
theorem s_X7_chance {l : Launch} {G : zG} {b : Nat} {S : zS} {P : Nat} {v0 : Int32} {v1 : Int32} (hT : LX7 S.1 P) : zM l G b yX7_chance cX7_chance 3 (some .long) 14 0 0 [.ref P, .int v0, .int v1] S (fun r z => ∃ M' N', z = (S.1, M', N') ∧ zK P S.2.1 M' ∧ ∃ v : Int64, r = some (.long v)) := by
  refine zM.of miX7_chance (Nat.le_of_ble_eq_true rfl) ?_
  intro p e s m args below meth c X hr hname
  generalize hF : ((fun r z => ∃ M' N', z = (S.1, M', N') ∧ zK P S.2.1 M' ∧ ∃ v : Int64, r = some (.long v)) : Option Value → zS → Prop) = FQ
  change Zw p l e { frames := 14, cells := 0, slots := 0, locals := 80 * 14 } s m args below meth c G b 3 (MQ below (zQ G b FQ) args s 0 0 (fun q : Nat => b ≤ q)) 0 0 0 [some (.ref P), some (.int v0), some (.int v1)] [] S
  obtain ⟨lt, o, tape, out, reader, list, past, pool, result, odds, paper, trial, trialPool, trialResult, trialOdds⟩ := id hT
  obtain ⟨reader_lt, reader_o, reader_draft, reader_text, reader_unitNames, reader_hunterNames, reader_partyNames, reader_asked⟩ := id reader
  obtain ⟨list_lt, list_o, list_quota, list_score, list_guest, list_party, list_wishCount, list_wishes, list_has⟩ := id list
  obtain ⟨past_lt, past_o, past_stood, past_stood0, past_stood1, past_stood2, past_stood3, past_stood4, past_stood5, past_stood6, past_stood7⟩ := id past
  obtain ⟨pool_lt, pool_o, pool_quota, pool_preferred, pool_forGuests, pool_applicantOf, pool_size, pool_guestCount, pool_score, pool_tickets, pool_bits, pool_party, pool_wishCount, pool_wishes⟩ := id pool
  obtain ⟨result_lt, result_o, result_line, result_unitOf, result_roundOf, result_leftTags, result_leftGuests, result_leftPreferred, result_ranked⟩ := id result
  obtain ⟨odds_lt, odds_o, odds_sets, odds_seen, odds_atUnit, odds_early, odds_result⟩ := id odds
  obtain ⟨paper_lt, paper_o, paper_times, paper_firstWish, paper_dry, paper_list, paper_pool, paper_result⟩ := id paper
  obtain ⟨trial_lt, trial_o, trial_quota, trial_score, trial_guest, trial_party, trial_wishCount, trial_wishes, trial_has⟩ := id trial
  obtain ⟨trialPool_lt, trialPool_o, trialPool_quota, trialPool_preferred, trialPool_forGuests, trialPool_applicantOf, trialPool_size, trialPool_guestCount, trialPool_score, trialPool_tickets, trialPool_bits, trialPool_party, trialPool_wishCount, trialPool_wishes⟩ := id trialPool
  obtain ⟨trialResult_lt, trialResult_o, trialResult_line, trialResult_unitOf, trialResult_roundOf, trialResult_leftTags, trialResult_leftGuests, trialResult_leftPreferred, trialResult_ranked⟩ := id trialResult
  obtain ⟨trialOdds_lt, trialOdds_o, trialOdds_sets, trialOdds_seen, trialOdds_atUnit, trialOdds_early, trialOdds_result⟩ := id trialOdds
  have J_129 : ∀ (x1_129 : Int32) (x2_129 : Int32) (y1_129 : Int64) (M2 : Nat → Nat → Int32) (N2 : Nat → Nat → Int64), zK P S.2.1 M2 → Zw p l e { frames := 14, cells := 0, slots := 0, locals := 80 * 14 } s m args below meth c G b 3 (MQ below (zQ G b FQ) args s 0 0 (fun q : Nat => b ≤ q)) 0 0 129 [some (.ref (P)), some (.int x1_129), some (.int x2_129)] [(.long y1_129), (.ref (P))] (S.1, M2, N2) := by
    intro x1_129 x2_129 y1_129 M2_129 N2_129 k_129
    refine a_callVx X dX7_chance_129 miX7_answerParts lm7_303 (s_X7_answerParts (P := P) (by assumption)) (by assumption) rfl rfl rfl (Nat.le_of_ble_eq_true rfl) ⟨by decide, by decide, by decide, by decide⟩ (fun r_129 S_129 q_129 => ?_)
    obtain ⟨M_129, N_129, rfl, k_129, ⟨v_129, rfl⟩⟩ := q_129
    refine a_lret X hr dX7_chance_132 ⟨by decide, by decide⟩ ?_
    subst hF
    exact ⟨_, _, rfl, (by (try dsimp only); repeat first | assumption | exact zK.rf | refine zK.zu ?_ (by omega) | refine zK.zu0 ?_ (by decide) | refine zK.zwr ?_ (by omega) | refine zK.zfil ?_ (by omega) | refine zK.zcpy ?_ (by omega) | refine zK.trans ?_ (by assumption) | dsimp only), ⟨_, rfl⟩⟩
  have J_9 : ∀ (x1_9 : Int32) (x2_9 : Int32) (M2 : Nat → Nat → Int32) (N2 : Nat → Nat → Int64), zK P S.2.1 M2 → Zw p l e { frames := 14, cells := 0, slots := 0, locals := 80 * 14 } s m args below meth c G b 3 (MQ below (zQ G b FQ) args s 0 0 (fun q : Nat => b ≤ q)) 0 0 9 [some (.ref (P)), some (.int x1_9), some (.int x2_9)] [] (S.1, M2, N2) := by
    intro x1_9 x2_9 M2_9 N2_9 k_9
    refine a_aload_n X dX7_chance_9 rfl ?_
    refine a_iconst (v := 1) X dX7_chance_10 (by decide) ?_
    refine a_callVx X dX7_chance_11 miX7_refuse lm7_102 (s_X7_refuse (P := P) (by assumption)) (by assumption) rfl rfl rfl (Nat.le_of_ble_eq_true rfl) ⟨by decide, by decide, by decide, by decide⟩ (fun r_11 S_11 q_11 => ?_)
    obtain ⟨M_11, N_11, rfl, k_11, ⟨v_11, rfl⟩⟩ := q_11
    refine a_i2l X dX7_chance_14 ?_
    refine a_lret X hr dX7_chance_15 ⟨by decide, by decide⟩ ?_
    subst hF
    exact ⟨_, _, rfl, (by (try dsimp only); repeat first | assumption | exact zK.rf | refine zK.zu ?_ (by omega) | refine zK.zu0 ?_ (by decide) | refine zK.zwr ?_ (by omega) | refine zK.zfil ?_ (by omega) | refine zK.zcpy ?_ (by omega) | refine zK.trans ?_ (by assumption) | dsimp only), ⟨_, rfl⟩⟩
  refine a_iload_n X dX7_chance_0 rfl ?_
  refine a_if_lt (tgt := 9) X dX7_chance_1 (by decide) (fun h_1 => ?_) (fun h_1 => ?_)
  · exact Zw.to2 (J_9 _ _ _ _ (by (try dsimp only); repeat first | assumption | exact zK.rf | refine zK.zu ?_ (by omega) | refine zK.zu0 ?_ (by decide) | refine zK.zwr ?_ (by omega) | refine zK.zfil ?_ (by omega) | refine zK.zcpy ?_ (by omega) | refine zK.trans ?_ (by assumption) | dsimp only) ) rfl rfl rfl
  · refine a_iload_n X dX7_chance_4 rfl ?_
    refine a_iconst (v := 2) X dX7_chance_5 (by decide) ?_
    refine a_icmp_le (tgt := 16) X dX7_chance_6 (by decide) (fun h_6 => ?_) (fun h_6 => ?_)
    · refine a_aload_n X dX7_chance_16 rfl ?_
      refine a_iload_n X dX7_chance_17 rfl ?_
      refine a_callVx X dX7_chance_18 miX7_isApplicant lm7_206 (s_X7_isApplicant (P := P) (by assumption)) (by assumption) rfl rfl rfl (Nat.le_of_ble_eq_true rfl) ⟨by decide, by decide, by decide, by decide⟩ (fun r_18 S_18 q_18 => ?_)
      obtain ⟨rfl, ⟨v_18, rfl, b_18⟩⟩ := q_18
      refine a_if_ne (tgt := 31) X dX7_chance_21 (by decide) (fun h_21 => ?_) (fun h_21 => ?_)
      · refine a_aload_n X dX7_chance_31 rfl ?_
        refine a_getr X lf7_40 (by assumption) rfl (by omega) dX7_chance_32 ?_
        refine a_geti X lf7_140 (by assumption) rfl dX7_chance_35 ?_
        refine a_bipush (v := 7) X dX7_chance_38 (by decide) ?_
        refine a_icmp_le (tgt := 50) X dX7_chance_40 (by decide) (fun h_40 => ?_) (fun h_40 => ?_)
        · refine a_aload_n X dX7_chance_50 rfl ?_
          refine a_callVx X dX7_chance_51 miX7_reckon lm7_296 (s_X7_reckon (P := P) (by assumption)) (by assumption) rfl rfl rfl (Nat.le_of_ble_eq_true rfl) ⟨by decide, by decide, by decide, by decide⟩ (fun r_51 S_51 q_51 => ?_)
          obtain ⟨M_51, N_51, rfl, k_51, rfl⟩ := q_51
          refine a_iload_n X dX7_chance_54 rfl ?_
          refine a_lsw2 (t1 := 80) (t2 := 93) (td := 133) X dX7_chance_55 rfl (by decide) (by decide) (by decide) (by decide) (fun h_55 => ?_) (fun g_55 h_55 => ?_) (fun f_55 g_55 => ?_)
          · refine a_aload_n X dX7_chance_80 rfl ?_
            refine a_aload_n X dX7_chance_81 rfl ?_
            refine a_getr X lf7_54 (by assumption) rfl (by omega) dX7_chance_82 ?_
            refine a_iload_n X dX7_chance_85 rfl ?_
            refine a_callVx X dX7_chance_86 miX0_anyUnit lm7_299 (s_X0_anyUnit (P := P) (by assumption) (by omega)) (by assumption) rfl rfl rfl (Nat.le_of_ble_eq_true rfl) ⟨by decide, by decide, by decide, by decide⟩ (fun r_86 S_86 q_86 => ?_)
            obtain ⟨rfl, ⟨v_86, rfl⟩⟩ := q_86
            refine a_callVx X dX7_chance_89 miX7_answerParts lm7_303 (s_X7_answerParts (P := P) (by assumption)) (by assumption) rfl rfl rfl (Nat.le_of_ble_eq_true rfl) ⟨by decide, by decide, by decide, by decide⟩ (fun r_89 S_89 q_89 => ?_)
            obtain ⟨M_89, N_89, rfl, k_89, ⟨v_89, rfl⟩⟩ := q_89
            refine a_lret X hr dX7_chance_92 ⟨by decide, by decide⟩ ?_
            subst hF
            exact ⟨_, _, rfl, (by (try dsimp only); repeat first | assumption | exact zK.rf | refine zK.zu ?_ (by omega) | refine zK.zu0 ?_ (by decide) | refine zK.zwr ?_ (by omega) | refine zK.zfil ?_ (by omega) | refine zK.zcpy ?_ (by omega) | refine zK.trans ?_ (by assumption) | dsimp only), ⟨_, rfl⟩⟩
          · refine a_aload_n X dX7_chance_93 rfl ?_
            refine a_aload_n X dX7_chance_94 rfl ?_
            refine a_getr X lf7_40 (by assumption) rfl (by omega) dX7_chance_95 ?_
            refine a_getr X lf7_219 (by assumption) rfl (by omega) dX7_chance_98 ?_
            refine a_iload_n X dX7_chance_101 rfl ?_
            refine a_callSv X dX7_chance_102 miX7_cell lm7_175 (c_cell (by assumption) (by first | decide | assumption)) rfl rfl (Nat.le_of_ble_eq_true rfl) ⟨by decide, by decide, by decide, by decide⟩ ?_
            refine a_if_ne (tgt := 112) X dX7_chance_105 (by decide) (fun h_105 => ?_) (fun h_105 => ?_)
            · refine a_aload_n X dX7_chance_112 rfl ?_
              refine a_getr X lf7_54 (by assumption) rfl (by omega) dX7_chance_113 ?_
              refine a_iload_n X dX7_chance_116 rfl ?_
              refine a_aload_n X dX7_chance_117 rfl ?_
              refine a_getr X lf7_40 (by assumption) rfl (by omega) dX7_chance_118 ?_
              refine a_iload_n X dX7_chance_121 rfl ?_
              refine a_iconst (v := 0) X dX7_chance_122 (by decide) ?_
              refine a_callVx X dX7_chance_123 miX2_wish lm7_226 (s_X2_wish (P := P) (by assumption) (by omega)) (by assumption) rfl rfl rfl (Nat.le_of_ble_eq_true rfl) ⟨by decide, by decide, by decide, by decide⟩ (fun r_123 S_123 q_123 => ?_)
              obtain ⟨rfl, ⟨v_123, rfl⟩⟩ := q_123
              refine a_callVx X dX7_chance_126 miX0_certainUnit lm7_307 (s_X0_certainUnit (P := P) (by assumption) (by omega)) (by assumption) rfl rfl rfl (Nat.le_of_ble_eq_true rfl) ⟨by decide, by decide, by decide, by decide⟩ (fun r_126 S_126 q_126 => ?_)
              obtain ⟨rfl, ⟨v_126, rfl⟩⟩ := q_126
              exact Zw.to2 (J_129 _ _ _ _ _ (by (try dsimp only); repeat first | assumption | exact zK.rf | refine zK.zu ?_ (by omega) | refine zK.zu0 ?_ (by decide) | refine zK.zwr ?_ (by omega) | refine zK.zfil ?_ (by omega) | refine zK.zcpy ?_ (by omega) | refine zK.trans ?_ (by assumption) | dsimp only) ) rfl rfl rfl
            · refine a_lconst (v := 0) X dX7_chance_108 (by decide) ?_
              refine a_goto (tgt := 129) X dX7_chance_109 (by decide) ?_
              exact Zw.to2 (J_129 _ _ _ _ _ (by (try dsimp only); repeat first | assumption | exact zK.rf | refine zK.zu ?_ (by omega) | refine zK.zu0 ?_ (by decide) | refine zK.zwr ?_ (by omega) | refine zK.zfil ?_ (by omega) | refine zK.zcpy ?_ (by omega) | refine zK.trans ?_ (by assumption) | dsimp only) ) rfl rfl rfl
          · refine a_aload_n X dX7_chance_133 rfl ?_
            refine a_aload_n X dX7_chance_134 rfl ?_
            refine a_getr X lf7_54 (by assumption) rfl (by omega) dX7_chance_135 ?_
            refine a_getr X lf7_311 (by assumption) rfl (by omega) dX7_chance_138 ?_
            refine a_iload_n X dX7_chance_141 rfl ?_
            refine a_callSv X dX7_chance_142 miX7_bigCell lm7_315 (c_bigCell (by assumption) (by first | decide | assumption)) rfl rfl (Nat.le_of_ble_eq_true rfl) ⟨by decide, by decide, by decide, by decide⟩ ?_
            refine a_callVx X dX7_chance_145 miX7_answerParts lm7_303 (s_X7_answerParts (P := P) (by assumption)) (by assumption) rfl rfl rfl (Nat.le_of_ble_eq_true rfl) ⟨by decide, by decide, by decide, by decide⟩ (fun r_145 S_145 q_145 => ?_)
            obtain ⟨M_145, N_145, rfl, k_145, ⟨v_145, rfl⟩⟩ := q_145
            refine a_lret X hr dX7_chance_148 ⟨by decide, by decide⟩ ?_
            subst hF
            exact ⟨_, _, rfl, (by (try dsimp only); repeat first | assumption | exact zK.rf | refine zK.zu ?_ (by omega) | refine zK.zu0 ?_ (by decide) | refine zK.zwr ?_ (by omega) | refine zK.zfil ?_ (by omega) | refine zK.zcpy ?_ (by omega) | refine zK.trans ?_ (by assumption) | dsimp only), ⟨_, rfl⟩⟩
        · refine a_aload_n X dX7_chance_43 rfl ?_
          refine a_iconst (v := 3) X dX7_chance_44 (by decide) ?_
          refine a_callVx X dX7_chance_45 miX7_refuse lm7_102 (s_X7_refuse (P := P) (by assumption)) (by assumption) rfl rfl rfl (Nat.le_of_ble_eq_true rfl) ⟨by decide, by decide, by decide, by decide⟩ (fun r_45 S_45 q_45 => ?_)
          obtain ⟨M_45, N_45, rfl, k_45, ⟨v_45, rfl⟩⟩ := q_45
          refine a_i2l X dX7_chance_48 ?_
          refine a_lret X hr dX7_chance_49 ⟨by decide, by decide⟩ ?_
          subst hF
          exact ⟨_, _, rfl, (by (try dsimp only); repeat first | assumption | exact zK.rf | refine zK.zu ?_ (by omega) | refine zK.zu0 ?_ (by decide) | refine zK.zwr ?_ (by omega) | refine zK.zfil ?_ (by omega) | refine zK.zcpy ?_ (by omega) | refine zK.trans ?_ (by assumption) | dsimp only), ⟨_, rfl⟩⟩
      · refine a_aload_n X dX7_chance_24 rfl ?_
        refine a_iconst (v := 2) X dX7_chance_25 (by decide) ?_
        refine a_callVx X dX7_chance_26 miX7_refuse lm7_102 (s_X7_refuse (P := P) (by assumption)) (by assumption) rfl rfl rfl (Nat.le_of_ble_eq_true rfl) ⟨by decide, by decide, by decide, by decide⟩ (fun r_26 S_26 q_26 => ?_)
        obtain ⟨M_26, N_26, rfl, k_26, ⟨v_26, rfl⟩⟩ := q_26
        refine a_i2l X dX7_chance_29 ?_
        refine a_lret X hr dX7_chance_30 ⟨by decide, by decide⟩ ?_
        subst hF
        exact ⟨_, _, rfl, (by (try dsimp only); repeat first | assumption | exact zK.rf | refine zK.zu ?_ (by omega) | refine zK.zu0 ?_ (by decide) | refine zK.zwr ?_ (by omega) | refine zK.zfil ?_ (by omega) | refine zK.zcpy ?_ (by omega) | refine zK.trans ?_ (by assumption) | dsimp only), ⟨_, rfl⟩⟩
    · exact Zw.to2 (J_9 _ _ _ _ (by (try dsimp only); repeat first | assumption | exact zK.rf | refine zK.zu ?_ (by omega) | refine zK.zu0 ?_ (by decide) | refine zK.zwr ?_ (by omega) | refine zK.zfil ?_ (by omega) | refine zK.zcpy ?_ (by omega) | refine zK.trans ?_ (by assumption) | dsimp only) ) rfl rfl rfl
set_option maxRecDepth 100000 in
theorem s_X7_at {l : Launch} {G : zG} {b : Nat} {S : zS} {P : Nat} {v0 : Int32} {v1 : Int32} (hT : LX7 S.1 P) : zM l G b yX7_at cX7_at 3 (some .long) 14 0 0 [.ref P, .int v0, .int v1] S (fun r z => ∃ M' N', z = (S.1, M', N') ∧ zK P S.2.1 M' ∧ ∃ v : Int64, r = some (.long v)) := by
  refine zM.of miX7_at (Nat.le_of_ble_eq_true rfl) ?_
  intro p e s m args below meth c X hr hname
  generalize hF : ((fun r z => ∃ M' N', z = (S.1, M', N') ∧ zK P S.2.1 M' ∧ ∃ v : Int64, r = some (.long v)) : Option Value → zS → Prop) = FQ
  change Zw p l e { frames := 14, cells := 0, slots := 0, locals := 80 * 14 } s m args below meth c G b 3 (MQ below (zQ G b FQ) args s 0 0 (fun q : Nat => b ≤ q)) 0 0 0 [some (.ref P), some (.int v0), some (.int v1)] [] S
  obtain ⟨lt, o, tape, out, reader, list, past, pool, result, odds, paper, trial, trialPool, trialResult, trialOdds⟩ := id hT
  obtain ⟨reader_lt, reader_o, reader_draft, reader_text, reader_unitNames, reader_hunterNames, reader_partyNames, reader_asked⟩ := id reader
  obtain ⟨list_lt, list_o, list_quota, list_score, list_guest, list_party, list_wishCount, list_wishes, list_has⟩ := id list
  obtain ⟨past_lt, past_o, past_stood, past_stood0, past_stood1, past_stood2, past_stood3, past_stood4, past_stood5, past_stood6, past_stood7⟩ := id past
  obtain ⟨pool_lt, pool_o, pool_quota, pool_preferred, pool_forGuests, pool_applicantOf, pool_size, pool_guestCount, pool_score, pool_tickets, pool_bits, pool_party, pool_wishCount, pool_wishes⟩ := id pool
  obtain ⟨result_lt, result_o, result_line, result_unitOf, result_roundOf, result_leftTags, result_leftGuests, result_leftPreferred, result_ranked⟩ := id result
  obtain ⟨odds_lt, odds_o, odds_sets, odds_seen, odds_atUnit, odds_early, odds_result⟩ := id odds
  obtain ⟨paper_lt, paper_o, paper_times, paper_firstWish, paper_dry, paper_list, paper_pool, paper_result⟩ := id paper
  obtain ⟨trial_lt, trial_o, trial_quota, trial_score, trial_guest, trial_party, trial_wishCount, trial_wishes, trial_has⟩ := id trial
  obtain ⟨trialPool_lt, trialPool_o, trialPool_quota, trialPool_preferred, trialPool_forGuests, trialPool_applicantOf, trialPool_size, trialPool_guestCount, trialPool_score, trialPool_tickets, trialPool_bits, trialPool_party, trialPool_wishCount, trialPool_wishes⟩ := id trialPool
  obtain ⟨trialResult_lt, trialResult_o, trialResult_line, trialResult_unitOf, trialResult_roundOf, trialResult_leftTags, trialResult_leftGuests, trialResult_leftPreferred, trialResult_ranked⟩ := id trialResult
  obtain ⟨trialOdds_lt, trialOdds_o, trialOdds_sets, trialOdds_seen, trialOdds_atUnit, trialOdds_early, trialOdds_result⟩ := id trialOdds
  have J_16 : ∀ (x1_16 : Int32) (x2_16 : Int32) (M2 : Nat → Nat → Int32) (N2 : Nat → Nat → Int64), zK P S.2.1 M2 → Zw p l e { frames := 14, cells := 0, slots := 0, locals := 80 * 14 } s m args below meth c G b 3 (MQ below (zQ G b FQ) args s 0 0 (fun q : Nat => b ≤ q)) 0 0 16 [some (.ref (P)), some (.int x1_16), some (.int x2_16)] [] (S.1, M2, N2) := by
    intro x1_16 x2_16 M2_16 N2_16 k_16
    refine a_aload_n X dX7_at_16 rfl ?_
    refine a_iconst (v := 2) X dX7_at_17 (by decide) ?_
    refine a_callVx X dX7_at_18 miX7_refuse lm7_102 (s_X7_refuse (P := P) (by assumption)) (by assumption) rfl rfl rfl (Nat.le_of_ble_eq_true rfl) ⟨by decide, by decide, by decide, by decide⟩ (fun r_18 S_18 q_18 => ?_)
    obtain ⟨M_18, N_18, rfl, k_18, ⟨v_18, rfl⟩⟩ := q_18
    refine a_i2l X dX7_at_21 ?_
    refine a_lret X hr dX7_at_22 ⟨by decide, by decide⟩ ?_
    subst hF
    exact ⟨_, _, rfl, (by (try dsimp only); repeat first | assumption | exact zK.rf | refine zK.zu ?_ (by omega) | refine zK.zu0 ?_ (by decide) | refine zK.zwr ?_ (by omega) | refine zK.zfil ?_ (by omega) | refine zK.zcpy ?_ (by omega) | refine zK.trans ?_ (by assumption) | dsimp only), ⟨_, rfl⟩⟩
  refine a_aload_n X dX7_at_0 rfl ?_
  refine a_iload_n X dX7_at_1 rfl ?_
  refine a_callVx X dX7_at_2 miX7_isApplicant lm7_206 (s_X7_isApplicant (P := P) (by assumption)) (by assumption) rfl rfl rfl (Nat.le_of_ble_eq_true rfl) ⟨by decide, by decide, by decide, by decide⟩ (fun r_2 S_2 q_2 => ?_)
  obtain ⟨rfl, ⟨v_2, rfl, b_2⟩⟩ := q_2
  refine a_if_eq (tgt := 16) X dX7_at_5 (by decide) (fun h_5 => ?_) (fun h_5 => ?_)
  · exact Zw.to2 (J_16 _ _ _ _ (by (try dsimp only); repeat first | assumption | exact zK.rf | refine zK.zu ?_ (by omega) | refine zK.zu0 ?_ (by decide) | refine zK.zwr ?_ (by omega) | refine zK.zfil ?_ (by omega) | refine zK.zcpy ?_ (by omega) | refine zK.trans ?_ (by assumption) | dsimp only) ) rfl rfl rfl
  · refine a_aload_n X dX7_at_8 rfl ?_
    refine a_iload_n X dX7_at_9 rfl ?_
    refine a_callVx X dX7_at_10 miX7_isUnit lm7_188 (s_X7_isUnit (P := P) (by assumption)) (by assumption) rfl rfl rfl (Nat.le_of_ble_eq_true rfl) ⟨by decide, by decide, by decide, by decide⟩ (fun r_10 S_10 q_10 => ?_)
    obtain ⟨rfl, ⟨v_10, rfl, b_10⟩⟩ := q_10
    refine a_if_ne (tgt := 23) X dX7_at_13 (by decide) (fun h_13 => ?_) (fun h_13 => ?_)
    · refine a_aload_n X dX7_at_23 rfl ?_
      refine a_getr X lf7_40 (by assumption) rfl (by omega) dX7_at_24 ?_
      refine a_geti X lf7_140 (by assumption) rfl dX7_at_27 ?_
      refine a_bipush (v := 7) X dX7_at_30 (by decide) ?_
      refine a_icmp_le (tgt := 42) X dX7_at_32 (by decide) (fun h_32 => ?_) (fun h_32 => ?_)
      · refine a_aload_n X dX7_at_42 rfl ?_
        refine a_callVx X dX7_at_43 miX7_reckon lm7_296 (s_X7_reckon (P := P) (by assumption)) (by assumption) rfl rfl rfl (Nat.le_of_ble_eq_true rfl) ⟨by decide, by decide, by decide, by decide⟩ (fun r_43 S_43 q_43 => ?_)
        obtain ⟨M_43, N_43, rfl, k_43, rfl⟩ := q_43
        refine a_aload_n X dX7_at_46 rfl ?_
        refine a_aload_n X dX7_at_47 rfl ?_
        refine a_getr X lf7_54 (by assumption) rfl (by omega) dX7_at_48 ?_
        refine a_iload_n X dX7_at_51 rfl ?_
        refine a_iload_n X dX7_at_52 rfl ?_
        refine a_callVx X dX7_at_53 miX0_certainUnit lm7_307 (s_X0_certainUnit (P := P) (by assumption) (by omega)) (by assumption) rfl rfl rfl (Nat.le_of_ble_eq_true rfl) ⟨by decide, by decide, by decide, by decide⟩ (fun r_53 S_53 q_53 => ?_)
        obtain ⟨rfl, ⟨v_53, rfl⟩⟩ := q_53
        refine a_callVx X dX7_at_56 miX7_answerParts lm7_303 (s_X7_answerParts (P := P) (by assumption)) (by assumption) rfl rfl rfl (Nat.le_of_ble_eq_true rfl) ⟨by decide, by decide, by decide, by decide⟩ (fun r_56 S_56 q_56 => ?_)
        obtain ⟨M_56, N_56, rfl, k_56, ⟨v_56, rfl⟩⟩ := q_56
        refine a_lret X hr dX7_at_59 ⟨by decide, by decide⟩ ?_
        subst hF
        exact ⟨_, _, rfl, (by (try dsimp only); repeat first | assumption | exact zK.rf | refine zK.zu ?_ (by omega) | refine zK.zu0 ?_ (by decide) | refine zK.zwr ?_ (by omega) | refine zK.zfil ?_ (by omega) | refine zK.zcpy ?_ (by omega) | refine zK.trans ?_ (by assumption) | dsimp only), ⟨_, rfl⟩⟩
      · refine a_aload_n X dX7_at_35 rfl ?_
        refine a_iconst (v := 3) X dX7_at_36 (by decide) ?_
        refine a_callVx X dX7_at_37 miX7_refuse lm7_102 (s_X7_refuse (P := P) (by assumption)) (by assumption) rfl rfl rfl (Nat.le_of_ble_eq_true rfl) ⟨by decide, by decide, by decide, by decide⟩ (fun r_37 S_37 q_37 => ?_)
        obtain ⟨M_37, N_37, rfl, k_37, ⟨v_37, rfl⟩⟩ := q_37
        refine a_i2l X dX7_at_40 ?_
        refine a_lret X hr dX7_at_41 ⟨by decide, by decide⟩ ?_
        subst hF
        exact ⟨_, _, rfl, (by (try dsimp only); repeat first | assumption | exact zK.rf | refine zK.zu ?_ (by omega) | refine zK.zu0 ?_ (by decide) | refine zK.zwr ?_ (by omega) | refine zK.zfil ?_ (by omega) | refine zK.zcpy ?_ (by omega) | refine zK.trans ?_ (by assumption) | dsimp only), ⟨_, rfl⟩⟩
    · exact Zw.to2 (J_16 _ _ _ _ (by (try dsimp only); repeat first | assumption | exact zK.rf | refine zK.zu ?_ (by omega) | refine zK.zu0 ?_ (by decide) | refine zK.zwr ?_ (by omega) | refine zK.zfil ?_ (by omega) | refine zK.zcpy ?_ (by omega) | refine zK.trans ?_ (by assumption) | dsimp only) ) rfl rfl rfl
set_option maxRecDepth 100000 in
theorem s_X7_both {l : Launch} {G : zG} {b : Nat} {S : zS} {P : Nat} {v0 : Int32} {v1 : Int32} (hT : LX7 S.1 P) : zM l G b yX7_both cX7_both 3 (some .long) 14 0 0 [.ref P, .int v0, .int v1] S (fun r z => ∃ M' N', z = (S.1, M', N') ∧ zK P S.2.1 M' ∧ ∃ v : Int64, r = some (.long v)) := by
  refine zM.of miX7_both (Nat.le_of_ble_eq_true rfl) ?_
  intro p e s m args below meth c X hr hname
  generalize hF : ((fun r z => ∃ M' N', z = (S.1, M', N') ∧ zK P S.2.1 M' ∧ ∃ v : Int64, r = some (.long v)) : Option Value → zS → Prop) = FQ
  change Zw p l e { frames := 14, cells := 0, slots := 0, locals := 80 * 14 } s m args below meth c G b 3 (MQ below (zQ G b FQ) args s 0 0 (fun q : Nat => b ≤ q)) 0 0 0 [some (.ref P), some (.int v0), some (.int v1)] [] S
  obtain ⟨lt, o, tape, out, reader, list, past, pool, result, odds, paper, trial, trialPool, trialResult, trialOdds⟩ := id hT
  obtain ⟨reader_lt, reader_o, reader_draft, reader_text, reader_unitNames, reader_hunterNames, reader_partyNames, reader_asked⟩ := id reader
  obtain ⟨list_lt, list_o, list_quota, list_score, list_guest, list_party, list_wishCount, list_wishes, list_has⟩ := id list
  obtain ⟨past_lt, past_o, past_stood, past_stood0, past_stood1, past_stood2, past_stood3, past_stood4, past_stood5, past_stood6, past_stood7⟩ := id past
  obtain ⟨pool_lt, pool_o, pool_quota, pool_preferred, pool_forGuests, pool_applicantOf, pool_size, pool_guestCount, pool_score, pool_tickets, pool_bits, pool_party, pool_wishCount, pool_wishes⟩ := id pool
  obtain ⟨result_lt, result_o, result_line, result_unitOf, result_roundOf, result_leftTags, result_leftGuests, result_leftPreferred, result_ranked⟩ := id result
  obtain ⟨odds_lt, odds_o, odds_sets, odds_seen, odds_atUnit, odds_early, odds_result⟩ := id odds
  obtain ⟨paper_lt, paper_o, paper_times, paper_firstWish, paper_dry, paper_list, paper_pool, paper_result⟩ := id paper
  obtain ⟨trial_lt, trial_o, trial_quota, trial_score, trial_guest, trial_party, trial_wishCount, trial_wishes, trial_has⟩ := id trial
  obtain ⟨trialPool_lt, trialPool_o, trialPool_quota, trialPool_preferred, trialPool_forGuests, trialPool_applicantOf, trialPool_size, trialPool_guestCount, trialPool_score, trialPool_tickets, trialPool_bits, trialPool_party, trialPool_wishCount, trialPool_wishes⟩ := id trialPool
  obtain ⟨trialResult_lt, trialResult_o, trialResult_line, trialResult_unitOf, trialResult_roundOf, trialResult_leftTags, trialResult_leftGuests, trialResult_leftPreferred, trialResult_ranked⟩ := id trialResult
  obtain ⟨trialOdds_lt, trialOdds_o, trialOdds_sets, trialOdds_seen, trialOdds_atUnit, trialOdds_early, trialOdds_result⟩ := id trialOdds
  have J_16 : ∀ (x1_16 : Int32) (x2_16 : Int32) (M2 : Nat → Nat → Int32) (N2 : Nat → Nat → Int64), zK P S.2.1 M2 → Zw p l e { frames := 14, cells := 0, slots := 0, locals := 80 * 14 } s m args below meth c G b 3 (MQ below (zQ G b FQ) args s 0 0 (fun q : Nat => b ≤ q)) 0 0 16 [some (.ref (P)), some (.int x1_16), some (.int x2_16)] [] (S.1, M2, N2) := by
    intro x1_16 x2_16 M2_16 N2_16 k_16
    refine a_aload_n X dX7_both_16 rfl ?_
    refine a_iconst (v := 2) X dX7_both_17 (by decide) ?_
    refine a_callVx X dX7_both_18 miX7_refuse lm7_102 (s_X7_refuse (P := P) (by assumption)) (by assumption) rfl rfl rfl (Nat.le_of_ble_eq_true rfl) ⟨by decide, by decide, by decide, by decide⟩ (fun r_18 S_18 q_18 => ?_)
    obtain ⟨M_18, N_18, rfl, k_18, ⟨v_18, rfl⟩⟩ := q_18
    refine a_i2l X dX7_both_21 ?_
    refine a_lret X hr dX7_both_22 ⟨by decide, by decide⟩ ?_
    subst hF
    exact ⟨_, _, rfl, (by (try dsimp only); repeat first | assumption | exact zK.rf | refine zK.zu ?_ (by omega) | refine zK.zu0 ?_ (by decide) | refine zK.zwr ?_ (by omega) | refine zK.zfil ?_ (by omega) | refine zK.zcpy ?_ (by omega) | refine zK.trans ?_ (by assumption) | dsimp only), ⟨_, rfl⟩⟩
  refine a_aload_n X dX7_both_0 rfl ?_
  refine a_iload_n X dX7_both_1 rfl ?_
  refine a_callVx X dX7_both_2 miX7_isApplicant lm7_206 (s_X7_isApplicant (P := P) (by assumption)) (by assumption) rfl rfl rfl (Nat.le_of_ble_eq_true rfl) ⟨by decide, by decide, by decide, by decide⟩ (fun r_2 S_2 q_2 => ?_)
  obtain ⟨rfl, ⟨v_2, rfl, b_2⟩⟩ := q_2
  refine a_if_eq (tgt := 16) X dX7_both_5 (by decide) (fun h_5 => ?_) (fun h_5 => ?_)
  · exact Zw.to2 (J_16 _ _ _ _ (by (try dsimp only); repeat first | assumption | exact zK.rf | refine zK.zu ?_ (by omega) | refine zK.zu0 ?_ (by decide) | refine zK.zwr ?_ (by omega) | refine zK.zfil ?_ (by omega) | refine zK.zcpy ?_ (by omega) | refine zK.trans ?_ (by assumption) | dsimp only) ) rfl rfl rfl
  · refine a_aload_n X dX7_both_8 rfl ?_
    refine a_iload_n X dX7_both_9 rfl ?_
    refine a_callVx X dX7_both_10 miX7_isApplicant lm7_206 (s_X7_isApplicant (P := P) (by assumption)) (by assumption) rfl rfl rfl (Nat.le_of_ble_eq_true rfl) ⟨by decide, by decide, by decide, by decide⟩ (fun r_10 S_10 q_10 => ?_)
    obtain ⟨rfl, ⟨v_10, rfl, b_10⟩⟩ := q_10
    refine a_if_ne (tgt := 23) X dX7_both_13 (by decide) (fun h_13 => ?_) (fun h_13 => ?_)
    · refine a_iload_n X dX7_both_23 rfl ?_
      refine a_iload_n X dX7_both_24 rfl ?_
      refine a_icmp_ne (tgt := 35) X dX7_both_25 (by decide) (fun h_25 => ?_) (fun h_25 => ?_)
      · refine a_aload_n X dX7_both_35 rfl ?_
        refine a_getr X lf7_40 (by assumption) rfl (by omega) dX7_both_36 ?_
        refine a_geti X lf7_140 (by assumption) rfl dX7_both_39 ?_
        refine a_bipush (v := 7) X dX7_both_42 (by decide) ?_
        refine a_icmp_le (tgt := 54) X dX7_both_44 (by decide) (fun h_44 => ?_) (fun h_44 => ?_)
        · refine a_aload_n X dX7_both_54 rfl ?_
          refine a_callVx X dX7_both_55 miX7_reckon lm7_296 (s_X7_reckon (P := P) (by assumption)) (by assumption) rfl rfl rfl (Nat.le_of_ble_eq_true rfl) ⟨by decide, by decide, by decide, by decide⟩ (fun r_55 S_55 q_55 => ?_)
          obtain ⟨M_55, N_55, rfl, k_55, rfl⟩ := q_55
          refine a_aload_n X dX7_both_58 rfl ?_
          refine a_aload_n X dX7_both_59 rfl ?_
          refine a_getr X lf7_54 (by assumption) rfl (by omega) dX7_both_60 ?_
          refine a_iconst (v := 1) X dX7_both_63 (by decide) ?_
          refine a_iload_n X dX7_both_64 rfl ?_
          refine a_ishl X dX7_both_65 ?_
          refine a_iconst (v := 1) X dX7_both_66 (by decide) ?_
          refine a_iload_n X dX7_both_67 rfl ?_
          refine a_ishl X dX7_both_68 ?_
          refine a_ior X dX7_both_69 ?_
          refine a_callVx X dX7_both_70 miX0_allOf lm7_319 (s_X0_allOf (P := P) (by assumption) (by omega)) (by assumption) rfl rfl rfl (Nat.le_of_ble_eq_true rfl) ⟨by decide, by decide, by decide, by decide⟩ (fun r_70 S_70 q_70 => ?_)
          obtain ⟨rfl, ⟨v_70, rfl⟩⟩ := q_70
          refine a_callVx X dX7_both_73 miX7_answerParts lm7_303 (s_X7_answerParts (P := P) (by assumption)) (by assumption) rfl rfl rfl (Nat.le_of_ble_eq_true rfl) ⟨by decide, by decide, by decide, by decide⟩ (fun r_73 S_73 q_73 => ?_)
          obtain ⟨M_73, N_73, rfl, k_73, ⟨v_73, rfl⟩⟩ := q_73
          refine a_lret X hr dX7_both_76 ⟨by decide, by decide⟩ ?_
          subst hF
          exact ⟨_, _, rfl, (by (try dsimp only); repeat first | assumption | exact zK.rf | refine zK.zu ?_ (by omega) | refine zK.zu0 ?_ (by decide) | refine zK.zwr ?_ (by omega) | refine zK.zfil ?_ (by omega) | refine zK.zcpy ?_ (by omega) | refine zK.trans ?_ (by assumption) | dsimp only), ⟨_, rfl⟩⟩
        · refine a_aload_n X dX7_both_47 rfl ?_
          refine a_iconst (v := 3) X dX7_both_48 (by decide) ?_
          refine a_callVx X dX7_both_49 miX7_refuse lm7_102 (s_X7_refuse (P := P) (by assumption)) (by assumption) rfl rfl rfl (Nat.le_of_ble_eq_true rfl) ⟨by decide, by decide, by decide, by decide⟩ (fun r_49 S_49 q_49 => ?_)
          obtain ⟨M_49, N_49, rfl, k_49, ⟨v_49, rfl⟩⟩ := q_49
          refine a_i2l X dX7_both_52 ?_
          refine a_lret X hr dX7_both_53 ⟨by decide, by decide⟩ ?_
          subst hF
          exact ⟨_, _, rfl, (by (try dsimp only); repeat first | assumption | exact zK.rf | refine zK.zu ?_ (by omega) | refine zK.zu0 ?_ (by decide) | refine zK.zwr ?_ (by omega) | refine zK.zfil ?_ (by omega) | refine zK.zcpy ?_ (by omega) | refine zK.trans ?_ (by assumption) | dsimp only), ⟨_, rfl⟩⟩
      · refine a_aload_n X dX7_both_28 rfl ?_
        refine a_iconst (v := 4) X dX7_both_29 (by decide) ?_
        refine a_callVx X dX7_both_30 miX7_refuse lm7_102 (s_X7_refuse (P := P) (by assumption)) (by assumption) rfl rfl rfl (Nat.le_of_ble_eq_true rfl) ⟨by decide, by decide, by decide, by decide⟩ (fun r_30 S_30 q_30 => ?_)
        obtain ⟨M_30, N_30, rfl, k_30, ⟨v_30, rfl⟩⟩ := q_30
        refine a_i2l X dX7_both_33 ?_
        refine a_lret X hr dX7_both_34 ⟨by decide, by decide⟩ ?_
        subst hF
        exact ⟨_, _, rfl, (by (try dsimp only); repeat first | assumption | exact zK.rf | refine zK.zu ?_ (by omega) | refine zK.zu0 ?_ (by decide) | refine zK.zwr ?_ (by omega) | refine zK.zfil ?_ (by omega) | refine zK.zcpy ?_ (by omega) | refine zK.trans ?_ (by assumption) | dsimp only), ⟨_, rfl⟩⟩
    · exact Zw.to2 (J_16 _ _ _ _ (by (try dsimp only); repeat first | assumption | exact zK.rf | refine zK.zu ?_ (by omega) | refine zK.zu0 ?_ (by decide) | refine zK.zwr ?_ (by omega) | refine zK.zfil ?_ (by omega) | refine zK.zcpy ?_ (by omega) | refine zK.trans ?_ (by assumption) | dsimp only) ) rfl rfl rfl
set_option maxRecDepth 100000 in
theorem s_X7_sure {l : Launch} {G : zG} {b : Nat} {S : zS} {P : Nat} {v0 : Int32} (hT : LX7 S.1 P) : zM l G b yX7_sure cX7_sure 3 (some .int) 14 0 0 [.ref P, .int v0] S (fun r z => ∃ M' N', z = (S.1, M', N') ∧ zK P S.2.1 M' ∧ ∃ v : Int32, r = some (.int v)) := by
  refine zM.of miX7_sure (Nat.le_of_ble_eq_true rfl) ?_
  intro p e s m args below meth c X hr hname
  generalize hF : ((fun r z => ∃ M' N', z = (S.1, M', N') ∧ zK P S.2.1 M' ∧ ∃ v : Int32, r = some (.int v)) : Option Value → zS → Prop) = FQ
  change Zw p l e { frames := 14, cells := 0, slots := 0, locals := 80 * 14 } s m args below meth c G b 3 (MQ below (zQ G b FQ) args s 0 0 (fun q : Nat => b ≤ q)) 0 0 0 [some (.ref P), some (.int v0), none] [] S
  obtain ⟨lt, o, tape, out, reader, list, past, pool, result, odds, paper, trial, trialPool, trialResult, trialOdds⟩ := id hT
  obtain ⟨reader_lt, reader_o, reader_draft, reader_text, reader_unitNames, reader_hunterNames, reader_partyNames, reader_asked⟩ := id reader
  obtain ⟨list_lt, list_o, list_quota, list_score, list_guest, list_party, list_wishCount, list_wishes, list_has⟩ := id list
  obtain ⟨past_lt, past_o, past_stood, past_stood0, past_stood1, past_stood2, past_stood3, past_stood4, past_stood5, past_stood6, past_stood7⟩ := id past
  obtain ⟨pool_lt, pool_o, pool_quota, pool_preferred, pool_forGuests, pool_applicantOf, pool_size, pool_guestCount, pool_score, pool_tickets, pool_bits, pool_party, pool_wishCount, pool_wishes⟩ := id pool
  obtain ⟨result_lt, result_o, result_line, result_unitOf, result_roundOf, result_leftTags, result_leftGuests, result_leftPreferred, result_ranked⟩ := id result
  obtain ⟨odds_lt, odds_o, odds_sets, odds_seen, odds_atUnit, odds_early, odds_result⟩ := id odds
  obtain ⟨paper_lt, paper_o, paper_times, paper_firstWish, paper_dry, paper_list, paper_pool, paper_result⟩ := id paper
  obtain ⟨trial_lt, trial_o, trial_quota, trial_score, trial_guest, trial_party, trial_wishCount, trial_wishes, trial_has⟩ := id trial
  obtain ⟨trialPool_lt, trialPool_o, trialPool_quota, trialPool_preferred, trialPool_forGuests, trialPool_applicantOf, trialPool_size, trialPool_guestCount, trialPool_score, trialPool_tickets, trialPool_bits, trialPool_party, trialPool_wishCount, trialPool_wishes⟩ := id trialPool
  obtain ⟨trialResult_lt, trialResult_o, trialResult_line, trialResult_unitOf, trialResult_roundOf, trialResult_leftTags, trialResult_leftGuests, trialResult_leftPreferred, trialResult_ranked⟩ := id trialResult
  obtain ⟨trialOdds_lt, trialOdds_o, trialOdds_sets, trialOdds_seen, trialOdds_atUnit, trialOdds_early, trialOdds_result⟩ := id trialOdds
  have J_75 : ∀ (x1_75 : Int32) (x2_75 : Int32) (y1_75 : Int32) (M2 : Nat → Nat → Int32) (N2 : Nat → Nat → Int64), zK P S.2.1 M2 → Zw p l e { frames := 14, cells := 0, slots := 0, locals := 80 * 14 } s m args below meth c G b 3 (MQ below (zQ G b FQ) args s 0 0 (fun q : Nat => b ≤ q)) 0 0 75 [some (.ref (P)), some (.int x1_75), some (.int x2_75)] [(.int y1_75), (.ref (P))] (S.1, M2, N2) := by
    intro x1_75 x2_75 y1_75 M2_75 N2_75 k_75
    refine a_callVx X dX7_sure_75 miX7_answer lm7_134 (s_X7_answer (P := P) (by assumption)) (by assumption) rfl rfl rfl (Nat.le_of_ble_eq_true rfl) ⟨by decide, by decide, by decide, by decide⟩ (fun r_75 S_75 q_75 => ?_)
    obtain ⟨M_75, N_75, rfl, k_75, ⟨v_75, rfl⟩⟩ := q_75
    refine a_iret X hr dX7_sure_78 ⟨by decide, by decide⟩ ?_
    subst hF
    exact ⟨_, _, rfl, (by (try dsimp only); repeat first | assumption | exact zK.rf | refine zK.zu ?_ (by omega) | refine zK.zu0 ?_ (by decide) | refine zK.zwr ?_ (by omega) | refine zK.zfil ?_ (by omega) | refine zK.zcpy ?_ (by omega) | refine zK.trans ?_ (by assumption) | dsimp only), ⟨_, rfl⟩⟩
  have J_9 : ∀ (x1_9 : Int32) (x2_9 : Option Value) (M2 : Nat → Nat → Int32) (N2 : Nat → Nat → Int64), zK P S.2.1 M2 → Zw p l e { frames := 14, cells := 0, slots := 0, locals := 80 * 14 } s m args below meth c G b 3 (MQ below (zQ G b FQ) args s 0 0 (fun q : Nat => b ≤ q)) 0 0 9 [some (.ref (P)), some (.int x1_9), x2_9] [] (S.1, M2, N2) := by
    intro x1_9 x2_9 M2_9 N2_9 k_9
    refine a_aload_n X dX7_sure_9 rfl ?_
    refine a_iconst (v := 1) X dX7_sure_10 (by decide) ?_
    refine a_callVx X dX7_sure_11 miX7_refuse lm7_102 (s_X7_refuse (P := P) (by assumption)) (by assumption) rfl rfl rfl (Nat.le_of_ble_eq_true rfl) ⟨by decide, by decide, by decide, by decide⟩ (fun r_11 S_11 q_11 => ?_)
    obtain ⟨M_11, N_11, rfl, k_11, ⟨v_11, rfl⟩⟩ := q_11
    refine a_iret X hr dX7_sure_14 ⟨by decide, by decide⟩ ?_
    subst hF
    exact ⟨_, _, rfl, (by (try dsimp only); repeat first | assumption | exact zK.rf | refine zK.zu ?_ (by omega) | refine zK.zu0 ?_ (by decide) | refine zK.zwr ?_ (by omega) | refine zK.zfil ?_ (by omega) | refine zK.zcpy ?_ (by omega) | refine zK.trans ?_ (by assumption) | dsimp only), ⟨_, rfl⟩⟩
  refine a_iload_n X dX7_sure_0 rfl ?_
  refine a_if_lt (tgt := 9) X dX7_sure_1 (by decide) (fun h_1 => ?_) (fun h_1 => ?_)
  · exact Zw.to2 (J_9 _ _ _ _ (by (try dsimp only); repeat first | assumption | exact zK.rf | refine zK.zu ?_ (by omega) | refine zK.zu0 ?_ (by decide) | refine zK.zwr ?_ (by omega) | refine zK.zfil ?_ (by omega) | refine zK.zcpy ?_ (by omega) | refine zK.trans ?_ (by assumption) | dsimp only) ) rfl rfl rfl
  · refine a_iload_n X dX7_sure_4 rfl ?_
    refine a_iconst (v := 1) X dX7_sure_5 (by decide) ?_
    refine a_icmp_le (tgt := 15) X dX7_sure_6 (by decide) (fun h_6 => ?_) (fun h_6 => ?_)
    · refine a_aload_n X dX7_sure_15 rfl ?_
      refine a_getr X lf7_40 (by assumption) rfl (by omega) dX7_sure_16 ?_
      refine a_geti X lf7_140 (by assumption) rfl dX7_sure_19 ?_
      refine a_bipush (v := 7) X dX7_sure_22 (by decide) ?_
      refine a_icmp_le (tgt := 33) X dX7_sure_24 (by decide) (fun h_24 => ?_) (fun h_24 => ?_)
      · refine a_aload_n X dX7_sure_33 rfl ?_
        refine a_callVx X dX7_sure_34 miX7_reckon lm7_296 (s_X7_reckon (P := P) (by assumption)) (by assumption) rfl rfl rfl (Nat.le_of_ble_eq_true rfl) ⟨by decide, by decide, by decide, by decide⟩ (fun r_34 S_34 q_34 => ?_)
        obtain ⟨M_34, N_34, rfl, k_34, rfl⟩ := q_34
        refine a_iconst (v := 1) X dX7_sure_37 (by decide) ?_
        refine a_aload_n X dX7_sure_38 rfl ?_
        refine a_getr X lf7_40 (by assumption) rfl (by omega) dX7_sure_39 ?_
        refine a_geti X lf7_140 (by assumption) rfl dX7_sure_42 ?_
        refine a_ishl X dX7_sure_45 ?_
        refine a_iconst (v := 1) X dX7_sure_46 (by decide) ?_
        refine a_isub X dX7_sure_47 ?_
        refine a_istore_n X dX7_sure_48 (by decide) ?_
        refine a_aload_n X dX7_sure_49 rfl ?_
        refine a_iload_n X dX7_sure_50 rfl ?_
        refine a_if_ne (tgt := 64) X dX7_sure_51 (by decide) (fun h_51 => ?_) (fun h_51 => ?_)
        · refine a_iload_n X dX7_sure_64 rfl ?_
          refine a_aload_n X dX7_sure_65 rfl ?_
          refine a_getr X lf7_54 (by assumption) rfl (by omega) dX7_sure_66 ?_
          refine a_callVx X dX7_sure_69 miX0_ever lm7_326 (s_X0_ever (P := P) (by assumption) (by omega)) (by assumption) rfl rfl rfl (Nat.le_of_ble_eq_true rfl) ⟨by decide, by decide, by decide, by decide⟩ (fun r_69 S_69 q_69 => ?_)
          obtain ⟨rfl, ⟨v_69, rfl⟩⟩ := q_69
          refine a_iconst (v := -1) X dX7_sure_72 (by decide) ?_
          refine a_ixor X dX7_sure_73 ?_
          refine a_iand X dX7_sure_74 ?_
          exact Zw.to2 (J_75 _ _ _ _ _ (by (try dsimp only); repeat first | assumption | exact zK.rf | refine zK.zu ?_ (by omega) | refine zK.zu0 ?_ (by decide) | refine zK.zwr ?_ (by omega) | refine zK.zfil ?_ (by omega) | refine zK.zcpy ?_ (by omega) | refine zK.trans ?_ (by assumption) | dsimp only) ) rfl rfl rfl
        · refine a_aload_n X dX7_sure_54 rfl ?_
          refine a_getr X lf7_54 (by assumption) rfl (by omega) dX7_sure_55 ?_
          refine a_callVx X dX7_sure_58 miX0_always lm7_322 (s_X0_always (P := P) (by assumption) (by omega)) (by assumption) rfl rfl rfl (Nat.le_of_ble_eq_true rfl) ⟨by decide, by decide, by decide, by decide⟩ (fun r_58 S_58 q_58 => ?_)
          obtain ⟨rfl, ⟨v_58, rfl⟩⟩ := q_58
          refine a_goto (tgt := 75) X dX7_sure_61 (by decide) ?_
          exact Zw.to2 (J_75 _ _ _ _ _ (by (try dsimp only); repeat first | assumption | exact zK.rf | refine zK.zu ?_ (by omega) | refine zK.zu0 ?_ (by decide) | refine zK.zwr ?_ (by omega) | refine zK.zfil ?_ (by omega) | refine zK.zcpy ?_ (by omega) | refine zK.trans ?_ (by assumption) | dsimp only) ) rfl rfl rfl
      · refine a_aload_n X dX7_sure_27 rfl ?_
        refine a_iconst (v := 3) X dX7_sure_28 (by decide) ?_
        refine a_callVx X dX7_sure_29 miX7_refuse lm7_102 (s_X7_refuse (P := P) (by assumption)) (by assumption) rfl rfl rfl (Nat.le_of_ble_eq_true rfl) ⟨by decide, by decide, by decide, by decide⟩ (fun r_29 S_29 q_29 => ?_)
        obtain ⟨M_29, N_29, rfl, k_29, ⟨v_29, rfl⟩⟩ := q_29
        refine a_iret X hr dX7_sure_32 ⟨by decide, by decide⟩ ?_
        subst hF
        exact ⟨_, _, rfl, (by (try dsimp only); repeat first | assumption | exact zK.rf | refine zK.zu ?_ (by omega) | refine zK.zu0 ?_ (by decide) | refine zK.zwr ?_ (by omega) | refine zK.zfil ?_ (by omega) | refine zK.zcpy ?_ (by omega) | refine zK.trans ?_ (by assumption) | dsimp only), ⟨_, rfl⟩⟩
    · exact Zw.to2 (J_9 _ _ _ _ (by (try dsimp only); repeat first | assumption | exact zK.rf | refine zK.zu ?_ (by omega) | refine zK.zu0 ?_ (by decide) | refine zK.zwr ?_ (by omega) | refine zK.zfil ?_ (by omega) | refine zK.zcpy ?_ (by omega) | refine zK.trans ?_ (by assumption) | dsimp only) ) rfl rfl rfl
set_option maxRecDepth 100000 in
theorem s_X7_mean {l : Launch} {G : zG} {b : Nat} {S : zS} {P : Nat} {v0 : Int32} (hT : LX7 S.1 P) : zM l G b yX7_mean cX7_mean 5 (some .long) 14 0 0 [.ref P, .int v0] S (fun r z => ∃ M' N', z = (S.1, M', N') ∧ zK P S.2.1 M' ∧ ∃ v : Int64, r = some (.long v)) := by
  refine zM.of miX7_mean (Nat.le_of_ble_eq_true rfl) ?_
  intro p e s m args below meth c X hr hname
  generalize hF : ((fun r z => ∃ M' N', z = (S.1, M', N') ∧ zK P S.2.1 M' ∧ ∃ v : Int64, r = some (.long v)) : Option Value → zS → Prop) = FQ
  change Zw p l e { frames := 14, cells := 0, slots := 0, locals := 80 * 14 } s m args below meth c G b 5 (MQ below (zQ G b FQ) args s 0 0 (fun q : Nat => b ≤ q)) 0 0 0 [some (.ref P), some (.int v0), none, none, none] [] S
  obtain ⟨lt, o, tape, out, reader, list, past, pool, result, odds, paper, trial, trialPool, trialResult, trialOdds⟩ := id hT
  obtain ⟨reader_lt, reader_o, reader_draft, reader_text, reader_unitNames, reader_hunterNames, reader_partyNames, reader_asked⟩ := id reader
  obtain ⟨list_lt, list_o, list_quota, list_score, list_guest, list_party, list_wishCount, list_wishes, list_has⟩ := id list
  obtain ⟨past_lt, past_o, past_stood, past_stood0, past_stood1, past_stood2, past_stood3, past_stood4, past_stood5, past_stood6, past_stood7⟩ := id past
  obtain ⟨pool_lt, pool_o, pool_quota, pool_preferred, pool_forGuests, pool_applicantOf, pool_size, pool_guestCount, pool_score, pool_tickets, pool_bits, pool_party, pool_wishCount, pool_wishes⟩ := id pool
  obtain ⟨result_lt, result_o, result_line, result_unitOf, result_roundOf, result_leftTags, result_leftGuests, result_leftPreferred, result_ranked⟩ := id result
  obtain ⟨odds_lt, odds_o, odds_sets, odds_seen, odds_atUnit, odds_early, odds_result⟩ := id odds
  obtain ⟨paper_lt, paper_o, paper_times, paper_firstWish, paper_dry, paper_list, paper_pool, paper_result⟩ := id paper
  obtain ⟨trial_lt, trial_o, trial_quota, trial_score, trial_guest, trial_party, trial_wishCount, trial_wishes, trial_has⟩ := id trial
  obtain ⟨trialPool_lt, trialPool_o, trialPool_quota, trialPool_preferred, trialPool_forGuests, trialPool_applicantOf, trialPool_size, trialPool_guestCount, trialPool_score, trialPool_tickets, trialPool_bits, trialPool_party, trialPool_wishCount, trialPool_wishes⟩ := id trialPool
  obtain ⟨trialResult_lt, trialResult_o, trialResult_line, trialResult_unitOf, trialResult_roundOf, trialResult_leftTags, trialResult_leftGuests, trialResult_leftPreferred, trialResult_ranked⟩ := id trialResult
  obtain ⟨trialOdds_lt, trialOdds_o, trialOdds_sets, trialOdds_seen, trialOdds_atUnit, trialOdds_early, trialOdds_result⟩ := id trialOdds
  have L_43 : ∀ u : Nat, ∀ (x1_43 : Int32) (x2_43 : Int64) (x4_43 : Int32) (M2 : Nat → Nat → Int32) (N2 : Nat → Nat → Int64), zK P S.2.1 M2 → (2147483648 - x4_43.toInt).toNat < u → Zw p l e { frames := 14, cells := 0, slots := 0, locals := 80 * 14 } s m args below meth c G b 5 (MQ below (zQ G b FQ) args s 0 0 (fun q : Nat => b ≤ q)) 0 0 43 [some (.ref (P)), some (.int x1_43), some (.long x2_43), none, some (.int x4_43)] [] (S.1, M2, N2) := by
    intro u
    induction u with
    | zero => intro x1_43 x2_43 x4_43 M2_43 N2_43 k_43 hm_43; exact absurd hm_43 (Nat.not_lt_zero _)
    | succ u_43 ih_43 =>
      intro x1_43 x2_43 x4_43 M2_43 N2_43 k_43 hm_43
      refine a_iload X dX7_mean_43 rfl ?_
      refine a_aload_n X dX7_mean_45 rfl ?_
      refine a_getr X lf7_40 (by assumption) rfl (by omega) dX7_mean_46 ?_
      refine a_geti X lf7_140 (by assumption) rfl dX7_mean_49 ?_
      refine a_icmp_ge (tgt := 88) X dX7_mean_52 (by decide) (fun h_52 => ?_) (fun h_52 => ?_)
      · refine a_aload_n X dX7_mean_88 rfl ?_
        refine a_lload_n X dX7_mean_89 rfl ?_
        refine a_callVx X dX7_mean_90 miX7_answerParts lm7_303 (s_X7_answerParts (P := P) (by assumption)) (by assumption) rfl rfl rfl (Nat.le_of_ble_eq_true rfl) ⟨by decide, by decide, by decide, by decide⟩ (fun r_90 S_90 q_90 => ?_)
        obtain ⟨M_90, N_90, rfl, k_90, ⟨v_90, rfl⟩⟩ := q_90
        refine a_lret X hr dX7_mean_93 ⟨by decide, by decide⟩ ?_
        subst hF
        exact ⟨_, _, rfl, (by (try dsimp only); repeat first | assumption | exact zK.rf | refine zK.zu ?_ (by omega) | refine zK.zu0 ?_ (by decide) | refine zK.zwr ?_ (by omega) | refine zK.zfil ?_ (by omega) | refine zK.zcpy ?_ (by omega) | refine zK.trans ?_ (by assumption) | dsimp only), ⟨_, rfl⟩⟩
      · refine a_lload_n X dX7_mean_55 rfl ?_
        refine a_aload_n X dX7_mean_56 rfl ?_
        refine a_getr X lf7_40 (by assumption) rfl (by omega) dX7_mean_57 ?_
        refine a_getr X lf7_209 (by assumption) rfl (by omega) dX7_mean_60 ?_
        refine a_iload X dX7_mean_63 rfl ?_
        refine a_callSv X dX7_mean_65 miX7_cell lm7_175 (c_cell (by assumption) (by first | decide | assumption)) rfl rfl (Nat.le_of_ble_eq_true rfl) ⟨by decide, by decide, by decide, by decide⟩ ?_
        refine a_i2l X dX7_mean_68 ?_
        refine a_aload_n X dX7_mean_69 rfl ?_
        refine a_getr X lf7_54 (by assumption) rfl (by omega) dX7_mean_70 ?_
        refine a_iload X dX7_mean_73 rfl ?_
        refine a_iload_n X dX7_mean_75 rfl ?_
        refine a_callVx X dX7_mean_76 miX0_certainUnit lm7_307 (s_X0_certainUnit (P := P) (by assumption) (by omega)) (by assumption) rfl rfl rfl (Nat.le_of_ble_eq_true rfl) ⟨by decide, by decide, by decide, by decide⟩ (fun r_76 S_76 q_76 => ?_)
        obtain ⟨rfl, ⟨v_76, rfl⟩⟩ := q_76
        refine a_lmul X dX7_mean_79 ?_
        refine a_ladd X dX7_mean_80 ?_
        refine a_lstore_n X dX7_mean_81 (by decide) ?_
        refine a_iinc X dX7_mean_82 (by decide) rfl rfl ?_
        refine a_goto (tgt := 43) X dX7_mean_85 (by decide) ?_
        exact Zw.to2 (ih_43 _ _ _ _ _ (by (try dsimp only); repeat first | assumption | exact zK.rf | refine zK.zu ?_ (by omega) | refine zK.zu0 ?_ (by decide) | refine zK.zwr ?_ (by omega) | refine zK.zfil ?_ (by omega) | refine zK.zcpy ?_ (by omega) | refine zK.trans ?_ (by assumption) | dsimp only)  (z_up (by first | assumption | exact z_lt (by assumption) | exact z_lt2 (by assumption) | exact z_lt3 (by assumption) (by decide)) hm_43)) rfl rfl rfl
  have H_43 : ∀ (x1_43 : Int32) (x2_43 : Int64) (x4_43 : Int32) (M2 : Nat → Nat → Int32) (N2 : Nat → Nat → Int64), zK P S.2.1 M2 → Zw p l e { frames := 14, cells := 0, slots := 0, locals := 80 * 14 } s m args below meth c G b 5 (MQ below (zQ G b FQ) args s 0 0 (fun q : Nat => b ≤ q)) 0 0 43 [some (.ref (P)), some (.int x1_43), some (.long x2_43), none, some (.int x4_43)] [] (S.1, M2, N2) := fun x1_43 x2_43 x4_43 M2 N2 k  => L_43 _ x1_43 x2_43 x4_43 M2 N2 k  (Nat.lt_succ_self _)
  refine a_aload_n X dX7_mean_0 rfl ?_
  refine a_iload_n X dX7_mean_1 rfl ?_
  refine a_callVx X dX7_mean_2 miX7_isUnit lm7_188 (s_X7_isUnit (P := P) (by assumption)) (by assumption) rfl rfl rfl (Nat.le_of_ble_eq_true rfl) ⟨by decide, by decide, by decide, by decide⟩ (fun r_2 S_2 q_2 => ?_)
  obtain ⟨rfl, ⟨v_2, rfl, b_2⟩⟩ := q_2
  refine a_if_ne (tgt := 15) X dX7_mean_5 (by decide) (fun h_5 => ?_) (fun h_5 => ?_)
  · refine a_aload_n X dX7_mean_15 rfl ?_
    refine a_getr X lf7_40 (by assumption) rfl (by omega) dX7_mean_16 ?_
    refine a_geti X lf7_140 (by assumption) rfl dX7_mean_19 ?_
    refine a_bipush (v := 7) X dX7_mean_22 (by decide) ?_
    refine a_icmp_le (tgt := 34) X dX7_mean_24 (by decide) (fun h_24 => ?_) (fun h_24 => ?_)
    · refine a_aload_n X dX7_mean_34 rfl ?_
      refine a_callVx X dX7_mean_35 miX7_reckon lm7_296 (s_X7_reckon (P := P) (by assumption)) (by assumption) rfl rfl rfl (Nat.le_of_ble_eq_true rfl) ⟨by decide, by decide, by decide, by decide⟩ (fun r_35 S_35 q_35 => ?_)
      obtain ⟨M_35, N_35, rfl, k_35, rfl⟩ := q_35
      refine a_lconst (v := 0) X dX7_mean_38 (by decide) ?_
      refine a_lstore_n X dX7_mean_39 (by decide) ?_
      refine a_iconst (v := 0) X dX7_mean_40 (by decide) ?_
      refine a_istore X dX7_mean_41 (by decide) ?_
      exact Zw.to2 (H_43 _ _ _ _ _ (by (try dsimp only); repeat first | assumption | exact zK.rf | refine zK.zu ?_ (by omega) | refine zK.zu0 ?_ (by decide) | refine zK.zwr ?_ (by omega) | refine zK.zfil ?_ (by omega) | refine zK.zcpy ?_ (by omega) | refine zK.trans ?_ (by assumption) | dsimp only) ) rfl rfl rfl
    · refine a_aload_n X dX7_mean_27 rfl ?_
      refine a_iconst (v := 3) X dX7_mean_28 (by decide) ?_
      refine a_callVx X dX7_mean_29 miX7_refuse lm7_102 (s_X7_refuse (P := P) (by assumption)) (by assumption) rfl rfl rfl (Nat.le_of_ble_eq_true rfl) ⟨by decide, by decide, by decide, by decide⟩ (fun r_29 S_29 q_29 => ?_)
      obtain ⟨M_29, N_29, rfl, k_29, ⟨v_29, rfl⟩⟩ := q_29
      refine a_i2l X dX7_mean_32 ?_
      refine a_lret X hr dX7_mean_33 ⟨by decide, by decide⟩ ?_
      subst hF
      exact ⟨_, _, rfl, (by (try dsimp only); repeat first | assumption | exact zK.rf | refine zK.zu ?_ (by omega) | refine zK.zu0 ?_ (by decide) | refine zK.zwr ?_ (by omega) | refine zK.zfil ?_ (by omega) | refine zK.zcpy ?_ (by omega) | refine zK.trans ?_ (by assumption) | dsimp only), ⟨_, rfl⟩⟩
  · refine a_aload_n X dX7_mean_8 rfl ?_
    refine a_iconst (v := 2) X dX7_mean_9 (by decide) ?_
    refine a_callVx X dX7_mean_10 miX7_refuse lm7_102 (s_X7_refuse (P := P) (by assumption)) (by assumption) rfl rfl rfl (Nat.le_of_ble_eq_true rfl) ⟨by decide, by decide, by decide, by decide⟩ (fun r_10 S_10 q_10 => ?_)
    obtain ⟨M_10, N_10, rfl, k_10, ⟨v_10, rfl⟩⟩ := q_10
    refine a_i2l X dX7_mean_13 ?_
    refine a_lret X hr dX7_mean_14 ⟨by decide, by decide⟩ ?_
    subst hF
    exact ⟨_, _, rfl, (by (try dsimp only); repeat first | assumption | exact zK.rf | refine zK.zu ?_ (by omega) | refine zK.zu0 ?_ (by decide) | refine zK.zwr ?_ (by omega) | refine zK.zfil ?_ (by omega) | refine zK.zcpy ?_ (by omega) | refine zK.trans ?_ (by assumption) | dsimp only), ⟨_, rfl⟩⟩
set_option maxRecDepth 100000 in
theorem s_X7_given {l : Launch} {G : zG} {b : Nat} {S : zS} {P : Nat} {v0 : Int32} (hT : LX7 S.1 P) : zM l G b yX7_given cX7_given 2 (some .int) 14 0 0 [.ref P, .int v0] S (fun r z => ∃ M' N', z = (S.1, M', N') ∧ zK P S.2.1 M' ∧ ∃ v : Int32, r = some (.int v)) := by
  refine zM.of miX7_given (Nat.le_of_ble_eq_true rfl) ?_
  intro p e s m args below meth c X hr hname
  generalize hF : ((fun r z => ∃ M' N', z = (S.1, M', N') ∧ zK P S.2.1 M' ∧ ∃ v : Int32, r = some (.int v)) : Option Value → zS → Prop) = FQ
  change Zw p l e { frames := 14, cells := 0, slots := 0, locals := 80 * 14 } s m args below meth c G b 2 (MQ below (zQ G b FQ) args s 0 0 (fun q : Nat => b ≤ q)) 0 0 0 [some (.ref P), some (.int v0)] [] S
  obtain ⟨lt, o, tape, out, reader, list, past, pool, result, odds, paper, trial, trialPool, trialResult, trialOdds⟩ := id hT
  obtain ⟨reader_lt, reader_o, reader_draft, reader_text, reader_unitNames, reader_hunterNames, reader_partyNames, reader_asked⟩ := id reader
  obtain ⟨list_lt, list_o, list_quota, list_score, list_guest, list_party, list_wishCount, list_wishes, list_has⟩ := id list
  obtain ⟨past_lt, past_o, past_stood, past_stood0, past_stood1, past_stood2, past_stood3, past_stood4, past_stood5, past_stood6, past_stood7⟩ := id past
  obtain ⟨pool_lt, pool_o, pool_quota, pool_preferred, pool_forGuests, pool_applicantOf, pool_size, pool_guestCount, pool_score, pool_tickets, pool_bits, pool_party, pool_wishCount, pool_wishes⟩ := id pool
  obtain ⟨result_lt, result_o, result_line, result_unitOf, result_roundOf, result_leftTags, result_leftGuests, result_leftPreferred, result_ranked⟩ := id result
  obtain ⟨odds_lt, odds_o, odds_sets, odds_seen, odds_atUnit, odds_early, odds_result⟩ := id odds
  obtain ⟨paper_lt, paper_o, paper_times, paper_firstWish, paper_dry, paper_list, paper_pool, paper_result⟩ := id paper
  obtain ⟨trial_lt, trial_o, trial_quota, trial_score, trial_guest, trial_party, trial_wishCount, trial_wishes, trial_has⟩ := id trial
  obtain ⟨trialPool_lt, trialPool_o, trialPool_quota, trialPool_preferred, trialPool_forGuests, trialPool_applicantOf, trialPool_size, trialPool_guestCount, trialPool_score, trialPool_tickets, trialPool_bits, trialPool_party, trialPool_wishCount, trialPool_wishes⟩ := id trialPool
  obtain ⟨trialResult_lt, trialResult_o, trialResult_line, trialResult_unitOf, trialResult_roundOf, trialResult_leftTags, trialResult_leftGuests, trialResult_leftPreferred, trialResult_ranked⟩ := id trialResult
  obtain ⟨trialOdds_lt, trialOdds_o, trialOdds_sets, trialOdds_seen, trialOdds_atUnit, trialOdds_early, trialOdds_result⟩ := id trialOdds
  have J_67 : ∀ (x1_67 : Int32) (y1_67 : Int32) (M2 : Nat → Nat → Int32) (N2 : Nat → Nat → Int64), zK P S.2.1 M2 → Zw p l e { frames := 14, cells := 0, slots := 0, locals := 80 * 14 } s m args below meth c G b 2 (MQ below (zQ G b FQ) args s 0 0 (fun q : Nat => b ≤ q)) 0 0 67 [some (.ref (P)), some (.int x1_67)] [(.int y1_67), (.ref (P))] (S.1, M2, N2) := by
    intro x1_67 y1_67 M2_67 N2_67 k_67
    refine a_callVx X dX7_given_67 miX7_answer lm7_134 (s_X7_answer (P := P) (by assumption)) (by assumption) rfl rfl rfl (Nat.le_of_ble_eq_true rfl) ⟨by decide, by decide, by decide, by decide⟩ (fun r_67 S_67 q_67 => ?_)
    obtain ⟨M_67, N_67, rfl, k_67, ⟨v_67, rfl⟩⟩ := q_67
    refine a_iret X hr dX7_given_70 ⟨by decide, by decide⟩ ?_
    subst hF
    exact ⟨_, _, rfl, (by (try dsimp only); repeat first | assumption | exact zK.rf | refine zK.zu ?_ (by omega) | refine zK.zu0 ?_ (by decide) | refine zK.zwr ?_ (by omega) | refine zK.zfil ?_ (by omega) | refine zK.zcpy ?_ (by omega) | refine zK.trans ?_ (by assumption) | dsimp only), ⟨_, rfl⟩⟩
  have J_9 : ∀ (x1_9 : Int32) (M2 : Nat → Nat → Int32) (N2 : Nat → Nat → Int64), zK P S.2.1 M2 → Zw p l e { frames := 14, cells := 0, slots := 0, locals := 80 * 14 } s m args below meth c G b 2 (MQ below (zQ G b FQ) args s 0 0 (fun q : Nat => b ≤ q)) 0 0 9 [some (.ref (P)), some (.int x1_9)] [] (S.1, M2, N2) := by
    intro x1_9 M2_9 N2_9 k_9
    refine a_aload_n X dX7_given_9 rfl ?_
    refine a_iconst (v := 1) X dX7_given_10 (by decide) ?_
    refine a_callVx X dX7_given_11 miX7_refuse lm7_102 (s_X7_refuse (P := P) (by assumption)) (by assumption) rfl rfl rfl (Nat.le_of_ble_eq_true rfl) ⟨by decide, by decide, by decide, by decide⟩ (fun r_11 S_11 q_11 => ?_)
    obtain ⟨M_11, N_11, rfl, k_11, ⟨v_11, rfl⟩⟩ := q_11
    refine a_iret X hr dX7_given_14 ⟨by decide, by decide⟩ ?_
    subst hF
    exact ⟨_, _, rfl, (by (try dsimp only); repeat first | assumption | exact zK.rf | refine zK.zu ?_ (by omega) | refine zK.zu0 ?_ (by decide) | refine zK.zwr ?_ (by omega) | refine zK.zfil ?_ (by omega) | refine zK.zcpy ?_ (by omega) | refine zK.trans ?_ (by assumption) | dsimp only), ⟨_, rfl⟩⟩
  refine a_iload_n X dX7_given_0 rfl ?_
  refine a_if_lt (tgt := 9) X dX7_given_1 (by decide) (fun h_1 => ?_) (fun h_1 => ?_)
  · exact Zw.to2 (J_9 _ _ _ (by (try dsimp only); repeat first | assumption | exact zK.rf | refine zK.zu ?_ (by omega) | refine zK.zu0 ?_ (by decide) | refine zK.zwr ?_ (by omega) | refine zK.zfil ?_ (by omega) | refine zK.zcpy ?_ (by omega) | refine zK.trans ?_ (by assumption) | dsimp only) ) rfl rfl rfl
  · refine a_iload_n X dX7_given_4 rfl ?_
    refine a_iconst (v := 1) X dX7_given_5 (by decide) ?_
    refine a_icmp_le (tgt := 15) X dX7_given_6 (by decide) (fun h_6 => ?_) (fun h_6 => ?_)
    · refine a_aload_n X dX7_given_15 rfl ?_
      refine a_getr X lf7_40 (by assumption) rfl (by omega) dX7_given_16 ?_
      refine a_geti X lf7_140 (by assumption) rfl dX7_given_19 ?_
      refine a_bipush (v := 7) X dX7_given_22 (by decide) ?_
      refine a_icmp_le (tgt := 33) X dX7_given_24 (by decide) (fun h_24 => ?_) (fun h_24 => ?_)
      · refine a_aload_n X dX7_given_33 rfl ?_
        refine a_callVx X dX7_given_34 miX7_reckon lm7_296 (s_X7_reckon (P := P) (by assumption)) (by assumption) rfl rfl rfl (Nat.le_of_ble_eq_true rfl) ⟨by decide, by decide, by decide, by decide⟩ (fun r_34 S_34 q_34 => ?_)
        obtain ⟨M_34, N_34, rfl, k_34, rfl⟩ := q_34
        refine a_aload_n X dX7_given_37 rfl ?_
        refine a_iload_n X dX7_given_38 rfl ?_
        refine a_if_ne (tgt := 56) X dX7_given_39 (by decide) (fun h_39 => ?_) (fun h_39 => ?_)
        · refine a_aload_n X dX7_given_56 rfl ?_
          refine a_getr X lf7_54 (by assumption) rfl (by omega) dX7_given_57 ?_
          refine a_aload_n X dX7_given_60 rfl ?_
          refine a_getr X lf7_40 (by assumption) rfl (by omega) dX7_given_61 ?_
          refine a_callVx X dX7_given_64 miX0_mostTags lm7_333 (s_X0_mostTags (P := P) (by assumption) (by omega) (by assumption) (by omega)) (by assumption) rfl rfl rfl (Nat.le_of_ble_eq_true rfl) ⟨by decide, by decide, by decide, by decide⟩ (fun r_64 S_64 q_64 => ?_)
          obtain ⟨rfl, ⟨v_64, rfl⟩⟩ := q_64
          exact Zw.to2 (J_67 _ _ _ _ (by (try dsimp only); repeat first | assumption | exact zK.rf | refine zK.zu ?_ (by omega) | refine zK.zu0 ?_ (by decide) | refine zK.zwr ?_ (by omega) | refine zK.zfil ?_ (by omega) | refine zK.zcpy ?_ (by omega) | refine zK.trans ?_ (by assumption) | dsimp only) ) rfl rfl rfl
        · refine a_aload_n X dX7_given_42 rfl ?_
          refine a_getr X lf7_54 (by assumption) rfl (by omega) dX7_given_43 ?_
          refine a_aload_n X dX7_given_46 rfl ?_
          refine a_getr X lf7_40 (by assumption) rfl (by omega) dX7_given_47 ?_
          refine a_callVx X dX7_given_50 miX0_fewestTags lm7_329 (s_X0_fewestTags (P := P) (by assumption) (by omega) (by assumption) (by omega)) (by assumption) rfl rfl rfl (Nat.le_of_ble_eq_true rfl) ⟨by decide, by decide, by decide, by decide⟩ (fun r_50 S_50 q_50 => ?_)
          obtain ⟨rfl, ⟨v_50, rfl⟩⟩ := q_50
          refine a_goto (tgt := 67) X dX7_given_53 (by decide) ?_
          exact Zw.to2 (J_67 _ _ _ _ (by (try dsimp only); repeat first | assumption | exact zK.rf | refine zK.zu ?_ (by omega) | refine zK.zu0 ?_ (by decide) | refine zK.zwr ?_ (by omega) | refine zK.zfil ?_ (by omega) | refine zK.zcpy ?_ (by omega) | refine zK.trans ?_ (by assumption) | dsimp only) ) rfl rfl rfl
      · refine a_aload_n X dX7_given_27 rfl ?_
        refine a_iconst (v := 3) X dX7_given_28 (by decide) ?_
        refine a_callVx X dX7_given_29 miX7_refuse lm7_102 (s_X7_refuse (P := P) (by assumption)) (by assumption) rfl rfl rfl (Nat.le_of_ble_eq_true rfl) ⟨by decide, by decide, by decide, by decide⟩ (fun r_29 S_29 q_29 => ?_)
        obtain ⟨M_29, N_29, rfl, k_29, ⟨v_29, rfl⟩⟩ := q_29
        refine a_iret X hr dX7_given_32 ⟨by decide, by decide⟩ ?_
        subst hF
        exact ⟨_, _, rfl, (by (try dsimp only); repeat first | assumption | exact zK.rf | refine zK.zu ?_ (by omega) | refine zK.zu0 ?_ (by decide) | refine zK.zwr ?_ (by omega) | refine zK.zfil ?_ (by omega) | refine zK.zcpy ?_ (by omega) | refine zK.trans ?_ (by assumption) | dsimp only), ⟨_, rfl⟩⟩
    · exact Zw.to2 (J_9 _ _ _ (by (try dsimp only); repeat first | assumption | exact zK.rf | refine zK.zu ?_ (by omega) | refine zK.zu0 ?_ (by decide) | refine zK.zwr ?_ (by omega) | refine zK.zfil ?_ (by omega) | refine zK.zcpy ?_ (by omega) | refine zK.trans ?_ (by assumption) | dsimp only) ) rfl rfl rfl
set_option maxRecDepth 100000 in
theorem s_X7_ends {l : Launch} {G : zG} {b : Nat} {S : zS} {P : Nat} (hT : LX7 S.1 P) : zM l G b yX7_ends cX7_ends 1 (some .int) 14 0 0 [.ref P] S (fun r z => ∃ M' N', z = (S.1, M', N') ∧ zK P S.2.1 M' ∧ ∃ v : Int32, r = some (.int v)) := by
  refine zM.of miX7_ends (Nat.le_of_ble_eq_true rfl) ?_
  intro p e s m args below meth c X hr hname
  generalize hF : ((fun r z => ∃ M' N', z = (S.1, M', N') ∧ zK P S.2.1 M' ∧ ∃ v : Int32, r = some (.int v)) : Option Value → zS → Prop) = FQ
  change Zw p l e { frames := 14, cells := 0, slots := 0, locals := 80 * 14 } s m args below meth c G b 1 (MQ below (zQ G b FQ) args s 0 0 (fun q : Nat => b ≤ q)) 0 0 0 [some (.ref P)] [] S
  obtain ⟨lt, o, tape, out, reader, list, past, pool, result, odds, paper, trial, trialPool, trialResult, trialOdds⟩ := id hT
  obtain ⟨reader_lt, reader_o, reader_draft, reader_text, reader_unitNames, reader_hunterNames, reader_partyNames, reader_asked⟩ := id reader
  obtain ⟨list_lt, list_o, list_quota, list_score, list_guest, list_party, list_wishCount, list_wishes, list_has⟩ := id list
  obtain ⟨past_lt, past_o, past_stood, past_stood0, past_stood1, past_stood2, past_stood3, past_stood4, past_stood5, past_stood6, past_stood7⟩ := id past
  obtain ⟨pool_lt, pool_o, pool_quota, pool_preferred, pool_forGuests, pool_applicantOf, pool_size, pool_guestCount, pool_score, pool_tickets, pool_bits, pool_party, pool_wishCount, pool_wishes⟩ := id pool
  obtain ⟨result_lt, result_o, result_line, result_unitOf, result_roundOf, result_leftTags, result_leftGuests, result_leftPreferred, result_ranked⟩ := id result
  obtain ⟨odds_lt, odds_o, odds_sets, odds_seen, odds_atUnit, odds_early, odds_result⟩ := id odds
  obtain ⟨paper_lt, paper_o, paper_times, paper_firstWish, paper_dry, paper_list, paper_pool, paper_result⟩ := id paper
  obtain ⟨trial_lt, trial_o, trial_quota, trial_score, trial_guest, trial_party, trial_wishCount, trial_wishes, trial_has⟩ := id trial
  obtain ⟨trialPool_lt, trialPool_o, trialPool_quota, trialPool_preferred, trialPool_forGuests, trialPool_applicantOf, trialPool_size, trialPool_guestCount, trialPool_score, trialPool_tickets, trialPool_bits, trialPool_party, trialPool_wishCount, trialPool_wishes⟩ := id trialPool
  obtain ⟨trialResult_lt, trialResult_o, trialResult_line, trialResult_unitOf, trialResult_roundOf, trialResult_leftTags, trialResult_leftGuests, trialResult_leftPreferred, trialResult_ranked⟩ := id trialResult
  obtain ⟨trialOdds_lt, trialOdds_o, trialOdds_sets, trialOdds_seen, trialOdds_atUnit, trialOdds_early, trialOdds_result⟩ := id trialOdds
  refine a_aload_n X dX7_ends_0 rfl ?_
  refine a_getr X lf7_40 (by assumption) rfl (by omega) dX7_ends_1 ?_
  refine a_geti X lf7_140 (by assumption) rfl dX7_ends_4 ?_
  refine a_bipush (v := 7) X dX7_ends_7 (by decide) ?_
  refine a_icmp_le (tgt := 18) X dX7_ends_9 (by decide) (fun h_9 => ?_) (fun h_9 => ?_)
  · refine a_aload_n X dX7_ends_18 rfl ?_
    refine a_callVx X dX7_ends_19 miX7_reckon lm7_296 (s_X7_reckon (P := P) (by assumption)) (by assumption) rfl rfl rfl (Nat.le_of_ble_eq_true rfl) ⟨by decide, by decide, by decide, by decide⟩ (fun r_19 S_19 q_19 => ?_)
    obtain ⟨M_19, N_19, rfl, k_19, rfl⟩ := q_19
    refine a_aload_n X dX7_ends_22 rfl ?_
    refine a_aload_n X dX7_ends_23 rfl ?_
    refine a_getr X lf7_54 (by assumption) rfl (by omega) dX7_ends_24 ?_
    refine a_getr X lf7_336 (by assumption) rfl (by omega) dX7_ends_27 ?_
    refine a_callSv X dX7_ends_30 miX7_sum lm7_161 (c_sum (by assumption) (by decide)) rfl rfl (Nat.le_of_ble_eq_true rfl) ⟨by decide, by decide, by decide, by decide⟩ ?_
    refine a_callVx X dX7_ends_33 miX7_answer lm7_134 (s_X7_answer (P := P) (by assumption)) (by assumption) rfl rfl rfl (Nat.le_of_ble_eq_true rfl) ⟨by decide, by decide, by decide, by decide⟩ (fun r_33 S_33 q_33 => ?_)
    obtain ⟨M_33, N_33, rfl, k_33, ⟨v_33, rfl⟩⟩ := q_33
    refine a_iret X hr dX7_ends_36 ⟨by decide, by decide⟩ ?_
    subst hF
    exact ⟨_, _, rfl, (by (try dsimp only); repeat first | assumption | exact zK.rf | refine zK.zu ?_ (by omega) | refine zK.zu0 ?_ (by decide) | refine zK.zwr ?_ (by omega) | refine zK.zfil ?_ (by omega) | refine zK.zcpy ?_ (by omega) | refine zK.trans ?_ (by assumption) | dsimp only), ⟨_, rfl⟩⟩
  · refine a_aload_n X dX7_ends_12 rfl ?_
    refine a_iconst (v := 3) X dX7_ends_13 (by decide) ?_
    refine a_callVx X dX7_ends_14 miX7_refuse lm7_102 (s_X7_refuse (P := P) (by assumption)) (by assumption) rfl rfl rfl (Nat.le_of_ble_eq_true rfl) ⟨by decide, by decide, by decide, by decide⟩ (fun r_14 S_14 q_14 => ?_)
    obtain ⟨M_14, N_14, rfl, k_14, ⟨v_14, rfl⟩⟩ := q_14
    refine a_iret X hr dX7_ends_17 ⟨by decide, by decide⟩ ?_
    subst hF
    exact ⟨_, _, rfl, (by (try dsimp only); repeat first | assumption | exact zK.rf | refine zK.zu ?_ (by omega) | refine zK.zu0 ?_ (by decide) | refine zK.zwr ?_ (by omega) | refine zK.zfil ?_ (by omega) | refine zK.zcpy ?_ (by omega) | refine zK.trans ?_ (by assumption) | dsimp only), ⟨_, rfl⟩⟩
set_option maxRecDepth 100000 in
theorem s_X7_partsOfOnly {l : Launch} {G : zG} {b : Nat} {S : zS} {P : Nat} {v0 : Int32} {v1 : Int32} (hT : LX7 S.1 P) : zM l G b yX7_partsOfOnly cX7_partsOfOnly 3 (some .long) 13 0 0 [.ref P, .int v0, .int v1] S (fun r z => ∃ M' N', z = (S.1, M', N') ∧ zK P S.2.1 M' ∧ ∃ v : Int64, r = some (.long v)) := by
  refine zM.of miX7_partsOfOnly (Nat.le_of_ble_eq_true rfl) ?_
  intro p e s m args below meth c X hr hname
  generalize hF : ((fun r z => ∃ M' N', z = (S.1, M', N') ∧ zK P S.2.1 M' ∧ ∃ v : Int64, r = some (.long v)) : Option Value → zS → Prop) = FQ
  change Zw p l e { frames := 13, cells := 0, slots := 0, locals := 80 * 13 } s m args below meth c G b 3 (MQ below (zQ G b FQ) args s 0 0 (fun q : Nat => b ≤ q)) 0 0 0 [some (.ref P), some (.int v0), some (.int v1)] [] S
  obtain ⟨lt, o, tape, out, reader, list, past, pool, result, odds, paper, trial, trialPool, trialResult, trialOdds⟩ := id hT
  obtain ⟨reader_lt, reader_o, reader_draft, reader_text, reader_unitNames, reader_hunterNames, reader_partyNames, reader_asked⟩ := id reader
  obtain ⟨list_lt, list_o, list_quota, list_score, list_guest, list_party, list_wishCount, list_wishes, list_has⟩ := id list
  obtain ⟨past_lt, past_o, past_stood, past_stood0, past_stood1, past_stood2, past_stood3, past_stood4, past_stood5, past_stood6, past_stood7⟩ := id past
  obtain ⟨pool_lt, pool_o, pool_quota, pool_preferred, pool_forGuests, pool_applicantOf, pool_size, pool_guestCount, pool_score, pool_tickets, pool_bits, pool_party, pool_wishCount, pool_wishes⟩ := id pool
  obtain ⟨result_lt, result_o, result_line, result_unitOf, result_roundOf, result_leftTags, result_leftGuests, result_leftPreferred, result_ranked⟩ := id result
  obtain ⟨odds_lt, odds_o, odds_sets, odds_seen, odds_atUnit, odds_early, odds_result⟩ := id odds
  obtain ⟨paper_lt, paper_o, paper_times, paper_firstWish, paper_dry, paper_list, paper_pool, paper_result⟩ := id paper
  obtain ⟨trial_lt, trial_o, trial_quota, trial_score, trial_guest, trial_party, trial_wishCount, trial_wishes, trial_has⟩ := id trial
  obtain ⟨trialPool_lt, trialPool_o, trialPool_quota, trialPool_preferred, trialPool_forGuests, trialPool_applicantOf, trialPool_size, trialPool_guestCount, trialPool_score, trialPool_tickets, trialPool_bits, trialPool_party, trialPool_wishCount, trialPool_wishes⟩ := id trialPool
  obtain ⟨trialResult_lt, trialResult_o, trialResult_line, trialResult_unitOf, trialResult_roundOf, trialResult_leftTags, trialResult_leftGuests, trialResult_leftPreferred, trialResult_ranked⟩ := id trialResult
  obtain ⟨trialOdds_lt, trialOdds_o, trialOdds_sets, trialOdds_seen, trialOdds_atUnit, trialOdds_early, trialOdds_result⟩ := id trialOdds
  refine a_aload_n X dX7_partsOfOnly_0 rfl ?_
  refine a_getr X lf7_65 (by assumption) rfl (by omega) dX7_partsOfOnly_1 ?_
  refine a_aload_n X dX7_partsOfOnly_4 rfl ?_
  refine a_getr X lf7_26 (by assumption) rfl (by omega) dX7_partsOfOnly_5 ?_
  refine a_callVx X dX7_partsOfOnly_8 miX4_take lm7_113 (s_X4_take (P := P) (by assumption) (by omega) (by assumption) (by omega) (by omega)) (by assumption) rfl rfl rfl (Nat.le_of_ble_eq_true rfl) ⟨by decide, by decide, by decide, by decide⟩ (fun r_8 S_8 q_8 => ?_)
  obtain ⟨M_8, N_8, rfl, k_8, rfl⟩ := q_8
  refine a_aload_n X dX7_partsOfOnly_11 rfl ?_
  refine a_getr X lf7_65 (by assumption) rfl (by omega) dX7_partsOfOnly_12 ?_
  refine a_aload_n X dX7_partsOfOnly_15 rfl ?_
  refine a_getr X lf7_40 (by assumption) rfl (by omega) dX7_partsOfOnly_16 ?_
  refine a_getr X lf7_222 (by assumption) rfl (by omega) dX7_partsOfOnly_19 ?_
  refine a_iload_n X dX7_partsOfOnly_22 rfl ?_
  refine a_callSv X dX7_partsOfOnly_23 miX7_cell lm7_175 (c_cell (by assumption) (by first | decide | assumption)) rfl rfl (Nat.le_of_ble_eq_true rfl) ⟨by decide, by decide, by decide, by decide⟩ ?_
  refine a_iload_n X dX7_partsOfOnly_26 rfl ?_
  refine a_iconst (v := -1) X dX7_partsOfOnly_27 (by decide) ?_
  refine a_iconst (v := -1) X dX7_partsOfOnly_28 (by decide) ?_
  refine a_callVx X dX7_partsOfOnly_29 miX4_wishFor lm7_283 (s_X4_wishFor (P := P) (by assumption) (by omega)) (by assumption) rfl rfl rfl (Nat.le_of_ble_eq_true rfl) ⟨by decide, by decide, by decide, by decide⟩ (fun r_29 S_29 q_29 => ?_)
  obtain ⟨M_29, N_29, rfl, k_29, rfl⟩ := q_29
  refine a_aload_n X dX7_partsOfOnly_32 rfl ?_
  refine a_getr X lf7_68 (by assumption) rfl (by omega) dX7_partsOfOnly_33 ?_
  refine a_aload_n X dX7_partsOfOnly_36 rfl ?_
  refine a_getr X lf7_65 (by assumption) rfl (by omega) dX7_partsOfOnly_37 ?_
  refine a_callVx X dX7_partsOfOnly_40 miX2_gather lm7_80 (s_X2_gather (P := P) (by assumption) (by omega) (by assumption) (by omega)) (by assumption) rfl rfl rfl (Nat.le_of_ble_eq_true rfl) ⟨by decide, by decide, by decide, by decide⟩ (fun r_40 S_40 q_40 => ?_)
  obtain ⟨M_40, N_40, rfl, k_40, rfl⟩ := q_40
  refine a_aload_n X dX7_partsOfOnly_43 rfl ?_
  refine a_getr X lf7_74 (by assumption) rfl (by omega) dX7_partsOfOnly_44 ?_
  refine a_aload_n X dX7_partsOfOnly_47 rfl ?_
  refine a_getr X lf7_68 (by assumption) rfl (by omega) dX7_partsOfOnly_48 ?_
  refine a_callVx X dX7_partsOfOnly_51 miX0_reckon lm7_339 (s_X0_reckon (P := P) (by assumption) (by omega) (by assumption) (by omega)) (by assumption) rfl rfl rfl (Nat.le_of_ble_eq_true rfl) ⟨by decide, by decide, by decide, by decide⟩ (fun r_51 S_51 q_51 => ?_)
  obtain ⟨M_51, N_51, rfl, k_51, rfl⟩ := q_51
  refine a_aload_n X dX7_partsOfOnly_54 rfl ?_
  refine a_getr X lf7_74 (by assumption) rfl (by omega) dX7_partsOfOnly_55 ?_
  refine a_iload_n X dX7_partsOfOnly_58 rfl ?_
  refine a_callVx X dX7_partsOfOnly_59 miX0_anyUnit lm7_299 (s_X0_anyUnit (P := P) (by assumption) (by omega)) (by assumption) rfl rfl rfl (Nat.le_of_ble_eq_true rfl) ⟨by decide, by decide, by decide, by decide⟩ (fun r_59 S_59 q_59 => ?_)
  obtain ⟨rfl, ⟨v_59, rfl⟩⟩ := q_59
  refine a_lret X hr dX7_partsOfOnly_62 ⟨by decide, by decide⟩ ?_
  subst hF
  exact ⟨_, _, rfl, (by (try dsimp only); repeat first | assumption | exact zK.rf | refine zK.zu ?_ (by omega) | refine zK.zu0 ?_ (by decide) | refine zK.zwr ?_ (by omega) | refine zK.zfil ?_ (by omega) | refine zK.zcpy ?_ (by omega) | refine zK.trans ?_ (by assumption) | dsimp only), ⟨_, rfl⟩⟩
set_option maxRecDepth 100000 in
theorem s_X7_whyNotWise {l : Launch} {G : zG} {b : Nat} {S : zS} {P : Nat} {v0 : Int32} (hT : LX7 S.1 P) : zM l G b yX7_whyNotWise cX7_whyNotWise 2 (some .int) 1 0 0 [.ref P, .int v0] S (fun r z => z = S ∧ ∃ v : Int32, r = some (.int v)) := by
  refine zM.of miX7_whyNotWise (Nat.le_of_ble_eq_true rfl) ?_
  intro p e s m args below meth c X hr hname
  generalize hF : ((fun r z => z = S ∧ ∃ v : Int32, r = some (.int v)) : Option Value → zS → Prop) = FQ
  change Zw p l e { frames := 1, cells := 0, slots := 0, locals := 80 * 1 } s m args below meth c G b 2 (MQ below (zQ G b FQ) args s 0 0 (fun q : Nat => b ≤ q)) 0 0 0 [some (.ref P), some (.int v0)] [] S
  obtain ⟨lt, o, tape, out, reader, list, past, pool, result, odds, paper, trial, trialPool, trialResult, trialOdds⟩ := id hT
  obtain ⟨reader_lt, reader_o, reader_draft, reader_text, reader_unitNames, reader_hunterNames, reader_partyNames, reader_asked⟩ := id reader
  obtain ⟨list_lt, list_o, list_quota, list_score, list_guest, list_party, list_wishCount, list_wishes, list_has⟩ := id list
  obtain ⟨past_lt, past_o, past_stood, past_stood0, past_stood1, past_stood2, past_stood3, past_stood4, past_stood5, past_stood6, past_stood7⟩ := id past
  obtain ⟨pool_lt, pool_o, pool_quota, pool_preferred, pool_forGuests, pool_applicantOf, pool_size, pool_guestCount, pool_score, pool_tickets, pool_bits, pool_party, pool_wishCount, pool_wishes⟩ := id pool
  obtain ⟨result_lt, result_o, result_line, result_unitOf, result_roundOf, result_leftTags, result_leftGuests, result_leftPreferred, result_ranked⟩ := id result
  obtain ⟨odds_lt, odds_o, odds_sets, odds_seen, odds_atUnit, odds_early, odds_result⟩ := id odds
  obtain ⟨paper_lt, paper_o, paper_times, paper_firstWish, paper_dry, paper_list, paper_pool, paper_result⟩ := id paper
  obtain ⟨trial_lt, trial_o, trial_quota, trial_score, trial_guest, trial_party, trial_wishCount, trial_wishes, trial_has⟩ := id trial
  obtain ⟨trialPool_lt, trialPool_o, trialPool_quota, trialPool_preferred, trialPool_forGuests, trialPool_applicantOf, trialPool_size, trialPool_guestCount, trialPool_score, trialPool_tickets, trialPool_bits, trialPool_party, trialPool_wishCount, trialPool_wishes⟩ := id trialPool
  obtain ⟨trialResult_lt, trialResult_o, trialResult_line, trialResult_unitOf, trialResult_roundOf, trialResult_leftTags, trialResult_leftGuests, trialResult_leftPreferred, trialResult_ranked⟩ := id trialResult
  obtain ⟨trialOdds_lt, trialOdds_o, trialOdds_sets, trialOdds_seen, trialOdds_atUnit, trialOdds_early, trialOdds_result⟩ := id trialOdds
  have J_39 : ∀ (x1_39 : Int32) (y0_39 : Int32), Zw p l e { frames := 1, cells := 0, slots := 0, locals := 80 * 1 } s m args below meth c G b 2 (MQ below (zQ G b FQ) args s 0 0 (fun q : Nat => b ≤ q)) 0 0 39 [some (.ref (P)), some (.int x1_39)] [(.int y0_39)] S := by
    intro x1_39 y0_39
    refine a_iret X hr dX7_whyNotWise_39 ⟨by decide, by decide⟩ ?_
    subst hF
    exact ⟨rfl, ⟨_, rfl⟩⟩
  refine a_aload_n X dX7_whyNotWise_0 rfl ?_
  refine a_iload_n X dX7_whyNotWise_1 rfl ?_
  refine a_callVx X dX7_whyNotWise_2 miX7_isApplicant lm7_206 (s_X7_isApplicant (P := P) (by assumption)) (by assumption) rfl rfl rfl (Nat.le_of_ble_eq_true rfl) ⟨by decide, by decide, by decide, by decide⟩ (fun r_2 S_2 q_2 => ?_)
  obtain ⟨rfl, ⟨v_2, rfl, b_2⟩⟩ := q_2
  refine a_if_ne (tgt := 10) X dX7_whyNotWise_5 (by decide) (fun h_5 => ?_) (fun h_5 => ?_)
  · refine a_aload_n X dX7_whyNotWise_10 rfl ?_
    refine a_getr X lf7_40 (by assumption) rfl (by omega) dX7_whyNotWise_11 ?_
    refine a_geti X lf7_140 (by assumption) rfl dX7_whyNotWise_14 ?_
    refine a_bipush (v := 7) X dX7_whyNotWise_17 (by decide) ?_
    refine a_icmp_le (tgt := 24) X dX7_whyNotWise_19 (by decide) (fun h_19 => ?_) (fun h_19 => ?_)
    · refine a_aload_n X dX7_whyNotWise_24 rfl ?_
      refine a_getr X lf7_26 (by assumption) rfl (by omega) dX7_whyNotWise_25 ?_
      refine a_geti X lf7_131 (by assumption) rfl dX7_whyNotWise_28 ?_
      refine a_if_ne (tgt := 38) X dX7_whyNotWise_31 (by decide) (fun h_31 => ?_) (fun h_31 => ?_)
      · refine a_iconst (v := 0) X dX7_whyNotWise_38 (by decide) ?_
        exact Zw.to2 (J_39 _ _ ) rfl rfl rfl
      · refine a_iconst (v := 5) X dX7_whyNotWise_34 (by decide) ?_
        refine a_goto (tgt := 39) X dX7_whyNotWise_35 (by decide) ?_
        exact Zw.to2 (J_39 _ _ ) rfl rfl rfl
    · refine a_iconst (v := 3) X dX7_whyNotWise_22 (by decide) ?_
      refine a_iret X hr dX7_whyNotWise_23 ⟨by decide, by decide⟩ ?_
      subst hF
      exact ⟨rfl, ⟨_, rfl⟩⟩
  · refine a_iconst (v := 2) X dX7_whyNotWise_8 (by decide) ?_
    refine a_iret X hr dX7_whyNotWise_9 ⟨by decide, by decide⟩ ?_
    subst hF
    exact ⟨rfl, ⟨_, rfl⟩⟩
set_option maxRecDepth 100000 in
theorem s_X7_need {l : Launch} {G : zG} {b : Nat} {S : zS} {P : Nat} {v0 : Int32} {v1 : Int32} (hT : LX7 S.1 P) : zM l G b yX7_need cX7_need 5 (some .int) 13 0 0 [.ref P, .int v0, .int v1] S (fun r z => ∃ M' N', z = (S.1, M', N') ∧ zK P S.2.1 M' ∧ ∃ v : Int32, r = some (.int v)) := by
  refine zM.of miX7_need (Nat.le_of_ble_eq_true rfl) ?_
  intro p e s m args below meth c X hr hname
  generalize hF : ((fun r z => ∃ M' N', z = (S.1, M', N') ∧ zK P S.2.1 M' ∧ ∃ v : Int32, r = some (.int v)) : Option Value → zS → Prop) = FQ
  change Zw p l e { frames := 13, cells := 0, slots := 0, locals := 80 * 13 } s m args below meth c G b 5 (MQ below (zQ G b FQ) args s 0 0 (fun q : Nat => b ≤ q)) 0 0 0 [some (.ref P), some (.int v0), some (.int v1), none, none] [] S
  obtain ⟨lt, o, tape, out, reader, list, past, pool, result, odds, paper, trial, trialPool, trialResult, trialOdds⟩ := id hT
  obtain ⟨reader_lt, reader_o, reader_draft, reader_text, reader_unitNames, reader_hunterNames, reader_partyNames, reader_asked⟩ := id reader
  obtain ⟨list_lt, list_o, list_quota, list_score, list_guest, list_party, list_wishCount, list_wishes, list_has⟩ := id list
  obtain ⟨past_lt, past_o, past_stood, past_stood0, past_stood1, past_stood2, past_stood3, past_stood4, past_stood5, past_stood6, past_stood7⟩ := id past
  obtain ⟨pool_lt, pool_o, pool_quota, pool_preferred, pool_forGuests, pool_applicantOf, pool_size, pool_guestCount, pool_score, pool_tickets, pool_bits, pool_party, pool_wishCount, pool_wishes⟩ := id pool
  obtain ⟨result_lt, result_o, result_line, result_unitOf, result_roundOf, result_leftTags, result_leftGuests, result_leftPreferred, result_ranked⟩ := id result
  obtain ⟨odds_lt, odds_o, odds_sets, odds_seen, odds_atUnit, odds_early, odds_result⟩ := id odds
  obtain ⟨paper_lt, paper_o, paper_times, paper_firstWish, paper_dry, paper_list, paper_pool, paper_result⟩ := id paper
  obtain ⟨trial_lt, trial_o, trial_quota, trial_score, trial_guest, trial_party, trial_wishCount, trial_wishes, trial_has⟩ := id trial
  obtain ⟨trialPool_lt, trialPool_o, trialPool_quota, trialPool_preferred, trialPool_forGuests, trialPool_applicantOf, trialPool_size, trialPool_guestCount, trialPool_score, trialPool_tickets, trialPool_bits, trialPool_party, trialPool_wishCount, trialPool_wishes⟩ := id trialPool
  obtain ⟨trialResult_lt, trialResult_o, trialResult_line, trialResult_unitOf, trialResult_roundOf, trialResult_leftTags, trialResult_leftGuests, trialResult_leftPreferred, trialResult_ranked⟩ := id trialResult
  obtain ⟨trialOdds_lt, trialOdds_o, trialOdds_sets, trialOdds_seen, trialOdds_atUnit, trialOdds_early, trialOdds_result⟩ := id trialOdds
  have L_97 : ∀ u : Nat, ∀ (x1_97 : Int32) (x2_97 : Int32) (x3_97 : Int32) (x4_97 : Int32) (M2 : Nat → Nat → Int32) (N2 : Nat → Nat → Int64), zK P S.2.1 M2 → (2147483648 - x4_97.toInt).toNat < u → Zw p l e { frames := 13, cells := 0, slots := 0, locals := 80 * 13 } s m args below meth c G b 5 (MQ below (zQ G b FQ) args s 0 0 (fun q : Nat => b ≤ q)) 0 0 97 [some (.ref (P)), some (.int x1_97), some (.int x2_97), some (.int x3_97), some (.int x4_97)] [] (S.1, M2, N2) := by
    intro u
    induction u with
    | zero => intro x1_97 x2_97 x3_97 x4_97 M2_97 N2_97 k_97 hm_97; exact absurd hm_97 (Nat.not_lt_zero _)
    | succ u_97 ih_97 =>
      intro x1_97 x2_97 x3_97 x4_97 M2_97 N2_97 k_97 hm_97
      refine a_iload X dX7_need_97 rfl ?_
      refine a_bipush (v := 20) X dX7_need_99 (by decide) ?_
      refine a_icmp_gt (tgt := 170) X dX7_need_101 (by decide) (fun h_101 => ?_) (fun h_101 => ?_)
      · refine a_aload_n X dX7_need_170 rfl ?_
        refine a_iconst (v := 5) X dX7_need_171 (by decide) ?_
        refine a_callVx X dX7_need_172 miX7_refuse lm7_102 (s_X7_refuse (P := P) (by assumption)) (by assumption) rfl rfl rfl (Nat.le_of_ble_eq_true rfl) ⟨by decide, by decide, by decide, by decide⟩ (fun r_172 S_172 q_172 => ?_)
        obtain ⟨M_172, N_172, rfl, k_172, ⟨v_172, rfl⟩⟩ := q_172
        refine a_iret X hr dX7_need_175 ⟨by decide, by decide⟩ ?_
        subst hF
        exact ⟨_, _, rfl, (by (try dsimp only); repeat first | assumption | exact zK.rf | refine zK.zu ?_ (by omega) | refine zK.zu0 ?_ (by decide) | refine zK.zwr ?_ (by omega) | refine zK.zfil ?_ (by omega) | refine zK.zcpy ?_ (by omega) | refine zK.trans ?_ (by assumption) | dsimp only), ⟨_, rfl⟩⟩
      · refine a_aload_n X dX7_need_104 rfl ?_
        refine a_getr X lf7_65 (by assumption) rfl (by omega) dX7_need_105 ?_
        refine a_getr X lf7_172 (by assumption) rfl (by omega) dX7_need_108 ?_
        refine a_iload_n X dX7_need_111 rfl ?_
        refine a_iload X dX7_need_112 rfl ?_
        refine a_callSx X dX7_need_114 miX7_put lm7_98 (s_X7_put (P := P) (by assumption) (by first | decide | assumption) (by omega)) rfl rfl (Nat.le_of_ble_eq_true rfl) ⟨by decide, by decide, by decide, by decide⟩ (fun r_114 S_114 q_114 => ?_)
        obtain ⟨M_114, N_114, rfl, k_114, rfl⟩ := q_114
        refine a_aload_n X dX7_need_117 rfl ?_
        refine a_getr X lf7_68 (by assumption) rfl (by omega) dX7_need_118 ?_
        refine a_aload_n X dX7_need_121 rfl ?_
        refine a_getr X lf7_65 (by assumption) rfl (by omega) dX7_need_122 ?_
        refine a_callVx X dX7_need_125 miX2_gather lm7_80 (s_X2_gather (P := P) (by assumption) (by omega) (by assumption) (by omega)) (by assumption) rfl rfl rfl (Nat.le_of_ble_eq_true rfl) ⟨by decide, by decide, by decide, by decide⟩ (fun r_125 S_125 q_125 => ?_)
        obtain ⟨M_125, N_125, rfl, k_125, rfl⟩ := q_125
        refine a_aload_n X dX7_need_128 rfl ?_
        refine a_getr X lf7_74 (by assumption) rfl (by omega) dX7_need_129 ?_
        refine a_aload_n X dX7_need_132 rfl ?_
        refine a_getr X lf7_68 (by assumption) rfl (by omega) dX7_need_133 ?_
        refine a_callVx X dX7_need_136 miX0_reckon lm7_339 (s_X0_reckon (P := P) (by assumption) (by omega) (by assumption) (by omega)) (by assumption) rfl rfl rfl (Nat.le_of_ble_eq_true rfl) ⟨by decide, by decide, by decide, by decide⟩ (fun r_136 S_136 q_136 => ?_)
        obtain ⟨M_136, N_136, rfl, k_136, rfl⟩ := q_136
        refine a_aload_n X dX7_need_139 rfl ?_
        refine a_getr X lf7_74 (by assumption) rfl (by omega) dX7_need_140 ?_
        refine a_iload_n X dX7_need_143 rfl ?_
        refine a_callVx X dX7_need_144 miX0_anyUnit lm7_299 (s_X0_anyUnit (P := P) (by assumption) (by omega)) (by assumption) rfl rfl rfl (Nat.le_of_ble_eq_true rfl) ⟨by decide, by decide, by decide, by decide⟩ (fun r_144 S_144 q_144 => ?_)
        obtain ⟨rfl, ⟨v_144, rfl⟩⟩ := q_144
        refine a_ldc2 X dX7_need_147 lk7_342 ?_
        refine a_ldiv X dX7_need_150 (by first | assumption | decide | exact z_nzl (by assumption)) ?_
        refine a_iload_n X dX7_need_151 rfl ?_
        refine a_i2l X dX7_need_152 ?_
        refine a_lcmp X dX7_need_153 ?_
        refine a_if_lt (tgt := 164) X dX7_need_154 (by decide) (fun h_154 => ?_) (fun h_154 => ?_)
        · refine a_iinc X dX7_need_164 (by decide) rfl rfl ?_
          refine a_goto (tgt := 97) X dX7_need_167 (by decide) ?_
          exact Zw.to2 (ih_97 _ _ _ _ _ _ (by (try dsimp only); repeat first | assumption | exact zK.rf | refine zK.zu ?_ (by omega) | refine zK.zu0 ?_ (by decide) | refine zK.zwr ?_ (by omega) | refine zK.zfil ?_ (by omega) | refine zK.zcpy ?_ (by omega) | refine zK.trans ?_ (by assumption) | dsimp only)  (z_up (by first | assumption | exact z_lt (by assumption) | exact z_lt2 (by assumption) | exact z_lt3 (by assumption) (by decide)) hm_97)) rfl rfl rfl
        · refine a_aload_n X dX7_need_157 rfl ?_
          refine a_iload X dX7_need_158 rfl ?_
          refine a_callVx X dX7_need_160 miX7_answer lm7_134 (s_X7_answer (P := P) (by assumption)) (by assumption) rfl rfl rfl (Nat.le_of_ble_eq_true rfl) ⟨by decide, by decide, by decide, by decide⟩ (fun r_160 S_160 q_160 => ?_)
          obtain ⟨M_160, N_160, rfl, k_160, ⟨v_160, rfl⟩⟩ := q_160
          refine a_iret X hr dX7_need_163 ⟨by decide, by decide⟩ ?_
          subst hF
          exact ⟨_, _, rfl, (by (try dsimp only); repeat first | assumption | exact zK.rf | refine zK.zu ?_ (by omega) | refine zK.zu0 ?_ (by decide) | refine zK.zwr ?_ (by omega) | refine zK.zfil ?_ (by omega) | refine zK.zcpy ?_ (by omega) | refine zK.trans ?_ (by assumption) | dsimp only), ⟨_, rfl⟩⟩
  have H_97 : ∀ (x1_97 : Int32) (x2_97 : Int32) (x3_97 : Int32) (x4_97 : Int32) (M2 : Nat → Nat → Int32) (N2 : Nat → Nat → Int64), zK P S.2.1 M2 → Zw p l e { frames := 13, cells := 0, slots := 0, locals := 80 * 13 } s m args below meth c G b 5 (MQ below (zQ G b FQ) args s 0 0 (fun q : Nat => b ≤ q)) 0 0 97 [some (.ref (P)), some (.int x1_97), some (.int x2_97), some (.int x3_97), some (.int x4_97)] [] (S.1, M2, N2) := fun x1_97 x2_97 x3_97 x4_97 M2 N2 k  => L_97 _ x1_97 x2_97 x3_97 x4_97 M2 N2 k  (Nat.lt_succ_self _)
  have J_11 : ∀ (x1_11 : Int32) (x2_11 : Int32) (x3_11 : Option Value) (x4_11 : Option Value) (M2 : Nat → Nat → Int32) (N2 : Nat → Nat → Int64), zK P S.2.1 M2 → Zw p l e { frames := 13, cells := 0, slots := 0, locals := 80 * 13 } s m args below meth c G b 5 (MQ below (zQ G b FQ) args s 0 0 (fun q : Nat => b ≤ q)) 0 0 11 [some (.ref (P)), some (.int x1_11), some (.int x2_11), x3_11, x4_11] [] (S.1, M2, N2) := by
    intro x1_11 x2_11 x3_11 x4_11 M2_11 N2_11 k_11
    refine a_aload_n X dX7_need_11 rfl ?_
    refine a_iconst (v := 1) X dX7_need_12 (by decide) ?_
    refine a_callVx X dX7_need_13 miX7_refuse lm7_102 (s_X7_refuse (P := P) (by assumption)) (by assumption) rfl rfl rfl (Nat.le_of_ble_eq_true rfl) ⟨by decide, by decide, by decide, by decide⟩ (fun r_13 S_13 q_13 => ?_)
    obtain ⟨M_13, N_13, rfl, k_13, ⟨v_13, rfl⟩⟩ := q_13
    refine a_iret X hr dX7_need_16 ⟨by decide, by decide⟩ ?_
    subst hF
    exact ⟨_, _, rfl, (by (try dsimp only); repeat first | assumption | exact zK.rf | refine zK.zu ?_ (by omega) | refine zK.zu0 ?_ (by decide) | refine zK.zwr ?_ (by omega) | refine zK.zfil ?_ (by omega) | refine zK.zcpy ?_ (by omega) | refine zK.trans ?_ (by assumption) | dsimp only), ⟨_, rfl⟩⟩
  refine a_iload_n X dX7_need_0 rfl ?_
  refine a_if_lt (tgt := 11) X dX7_need_1 (by decide) (fun h_1 => ?_) (fun h_1 => ?_)
  · exact Zw.to2 (J_11 _ _ _ _ _ _ (by (try dsimp only); repeat first | assumption | exact zK.rf | refine zK.zu ?_ (by omega) | refine zK.zu0 ?_ (by decide) | refine zK.zwr ?_ (by omega) | refine zK.zfil ?_ (by omega) | refine zK.zcpy ?_ (by omega) | refine zK.trans ?_ (by assumption) | dsimp only) ) rfl rfl rfl
  · refine a_iload_n X dX7_need_4 rfl ?_
    refine a_sipush (v := 1000) X dX7_need_5 (by decide) ?_
    refine a_icmp_le (tgt := 17) X dX7_need_8 (by decide) (fun h_8 => ?_) (fun h_8 => ?_)
    · refine a_aload_n X dX7_need_17 rfl ?_
      refine a_iload_n X dX7_need_18 rfl ?_
      refine a_callVx X dX7_need_19 miX7_isHunter lm7_168 (s_X7_isHunter (P := P) (by assumption)) (by assumption) rfl rfl rfl (Nat.le_of_ble_eq_true rfl) ⟨by decide, by decide, by decide, by decide⟩ (fun r_19 S_19 q_19 => ?_)
      obtain ⟨rfl, ⟨v_19, rfl, b_19⟩⟩ := q_19
      refine a_if_ne (tgt := 31) X dX7_need_22 (by decide) (fun h_22 => ?_) (fun h_22 => ?_)
      · refine a_aload_n X dX7_need_31 rfl ?_
        refine a_getr X lf7_26 (by assumption) rfl (by omega) dX7_need_32 ?_
        refine a_getr X lf7_179 (by assumption) rfl (by omega) dX7_need_35 ?_
        refine a_iload_n X dX7_need_38 rfl ?_
        refine a_callSv X dX7_need_39 miX7_cell lm7_175 (c_cell (by assumption) (by first | decide | assumption)) rfl rfl (Nat.le_of_ble_eq_true rfl) ⟨by decide, by decide, by decide, by decide⟩ ?_
        refine a_iconst (v := -1) X dX7_need_42 (by decide) ?_
        refine a_icmp_eq (tgt := 53) X dX7_need_43 (by decide) (fun h_43 => ?_) (fun h_43 => ?_)
        · refine a_aload_n X dX7_need_53 rfl ?_
          refine a_getr X lf7_40 (by assumption) rfl (by omega) dX7_need_54 ?_
          refine a_geti X lf7_140 (by assumption) rfl dX7_need_57 ?_
          refine a_bipush (v := 7) X dX7_need_60 (by decide) ?_
          refine a_icmp_le (tgt := 71) X dX7_need_62 (by decide) (fun h_62 => ?_) (fun h_62 => ?_)
          · refine a_aload_n X dX7_need_71 rfl ?_
            refine a_getr X lf7_40 (by assumption) rfl (by omega) dX7_need_72 ?_
            refine a_getr X lf7_182 (by assumption) rfl (by omega) dX7_need_75 ?_
            refine a_iload_n X dX7_need_78 rfl ?_
            refine a_callSv X dX7_need_79 miX7_cell lm7_175 (c_cell (by assumption) (by first | decide | assumption)) rfl rfl (Nat.le_of_ble_eq_true rfl) ⟨by decide, by decide, by decide, by decide⟩ ?_
            refine a_istore_n X dX7_need_82 (by decide) ?_
            refine a_aload_n X dX7_need_83 rfl ?_
            refine a_getr X lf7_65 (by assumption) rfl (by omega) dX7_need_84 ?_
            refine a_aload_n X dX7_need_87 rfl ?_
            refine a_getr X lf7_26 (by assumption) rfl (by omega) dX7_need_88 ?_
            refine a_callVx X dX7_need_91 miX4_take lm7_113 (s_X4_take (P := P) (by assumption) (by omega) (by assumption) (by omega) (by omega)) (by assumption) rfl rfl rfl (Nat.le_of_ble_eq_true rfl) ⟨by decide, by decide, by decide, by decide⟩ (fun r_91 S_91 q_91 => ?_)
            obtain ⟨M_91, N_91, rfl, k_91, rfl⟩ := q_91
            refine a_iconst (v := 0) X dX7_need_94 (by decide) ?_
            refine a_istore X dX7_need_95 (by decide) ?_
            exact Zw.to2 (H_97 _ _ _ _ _ _ (by (try dsimp only); repeat first | assumption | exact zK.rf | refine zK.zu ?_ (by omega) | refine zK.zu0 ?_ (by decide) | refine zK.zwr ?_ (by omega) | refine zK.zfil ?_ (by omega) | refine zK.zcpy ?_ (by omega) | refine zK.trans ?_ (by assumption) | dsimp only) ) rfl rfl rfl
          · refine a_aload_n X dX7_need_65 rfl ?_
            refine a_iconst (v := 3) X dX7_need_66 (by decide) ?_
            refine a_callVx X dX7_need_67 miX7_refuse lm7_102 (s_X7_refuse (P := P) (by assumption)) (by assumption) rfl rfl rfl (Nat.le_of_ble_eq_true rfl) ⟨by decide, by decide, by decide, by decide⟩ (fun r_67 S_67 q_67 => ?_)
            obtain ⟨M_67, N_67, rfl, k_67, ⟨v_67, rfl⟩⟩ := q_67
            refine a_iret X hr dX7_need_70 ⟨by decide, by decide⟩ ?_
            subst hF
            exact ⟨_, _, rfl, (by (try dsimp only); repeat first | assumption | exact zK.rf | refine zK.zu ?_ (by omega) | refine zK.zu0 ?_ (by decide) | refine zK.zwr ?_ (by omega) | refine zK.zfil ?_ (by omega) | refine zK.zcpy ?_ (by omega) | refine zK.trans ?_ (by assumption) | dsimp only), ⟨_, rfl⟩⟩
        · refine a_aload_n X dX7_need_46 rfl ?_
          refine a_bipush (v := 7) X dX7_need_47 (by decide) ?_
          refine a_callVx X dX7_need_49 miX7_refuse lm7_102 (s_X7_refuse (P := P) (by assumption)) (by assumption) rfl rfl rfl (Nat.le_of_ble_eq_true rfl) ⟨by decide, by decide, by decide, by decide⟩ (fun r_49 S_49 q_49 => ?_)
          obtain ⟨M_49, N_49, rfl, k_49, ⟨v_49, rfl⟩⟩ := q_49
          refine a_iret X hr dX7_need_52 ⟨by decide, by decide⟩ ?_
          subst hF
          exact ⟨_, _, rfl, (by (try dsimp only); repeat first | assumption | exact zK.rf | refine zK.zu ?_ (by omega) | refine zK.zu0 ?_ (by decide) | refine zK.zwr ?_ (by omega) | refine zK.zfil ?_ (by omega) | refine zK.zcpy ?_ (by omega) | refine zK.trans ?_ (by assumption) | dsimp only), ⟨_, rfl⟩⟩
      · refine a_aload_n X dX7_need_25 rfl ?_
        refine a_iconst (v := 2) X dX7_need_26 (by decide) ?_
        refine a_callVx X dX7_need_27 miX7_refuse lm7_102 (s_X7_refuse (P := P) (by assumption)) (by assumption) rfl rfl rfl (Nat.le_of_ble_eq_true rfl) ⟨by decide, by decide, by decide, by decide⟩ (fun r_27 S_27 q_27 => ?_)
        obtain ⟨M_27, N_27, rfl, k_27, ⟨v_27, rfl⟩⟩ := q_27
        refine a_iret X hr dX7_need_30 ⟨by decide, by decide⟩ ?_
        subst hF
        exact ⟨_, _, rfl, (by (try dsimp only); repeat first | assumption | exact zK.rf | refine zK.zu ?_ (by omega) | refine zK.zu0 ?_ (by decide) | refine zK.zwr ?_ (by omega) | refine zK.zfil ?_ (by omega) | refine zK.zcpy ?_ (by omega) | refine zK.trans ?_ (by assumption) | dsimp only), ⟨_, rfl⟩⟩
    · exact Zw.to2 (J_11 _ _ _ _ _ _ (by (try dsimp only); repeat first | assumption | exact zK.rf | refine zK.zu ?_ (by omega) | refine zK.zu0 ?_ (by decide) | refine zK.zwr ?_ (by omega) | refine zK.zfil ?_ (by omega) | refine zK.zcpy ?_ (by omega) | refine zK.trans ?_ (by assumption) | dsimp only) ) rfl rfl rfl
set_option maxRecDepth 100000 in
theorem s_X7_wise {l : Launch} {G : zG} {b : Nat} {S : zS} {P : Nat} {v0 : Int32} (hT : LX7 S.1 P) : zM l G b yX7_wise cX7_wise 9 (some .int) 14 0 0 [.ref P, .int v0] S (fun r z => ∃ M' N', z = (S.1, M', N') ∧ zK P S.2.1 M' ∧ ∃ v : Int32, r = some (.int v)) := by
  refine zM.of miX7_wise (Nat.le_of_ble_eq_true rfl) ?_
  intro p e s m args below meth c X hr hname
  generalize hF : ((fun r z => ∃ M' N', z = (S.1, M', N') ∧ zK P S.2.1 M' ∧ ∃ v : Int32, r = some (.int v)) : Option Value → zS → Prop) = FQ
  change Zw p l e { frames := 14, cells := 0, slots := 0, locals := 80 * 14 } s m args below meth c G b 9 (MQ below (zQ G b FQ) args s 0 0 (fun q : Nat => b ≤ q)) 0 0 0 [some (.ref P), some (.int v0), none, none, none, none, none, none, none] [] S
  obtain ⟨lt, o, tape, out, reader, list, past, pool, result, odds, paper, trial, trialPool, trialResult, trialOdds⟩ := id hT
  obtain ⟨reader_lt, reader_o, reader_draft, reader_text, reader_unitNames, reader_hunterNames, reader_partyNames, reader_asked⟩ := id reader
  obtain ⟨list_lt, list_o, list_quota, list_score, list_guest, list_party, list_wishCount, list_wishes, list_has⟩ := id list
  obtain ⟨past_lt, past_o, past_stood, past_stood0, past_stood1, past_stood2, past_stood3, past_stood4, past_stood5, past_stood6, past_stood7⟩ := id past
  obtain ⟨pool_lt, pool_o, pool_quota, pool_preferred, pool_forGuests, pool_applicantOf, pool_size, pool_guestCount, pool_score, pool_tickets, pool_bits, pool_party, pool_wishCount, pool_wishes⟩ := id pool
  obtain ⟨result_lt, result_o, result_line, result_unitOf, result_roundOf, result_leftTags, result_leftGuests, result_leftPreferred, result_ranked⟩ := id result
  obtain ⟨odds_lt, odds_o, odds_sets, odds_seen, odds_atUnit, odds_early, odds_result⟩ := id odds
  obtain ⟨paper_lt, paper_o, paper_times, paper_firstWish, paper_dry, paper_list, paper_pool, paper_result⟩ := id paper
  obtain ⟨trial_lt, trial_o, trial_quota, trial_score, trial_guest, trial_party, trial_wishCount, trial_wishes, trial_has⟩ := id trial
  obtain ⟨trialPool_lt, trialPool_o, trialPool_quota, trialPool_preferred, trialPool_forGuests, trialPool_applicantOf, trialPool_size, trialPool_guestCount, trialPool_score, trialPool_tickets, trialPool_bits, trialPool_party, trialPool_wishCount, trialPool_wishes⟩ := id trialPool
  obtain ⟨trialResult_lt, trialResult_o, trialResult_line, trialResult_unitOf, trialResult_roundOf, trialResult_leftTags, trialResult_leftGuests, trialResult_leftPreferred, trialResult_ranked⟩ := id trialResult
  obtain ⟨trialOdds_lt, trialOdds_o, trialOdds_sets, trialOdds_seen, trialOdds_atUnit, trialOdds_early, trialOdds_result⟩ := id trialOdds
  have L_26 : ∀ u : Nat, ∀ (x1_26 : Int32) (x2_26 : Int32) (x3_26 : Int32) (x4_26 : Int64) (x6_26 : Int32) (x7_26 : Option Value) (x8_26 : Option Value) (M2 : Nat → Nat → Int32) (N2 : Nat → Nat → Int64), zK P S.2.1 M2 → (2147483648 - x6_26.toInt).toNat < u → Zw p l e { frames := 14, cells := 0, slots := 0, locals := 80 * 14 } s m args below meth c G b 9 (MQ below (zQ G b FQ) args s 0 0 (fun q : Nat => b ≤ q)) 0 0 26 [some (.ref (P)), some (.int x1_26), some (.int x2_26), some (.int x3_26), some (.long x4_26), none, some (.int x6_26), x7_26, x8_26] [] (S.1, M2, N2) := by
    intro u
    induction u with
    | zero => intro x1_26 x2_26 x3_26 x4_26 x6_26 x7_26 x8_26 M2_26 N2_26 k_26 hm_26; exact absurd hm_26 (Nat.not_lt_zero _)
    | succ u_26 ih_26 =>
      intro x1_26 x2_26 x3_26 x4_26 x6_26 x7_26 x8_26 M2_26 N2_26 k_26 hm_26
      have J_62 : ∀ (x1_62 : Int32) (x2_62 : Int32) (x3_62 : Int32) (x4_62 : Int64) (x6_62 : Int32) (x7_62 : Int64) (M2 : Nat → Nat → Int32) (N2 : Nat → Nat → Int64), zK P S.2.1 M2 → ((2147483648 - x6_62.toInt).toNat < u_26 + 1) → (x6_62.toInt < 2147483647) → Zw p l e { frames := 14, cells := 0, slots := 0, locals := 80 * 14 } s m args below meth c G b 9 (MQ below (zQ G b FQ) args s 0 0 (fun q : Nat => b ≤ q)) 0 0 62 [some (.ref (P)), some (.int x1_62), some (.int x2_62), some (.int x3_62), some (.long x4_62), none, some (.int x6_62), some (.long x7_62), none] [] (S.1, M2, N2) := by
        intro x1_62 x2_62 x3_62 x4_62 x6_62 x7_62 M2_62 N2_62 k_62 f0_62 f1_62
        refine a_iinc X dX7_wise_62 (by decide) rfl rfl ?_
        refine a_goto (tgt := 26) X dX7_wise_65 (by decide) ?_
        exact Zw.to2 (ih_26 _ _ _ _ _ _ _ _ _ (by (try dsimp only); repeat first | assumption | exact zK.rf | refine zK.zu ?_ (by omega) | refine zK.zu0 ?_ (by decide) | refine zK.zwr ?_ (by omega) | refine zK.zfil ?_ (by omega) | refine zK.zcpy ?_ (by omega) | refine zK.trans ?_ (by assumption) | dsimp only)  (z_up f1_62 f0_62)) rfl rfl rfl
      refine a_iload X dX7_wise_26 rfl ?_
      refine a_aload_n X dX7_wise_28 rfl ?_
      refine a_getr X lf7_26 (by assumption) rfl (by omega) dX7_wise_29 ?_
      refine a_geti X lf7_131 (by assumption) rfl dX7_wise_32 ?_
      refine a_icmp_ge (tgt := 68) X dX7_wise_35 (by decide) (fun h_35 => ?_) (fun h_35 => ?_)
      · refine a_aload_n X dX7_wise_68 rfl ?_
        refine a_iload_n X dX7_wise_69 rfl ?_
        refine a_callVx X dX7_wise_70 miX7_answer lm7_134 (s_X7_answer (P := P) (by assumption)) (by assumption) rfl rfl rfl (Nat.le_of_ble_eq_true rfl) ⟨by decide, by decide, by decide, by decide⟩ (fun r_70 S_70 q_70 => ?_)
        obtain ⟨M_70, N_70, rfl, k_70, ⟨v_70, rfl⟩⟩ := q_70
        refine a_iret X hr dX7_wise_73 ⟨by decide, by decide⟩ ?_
        subst hF
        exact ⟨_, _, rfl, (by (try dsimp only); repeat first | assumption | exact zK.rf | refine zK.zu ?_ (by omega) | refine zK.zu0 ?_ (by decide) | refine zK.zwr ?_ (by omega) | refine zK.zfil ?_ (by omega) | refine zK.zcpy ?_ (by omega) | refine zK.trans ?_ (by assumption) | dsimp only), ⟨_, rfl⟩⟩
      · refine a_aload_n X dX7_wise_38 rfl ?_
        refine a_iload_n X dX7_wise_39 rfl ?_
        refine a_iload X dX7_wise_40 rfl ?_
        refine a_callVx X dX7_wise_42 miX7_partsOfOnly lm7_349 (s_X7_partsOfOnly (P := P) (by assumption)) (by assumption) rfl rfl rfl (Nat.le_of_ble_eq_true rfl) ⟨by decide, by decide, by decide, by decide⟩ (fun r_42 S_42 q_42 => ?_)
        obtain ⟨M_42, N_42, rfl, k_42, ⟨v_42, rfl⟩⟩ := q_42
        refine a_lstore X dX7_wise_45 (by decide) ?_
        refine a_lload X dX7_wise_47 rfl ?_
        refine a_lload X dX7_wise_49 rfl ?_
        refine a_lcmp X dX7_wise_51 ?_
        refine a_if_le (tgt := 62) X dX7_wise_52 (by decide) (fun h_52 => ?_) (fun h_52 => ?_)
        · exact Zw.to2 (J_62 _ _ _ _ _ _ _ _ (by (try dsimp only); repeat first | assumption | exact zK.rf | refine zK.zu ?_ (by omega) | refine zK.zu0 ?_ (by decide) | refine zK.zwr ?_ (by omega) | refine zK.zfil ?_ (by omega) | refine zK.zcpy ?_ (by omega) | refine zK.trans ?_ (by assumption) | dsimp only) hm_26 (by first | assumption | exact z_lt (by assumption) | exact z_lt2 (by assumption) | exact z_lt3 (by assumption) (by decide))) rfl rfl rfl
        · refine a_lload X dX7_wise_55 rfl ?_
          refine a_lstore X dX7_wise_57 (by decide) ?_
          refine a_iload X dX7_wise_59 rfl ?_
          refine a_istore_n X dX7_wise_61 (by decide) ?_
          exact Zw.to2 (J_62 _ _ _ _ _ _ _ _ (by (try dsimp only); repeat first | assumption | exact zK.rf | refine zK.zu ?_ (by omega) | refine zK.zu0 ?_ (by decide) | refine zK.zwr ?_ (by omega) | refine zK.zfil ?_ (by omega) | refine zK.zcpy ?_ (by omega) | refine zK.trans ?_ (by assumption) | dsimp only) hm_26 (by first | assumption | exact z_lt (by assumption) | exact z_lt2 (by assumption) | exact z_lt3 (by assumption) (by decide))) rfl rfl rfl
  have H_26 : ∀ (x1_26 : Int32) (x2_26 : Int32) (x3_26 : Int32) (x4_26 : Int64) (x6_26 : Int32) (x7_26 : Option Value) (x8_26 : Option Value) (M2 : Nat → Nat → Int32) (N2 : Nat → Nat → Int64), zK P S.2.1 M2 → Zw p l e { frames := 14, cells := 0, slots := 0, locals := 80 * 14 } s m args below meth c G b 9 (MQ below (zQ G b FQ) args s 0 0 (fun q : Nat => b ≤ q)) 0 0 26 [some (.ref (P)), some (.int x1_26), some (.int x2_26), some (.int x3_26), some (.long x4_26), none, some (.int x6_26), x7_26, x8_26] [] (S.1, M2, N2) := fun x1_26 x2_26 x3_26 x4_26 x6_26 x7_26 x8_26 M2 N2 k  => L_26 _ x1_26 x2_26 x3_26 x4_26 x6_26 x7_26 x8_26 M2 N2 k  (Nat.lt_succ_self _)
  refine a_aload_n X dX7_wise_0 rfl ?_
  refine a_iload_n X dX7_wise_1 rfl ?_
  refine a_callVx X dX7_wise_2 miX7_whyNotWise lm7_344 (s_X7_whyNotWise (P := P) (by assumption)) (by assumption) rfl rfl rfl (Nat.le_of_ble_eq_true rfl) ⟨by decide, by decide, by decide, by decide⟩ (fun r_2 S_2 q_2 => ?_)
  obtain ⟨rfl, ⟨v_2, rfl⟩⟩ := q_2
  refine a_istore_n X dX7_wise_5 (by decide) ?_
  refine a_iload_n X dX7_wise_6 rfl ?_
  refine a_if_eq (tgt := 16) X dX7_wise_7 (by decide) (fun h_7 => ?_) (fun h_7 => ?_)
  · refine a_iconst (v := 0) X dX7_wise_16 (by decide) ?_
    refine a_istore_n X dX7_wise_17 (by decide) ?_
    refine a_ldc2 X dX7_wise_18 lk7_347 ?_
    refine a_lstore X dX7_wise_21 (by decide) ?_
    refine a_iconst (v := 0) X dX7_wise_23 (by decide) ?_
    refine a_istore X dX7_wise_24 (by decide) ?_
    exact Zw.to2 (H_26 _ _ _ _ _ _ _ _ _ (by (try dsimp only); repeat first | assumption | exact zK.rf | refine zK.zu ?_ (by omega) | refine zK.zu0 ?_ (by decide) | refine zK.zwr ?_ (by omega) | refine zK.zfil ?_ (by omega) | refine zK.zcpy ?_ (by omega) | refine zK.trans ?_ (by assumption) | dsimp only) ) rfl rfl rfl
  · refine a_aload_n X dX7_wise_10 rfl ?_
    refine a_iload_n X dX7_wise_11 rfl ?_
    refine a_callVx X dX7_wise_12 miX7_refuse lm7_102 (s_X7_refuse (P := P) (by assumption)) (by assumption) rfl rfl rfl (Nat.le_of_ble_eq_true rfl) ⟨by decide, by decide, by decide, by decide⟩ (fun r_12 S_12 q_12 => ?_)
    obtain ⟨M_12, N_12, rfl, k_12, ⟨v_12, rfl⟩⟩ := q_12
    refine a_iret X hr dX7_wise_15 ⟨by decide, by decide⟩ ?_
    subst hF
    exact ⟨_, _, rfl, (by (try dsimp only); repeat first | assumption | exact zK.rf | refine zK.zu ?_ (by omega) | refine zK.zu0 ?_ (by decide) | refine zK.zwr ?_ (by omega) | refine zK.zfil ?_ (by omega) | refine zK.zcpy ?_ (by omega) | refine zK.trans ?_ (by assumption) | dsimp only), ⟨_, rfl⟩⟩
set_option maxRecDepth 100000 in
theorem s_X7_wiseChance {l : Launch} {G : zG} {b : Nat} {S : zS} {P : Nat} {v0 : Int32} (hT : LX7 S.1 P) : zM l G b yX7_wiseChance cX7_wiseChance 6 (some .long) 14 0 0 [.ref P, .int v0] S (fun r z => ∃ M' N', z = (S.1, M', N') ∧ zK P S.2.1 M' ∧ ∃ v : Int64, r = some (.long v)) := by
  refine zM.of miX7_wiseChance (Nat.le_of_ble_eq_true rfl) ?_
  intro p e s m args below meth c X hr hname
  generalize hF : ((fun r z => ∃ M' N', z = (S.1, M', N') ∧ zK P S.2.1 M' ∧ ∃ v : Int64, r = some (.long v)) : Option Value → zS → Prop) = FQ
  change Zw p l e { frames := 14, cells := 0, slots := 0, locals := 80 * 14 } s m args below meth c G b 6 (MQ below (zQ G b FQ) args s 0 0 (fun q : Nat => b ≤ q)) 0 0 0 [some (.ref P), some (.int v0), none, none, none, none] [] S
  obtain ⟨lt, o, tape, out, reader, list, past, pool, result, odds, paper, trial, trialPool, trialResult, trialOdds⟩ := id hT
  obtain ⟨reader_lt, reader_o, reader_draft, reader_text, reader_unitNames, reader_hunterNames, reader_partyNames, reader_asked⟩ := id reader
  obtain ⟨list_lt, list_o, list_quota, list_score, list_guest, list_party, list_wishCount, list_wishes, list_has⟩ := id list
  obtain ⟨past_lt, past_o, past_stood, past_stood0, past_stood1, past_stood2, past_stood3, past_stood4, past_stood5, past_stood6, past_stood7⟩ := id past
  obtain ⟨pool_lt, pool_o, pool_quota, pool_preferred, pool_forGuests, pool_applicantOf, pool_size, pool_guestCount, pool_score, pool_tickets, pool_bits, pool_party, pool_wishCount, pool_wishes⟩ := id pool
  obtain ⟨result_lt, result_o, result_line, result_unitOf, result_roundOf, result_leftTags, result_leftGuests, result_leftPreferred, result_ranked⟩ := id result
  obtain ⟨odds_lt, odds_o, odds_sets, odds_seen, odds_atUnit, odds_early, odds_result⟩ := id odds
  obtain ⟨paper_lt, paper_o, paper_times, paper_firstWish, paper_dry, paper_list, paper_pool, paper_result⟩ := id paper
  obtain ⟨trial_lt, trial_o, trial_quota, trial_score, trial_guest, trial_party, trial_wishCount, trial_wishes, trial_has⟩ := id trial
  obtain ⟨trialPool_lt, trialPool_o, trialPool_quota, trialPool_preferred, trialPool_forGuests, trialPool_applicantOf, trialPool_size, trialPool_guestCount, trialPool_score, trialPool_tickets, trialPool_bits, trialPool_party, trialPool_wishCount, trialPool_wishes⟩ := id trialPool
  obtain ⟨trialResult_lt, trialResult_o, trialResult_line, trialResult_unitOf, trialResult_roundOf, trialResult_leftTags, trialResult_leftGuests, trialResult_leftPreferred, trialResult_ranked⟩ := id trialResult
  obtain ⟨trialOdds_lt, trialOdds_o, trialOdds_sets, trialOdds_seen, trialOdds_atUnit, trialOdds_early, trialOdds_result⟩ := id trialOdds
  have L_22 : ∀ u : Nat, ∀ (x1_22 : Int32) (x2_22 : Int32) (x3_22 : Int64) (x5_22 : Int32) (M2 : Nat → Nat → Int32) (N2 : Nat → Nat → Int64), zK P S.2.1 M2 → (2147483648 - x5_22.toInt).toNat < u → Zw p l e { frames := 14, cells := 0, slots := 0, locals := 80 * 14 } s m args below meth c G b 6 (MQ below (zQ G b FQ) args s 0 0 (fun q : Nat => b ≤ q)) 0 0 22 [some (.ref (P)), some (.int x1_22), some (.int x2_22), some (.long x3_22), none, some (.int x5_22)] [] (S.1, M2, N2) := by
    intro u
    induction u with
    | zero => intro x1_22 x2_22 x3_22 x5_22 M2_22 N2_22 k_22 hm_22; exact absurd hm_22 (Nat.not_lt_zero _)
    | succ u_22 ih_22 =>
      intro x1_22 x2_22 x3_22 x5_22 M2_22 N2_22 k_22 hm_22
      refine a_iload X dX7_wiseChance_22 rfl ?_
      refine a_aload_n X dX7_wiseChance_24 rfl ?_
      refine a_getr X lf7_26 (by assumption) rfl (by omega) dX7_wiseChance_25 ?_
      refine a_geti X lf7_131 (by assumption) rfl dX7_wiseChance_28 ?_
      refine a_icmp_ge (tgt := 52) X dX7_wiseChance_31 (by decide) (fun h_31 => ?_) (fun h_31 => ?_)
      · refine a_aload_n X dX7_wiseChance_52 rfl ?_
        refine a_lload_n X dX7_wiseChance_53 rfl ?_
        refine a_callVx X dX7_wiseChance_54 miX7_answerParts lm7_303 (s_X7_answerParts (P := P) (by assumption)) (by assumption) rfl rfl rfl (Nat.le_of_ble_eq_true rfl) ⟨by decide, by decide, by decide, by decide⟩ (fun r_54 S_54 q_54 => ?_)
        obtain ⟨M_54, N_54, rfl, k_54, ⟨v_54, rfl⟩⟩ := q_54
        refine a_lret X hr dX7_wiseChance_57 ⟨by decide, by decide⟩ ?_
        subst hF
        exact ⟨_, _, rfl, (by (try dsimp only); repeat first | assumption | exact zK.rf | refine zK.zu ?_ (by omega) | refine zK.zu0 ?_ (by decide) | refine zK.zwr ?_ (by omega) | refine zK.zfil ?_ (by omega) | refine zK.zcpy ?_ (by omega) | refine zK.trans ?_ (by assumption) | dsimp only), ⟨_, rfl⟩⟩
      · refine a_lload_n X dX7_wiseChance_34 rfl ?_
        refine a_aload_n X dX7_wiseChance_35 rfl ?_
        refine a_iload_n X dX7_wiseChance_36 rfl ?_
        refine a_iload X dX7_wiseChance_37 rfl ?_
        refine a_callVx X dX7_wiseChance_39 miX7_partsOfOnly lm7_349 (s_X7_partsOfOnly (P := P) (by assumption)) (by assumption) rfl rfl rfl (Nat.le_of_ble_eq_true rfl) ⟨by decide, by decide, by decide, by decide⟩ (fun r_39 S_39 q_39 => ?_)
        obtain ⟨M_39, N_39, rfl, k_39, ⟨v_39, rfl⟩⟩ := q_39
        refine a_mmaxl X lm7_352 zmath3 zmath0 zmathc3 ⟨by decide, Nat.le_of_ble_eq_true rfl, by decide, by decide⟩ dX7_wiseChance_42 ?_
        refine a_lstore_n X dX7_wiseChance_45 (by decide) ?_
        refine a_iinc X dX7_wiseChance_46 (by decide) rfl rfl ?_
        refine a_goto (tgt := 22) X dX7_wiseChance_49 (by decide) ?_
        exact Zw.to2 (ih_22 _ _ _ _ _ _ (by (try dsimp only); repeat first | assumption | exact zK.rf | refine zK.zu ?_ (by omega) | refine zK.zu0 ?_ (by decide) | refine zK.zwr ?_ (by omega) | refine zK.zfil ?_ (by omega) | refine zK.zcpy ?_ (by omega) | refine zK.trans ?_ (by assumption) | dsimp only)  (z_up (by first | assumption | exact z_lt (by assumption) | exact z_lt2 (by assumption) | exact z_lt3 (by assumption) (by decide)) hm_22)) rfl rfl rfl
  have H_22 : ∀ (x1_22 : Int32) (x2_22 : Int32) (x3_22 : Int64) (x5_22 : Int32) (M2 : Nat → Nat → Int32) (N2 : Nat → Nat → Int64), zK P S.2.1 M2 → Zw p l e { frames := 14, cells := 0, slots := 0, locals := 80 * 14 } s m args below meth c G b 6 (MQ below (zQ G b FQ) args s 0 0 (fun q : Nat => b ≤ q)) 0 0 22 [some (.ref (P)), some (.int x1_22), some (.int x2_22), some (.long x3_22), none, some (.int x5_22)] [] (S.1, M2, N2) := fun x1_22 x2_22 x3_22 x5_22 M2 N2 k  => L_22 _ x1_22 x2_22 x3_22 x5_22 M2 N2 k  (Nat.lt_succ_self _)
  refine a_aload_n X dX7_wiseChance_0 rfl ?_
  refine a_iload_n X dX7_wiseChance_1 rfl ?_
  refine a_callVx X dX7_wiseChance_2 miX7_whyNotWise lm7_344 (s_X7_whyNotWise (P := P) (by assumption)) (by assumption) rfl rfl rfl (Nat.le_of_ble_eq_true rfl) ⟨by decide, by decide, by decide, by decide⟩ (fun r_2 S_2 q_2 => ?_)
  obtain ⟨rfl, ⟨v_2, rfl⟩⟩ := q_2
  refine a_istore_n X dX7_wiseChance_5 (by decide) ?_
  refine a_iload_n X dX7_wiseChance_6 rfl ?_
  refine a_if_eq (tgt := 17) X dX7_wiseChance_7 (by decide) (fun h_7 => ?_) (fun h_7 => ?_)
  · refine a_lconst (v := 0) X dX7_wiseChance_17 (by decide) ?_
    refine a_lstore_n X dX7_wiseChance_18 (by decide) ?_
    refine a_iconst (v := 0) X dX7_wiseChance_19 (by decide) ?_
    refine a_istore X dX7_wiseChance_20 (by decide) ?_
    exact Zw.to2 (H_22 _ _ _ _ _ _ (by (try dsimp only); repeat first | assumption | exact zK.rf | refine zK.zu ?_ (by omega) | refine zK.zu0 ?_ (by decide) | refine zK.zwr ?_ (by omega) | refine zK.zfil ?_ (by omega) | refine zK.zcpy ?_ (by omega) | refine zK.trans ?_ (by assumption) | dsimp only) ) rfl rfl rfl
  · refine a_aload_n X dX7_wiseChance_10 rfl ?_
    refine a_iload_n X dX7_wiseChance_11 rfl ?_
    refine a_callVx X dX7_wiseChance_12 miX7_refuse lm7_102 (s_X7_refuse (P := P) (by assumption)) (by assumption) rfl rfl rfl (Nat.le_of_ble_eq_true rfl) ⟨by decide, by decide, by decide, by decide⟩ (fun r_12 S_12 q_12 => ?_)
    obtain ⟨M_12, N_12, rfl, k_12, ⟨v_12, rfl⟩⟩ := q_12
    refine a_i2l X dX7_wiseChance_15 ?_
    refine a_lret X hr dX7_wiseChance_16 ⟨by decide, by decide⟩ ?_
    subst hF
    exact ⟨_, _, rfl, (by (try dsimp only); repeat first | assumption | exact zK.rf | refine zK.zu ?_ (by omega) | refine zK.zu0 ?_ (by decide) | refine zK.zwr ?_ (by omega) | refine zK.zfil ?_ (by omega) | refine zK.zcpy ?_ (by omega) | refine zK.trans ?_ (by assumption) | dsimp only), ⟨_, rfl⟩⟩
set_option maxRecDepth 100000 in
theorem s_X7_together {l : Launch} {G : zG} {b : Nat} {S : zS} {P : Nat} {v0 : Int32} {v1 : Int32} (hT : LX7 S.1 P) : zM l G b yX7_together cX7_together 3 (some .long) 13 0 0 [.ref P, .int v0, .int v1] S (fun r z => ∃ M' N', z = (S.1, M', N') ∧ zK P S.2.1 M' ∧ ∃ v : Int64, r = some (.long v)) := by
  refine zM.of miX7_together (Nat.le_of_ble_eq_true rfl) ?_
  intro p e s m args below meth c X hr hname
  generalize hF : ((fun r z => ∃ M' N', z = (S.1, M', N') ∧ zK P S.2.1 M' ∧ ∃ v : Int64, r = some (.long v)) : Option Value → zS → Prop) = FQ
  change Zw p l e { frames := 13, cells := 0, slots := 0, locals := 80 * 13 } s m args below meth c G b 3 (MQ below (zQ G b FQ) args s 0 0 (fun q : Nat => b ≤ q)) 0 0 0 [some (.ref P), some (.int v0), some (.int v1)] [] S
  obtain ⟨lt, o, tape, out, reader, list, past, pool, result, odds, paper, trial, trialPool, trialResult, trialOdds⟩ := id hT
  obtain ⟨reader_lt, reader_o, reader_draft, reader_text, reader_unitNames, reader_hunterNames, reader_partyNames, reader_asked⟩ := id reader
  obtain ⟨list_lt, list_o, list_quota, list_score, list_guest, list_party, list_wishCount, list_wishes, list_has⟩ := id list
  obtain ⟨past_lt, past_o, past_stood, past_stood0, past_stood1, past_stood2, past_stood3, past_stood4, past_stood5, past_stood6, past_stood7⟩ := id past
  obtain ⟨pool_lt, pool_o, pool_quota, pool_preferred, pool_forGuests, pool_applicantOf, pool_size, pool_guestCount, pool_score, pool_tickets, pool_bits, pool_party, pool_wishCount, pool_wishes⟩ := id pool
  obtain ⟨result_lt, result_o, result_line, result_unitOf, result_roundOf, result_leftTags, result_leftGuests, result_leftPreferred, result_ranked⟩ := id result
  obtain ⟨odds_lt, odds_o, odds_sets, odds_seen, odds_atUnit, odds_early, odds_result⟩ := id odds
  obtain ⟨paper_lt, paper_o, paper_times, paper_firstWish, paper_dry, paper_list, paper_pool, paper_result⟩ := id paper
  obtain ⟨trial_lt, trial_o, trial_quota, trial_score, trial_guest, trial_party, trial_wishCount, trial_wishes, trial_has⟩ := id trial
  obtain ⟨trialPool_lt, trialPool_o, trialPool_quota, trialPool_preferred, trialPool_forGuests, trialPool_applicantOf, trialPool_size, trialPool_guestCount, trialPool_score, trialPool_tickets, trialPool_bits, trialPool_party, trialPool_wishCount, trialPool_wishes⟩ := id trialPool
  obtain ⟨trialResult_lt, trialResult_o, trialResult_line, trialResult_unitOf, trialResult_roundOf, trialResult_leftTags, trialResult_leftGuests, trialResult_leftPreferred, trialResult_ranked⟩ := id trialResult
  obtain ⟨trialOdds_lt, trialOdds_o, trialOdds_sets, trialOdds_seen, trialOdds_atUnit, trialOdds_early, trialOdds_result⟩ := id trialOdds
  have J_65 : ∀ (x1_65 : Int32) (x2_65 : Int32) (M2 : Nat → Nat → Int32) (N2 : Nat → Nat → Int64), zK P S.2.1 M2 → Zw p l e { frames := 13, cells := 0, slots := 0, locals := 80 * 13 } s m args below meth c G b 3 (MQ below (zQ G b FQ) args s 0 0 (fun q : Nat => b ≤ q)) 0 0 65 [some (.ref (P)), some (.int x1_65), some (.int x2_65)] [] (S.1, M2, N2) := by
    intro x1_65 x2_65 M2_65 N2_65 k_65
    refine a_aload_n X dX7_together_65 rfl ?_
    refine a_bipush (v := 7) X dX7_together_66 (by decide) ?_
    refine a_callVx X dX7_together_68 miX7_refuse lm7_102 (s_X7_refuse (P := P) (by assumption)) (by assumption) rfl rfl rfl (Nat.le_of_ble_eq_true rfl) ⟨by decide, by decide, by decide, by decide⟩ (fun r_68 S_68 q_68 => ?_)
    obtain ⟨M_68, N_68, rfl, k_68, ⟨v_68, rfl⟩⟩ := q_68
    refine a_i2l X dX7_together_71 ?_
    refine a_lret X hr dX7_together_72 ⟨by decide, by decide⟩ ?_
    subst hF
    exact ⟨_, _, rfl, (by (try dsimp only); repeat first | assumption | exact zK.rf | refine zK.zu ?_ (by omega) | refine zK.zu0 ?_ (by decide) | refine zK.zwr ?_ (by omega) | refine zK.zfil ?_ (by omega) | refine zK.zcpy ?_ (by omega) | refine zK.trans ?_ (by assumption) | dsimp only), ⟨_, rfl⟩⟩
  have J_16 : ∀ (x1_16 : Int32) (x2_16 : Int32) (M2 : Nat → Nat → Int32) (N2 : Nat → Nat → Int64), zK P S.2.1 M2 → Zw p l e { frames := 13, cells := 0, slots := 0, locals := 80 * 13 } s m args below meth c G b 3 (MQ below (zQ G b FQ) args s 0 0 (fun q : Nat => b ≤ q)) 0 0 16 [some (.ref (P)), some (.int x1_16), some (.int x2_16)] [] (S.1, M2, N2) := by
    intro x1_16 x2_16 M2_16 N2_16 k_16
    refine a_aload_n X dX7_together_16 rfl ?_
    refine a_iconst (v := 2) X dX7_together_17 (by decide) ?_
    refine a_callVx X dX7_together_18 miX7_refuse lm7_102 (s_X7_refuse (P := P) (by assumption)) (by assumption) rfl rfl rfl (Nat.le_of_ble_eq_true rfl) ⟨by decide, by decide, by decide, by decide⟩ (fun r_18 S_18 q_18 => ?_)
    obtain ⟨M_18, N_18, rfl, k_18, ⟨v_18, rfl⟩⟩ := q_18
    refine a_i2l X dX7_together_21 ?_
    refine a_lret X hr dX7_together_22 ⟨by decide, by decide⟩ ?_
    subst hF
    exact ⟨_, _, rfl, (by (try dsimp only); repeat first | assumption | exact zK.rf | refine zK.zu ?_ (by omega) | refine zK.zu0 ?_ (by decide) | refine zK.zwr ?_ (by omega) | refine zK.zfil ?_ (by omega) | refine zK.zcpy ?_ (by omega) | refine zK.trans ?_ (by assumption) | dsimp only), ⟨_, rfl⟩⟩
  refine a_aload_n X dX7_together_0 rfl ?_
  refine a_iload_n X dX7_together_1 rfl ?_
  refine a_callVx X dX7_together_2 miX7_isHunter lm7_168 (s_X7_isHunter (P := P) (by assumption)) (by assumption) rfl rfl rfl (Nat.le_of_ble_eq_true rfl) ⟨by decide, by decide, by decide, by decide⟩ (fun r_2 S_2 q_2 => ?_)
  obtain ⟨rfl, ⟨v_2, rfl, b_2⟩⟩ := q_2
  refine a_if_eq (tgt := 16) X dX7_together_5 (by decide) (fun h_5 => ?_) (fun h_5 => ?_)
  · exact Zw.to2 (J_16 _ _ _ _ (by (try dsimp only); repeat first | assumption | exact zK.rf | refine zK.zu ?_ (by omega) | refine zK.zu0 ?_ (by decide) | refine zK.zwr ?_ (by omega) | refine zK.zfil ?_ (by omega) | refine zK.zcpy ?_ (by omega) | refine zK.trans ?_ (by assumption) | dsimp only) ) rfl rfl rfl
  · refine a_aload_n X dX7_together_8 rfl ?_
    refine a_iload_n X dX7_together_9 rfl ?_
    refine a_callVx X dX7_together_10 miX7_isHunter lm7_168 (s_X7_isHunter (P := P) (by assumption)) (by assumption) rfl rfl rfl (Nat.le_of_ble_eq_true rfl) ⟨by decide, by decide, by decide, by decide⟩ (fun r_10 S_10 q_10 => ?_)
    obtain ⟨rfl, ⟨v_10, rfl, b_10⟩⟩ := q_10
    refine a_if_ne (tgt := 23) X dX7_together_13 (by decide) (fun h_13 => ?_) (fun h_13 => ?_)
    · refine a_iload_n X dX7_together_23 rfl ?_
      refine a_iload_n X dX7_together_24 rfl ?_
      refine a_icmp_ne (tgt := 35) X dX7_together_25 (by decide) (fun h_25 => ?_) (fun h_25 => ?_)
      · refine a_aload_n X dX7_together_35 rfl ?_
        refine a_getr X lf7_26 (by assumption) rfl (by omega) dX7_together_36 ?_
        refine a_getr X lf7_179 (by assumption) rfl (by omega) dX7_together_39 ?_
        refine a_iload_n X dX7_together_42 rfl ?_
        refine a_callSv X dX7_together_43 miX7_cell lm7_175 (c_cell (by assumption) (by first | decide | assumption)) rfl rfl (Nat.le_of_ble_eq_true rfl) ⟨by decide, by decide, by decide, by decide⟩ ?_
        refine a_iconst (v := -1) X dX7_together_46 (by decide) ?_
        refine a_icmp_ne (tgt := 65) X dX7_together_47 (by decide) (fun h_47 => ?_) (fun h_47 => ?_)
        · exact Zw.to2 (J_65 _ _ _ _ (by (try dsimp only); repeat first | assumption | exact zK.rf | refine zK.zu ?_ (by omega) | refine zK.zu0 ?_ (by decide) | refine zK.zwr ?_ (by omega) | refine zK.zfil ?_ (by omega) | refine zK.zcpy ?_ (by omega) | refine zK.trans ?_ (by assumption) | dsimp only) ) rfl rfl rfl
        · refine a_aload_n X dX7_together_50 rfl ?_
          refine a_getr X lf7_26 (by assumption) rfl (by omega) dX7_together_51 ?_
          refine a_getr X lf7_179 (by assumption) rfl (by omega) dX7_together_54 ?_
          refine a_iload_n X dX7_together_57 rfl ?_
          refine a_callSv X dX7_together_58 miX7_cell lm7_175 (c_cell (by assumption) (by first | decide | assumption)) rfl rfl (Nat.le_of_ble_eq_true rfl) ⟨by decide, by decide, by decide, by decide⟩ ?_
          refine a_iconst (v := -1) X dX7_together_61 (by decide) ?_
          refine a_icmp_eq (tgt := 73) X dX7_together_62 (by decide) (fun h_62 => ?_) (fun h_62 => ?_)
          · refine a_aload_n X dX7_together_73 rfl ?_
            refine a_getr X lf7_40 (by assumption) rfl (by omega) dX7_together_74 ?_
            refine a_geti X lf7_140 (by assumption) rfl dX7_together_77 ?_
            refine a_bipush (v := 8) X dX7_together_80 (by decide) ?_
            refine a_icmp_le (tgt := 92) X dX7_together_82 (by decide) (fun h_82 => ?_) (fun h_82 => ?_)
            · refine a_aload_n X dX7_together_92 rfl ?_
              refine a_getr X lf7_65 (by assumption) rfl (by omega) dX7_together_93 ?_
              refine a_aload_n X dX7_together_96 rfl ?_
              refine a_getr X lf7_26 (by assumption) rfl (by omega) dX7_together_97 ?_
              refine a_callVx X dX7_together_100 miX4_take lm7_113 (s_X4_take (P := P) (by assumption) (by omega) (by assumption) (by omega) (by omega)) (by assumption) rfl rfl rfl (Nat.le_of_ble_eq_true rfl) ⟨by decide, by decide, by decide, by decide⟩ (fun r_100 S_100 q_100 => ?_)
              obtain ⟨M_100, N_100, rfl, k_100, rfl⟩ := q_100
              refine a_aload_n X dX7_together_103 rfl ?_
              refine a_getr X lf7_65 (by assumption) rfl (by omega) dX7_together_104 ?_
              refine a_iload_n X dX7_together_107 rfl ?_
              refine a_iload_n X dX7_together_108 rfl ?_
              refine a_callVx X dX7_together_109 miX4_join lm7_358 (s_X4_join (P := P) (by assumption) (by omega)) (by assumption) rfl rfl rfl (Nat.le_of_ble_eq_true rfl) ⟨by decide, by decide, by decide, by decide⟩ (fun r_109 S_109 q_109 => ?_)
              obtain ⟨M_109, N_109, rfl, k_109, rfl⟩ := q_109
              refine a_aload_n X dX7_together_112 rfl ?_
              refine a_getr X lf7_68 (by assumption) rfl (by omega) dX7_together_113 ?_
              refine a_aload_n X dX7_together_116 rfl ?_
              refine a_getr X lf7_65 (by assumption) rfl (by omega) dX7_together_117 ?_
              refine a_callVx X dX7_together_120 miX2_gather lm7_80 (s_X2_gather (P := P) (by assumption) (by omega) (by assumption) (by omega)) (by assumption) rfl rfl rfl (Nat.le_of_ble_eq_true rfl) ⟨by decide, by decide, by decide, by decide⟩ (fun r_120 S_120 q_120 => ?_)
              obtain ⟨M_120, N_120, rfl, k_120, rfl⟩ := q_120
              refine a_aload_n X dX7_together_123 rfl ?_
              refine a_getr X lf7_74 (by assumption) rfl (by omega) dX7_together_124 ?_
              refine a_aload_n X dX7_together_127 rfl ?_
              refine a_getr X lf7_68 (by assumption) rfl (by omega) dX7_together_128 ?_
              refine a_callVx X dX7_together_131 miX0_reckon lm7_339 (s_X0_reckon (P := P) (by assumption) (by omega) (by assumption) (by omega)) (by assumption) rfl rfl rfl (Nat.le_of_ble_eq_true rfl) ⟨by decide, by decide, by decide, by decide⟩ (fun r_131 S_131 q_131 => ?_)
              obtain ⟨M_131, N_131, rfl, k_131, rfl⟩ := q_131
              refine a_aload_n X dX7_together_134 rfl ?_
              refine a_aload_n X dX7_together_135 rfl ?_
              refine a_getr X lf7_74 (by assumption) rfl (by omega) dX7_together_136 ?_
              refine a_aload_n X dX7_together_139 rfl ?_
              refine a_getr X lf7_68 (by assumption) rfl (by omega) dX7_together_140 ?_
              refine a_getr X lf7_182 (by assumption) rfl (by omega) dX7_together_143 ?_
              refine a_iload_n X dX7_together_146 rfl ?_
              refine a_callSv X dX7_together_147 miX7_cell lm7_175 (c_cell (by assumption) (by first | decide | assumption)) rfl rfl (Nat.le_of_ble_eq_true rfl) ⟨by decide, by decide, by decide, by decide⟩ ?_
              refine a_callVx X dX7_together_150 miX0_anyUnit lm7_299 (s_X0_anyUnit (P := P) (by assumption) (by omega)) (by assumption) rfl rfl rfl (Nat.le_of_ble_eq_true rfl) ⟨by decide, by decide, by decide, by decide⟩ (fun r_150 S_150 q_150 => ?_)
              obtain ⟨rfl, ⟨v_150, rfl⟩⟩ := q_150
              refine a_callVx X dX7_together_153 miX7_answerParts lm7_303 (s_X7_answerParts (P := P) (by assumption)) (by assumption) rfl rfl rfl (Nat.le_of_ble_eq_true rfl) ⟨by decide, by decide, by decide, by decide⟩ (fun r_153 S_153 q_153 => ?_)
              obtain ⟨M_153, N_153, rfl, k_153, ⟨v_153, rfl⟩⟩ := q_153
              refine a_lret X hr dX7_together_156 ⟨by decide, by decide⟩ ?_
              subst hF
              exact ⟨_, _, rfl, (by (try dsimp only); repeat first | assumption | exact zK.rf | refine zK.zu ?_ (by omega) | refine zK.zu0 ?_ (by decide) | refine zK.zwr ?_ (by omega) | refine zK.zfil ?_ (by omega) | refine zK.zcpy ?_ (by omega) | refine zK.trans ?_ (by assumption) | dsimp only), ⟨_, rfl⟩⟩
            · refine a_aload_n X dX7_together_85 rfl ?_
              refine a_iconst (v := 3) X dX7_together_86 (by decide) ?_
              refine a_callVx X dX7_together_87 miX7_refuse lm7_102 (s_X7_refuse (P := P) (by assumption)) (by assumption) rfl rfl rfl (Nat.le_of_ble_eq_true rfl) ⟨by decide, by decide, by decide, by decide⟩ (fun r_87 S_87 q_87 => ?_)
              obtain ⟨M_87, N_87, rfl, k_87, ⟨v_87, rfl⟩⟩ := q_87
              refine a_i2l X dX7_together_90 ?_
              refine a_lret X hr dX7_together_91 ⟨by decide, by decide⟩ ?_
              subst hF
              exact ⟨_, _, rfl, (by (try dsimp only); repeat first | assumption | exact zK.rf | refine zK.zu ?_ (by omega) | refine zK.zu0 ?_ (by decide) | refine zK.zwr ?_ (by omega) | refine zK.zfil ?_ (by omega) | refine zK.zcpy ?_ (by omega) | refine zK.trans ?_ (by assumption) | dsimp only), ⟨_, rfl⟩⟩
          · exact Zw.to2 (J_65 _ _ _ _ (by (try dsimp only); repeat first | assumption | exact zK.rf | refine zK.zu ?_ (by omega) | refine zK.zu0 ?_ (by decide) | refine zK.zwr ?_ (by omega) | refine zK.zfil ?_ (by omega) | refine zK.zcpy ?_ (by omega) | refine zK.trans ?_ (by assumption) | dsimp only) ) rfl rfl rfl
      · refine a_aload_n X dX7_together_28 rfl ?_
        refine a_iconst (v := 4) X dX7_together_29 (by decide) ?_
        refine a_callVx X dX7_together_30 miX7_refuse lm7_102 (s_X7_refuse (P := P) (by assumption)) (by assumption) rfl rfl rfl (Nat.le_of_ble_eq_true rfl) ⟨by decide, by decide, by decide, by decide⟩ (fun r_30 S_30 q_30 => ?_)
        obtain ⟨M_30, N_30, rfl, k_30, ⟨v_30, rfl⟩⟩ := q_30
        refine a_i2l X dX7_together_33 ?_
        refine a_lret X hr dX7_together_34 ⟨by decide, by decide⟩ ?_
        subst hF
        exact ⟨_, _, rfl, (by (try dsimp only); repeat first | assumption | exact zK.rf | refine zK.zu ?_ (by omega) | refine zK.zu0 ?_ (by decide) | refine zK.zwr ?_ (by omega) | refine zK.zfil ?_ (by omega) | refine zK.zcpy ?_ (by omega) | refine zK.trans ?_ (by assumption) | dsimp only), ⟨_, rfl⟩⟩
    · exact Zw.to2 (J_16 _ _ _ _ (by (try dsimp only); repeat first | assumption | exact zK.rf | refine zK.zu ?_ (by omega) | refine zK.zu0 ?_ (by decide) | refine zK.zwr ?_ (by omega) | refine zK.zfil ?_ (by omega) | refine zK.zcpy ?_ (by omega) | refine zK.trans ?_ (by assumption) | dsimp only) ) rfl rfl rfl
set_option maxRecDepth 100000 in
theorem s_X7_apart {l : Launch} {G : zG} {b : Nat} {S : zS} {P : Nat} {v0 : Int32} (hT : LX7 S.1 P) : zM l G b yX7_apart cX7_apart 4 (some .long) 13 0 0 [.ref P, .int v0] S (fun r z => ∃ M' N', z = (S.1, M', N') ∧ zK P S.2.1 M' ∧ ∃ v : Int64, r = some (.long v)) := by
  refine zM.of miX7_apart (Nat.le_of_ble_eq_true rfl) ?_
  intro p e s m args below meth c X hr hname
  generalize hF : ((fun r z => ∃ M' N', z = (S.1, M', N') ∧ zK P S.2.1 M' ∧ ∃ v : Int64, r = some (.long v)) : Option Value → zS → Prop) = FQ
  change Zw p l e { frames := 13, cells := 0, slots := 0, locals := 80 * 13 } s m args below meth c G b 4 (MQ below (zQ G b FQ) args s 0 0 (fun q : Nat => b ≤ q)) 0 0 0 [some (.ref P), some (.int v0), none, none] [] S
  obtain ⟨lt, o, tape, out, reader, list, past, pool, result, odds, paper, trial, trialPool, trialResult, trialOdds⟩ := id hT
  obtain ⟨reader_lt, reader_o, reader_draft, reader_text, reader_unitNames, reader_hunterNames, reader_partyNames, reader_asked⟩ := id reader
  obtain ⟨list_lt, list_o, list_quota, list_score, list_guest, list_party, list_wishCount, list_wishes, list_has⟩ := id list
  obtain ⟨past_lt, past_o, past_stood, past_stood0, past_stood1, past_stood2, past_stood3, past_stood4, past_stood5, past_stood6, past_stood7⟩ := id past
  obtain ⟨pool_lt, pool_o, pool_quota, pool_preferred, pool_forGuests, pool_applicantOf, pool_size, pool_guestCount, pool_score, pool_tickets, pool_bits, pool_party, pool_wishCount, pool_wishes⟩ := id pool
  obtain ⟨result_lt, result_o, result_line, result_unitOf, result_roundOf, result_leftTags, result_leftGuests, result_leftPreferred, result_ranked⟩ := id result
  obtain ⟨odds_lt, odds_o, odds_sets, odds_seen, odds_atUnit, odds_early, odds_result⟩ := id odds
  obtain ⟨paper_lt, paper_o, paper_times, paper_firstWish, paper_dry, paper_list, paper_pool, paper_result⟩ := id paper
  obtain ⟨trial_lt, trial_o, trial_quota, trial_score, trial_guest, trial_party, trial_wishCount, trial_wishes, trial_has⟩ := id trial
  obtain ⟨trialPool_lt, trialPool_o, trialPool_quota, trialPool_preferred, trialPool_forGuests, trialPool_applicantOf, trialPool_size, trialPool_guestCount, trialPool_score, trialPool_tickets, trialPool_bits, trialPool_party, trialPool_wishCount, trialPool_wishes⟩ := id trialPool
  obtain ⟨trialResult_lt, trialResult_o, trialResult_line, trialResult_unitOf, trialResult_roundOf, trialResult_leftTags, trialResult_leftGuests, trialResult_leftPreferred, trialResult_ranked⟩ := id trialResult
  obtain ⟨trialOdds_lt, trialOdds_o, trialOdds_sets, trialOdds_seen, trialOdds_atUnit, trialOdds_early, trialOdds_result⟩ := id trialOdds
  have L_79 : ∀ u : Nat, ∀ (x1_79 : Int32) (x2_79 : Int32) (x3_79 : Int32) (M2 : Nat → Nat → Int32) (N2 : Nat → Nat → Int64), zK P S.2.1 M2 → (2147483648 - x3_79.toInt).toNat < u → Zw p l e { frames := 13, cells := 0, slots := 0, locals := 80 * 13 } s m args below meth c G b 4 (MQ below (zQ G b FQ) args s 0 0 (fun q : Nat => b ≤ q)) 0 0 79 [some (.ref (P)), some (.int x1_79), some (.int x2_79), some (.int x3_79)] [] (S.1, M2, N2) := by
    intro u
    induction u with
    | zero => intro x1_79 x2_79 x3_79 M2_79 N2_79 k_79 hm_79; exact absurd hm_79 (Nat.not_lt_zero _)
    | succ u_79 ih_79 =>
      intro x1_79 x2_79 x3_79 M2_79 N2_79 k_79 hm_79
      have J_121 : ∀ (x1_121 : Int32) (x2_121 : Int32) (x3_121 : Int32) (M2 : Nat → Nat → Int32) (N2 : Nat → Nat → Int64), zK P S.2.1 M2 → ((2147483648 - x3_121.toInt).toNat < u_79 + 1) → (x3_121.toInt < 2147483647) → Zw p l e { frames := 13, cells := 0, slots := 0, locals := 80 * 13 } s m args below meth c G b 4 (MQ below (zQ G b FQ) args s 0 0 (fun q : Nat => b ≤ q)) 0 0 121 [some (.ref (P)), some (.int x1_121), some (.int x2_121), some (.int x3_121)] [] (S.1, M2, N2) := by
        intro x1_121 x2_121 x3_121 M2_121 N2_121 k_121 f0_121 f1_121
        refine a_iinc X dX7_apart_121 (by decide) rfl rfl ?_
        refine a_goto (tgt := 79) X dX7_apart_124 (by decide) ?_
        exact Zw.to2 (ih_79 _ _ _ _ _ (by (try dsimp only); repeat first | assumption | exact zK.rf | refine zK.zu ?_ (by omega) | refine zK.zu0 ?_ (by decide) | refine zK.zwr ?_ (by omega) | refine zK.zfil ?_ (by omega) | refine zK.zcpy ?_ (by omega) | refine zK.trans ?_ (by assumption) | dsimp only)  (z_up f1_121 f0_121)) rfl rfl rfl
      refine a_iload_n X dX7_apart_79 rfl ?_
      refine a_aload_n X dX7_apart_80 rfl ?_
      refine a_getr X lf7_26 (by assumption) rfl (by omega) dX7_apart_81 ?_
      refine a_geti X lf7_119 (by assumption) rfl dX7_apart_84 ?_
      refine a_icmp_ge (tgt := 127) X dX7_apart_87 (by decide) (fun h_87 => ?_) (fun h_87 => ?_)
      · refine a_aload_n X dX7_apart_127 rfl ?_
        refine a_aload_n X dX7_apart_128 rfl ?_
        refine a_getr X lf7_74 (by assumption) rfl (by omega) dX7_apart_129 ?_
        refine a_iload_n X dX7_apart_132 rfl ?_
        refine a_callVx X dX7_apart_133 miX0_allOf lm7_319 (s_X0_allOf (P := P) (by assumption) (by omega)) (by assumption) rfl rfl rfl (Nat.le_of_ble_eq_true rfl) ⟨by decide, by decide, by decide, by decide⟩ (fun r_133 S_133 q_133 => ?_)
        obtain ⟨rfl, ⟨v_133, rfl⟩⟩ := q_133
        refine a_callVx X dX7_apart_136 miX7_answerParts lm7_303 (s_X7_answerParts (P := P) (by assumption)) (by assumption) rfl rfl rfl (Nat.le_of_ble_eq_true rfl) ⟨by decide, by decide, by decide, by decide⟩ (fun r_136 S_136 q_136 => ?_)
        obtain ⟨M_136, N_136, rfl, k_136, ⟨v_136, rfl⟩⟩ := q_136
        refine a_lret X hr dX7_apart_139 ⟨by decide, by decide⟩ ?_
        subst hF
        exact ⟨_, _, rfl, (by (try dsimp only); repeat first | assumption | exact zK.rf | refine zK.zu ?_ (by omega) | refine zK.zu0 ?_ (by decide) | refine zK.zwr ?_ (by omega) | refine zK.zfil ?_ (by omega) | refine zK.zcpy ?_ (by omega) | refine zK.trans ?_ (by assumption) | dsimp only), ⟨_, rfl⟩⟩
      · refine a_aload_n X dX7_apart_90 rfl ?_
        refine a_getr X lf7_26 (by assumption) rfl (by omega) dX7_apart_91 ?_
        refine a_getr X lf7_179 (by assumption) rfl (by omega) dX7_apart_94 ?_
        refine a_iload_n X dX7_apart_97 rfl ?_
        refine a_callSv X dX7_apart_98 miX7_cell lm7_175 (c_cell (by assumption) (by first | decide | assumption)) rfl rfl (Nat.le_of_ble_eq_true rfl) ⟨by decide, by decide, by decide, by decide⟩ ?_
        refine a_iload_n X dX7_apart_101 rfl ?_
        refine a_icmp_ne (tgt := 121) X dX7_apart_102 (by decide) (fun h_102 => ?_) (fun h_102 => ?_)
        · exact Zw.to2 (J_121 _ _ _ _ _ (by (try dsimp only); repeat first | assumption | exact zK.rf | refine zK.zu ?_ (by omega) | refine zK.zu0 ?_ (by decide) | refine zK.zwr ?_ (by omega) | refine zK.zfil ?_ (by omega) | refine zK.zcpy ?_ (by omega) | refine zK.trans ?_ (by assumption) | dsimp only) hm_79 (by first | assumption | exact z_lt (by assumption) | exact z_lt2 (by assumption) | exact z_lt3 (by assumption) (by decide))) rfl rfl rfl
        · refine a_iload_n X dX7_apart_105 rfl ?_
          refine a_iconst (v := 1) X dX7_apart_106 (by decide) ?_
          refine a_aload_n X dX7_apart_107 rfl ?_
          refine a_getr X lf7_68 (by assumption) rfl (by omega) dX7_apart_108 ?_
          refine a_getr X lf7_182 (by assumption) rfl (by omega) dX7_apart_111 ?_
          refine a_iload_n X dX7_apart_114 rfl ?_
          refine a_callSv X dX7_apart_115 miX7_cell lm7_175 (c_cell (by assumption) (by first | decide | assumption)) rfl rfl (Nat.le_of_ble_eq_true rfl) ⟨by decide, by decide, by decide, by decide⟩ ?_
          refine a_ishl X dX7_apart_118 ?_
          refine a_ior X dX7_apart_119 ?_
          refine a_istore_n X dX7_apart_120 (by decide) ?_
          exact Zw.to2 (J_121 _ _ _ _ _ (by (try dsimp only); repeat first | assumption | exact zK.rf | refine zK.zu ?_ (by omega) | refine zK.zu0 ?_ (by decide) | refine zK.zwr ?_ (by omega) | refine zK.zfil ?_ (by omega) | refine zK.zcpy ?_ (by omega) | refine zK.trans ?_ (by assumption) | dsimp only) hm_79 (by first | assumption | exact z_lt (by assumption) | exact z_lt2 (by assumption) | exact z_lt3 (by assumption) (by decide))) rfl rfl rfl
  have H_79 : ∀ (x1_79 : Int32) (x2_79 : Int32) (x3_79 : Int32) (M2 : Nat → Nat → Int32) (N2 : Nat → Nat → Int64), zK P S.2.1 M2 → Zw p l e { frames := 13, cells := 0, slots := 0, locals := 80 * 13 } s m args below meth c G b 4 (MQ below (zQ G b FQ) args s 0 0 (fun q : Nat => b ≤ q)) 0 0 79 [some (.ref (P)), some (.int x1_79), some (.int x2_79), some (.int x3_79)] [] (S.1, M2, N2) := fun x1_79 x2_79 x3_79 M2 N2 k  => L_79 _ x1_79 x2_79 x3_79 M2 N2 k  (Nat.lt_succ_self _)
  refine a_aload_n X dX7_apart_0 rfl ?_
  refine a_iload_n X dX7_apart_1 rfl ?_
  refine a_callVx X dX7_apart_2 miX7_isParty lm7_362 (s_X7_isParty (P := P) (by assumption)) (by assumption) rfl rfl rfl (Nat.le_of_ble_eq_true rfl) ⟨by decide, by decide, by decide, by decide⟩ (fun r_2 S_2 q_2 => ?_)
  obtain ⟨rfl, ⟨v_2, rfl, b_2⟩⟩ := q_2
  refine a_if_ne (tgt := 15) X dX7_apart_5 (by decide) (fun h_5 => ?_) (fun h_5 => ?_)
  · refine a_aload_n X dX7_apart_15 rfl ?_
    refine a_getr X lf7_65 (by assumption) rfl (by omega) dX7_apart_16 ?_
    refine a_aload_n X dX7_apart_19 rfl ?_
    refine a_getr X lf7_26 (by assumption) rfl (by omega) dX7_apart_20 ?_
    refine a_callVx X dX7_apart_23 miX4_take lm7_113 (s_X4_take (P := P) (by assumption) (by omega) (by assumption) (by omega) (by omega)) (by assumption) rfl rfl rfl (Nat.le_of_ble_eq_true rfl) ⟨by decide, by decide, by decide, by decide⟩ (fun r_23 S_23 q_23 => ?_)
    obtain ⟨M_23, N_23, rfl, k_23, rfl⟩ := q_23
    refine a_aload_n X dX7_apart_26 rfl ?_
    refine a_getr X lf7_65 (by assumption) rfl (by omega) dX7_apart_27 ?_
    refine a_iload_n X dX7_apart_30 rfl ?_
    refine a_callVx X dX7_apart_31 miX4_dissolve lm7_365 (s_X4_dissolve (P := P) (by assumption) (by omega)) (by assumption) rfl rfl rfl (Nat.le_of_ble_eq_true rfl) ⟨by decide, by decide, by decide, by decide⟩ (fun r_31 S_31 q_31 => ?_)
    obtain ⟨M_31, N_31, rfl, k_31, rfl⟩ := q_31
    refine a_aload_n X dX7_apart_34 rfl ?_
    refine a_getr X lf7_68 (by assumption) rfl (by omega) dX7_apart_35 ?_
    refine a_aload_n X dX7_apart_38 rfl ?_
    refine a_getr X lf7_65 (by assumption) rfl (by omega) dX7_apart_39 ?_
    refine a_callVx X dX7_apart_42 miX2_gather lm7_80 (s_X2_gather (P := P) (by assumption) (by omega) (by assumption) (by omega)) (by assumption) rfl rfl rfl (Nat.le_of_ble_eq_true rfl) ⟨by decide, by decide, by decide, by decide⟩ (fun r_42 S_42 q_42 => ?_)
    obtain ⟨M_42, N_42, rfl, k_42, rfl⟩ := q_42
    refine a_aload_n X dX7_apart_45 rfl ?_
    refine a_getr X lf7_68 (by assumption) rfl (by omega) dX7_apart_46 ?_
    refine a_geti X lf7_140 (by assumption) rfl dX7_apart_49 ?_
    refine a_bipush (v := 7) X dX7_apart_52 (by decide) ?_
    refine a_icmp_le (tgt := 64) X dX7_apart_54 (by decide) (fun h_54 => ?_) (fun h_54 => ?_)
    · refine a_aload_n X dX7_apart_64 rfl ?_
      refine a_getr X lf7_74 (by assumption) rfl (by omega) dX7_apart_65 ?_
      refine a_aload_n X dX7_apart_68 rfl ?_
      refine a_getr X lf7_68 (by assumption) rfl (by omega) dX7_apart_69 ?_
      refine a_callVx X dX7_apart_72 miX0_reckon lm7_339 (s_X0_reckon (P := P) (by assumption) (by omega) (by assumption) (by omega)) (by assumption) rfl rfl rfl (Nat.le_of_ble_eq_true rfl) ⟨by decide, by decide, by decide, by decide⟩ (fun r_72 S_72 q_72 => ?_)
      obtain ⟨M_72, N_72, rfl, k_72, rfl⟩ := q_72
      refine a_iconst (v := 0) X dX7_apart_75 (by decide) ?_
      refine a_istore_n X dX7_apart_76 (by decide) ?_
      refine a_iconst (v := 0) X dX7_apart_77 (by decide) ?_
      refine a_istore_n X dX7_apart_78 (by decide) ?_
      exact Zw.to2 (H_79 _ _ _ _ _ (by (try dsimp only); repeat first | assumption | exact zK.rf | refine zK.zu ?_ (by omega) | refine zK.zu0 ?_ (by decide) | refine zK.zwr ?_ (by omega) | refine zK.zfil ?_ (by omega) | refine zK.zcpy ?_ (by omega) | refine zK.trans ?_ (by assumption) | dsimp only) ) rfl rfl rfl
    · refine a_aload_n X dX7_apart_57 rfl ?_
      refine a_iconst (v := 3) X dX7_apart_58 (by decide) ?_
      refine a_callVx X dX7_apart_59 miX7_refuse lm7_102 (s_X7_refuse (P := P) (by assumption)) (by assumption) rfl rfl rfl (Nat.le_of_ble_eq_true rfl) ⟨by decide, by decide, by decide, by decide⟩ (fun r_59 S_59 q_59 => ?_)
      obtain ⟨M_59, N_59, rfl, k_59, ⟨v_59, rfl⟩⟩ := q_59
      refine a_i2l X dX7_apart_62 ?_
      refine a_lret X hr dX7_apart_63 ⟨by decide, by decide⟩ ?_
      subst hF
      exact ⟨_, _, rfl, (by (try dsimp only); repeat first | assumption | exact zK.rf | refine zK.zu ?_ (by omega) | refine zK.zu0 ?_ (by decide) | refine zK.zwr ?_ (by omega) | refine zK.zfil ?_ (by omega) | refine zK.zcpy ?_ (by omega) | refine zK.trans ?_ (by assumption) | dsimp only), ⟨_, rfl⟩⟩
  · refine a_aload_n X dX7_apart_8 rfl ?_
    refine a_iconst (v := 2) X dX7_apart_9 (by decide) ?_
    refine a_callVx X dX7_apart_10 miX7_refuse lm7_102 (s_X7_refuse (P := P) (by assumption)) (by assumption) rfl rfl rfl (Nat.le_of_ble_eq_true rfl) ⟨by decide, by decide, by decide, by decide⟩ (fun r_10 S_10 q_10 => ?_)
    obtain ⟨M_10, N_10, rfl, k_10, ⟨v_10, rfl⟩⟩ := q_10
    refine a_i2l X dX7_apart_13 ?_
    refine a_lret X hr dX7_apart_14 ⟨by decide, by decide⟩ ?_
    subst hF
    exact ⟨_, _, rfl, (by (try dsimp only); repeat first | assumption | exact zK.rf | refine zK.zu ?_ (by omega) | refine zK.zu0 ?_ (by decide) | refine zK.zwr ?_ (by omega) | refine zK.zfil ?_ (by omega) | refine zK.zcpy ?_ (by omega) | refine zK.trans ?_ (by assumption) | dsimp only), ⟨_, rfl⟩⟩
set_option maxRecDepth 100000 in
theorem s_X7_likes {l : Launch} {G : zG} {b : Nat} {S : zS} {P : Nat} {v0 : Int32} (hT : LX7 S.1 P) : zM l G b yX7_likes cX7_likes 8 (some .int) 13 0 0 [.ref P, .int v0] S (fun r z => ∃ M' N', z = (S.1, M', N') ∧ zK P S.2.1 M' ∧ ∃ v : Int32, r = some (.int v)) := by
  refine zM.of miX7_likes (Nat.le_of_ble_eq_true rfl) ?_
  intro p e s m args below meth c X hr hname
  generalize hF : ((fun r z => ∃ M' N', z = (S.1, M', N') ∧ zK P S.2.1 M' ∧ ∃ v : Int32, r = some (.int v)) : Option Value → zS → Prop) = FQ
  change Zw p l e { frames := 13, cells := 0, slots := 0, locals := 80 * 13 } s m args below meth c G b 8 (MQ below (zQ G b FQ) args s 0 0 (fun q : Nat => b ≤ q)) 0 0 0 [some (.ref P), some (.int v0), none, none, none, none, none, none] [] S
  obtain ⟨lt, o, tape, out, reader, list, past, pool, result, odds, paper, trial, trialPool, trialResult, trialOdds⟩ := id hT
  obtain ⟨reader_lt, reader_o, reader_draft, reader_text, reader_unitNames, reader_hunterNames, reader_partyNames, reader_asked⟩ := id reader
  obtain ⟨list_lt, list_o, list_quota, list_score, list_guest, list_party, list_wishCount, list_wishes, list_has⟩ := id list
  obtain ⟨past_lt, past_o, past_stood, past_stood0, past_stood1, past_stood2, past_stood3, past_stood4, past_stood5, past_stood6, past_stood7⟩ := id past
  obtain ⟨pool_lt, pool_o, pool_quota, pool_preferred, pool_forGuests, pool_applicantOf, pool_size, pool_guestCount, pool_score, pool_tickets, pool_bits, pool_party, pool_wishCount, pool_wishes⟩ := id pool
  obtain ⟨result_lt, result_o, result_line, result_unitOf, result_roundOf, result_leftTags, result_leftGuests, result_leftPreferred, result_ranked⟩ := id result
  obtain ⟨odds_lt, odds_o, odds_sets, odds_seen, odds_atUnit, odds_early, odds_result⟩ := id odds
  obtain ⟨paper_lt, paper_o, paper_times, paper_firstWish, paper_dry, paper_list, paper_pool, paper_result⟩ := id paper
  obtain ⟨trial_lt, trial_o, trial_quota, trial_score, trial_guest, trial_party, trial_wishCount, trial_wishes, trial_has⟩ := id trial
  obtain ⟨trialPool_lt, trialPool_o, trialPool_quota, trialPool_preferred, trialPool_forGuests, trialPool_applicantOf, trialPool_size, trialPool_guestCount, trialPool_score, trialPool_tickets, trialPool_bits, trialPool_party, trialPool_wishCount, trialPool_wishes⟩ := id trialPool
  obtain ⟨trialResult_lt, trialResult_o, trialResult_line, trialResult_unitOf, trialResult_roundOf, trialResult_leftTags, trialResult_leftGuests, trialResult_leftPreferred, trialResult_ranked⟩ := id trialResult
  obtain ⟨trialOdds_lt, trialOdds_o, trialOdds_sets, trialOdds_seen, trialOdds_atUnit, trialOdds_early, trialOdds_result⟩ := id trialOdds
  have L_52 : ∀ u : Nat, ∀ (x1_52 : Int32) (x2_52 : Int32) (x3_52 : Int64) (x5_52 : Int32) (x6_52 : Option Value) (x7_52 : Option Value) (M2 : Nat → Nat → Int32) (N2 : Nat → Nat → Int64), zK P S.2.1 M2 → (2147483648 - x5_52.toInt).toNat < u → Zw p l e { frames := 13, cells := 0, slots := 0, locals := 80 * 13 } s m args below meth c G b 8 (MQ below (zQ G b FQ) args s 0 0 (fun q : Nat => b ≤ q)) 0 0 52 [some (.ref (P)), some (.int x1_52), some (.int x2_52), some (.long x3_52), none, some (.int x5_52), x6_52, x7_52] [] (S.1, M2, N2) := by
    intro u
    induction u with
    | zero => intro x1_52 x2_52 x3_52 x5_52 x6_52 x7_52 M2_52 N2_52 k_52 hm_52; exact absurd hm_52 (Nat.not_lt_zero _)
    | succ u_52 ih_52 =>
      intro x1_52 x2_52 x3_52 x5_52 x6_52 x7_52 M2_52 N2_52 k_52 hm_52
      have J_112 : ∀ (x1_112 : Int32) (x2_112 : Int32) (x3_112 : Int64) (x5_112 : Int32) (x6_112 : Int64) (M2 : Nat → Nat → Int32) (N2 : Nat → Nat → Int64), zK P S.2.1 M2 → ((2147483648 - x5_112.toInt).toNat < u_52 + 1) → (x5_112.toInt < 2147483647) → Zw p l e { frames := 13, cells := 0, slots := 0, locals := 80 * 13 } s m args below meth c G b 8 (MQ below (zQ G b FQ) args s 0 0 (fun q : Nat => b ≤ q)) 0 0 112 [some (.ref (P)), some (.int x1_112), some (.int x2_112), some (.long x3_112), none, some (.int x5_112), some (.long x6_112), none] [] (S.1, M2, N2) := by
        intro x1_112 x2_112 x3_112 x5_112 x6_112 M2_112 N2_112 k_112 f0_112 f1_112
        refine a_iinc X dX7_likes_112 (by decide) rfl rfl ?_
        refine a_goto (tgt := 52) X dX7_likes_115 (by decide) ?_
        exact Zw.to2 (ih_52 _ _ _ _ _ _ _ _ (by (try dsimp only); repeat first | assumption | exact zK.rf | refine zK.zu ?_ (by omega) | refine zK.zu0 ?_ (by decide) | refine zK.zwr ?_ (by omega) | refine zK.zfil ?_ (by omega) | refine zK.zcpy ?_ (by omega) | refine zK.trans ?_ (by assumption) | dsimp only)  (z_up f1_112 f0_112)) rfl rfl rfl
      refine a_iload X dX7_likes_52 rfl ?_
      refine a_iconst (v := 2) X dX7_likes_54 (by decide) ?_
      refine a_icmp_gt (tgt := 118) X dX7_likes_55 (by decide) (fun h_55 => ?_) (fun h_55 => ?_)
      · refine a_aload_n X dX7_likes_118 rfl ?_
        refine a_iload_n X dX7_likes_119 rfl ?_
        refine a_callVx X dX7_likes_120 miX7_answer lm7_134 (s_X7_answer (P := P) (by assumption)) (by assumption) rfl rfl rfl (Nat.le_of_ble_eq_true rfl) ⟨by decide, by decide, by decide, by decide⟩ (fun r_120 S_120 q_120 => ?_)
        obtain ⟨M_120, N_120, rfl, k_120, ⟨v_120, rfl⟩⟩ := q_120
        refine a_iret X hr dX7_likes_123 ⟨by decide, by decide⟩ ?_
        subst hF
        exact ⟨_, _, rfl, (by (try dsimp only); repeat first | assumption | exact zK.rf | refine zK.zu ?_ (by omega) | refine zK.zu0 ?_ (by decide) | refine zK.zwr ?_ (by omega) | refine zK.zfil ?_ (by omega) | refine zK.zcpy ?_ (by omega) | refine zK.trans ?_ (by assumption) | dsimp only), ⟨_, rfl⟩⟩
      · refine a_aload_n X dX7_likes_58 rfl ?_
        refine a_getr X lf7_65 (by assumption) rfl (by omega) dX7_likes_59 ?_
        refine a_iload X dX7_likes_62 rfl ?_
        refine a_puti X lf7_143 (by assumption) rfl dX7_likes_64 ?_
        refine a_aload_n X dX7_likes_67 rfl ?_
        refine a_getr X lf7_68 (by assumption) rfl (by omega) dX7_likes_68 ?_
        refine a_aload_n X dX7_likes_71 rfl ?_
        refine a_getr X lf7_65 (by assumption) rfl (by omega) dX7_likes_72 ?_
        refine a_callVx X dX7_likes_75 miX2_gather lm7_80 (s_X2_gather (P := P) (by assumption) (by omega) (by assumption) (by omega)) (by assumption) rfl rfl rfl (Nat.le_of_ble_eq_true rfl) ⟨by decide, by decide, by decide, by decide⟩ (fun r_75 S_75 q_75 => ?_)
        obtain ⟨M_75, N_75, rfl, k_75, rfl⟩ := q_75
        refine a_aload_n X dX7_likes_78 rfl ?_
        refine a_getr X lf7_74 (by assumption) rfl (by omega) dX7_likes_79 ?_
        refine a_aload_n X dX7_likes_82 rfl ?_
        refine a_getr X lf7_68 (by assumption) rfl (by omega) dX7_likes_83 ?_
        refine a_callVx X dX7_likes_86 miX0_reckon lm7_339 (s_X0_reckon (P := P) (by assumption) (by omega) (by assumption) (by omega)) (by assumption) rfl rfl rfl (Nat.le_of_ble_eq_true rfl) ⟨by decide, by decide, by decide, by decide⟩ (fun r_86 S_86 q_86 => ?_)
        obtain ⟨M_86, N_86, rfl, k_86, rfl⟩ := q_86
        refine a_aload_n X dX7_likes_89 rfl ?_
        refine a_getr X lf7_74 (by assumption) rfl (by omega) dX7_likes_90 ?_
        refine a_iload_n X dX7_likes_93 rfl ?_
        refine a_callVx X dX7_likes_94 miX0_anyUnit lm7_299 (s_X0_anyUnit (P := P) (by assumption) (by omega)) (by assumption) rfl rfl rfl (Nat.le_of_ble_eq_true rfl) ⟨by decide, by decide, by decide, by decide⟩ (fun r_94 S_94 q_94 => ?_)
        obtain ⟨rfl, ⟨v_94, rfl⟩⟩ := q_94
        refine a_lstore X dX7_likes_97 (by decide) ?_
        refine a_lload X dX7_likes_99 rfl ?_
        refine a_lload_n X dX7_likes_101 rfl ?_
        refine a_lcmp X dX7_likes_102 ?_
        refine a_if_le (tgt := 112) X dX7_likes_103 (by decide) (fun h_103 => ?_) (fun h_103 => ?_)
        · exact Zw.to2 (J_112 _ _ _ _ _ _ _ (by (try dsimp only); repeat first | assumption | exact zK.rf | refine zK.zu ?_ (by omega) | refine zK.zu0 ?_ (by decide) | refine zK.zwr ?_ (by omega) | refine zK.zfil ?_ (by omega) | refine zK.zcpy ?_ (by omega) | refine zK.trans ?_ (by assumption) | dsimp only) hm_52 (by first | assumption | exact z_lt (by assumption) | exact z_lt2 (by assumption) | exact z_lt3 (by assumption) (by decide))) rfl rfl rfl
        · refine a_lload X dX7_likes_106 rfl ?_
          refine a_lstore_n X dX7_likes_108 (by decide) ?_
          refine a_iload X dX7_likes_109 rfl ?_
          refine a_istore_n X dX7_likes_111 (by decide) ?_
          exact Zw.to2 (J_112 _ _ _ _ _ _ _ (by (try dsimp only); repeat first | assumption | exact zK.rf | refine zK.zu ?_ (by omega) | refine zK.zu0 ?_ (by decide) | refine zK.zwr ?_ (by omega) | refine zK.zfil ?_ (by omega) | refine zK.zcpy ?_ (by omega) | refine zK.trans ?_ (by assumption) | dsimp only) hm_52 (by first | assumption | exact z_lt (by assumption) | exact z_lt2 (by assumption) | exact z_lt3 (by assumption) (by decide))) rfl rfl rfl
  have H_52 : ∀ (x1_52 : Int32) (x2_52 : Int32) (x3_52 : Int64) (x5_52 : Int32) (x6_52 : Option Value) (x7_52 : Option Value) (M2 : Nat → Nat → Int32) (N2 : Nat → Nat → Int64), zK P S.2.1 M2 → Zw p l e { frames := 13, cells := 0, slots := 0, locals := 80 * 13 } s m args below meth c G b 8 (MQ below (zQ G b FQ) args s 0 0 (fun q : Nat => b ≤ q)) 0 0 52 [some (.ref (P)), some (.int x1_52), some (.int x2_52), some (.long x3_52), none, some (.int x5_52), x6_52, x7_52] [] (S.1, M2, N2) := fun x1_52 x2_52 x3_52 x5_52 x6_52 x7_52 M2 N2 k  => L_52 _ x1_52 x2_52 x3_52 x5_52 x6_52 x7_52 M2 N2 k  (Nat.lt_succ_self _)
  refine a_aload_n X dX7_likes_0 rfl ?_
  refine a_iload_n X dX7_likes_1 rfl ?_
  refine a_callVx X dX7_likes_2 miX7_isApplicant lm7_206 (s_X7_isApplicant (P := P) (by assumption)) (by assumption) rfl rfl rfl (Nat.le_of_ble_eq_true rfl) ⟨by decide, by decide, by decide, by decide⟩ (fun r_2 S_2 q_2 => ?_)
  obtain ⟨rfl, ⟨v_2, rfl, b_2⟩⟩ := q_2
  refine a_if_ne (tgt := 14) X dX7_likes_5 (by decide) (fun h_5 => ?_) (fun h_5 => ?_)
  · refine a_aload_n X dX7_likes_14 rfl ?_
    refine a_getr X lf7_40 (by assumption) rfl (by omega) dX7_likes_15 ?_
    refine a_geti X lf7_140 (by assumption) rfl dX7_likes_18 ?_
    refine a_bipush (v := 7) X dX7_likes_21 (by decide) ?_
    refine a_icmp_le (tgt := 32) X dX7_likes_23 (by decide) (fun h_23 => ?_) (fun h_23 => ?_)
    · refine a_iconst (v := 0) X dX7_likes_32 (by decide) ?_
      refine a_istore_n X dX7_likes_33 (by decide) ?_
      refine a_ldc2 X dX7_likes_34 lk7_347 ?_
      refine a_lstore_n X dX7_likes_37 (by decide) ?_
      refine a_aload_n X dX7_likes_38 rfl ?_
      refine a_getr X lf7_65 (by assumption) rfl (by omega) dX7_likes_39 ?_
      refine a_aload_n X dX7_likes_42 rfl ?_
      refine a_getr X lf7_26 (by assumption) rfl (by omega) dX7_likes_43 ?_
      refine a_callVx X dX7_likes_46 miX4_take lm7_113 (s_X4_take (P := P) (by assumption) (by omega) (by assumption) (by omega) (by omega)) (by assumption) rfl rfl rfl (Nat.le_of_ble_eq_true rfl) ⟨by decide, by decide, by decide, by decide⟩ (fun r_46 S_46 q_46 => ?_)
      obtain ⟨M_46, N_46, rfl, k_46, rfl⟩ := q_46
      refine a_iconst (v := 0) X dX7_likes_49 (by decide) ?_
      refine a_istore X dX7_likes_50 (by decide) ?_
      exact Zw.to2 (H_52 _ _ _ _ _ _ _ _ (by (try dsimp only); repeat first | assumption | exact zK.rf | refine zK.zu ?_ (by omega) | refine zK.zu0 ?_ (by decide) | refine zK.zwr ?_ (by omega) | refine zK.zfil ?_ (by omega) | refine zK.zcpy ?_ (by omega) | refine zK.trans ?_ (by assumption) | dsimp only) ) rfl rfl rfl
    · refine a_aload_n X dX7_likes_26 rfl ?_
      refine a_iconst (v := 3) X dX7_likes_27 (by decide) ?_
      refine a_callVx X dX7_likes_28 miX7_refuse lm7_102 (s_X7_refuse (P := P) (by assumption)) (by assumption) rfl rfl rfl (Nat.le_of_ble_eq_true rfl) ⟨by decide, by decide, by decide, by decide⟩ (fun r_28 S_28 q_28 => ?_)
      obtain ⟨M_28, N_28, rfl, k_28, ⟨v_28, rfl⟩⟩ := q_28
      refine a_iret X hr dX7_likes_31 ⟨by decide, by decide⟩ ?_
      subst hF
      exact ⟨_, _, rfl, (by (try dsimp only); repeat first | assumption | exact zK.rf | refine zK.zu ?_ (by omega) | refine zK.zu0 ?_ (by decide) | refine zK.zwr ?_ (by omega) | refine zK.zfil ?_ (by omega) | refine zK.zcpy ?_ (by omega) | refine zK.trans ?_ (by assumption) | dsimp only), ⟨_, rfl⟩⟩
  · refine a_aload_n X dX7_likes_8 rfl ?_
    refine a_iconst (v := 2) X dX7_likes_9 (by decide) ?_
    refine a_callVx X dX7_likes_10 miX7_refuse lm7_102 (s_X7_refuse (P := P) (by assumption)) (by assumption) rfl rfl rfl (Nat.le_of_ble_eq_true rfl) ⟨by decide, by decide, by decide, by decide⟩ (fun r_10 S_10 q_10 => ?_)
    obtain ⟨M_10, N_10, rfl, k_10, ⟨v_10, rfl⟩⟩ := q_10
    refine a_iret X hr dX7_likes_13 ⟨by decide, by decide⟩ ?_
    subst hF
    exact ⟨_, _, rfl, (by (try dsimp only); repeat first | assumption | exact zK.rf | refine zK.zu ?_ (by omega) | refine zK.zu0 ?_ (by decide) | refine zK.zwr ?_ (by omega) | refine zK.zfil ?_ (by omega) | refine zK.zcpy ?_ (by omega) | refine zK.trans ?_ (by assumption) | dsimp only), ⟨_, rfl⟩⟩
set_option maxRecDepth 100000 in
theorem s_X7_write {l : Launch} {G : zG} {b : Nat} {S : zS} {P : Nat} {v0 : Int32} (hT : LX7 S.1 P) : zM l G b yX7_write cX7_write 2 none 1 0 0 [.ref P, .int v0] S (fun r z => ∃ M' N', z = (S.1, M', N') ∧ zK P S.2.1 M' ∧ r = none) := by
  refine zM.of miX7_write (Nat.le_of_ble_eq_true rfl) ?_
  intro p e s m args below meth c X hr hname
  generalize hF : ((fun r z => ∃ M' N', z = (S.1, M', N') ∧ zK P S.2.1 M' ∧ r = none) : Option Value → zS → Prop) = FQ
  change Zw p l e { frames := 1, cells := 0, slots := 0, locals := 80 * 1 } s m args below meth c G b 2 (MQ below (zQ G b FQ) args s 0 0 (fun q : Nat => b ≤ q)) 0 0 0 [some (.ref P), some (.int v0)] [] S
  obtain ⟨lt, o, tape, out, reader, list, past, pool, result, odds, paper, trial, trialPool, trialResult, trialOdds⟩ := id hT
  obtain ⟨reader_lt, reader_o, reader_draft, reader_text, reader_unitNames, reader_hunterNames, reader_partyNames, reader_asked⟩ := id reader
  obtain ⟨list_lt, list_o, list_quota, list_score, list_guest, list_party, list_wishCount, list_wishes, list_has⟩ := id list
  obtain ⟨past_lt, past_o, past_stood, past_stood0, past_stood1, past_stood2, past_stood3, past_stood4, past_stood5, past_stood6, past_stood7⟩ := id past
  obtain ⟨pool_lt, pool_o, pool_quota, pool_preferred, pool_forGuests, pool_applicantOf, pool_size, pool_guestCount, pool_score, pool_tickets, pool_bits, pool_party, pool_wishCount, pool_wishes⟩ := id pool
  obtain ⟨result_lt, result_o, result_line, result_unitOf, result_roundOf, result_leftTags, result_leftGuests, result_leftPreferred, result_ranked⟩ := id result
  obtain ⟨odds_lt, odds_o, odds_sets, odds_seen, odds_atUnit, odds_early, odds_result⟩ := id odds
  obtain ⟨paper_lt, paper_o, paper_times, paper_firstWish, paper_dry, paper_list, paper_pool, paper_result⟩ := id paper
  obtain ⟨trial_lt, trial_o, trial_quota, trial_score, trial_guest, trial_party, trial_wishCount, trial_wishes, trial_has⟩ := id trial
  obtain ⟨trialPool_lt, trialPool_o, trialPool_quota, trialPool_preferred, trialPool_forGuests, trialPool_applicantOf, trialPool_size, trialPool_guestCount, trialPool_score, trialPool_tickets, trialPool_bits, trialPool_party, trialPool_wishCount, trialPool_wishes⟩ := id trialPool
  obtain ⟨trialResult_lt, trialResult_o, trialResult_line, trialResult_unitOf, trialResult_roundOf, trialResult_leftTags, trialResult_leftGuests, trialResult_leftPreferred, trialResult_ranked⟩ := id trialResult
  obtain ⟨trialOdds_lt, trialOdds_o, trialOdds_sets, trialOdds_seen, trialOdds_atUnit, trialOdds_early, trialOdds_result⟩ := id trialOdds
  refine a_aload_n X dX7_write_0 rfl ?_
  refine a_getr X lf7_13 (by assumption) rfl (by omega) dX7_write_1 ?_
  refine a_aload_n X dX7_write_4 rfl ?_
  refine a_geti X lf7_84 (by assumption) rfl dX7_write_5 ?_
  refine a_iload_n X dX7_write_8 rfl ?_
  refine a_callSx X dX7_write_9 miX7_put lm7_98 (s_X7_put (P := P) (by assumption) (by first | decide | assumption) (by omega)) rfl rfl (Nat.le_of_ble_eq_true rfl) ⟨by decide, by decide, by decide, by decide⟩ (fun r_9 S_9 q_9 => ?_)
  obtain ⟨M_9, N_9, rfl, k_9, rfl⟩ := q_9
  refine a_aload_n X dX7_write_12 rfl ?_
  refine a_dup X dX7_write_13 rfl ?_
  refine a_geti X lf7_84 (by assumption) rfl dX7_write_14 ?_
  refine a_iconst (v := 1) X dX7_write_17 (by decide) ?_
  refine a_iadd X dX7_write_18 ?_
  refine a_puti X lf7_84 (by assumption) rfl dX7_write_19 ?_
  refine a_vret X hr dX7_write_22 ⟨by decide, by decide⟩ ?_
  subst hF
  exact ⟨_, _, rfl, (by (try dsimp only); repeat first | assumption | exact zK.rf | refine zK.zu ?_ (by omega) | refine zK.zu0 ?_ (by decide) | refine zK.zwr ?_ (by omega) | refine zK.zfil ?_ (by omega) | refine zK.zcpy ?_ (by omega) | refine zK.trans ?_ (by assumption) | dsimp only), rfl⟩
set_option maxRecDepth 100000 in
theorem s_X7_print {l : Launch} {G : zG} {b : Nat} {S : zS} {P : Nat} {v0 : Int32} (hT : LX7 S.1 P) : zM l G b yX7_print cX7_print 5 (some .int) 5 0 0 [.ref P, .int v0] S (fun r z => ∃ M' N', z = (S.1, M', N') ∧ zK P S.2.1 M' ∧ ∃ v : Int32, r = some (.int v)) := by
  refine zM.of miX7_print (Nat.le_of_ble_eq_true rfl) ?_
  intro p e s m args below meth c X hr hname
  generalize hF : ((fun r z => ∃ M' N', z = (S.1, M', N') ∧ zK P S.2.1 M' ∧ ∃ v : Int32, r = some (.int v)) : Option Value → zS → Prop) = FQ
  change Zw p l e { frames := 5, cells := 0, slots := 0, locals := 80 * 5 } s m args below meth c G b 5 (MQ below (zQ G b FQ) args s 0 0 (fun q : Nat => b ≤ q)) 0 0 0 [some (.ref P), some (.int v0), none, none, none] [] S
  obtain ⟨lt, o, tape, out, reader, list, past, pool, result, odds, paper, trial, trialPool, trialResult, trialOdds⟩ := id hT
  obtain ⟨reader_lt, reader_o, reader_draft, reader_text, reader_unitNames, reader_hunterNames, reader_partyNames, reader_asked⟩ := id reader
  obtain ⟨list_lt, list_o, list_quota, list_score, list_guest, list_party, list_wishCount, list_wishes, list_has⟩ := id list
  obtain ⟨past_lt, past_o, past_stood, past_stood0, past_stood1, past_stood2, past_stood3, past_stood4, past_stood5, past_stood6, past_stood7⟩ := id past
  obtain ⟨pool_lt, pool_o, pool_quota, pool_preferred, pool_forGuests, pool_applicantOf, pool_size, pool_guestCount, pool_score, pool_tickets, pool_bits, pool_party, pool_wishCount, pool_wishes⟩ := id pool
  obtain ⟨result_lt, result_o, result_line, result_unitOf, result_roundOf, result_leftTags, result_leftGuests, result_leftPreferred, result_ranked⟩ := id result
  obtain ⟨odds_lt, odds_o, odds_sets, odds_seen, odds_atUnit, odds_early, odds_result⟩ := id odds
  obtain ⟨paper_lt, paper_o, paper_times, paper_firstWish, paper_dry, paper_list, paper_pool, paper_result⟩ := id paper
  obtain ⟨trial_lt, trial_o, trial_quota, trial_score, trial_guest, trial_party, trial_wishCount, trial_wishes, trial_has⟩ := id trial
  obtain ⟨trialPool_lt, trialPool_o, trialPool_quota, trialPool_preferred, trialPool_forGuests, trialPool_applicantOf, trialPool_size, trialPool_guestCount, trialPool_score, trialPool_tickets, trialPool_bits, trialPool_party, trialPool_wishCount, trialPool_wishes⟩ := id trialPool
  obtain ⟨trialResult_lt, trialResult_o, trialResult_line, trialResult_unitOf, trialResult_roundOf, trialResult_leftTags, trialResult_leftGuests, trialResult_leftPreferred, trialResult_ranked⟩ := id trialResult
  obtain ⟨trialOdds_lt, trialOdds_o, trialOdds_sets, trialOdds_seen, trialOdds_atUnit, trialOdds_early, trialOdds_result⟩ := id trialOdds
  have L_32 : ∀ u : Nat, ∀ (x1_32 : Int32) (x2_32 : Int32) (x3_32 : Option Value) (x4_32 : Option Value) (M2 : Nat → Nat → Int32) (N2 : Nat → Nat → Int64), zK P S.2.1 M2 → (2147483648 - x2_32.toInt).toNat < u → Zw p l e { frames := 5, cells := 0, slots := 0, locals := 80 * 5 } s m args below meth c G b 5 (MQ below (zQ G b FQ) args s 0 0 (fun q : Nat => b ≤ q)) 0 0 32 [some (.ref (P)), some (.int x1_32), some (.int x2_32), x3_32, x4_32] [] (S.1, M2, N2) := by
    intro u
    induction u with
    | zero => intro x1_32 x2_32 x3_32 x4_32 M2_32 N2_32 k_32 hm_32; exact absurd hm_32 (Nat.not_lt_zero _)
    | succ u_32 ih_32 =>
      intro x1_32 x2_32 x3_32 x4_32 M2_32 N2_32 k_32 hm_32
      have J_123 : ∀ (x1_123 : Int32) (x2_123 : Int32) (x3_123 : Int32) (x4_123 : Int32) (M2 : Nat → Nat → Int32) (N2 : Nat → Nat → Int64), zK P S.2.1 M2 → ((2147483648 - x2_123.toInt).toNat < u_32 + 1) → (x2_123.toInt < 2147483647) → Zw p l e { frames := 5, cells := 0, slots := 0, locals := 80 * 5 } s m args below meth c G b 5 (MQ below (zQ G b FQ) args s 0 0 (fun q : Nat => b ≤ q)) 0 0 123 [some (.ref (P)), some (.int x1_123), some (.int x2_123), some (.int x3_123), some (.int x4_123)] [] (S.1, M2, N2) := by
        intro x1_123 x2_123 x3_123 x4_123 M2_123 N2_123 k_123 f0_123 f1_123
        refine a_aload_n X dX7_print_123 rfl ?_
        refine a_bipush (v := 59) X dX7_print_124 (by decide) ?_
        refine a_callVx X dX7_print_126 miX7_write lm7_413 (s_X7_write (P := P) (by assumption)) (by assumption) rfl rfl rfl (Nat.le_of_ble_eq_true rfl) ⟨by decide, by decide, by decide, by decide⟩ (fun r_126 S_126 q_126 => ?_)
        obtain ⟨M_126, N_126, rfl, k_126, rfl⟩ := q_126
        refine a_iinc X dX7_print_129 (by decide) rfl rfl ?_
        refine a_goto (tgt := 32) X dX7_print_132 (by decide) ?_
        exact Zw.to2 (ih_32 _ _ _ _ _ _ (by (try dsimp only); repeat first | assumption | exact zK.rf | refine zK.zu ?_ (by omega) | refine zK.zu0 ?_ (by decide) | refine zK.zwr ?_ (by omega) | refine zK.zfil ?_ (by omega) | refine zK.zcpy ?_ (by omega) | refine zK.trans ?_ (by assumption) | dsimp only)  (z_up f1_123 f0_123)) rfl rfl rfl
      have J_99 : ∀ (x1_99 : Int32) (x2_99 : Int32) (x3_99 : Int32) (x4_99 : Int32) (y1_99 : Int32) (M2 : Nat → Nat → Int32) (N2 : Nat → Nat → Int64), zK P S.2.1 M2 → ((2147483648 - x2_99.toInt).toNat < u_32 + 1) → (x2_99.toInt < 2147483647) → Zw p l e { frames := 5, cells := 0, slots := 0, locals := 80 * 5 } s m args below meth c G b 5 (MQ below (zQ G b FQ) args s 0 0 (fun q : Nat => b ≤ q)) 0 0 99 [some (.ref (P)), some (.int x1_99), some (.int x2_99), some (.int x3_99), some (.int x4_99)] [(.int y1_99), (.ref (P))] (S.1, M2, N2) := by
        intro x1_99 x2_99 x3_99 x4_99 y1_99 M2_99 N2_99 k_99 f0_99 f1_99
        refine a_callVx X dX7_print_99 miX7_write lm7_413 (s_X7_write (P := P) (by assumption)) (by assumption) rfl rfl rfl (Nat.le_of_ble_eq_true rfl) ⟨by decide, by decide, by decide, by decide⟩ (fun r_99 S_99 q_99 => ?_)
        obtain ⟨M_99, N_99, rfl, k_99, rfl⟩ := q_99
        refine a_aload_n X dX7_print_102 rfl ?_
        refine a_getr X lf7_47 (by assumption) rfl (by omega) dX7_print_103 ?_
        refine a_getr X lf7_253 (by assumption) rfl (by omega) dX7_print_106 ?_
        refine a_iload_n X dX7_print_109 rfl ?_
        refine a_callSv X dX7_print_110 miX7_cell lm7_175 (c_cell (by assumption) (by first | decide | assumption)) rfl rfl (Nat.le_of_ble_eq_true rfl) ⟨by decide, by decide, by decide, by decide⟩ ?_
        refine a_iconst (v := 1) X dX7_print_113 (by decide) ?_
        refine a_icmp_ne (tgt := 123) X dX7_print_114 (by decide) (fun h_114 => ?_) (fun h_114 => ?_)
        · exact Zw.to2 (J_123 _ _ _ _ _ _ (by (try dsimp only); repeat first | assumption | exact zK.rf | refine zK.zu ?_ (by omega) | refine zK.zu0 ?_ (by decide) | refine zK.zwr ?_ (by omega) | refine zK.zfil ?_ (by omega) | refine zK.zcpy ?_ (by omega) | refine zK.trans ?_ (by assumption) | dsimp only) f0_99 f1_99) rfl rfl rfl
        · refine a_aload_n X dX7_print_117 rfl ?_
          refine a_bipush (v := 33) X dX7_print_118 (by decide) ?_
          refine a_callVx X dX7_print_120 miX7_write lm7_413 (s_X7_write (P := P) (by assumption)) (by assumption) rfl rfl rfl (Nat.le_of_ble_eq_true rfl) ⟨by decide, by decide, by decide, by decide⟩ (fun r_120 S_120 q_120 => ?_)
          obtain ⟨M_120, N_120, rfl, k_120, rfl⟩ := q_120
          exact Zw.to2 (J_123 _ _ _ _ _ _ (by (try dsimp only); repeat first | assumption | exact zK.rf | refine zK.zu ?_ (by omega) | refine zK.zu0 ?_ (by decide) | refine zK.zwr ?_ (by omega) | refine zK.zfil ?_ (by omega) | refine zK.zcpy ?_ (by omega) | refine zK.trans ?_ (by assumption) | dsimp only) f0_99 f1_99) rfl rfl rfl
      refine a_iload_n X dX7_print_32 rfl ?_
      refine a_aload_n X dX7_print_33 rfl ?_
      refine a_getr X lf7_40 (by assumption) rfl (by omega) dX7_print_34 ?_
      refine a_geti X lf7_140 (by assumption) rfl dX7_print_37 ?_
      refine a_icmp_ge (tgt := 135) X dX7_print_40 (by decide) (fun h_40 => ?_) (fun h_40 => ?_)
      · refine a_aload_n X dX7_print_135 rfl ?_
        refine a_aload_n X dX7_print_136 rfl ?_
        refine a_geti X lf7_84 (by assumption) rfl dX7_print_137 ?_
        refine a_callVx X dX7_print_140 miX7_answer lm7_134 (s_X7_answer (P := P) (by assumption)) (by assumption) rfl rfl rfl (Nat.le_of_ble_eq_true rfl) ⟨by decide, by decide, by decide, by decide⟩ (fun r_140 S_140 q_140 => ?_)
        obtain ⟨M_140, N_140, rfl, k_140, ⟨v_140, rfl⟩⟩ := q_140
        refine a_iret X hr dX7_print_143 ⟨by decide, by decide⟩ ?_
        subst hF
        exact ⟨_, _, rfl, (by (try dsimp only); repeat first | assumption | exact zK.rf | refine zK.zu ?_ (by omega) | refine zK.zu0 ?_ (by decide) | refine zK.zwr ?_ (by omega) | refine zK.zfil ?_ (by omega) | refine zK.zcpy ?_ (by omega) | refine zK.trans ?_ (by assumption) | dsimp only), ⟨_, rfl⟩⟩
      · refine a_aload_n X dX7_print_43 rfl ?_
        refine a_getr X lf7_47 (by assumption) rfl (by omega) dX7_print_44 ?_
        refine a_getr X lf7_244 (by assumption) rfl (by omega) dX7_print_47 ?_
        refine a_iload_n X dX7_print_50 rfl ?_
        refine a_callSv X dX7_print_51 miX7_cell lm7_175 (c_cell (by assumption) (by first | decide | assumption)) rfl rfl (Nat.le_of_ble_eq_true rfl) ⟨by decide, by decide, by decide, by decide⟩ ?_
        refine a_istore_n X dX7_print_54 (by decide) ?_
        refine a_aload_n X dX7_print_55 rfl ?_
        refine a_getr X lf7_47 (by assumption) rfl (by omega) dX7_print_56 ?_
        refine a_getr X lf7_250 (by assumption) rfl (by omega) dX7_print_59 ?_
        refine a_iload_n X dX7_print_62 rfl ?_
        refine a_callSv X dX7_print_63 miX7_cell lm7_175 (c_cell (by assumption) (by first | decide | assumption)) rfl rfl (Nat.le_of_ble_eq_true rfl) ⟨by decide, by decide, by decide, by decide⟩ ?_
        refine a_istore X dX7_print_66 (by decide) ?_
        refine a_aload_n X dX7_print_68 rfl ?_
        refine a_bipush (v := 48) X dX7_print_69 (by decide) ?_
        refine a_iload_n X dX7_print_71 rfl ?_
        refine a_iadd X dX7_print_72 ?_
        refine a_callVx X dX7_print_73 miX7_write lm7_413 (s_X7_write (P := P) (by assumption)) (by assumption) rfl rfl rfl (Nat.le_of_ble_eq_true rfl) ⟨by decide, by decide, by decide, by decide⟩ (fun r_73 S_73 q_73 => ?_)
        obtain ⟨M_73, N_73, rfl, k_73, rfl⟩ := q_73
        refine a_aload_n X dX7_print_76 rfl ?_
        refine a_bipush (v := 61) X dX7_print_77 (by decide) ?_
        refine a_callVx X dX7_print_79 miX7_write lm7_413 (s_X7_write (P := P) (by assumption)) (by assumption) rfl rfl rfl (Nat.le_of_ble_eq_true rfl) ⟨by decide, by decide, by decide, by decide⟩ (fun r_79 S_79 q_79 => ?_)
        obtain ⟨M_79, N_79, rfl, k_79, rfl⟩ := q_79
        refine a_aload_n X dX7_print_82 rfl ?_
        refine a_iload X dX7_print_83 rfl ?_
        refine a_iconst (v := -1) X dX7_print_85 (by decide) ?_
        refine a_icmp_ne (tgt := 94) X dX7_print_86 (by decide) (fun h_86 => ?_) (fun h_86 => ?_)
        · refine a_bipush (v := 48) X dX7_print_94 (by decide) ?_
          refine a_iload X dX7_print_96 rfl ?_
          refine a_iadd X dX7_print_98 ?_
          exact Zw.to2 (J_99 _ _ _ _ _ _ _ (by (try dsimp only); repeat first | assumption | exact zK.rf | refine zK.zu ?_ (by omega) | refine zK.zu0 ?_ (by decide) | refine zK.zwr ?_ (by omega) | refine zK.zfil ?_ (by omega) | refine zK.zcpy ?_ (by omega) | refine zK.trans ?_ (by assumption) | dsimp only) hm_32 (by first | assumption | exact z_lt (by assumption) | exact z_lt2 (by assumption) | exact z_lt3 (by assumption) (by decide))) rfl rfl rfl
        · refine a_bipush (v := 45) X dX7_print_89 (by decide) ?_
          refine a_goto (tgt := 99) X dX7_print_91 (by decide) ?_
          exact Zw.to2 (J_99 _ _ _ _ _ _ _ (by (try dsimp only); repeat first | assumption | exact zK.rf | refine zK.zu ?_ (by omega) | refine zK.zu0 ?_ (by decide) | refine zK.zwr ?_ (by omega) | refine zK.zfil ?_ (by omega) | refine zK.zcpy ?_ (by omega) | refine zK.trans ?_ (by assumption) | dsimp only) hm_32 (by first | assumption | exact z_lt (by assumption) | exact z_lt2 (by assumption) | exact z_lt3 (by assumption) (by decide))) rfl rfl rfl
  have H_32 : ∀ (x1_32 : Int32) (x2_32 : Int32) (x3_32 : Option Value) (x4_32 : Option Value) (M2 : Nat → Nat → Int32) (N2 : Nat → Nat → Int64), zK P S.2.1 M2 → Zw p l e { frames := 5, cells := 0, slots := 0, locals := 80 * 5 } s m args below meth c G b 5 (MQ below (zQ G b FQ) args s 0 0 (fun q : Nat => b ≤ q)) 0 0 32 [some (.ref (P)), some (.int x1_32), some (.int x2_32), x3_32, x4_32] [] (S.1, M2, N2) := fun x1_32 x2_32 x3_32 x4_32 M2 N2 k  => L_32 _ x1_32 x2_32 x3_32 x4_32 M2 N2 k  (Nat.lt_succ_self _)
  refine a_iload_n X dX7_print_0 rfl ?_
  refine a_callSx X dX7_print_1 miX7_isSeed lm7_237 (s_X7_isSeed (P := P)) rfl rfl (Nat.le_of_ble_eq_true rfl) ⟨by decide, by decide, by decide, by decide⟩ (fun r_1 S_1 q_1 => ?_)
  obtain ⟨rfl, ⟨v_1, rfl, b_1⟩⟩ := q_1
  refine a_if_ne (tgt := 13) X dX7_print_4 (by decide) (fun h_4 => ?_) (fun h_4 => ?_)
  · refine a_aload_n X dX7_print_13 rfl ?_
    refine a_getr X lf7_47 (by assumption) rfl (by omega) dX7_print_14 ?_
    refine a_aload_n X dX7_print_17 rfl ?_
    refine a_getr X lf7_40 (by assumption) rfl (by omega) dX7_print_18 ?_
    refine a_iload_n X dX7_print_21 rfl ?_
    refine a_callVx X dX7_print_22 miX5_bySeed lm7_247 (s_X5_bySeed (P := P) (by assumption) (by omega) (by assumption) (by omega)) (by assumption) rfl rfl rfl (Nat.le_of_ble_eq_true rfl) ⟨by decide, by decide, by decide, by decide⟩ (fun r_22 S_22 q_22 => ?_)
    obtain ⟨M_22, N_22, rfl, k_22, rfl⟩ := q_22
    refine a_aload_n X dX7_print_25 rfl ?_
    refine a_iconst (v := 0) X dX7_print_26 (by decide) ?_
    refine a_puti X lf7_84 (by assumption) rfl dX7_print_27 ?_
    refine a_iconst (v := 0) X dX7_print_30 (by decide) ?_
    refine a_istore_n X dX7_print_31 (by decide) ?_
    exact Zw.to2 (H_32 _ _ _ _ _ _ (by (try dsimp only); repeat first | assumption | exact zK.rf | refine zK.zu ?_ (by omega) | refine zK.zu0 ?_ (by decide) | refine zK.zwr ?_ (by omega) | refine zK.zfil ?_ (by omega) | refine zK.zcpy ?_ (by omega) | refine zK.trans ?_ (by assumption) | dsimp only) ) rfl rfl rfl
  · refine a_aload_n X dX7_print_7 rfl ?_
    refine a_iconst (v := 1) X dX7_print_8 (by decide) ?_
    refine a_callVx X dX7_print_9 miX7_refuse lm7_102 (s_X7_refuse (P := P) (by assumption)) (by assumption) rfl rfl rfl (Nat.le_of_ble_eq_true rfl) ⟨by decide, by decide, by decide, by decide⟩ (fun r_9 S_9 q_9 => ?_)
    obtain ⟨M_9, N_9, rfl, k_9, ⟨v_9, rfl⟩⟩ := q_9
    refine a_iret X hr dX7_print_12 ⟨by decide, by decide⟩ ?_
    subst hF
    exact ⟨_, _, rfl, (by (try dsimp only); repeat first | assumption | exact zK.rf | refine zK.zu ?_ (by omega) | refine zK.zu0 ?_ (by decide) | refine zK.zwr ?_ (by omega) | refine zK.zfil ?_ (by omega) | refine zK.zcpy ?_ (by omega) | refine zK.trans ?_ (by assumption) | dsimp only), ⟨_, rfl⟩⟩
set_option maxRecDepth 100000 in
theorem s_X7_out {l : Launch} {G : zG} {b : Nat} {S : zS} {P : Nat} {v0 : Int32} (hT : LX7 S.1 P) : zM l G b yX7_out cX7_out 2 (some .int) 1 0 0 [.ref P, .int v0] S (fun r z => ∃ M' N', z = (S.1, M', N') ∧ zK P S.2.1 M' ∧ ∃ v : Int32, r = some (.int v)) := by
  refine zM.of miX7_out (Nat.le_of_ble_eq_true rfl) ?_
  intro p e s m args below meth c X hr hname
  generalize hF : ((fun r z => ∃ M' N', z = (S.1, M', N') ∧ zK P S.2.1 M' ∧ ∃ v : Int32, r = some (.int v)) : Option Value → zS → Prop) = FQ
  change Zw p l e { frames := 1, cells := 0, slots := 0, locals := 80 * 1 } s m args below meth c G b 2 (MQ below (zQ G b FQ) args s 0 0 (fun q : Nat => b ≤ q)) 0 0 0 [some (.ref P), some (.int v0)] [] S
  obtain ⟨lt, o, tape, out, reader, list, past, pool, result, odds, paper, trial, trialPool, trialResult, trialOdds⟩ := id hT
  obtain ⟨reader_lt, reader_o, reader_draft, reader_text, reader_unitNames, reader_hunterNames, reader_partyNames, reader_asked⟩ := id reader
  obtain ⟨list_lt, list_o, list_quota, list_score, list_guest, list_party, list_wishCount, list_wishes, list_has⟩ := id list
  obtain ⟨past_lt, past_o, past_stood, past_stood0, past_stood1, past_stood2, past_stood3, past_stood4, past_stood5, past_stood6, past_stood7⟩ := id past
  obtain ⟨pool_lt, pool_o, pool_quota, pool_preferred, pool_forGuests, pool_applicantOf, pool_size, pool_guestCount, pool_score, pool_tickets, pool_bits, pool_party, pool_wishCount, pool_wishes⟩ := id pool
  obtain ⟨result_lt, result_o, result_line, result_unitOf, result_roundOf, result_leftTags, result_leftGuests, result_leftPreferred, result_ranked⟩ := id result
  obtain ⟨odds_lt, odds_o, odds_sets, odds_seen, odds_atUnit, odds_early, odds_result⟩ := id odds
  obtain ⟨paper_lt, paper_o, paper_times, paper_firstWish, paper_dry, paper_list, paper_pool, paper_result⟩ := id paper
  obtain ⟨trial_lt, trial_o, trial_quota, trial_score, trial_guest, trial_party, trial_wishCount, trial_wishes, trial_has⟩ := id trial
  obtain ⟨trialPool_lt, trialPool_o, trialPool_quota, trialPool_preferred, trialPool_forGuests, trialPool_applicantOf, trialPool_size, trialPool_guestCount, trialPool_score, trialPool_tickets, trialPool_bits, trialPool_party, trialPool_wishCount, trialPool_wishes⟩ := id trialPool
  obtain ⟨trialResult_lt, trialResult_o, trialResult_line, trialResult_unitOf, trialResult_roundOf, trialResult_leftTags, trialResult_leftGuests, trialResult_leftPreferred, trialResult_ranked⟩ := id trialResult
  obtain ⟨trialOdds_lt, trialOdds_o, trialOdds_sets, trialOdds_seen, trialOdds_atUnit, trialOdds_early, trialOdds_result⟩ := id trialOdds
  have J_38 : ∀ (x1_38 : Int32) (y0_38 : Int32) (M2 : Nat → Nat → Int32) (N2 : Nat → Nat → Int64), zK P S.2.1 M2 → Zw p l e { frames := 1, cells := 0, slots := 0, locals := 80 * 1 } s m args below meth c G b 2 (MQ below (zQ G b FQ) args s 0 0 (fun q : Nat => b ≤ q)) 0 0 38 [some (.ref (P)), some (.int x1_38)] [(.int y0_38)] (S.1, M2, N2) := by
    intro x1_38 y0_38 M2_38 N2_38 k_38
    refine a_iret X hr dX7_out_38 ⟨by decide, by decide⟩ ?_
    subst hF
    exact ⟨_, _, rfl, (by (try dsimp only); repeat first | assumption | exact zK.rf | refine zK.zu ?_ (by omega) | refine zK.zu0 ?_ (by decide) | refine zK.zwr ?_ (by omega) | refine zK.zfil ?_ (by omega) | refine zK.zcpy ?_ (by omega) | refine zK.trans ?_ (by assumption) | dsimp only), ⟨_, rfl⟩⟩
  refine a_iload_n X dX7_out_0 rfl ?_
  refine a_if_ge (tgt := 10) X dX7_out_1 (by decide) (fun h_1 => ?_) (fun h_1 => ?_)
  · refine a_iload_n X dX7_out_10 rfl ?_
    refine a_aload_n X dX7_out_11 rfl ?_
    refine a_geti X lf7_84 (by assumption) rfl dX7_out_12 ?_
    refine a_icmp_lt (tgt := 26) X dX7_out_15 (by decide) (fun h_15 => ?_) (fun h_15 => ?_)
    · refine a_aload_n X dX7_out_26 rfl ?_
      refine a_aload_n X dX7_out_27 rfl ?_
      refine a_getr X lf7_13 (by assumption) rfl (by omega) dX7_out_28 ?_
      refine a_iload_n X dX7_out_31 rfl ?_
      refine a_callSv X dX7_out_32 miX7_cell lm7_175 (c_cell (by assumption) (by first | decide | assumption)) rfl rfl (Nat.le_of_ble_eq_true rfl) ⟨by decide, by decide, by decide, by decide⟩ ?_
      refine a_callVx X dX7_out_35 miX7_answer lm7_134 (s_X7_answer (P := P) (by assumption)) (by assumption) rfl rfl rfl (Nat.le_of_ble_eq_true rfl) ⟨by decide, by decide, by decide, by decide⟩ (fun r_35 S_35 q_35 => ?_)
      obtain ⟨M_35, N_35, rfl, k_35, ⟨v_35, rfl⟩⟩ := q_35
      exact Zw.to2 (J_38 _ _ _ _ (by (try dsimp only); repeat first | assumption | exact zK.rf | refine zK.zu ?_ (by omega) | refine zK.zu0 ?_ (by decide) | refine zK.zwr ?_ (by omega) | refine zK.zfil ?_ (by omega) | refine zK.zcpy ?_ (by omega) | refine zK.trans ?_ (by assumption) | dsimp only) ) rfl rfl rfl
    · refine a_aload_n X dX7_out_18 rfl ?_
      refine a_iconst (v := 5) X dX7_out_19 (by decide) ?_
      refine a_callVx X dX7_out_20 miX7_refuse lm7_102 (s_X7_refuse (P := P) (by assumption)) (by assumption) rfl rfl rfl (Nat.le_of_ble_eq_true rfl) ⟨by decide, by decide, by decide, by decide⟩ (fun r_20 S_20 q_20 => ?_)
      obtain ⟨M_20, N_20, rfl, k_20, ⟨v_20, rfl⟩⟩ := q_20
      refine a_goto (tgt := 38) X dX7_out_23 (by decide) ?_
      exact Zw.to2 (J_38 _ _ _ _ (by (try dsimp only); repeat first | assumption | exact zK.rf | refine zK.zu ?_ (by omega) | refine zK.zu0 ?_ (by decide) | refine zK.zwr ?_ (by omega) | refine zK.zfil ?_ (by omega) | refine zK.zcpy ?_ (by omega) | refine zK.trans ?_ (by assumption) | dsimp only) ) rfl rfl rfl
  · refine a_aload_n X dX7_out_4 rfl ?_
    refine a_iconst (v := 1) X dX7_out_5 (by decide) ?_
    refine a_callVx X dX7_out_6 miX7_refuse lm7_102 (s_X7_refuse (P := P) (by assumption)) (by assumption) rfl rfl rfl (Nat.le_of_ble_eq_true rfl) ⟨by decide, by decide, by decide, by decide⟩ (fun r_6 S_6 q_6 => ?_)
    obtain ⟨M_6, N_6, rfl, k_6, ⟨v_6, rfl⟩⟩ := q_6
    refine a_iret X hr dX7_out_9 ⟨by decide, by decide⟩ ?_
    subst hF
    exact ⟨_, _, rfl, (by (try dsimp only); repeat first | assumption | exact zK.rf | refine zK.zu ?_ (by omega) | refine zK.zu0 ?_ (by decide) | refine zK.zwr ?_ (by omega) | refine zK.zfil ?_ (by omega) | refine zK.zcpy ?_ (by omega) | refine zK.trans ?_ (by assumption) | dsimp only), ⟨_, rfl⟩⟩
