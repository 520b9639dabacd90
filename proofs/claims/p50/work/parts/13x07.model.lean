set_option maxRecDepth 100000 in
set_option maxHeartbeats 4000000 in
theorem v_X8_byteAt {P : Nat} {M : zMt} {v0 : Int32}  (p_jX : jX P M) (i_1 : 0 ≤ Int32.toInt v0) : ∃ r, D_X8_byteAt P M v0 = some r ∧ (((Int32.toInt r = -1 ∨ Int32.toInt v0 < Int32.toInt (M P 15)))) := by
  obtain ⟨u0_jX, u1_jX, u2_jX, u3_jX⟩ := id p_jX
  have T_18 : ∀ (y0_18 : Int32), (jX P M) → (Int32.toInt y0_18 = -1 ∨ Int32.toInt v0 < Int32.toInt (M P 15)) → ∃ r, D_X8_byteAt_18 P M y0_18 = some r ∧ (((Int32.toInt r = -1 ∨ Int32.toInt v0 < Int32.toInt (M P 15)))) := by
    intro y0_18 p_jX_18 f0_18
    obtain ⟨u0_jX_18, u1_jX_18, u2_jX_18, u3_jX_18⟩ := id p_jX_18
    unfold D_X8_byteAt_18
    exact ⟨_, rfl, (by first | omega | (simp only [Int32.toInt_add, Int32.toInt_sub, Int32.toInt_mul, Int32.toInt_toInt64, Int64.toInt_add, z_m1, Int32.reduceToInt, Int64.reduceToInt, Int32.reduceToNatClampNeg, Int.bmod_def, or_true, true_or, and_true, true_and] <;> omega))⟩
  unfold D_X8_byteAt
  refine vIf (fun h_5 => ?_) (fun h_5 => ?_)
  · have i_5 := Int32.le_iff_toInt_le.mp h_5
    (try simp only [Int32.toInt_add, Int32.toInt_sub, Int32.toInt_mul, Int32.toInt_toInt64, Int64.toInt_add, z_m1, Int32.reduceToInt, Int64.reduceToInt, Int32.reduceToNatClampNeg, Int.bmod_def] at i_5)
    exact T_18 _ p_jX (by first | omega | (simp only [Int32.toInt_add, Int32.toInt_sub, Int32.toInt_mul, Int32.toInt_toInt64, Int64.toInt_add, z_m1, Int32.reduceToInt, Int64.reduceToInt, Int32.reduceToNatClampNeg, Int.bmod_def, or_true, true_or, and_true, true_and] <;> omega))
  · have i_5 := Int32.lt_iff_toInt_lt.mp (Int32.not_le.mp h_5)
    (try simp only [Int32.toInt_add, Int32.toInt_sub, Int32.toInt_mul, Int32.toInt_toInt64, Int64.toInt_add, z_m1, Int32.reduceToInt, Int64.reduceToInt, Int32.reduceToNatClampNeg, Int.bmod_def] at i_5)
    refine vI (vp_of (by first | omega | (simp only [Int32.toInt_add, Int32.toInt_sub, Int32.toInt_mul, Int32.toInt_toInt64, Int64.toInt_add, z_m1, Int32.reduceToInt, Int64.reduceToInt, Int32.reduceToNatClampNeg, Int.bmod_def, or_true, true_or, and_true, true_and] <;> omega)) (by first | omega | (simp only [Int32.toInt_add, Int32.toInt_sub, Int32.toInt_mul, Int32.toInt_toInt64, Int64.toInt_add, z_m1, Int32.reduceToInt, Int64.reduceToInt, Int32.reduceToNatClampNeg, Int.bmod_def, or_true, true_or, and_true, true_and] <;> omega))) ?_
    exact T_18 _ p_jX (by first | omega | (simp only [Int32.toInt_add, Int32.toInt_sub, Int32.toInt_mul, Int32.toInt_toInt64, Int64.toInt_add, z_m1, Int32.reduceToInt, Int64.reduceToInt, Int32.reduceToNatClampNeg, Int.bmod_def, or_true, true_or, and_true, true_and] <;> omega))
set_option maxRecDepth 100000 in
set_option maxHeartbeats 4000000 in
theorem v_X8_isLetter  {v0 : Int32}  : ∃ r, D_X8_isLetter v0 = some r ∧ ((r = 0 ∨ r = 1) ∧ ((Int32.toInt r = 0 ∨ 97 ≤ Int32.toInt v0))) := by
  have T_17 : ∀ (y0_17 : Int32), (y0_17 = 0 ∨ y0_17 = 1) → (Int32.toInt y0_17 = 0 ∨ 97 ≤ Int32.toInt v0) → ∃ r, D_X8_isLetter_17 y0_17 = some r ∧ ((r = 0 ∨ r = 1) ∧ ((Int32.toInt r = 0 ∨ 97 ≤ Int32.toInt v0))) := by
    intro y0_17 f0_17 f1_17
    unfold D_X8_isLetter_17
    exact ⟨_, rfl, (by first | exact Or.inl rfl | exact Or.inr rfl | assumption), (by first | omega | (simp only [Int32.toInt_add, Int32.toInt_sub, Int32.toInt_mul, Int32.toInt_toInt64, Int64.toInt_add, z_m1, Int32.reduceToInt, Int64.reduceToInt, Int32.reduceToNatClampNeg, Int.bmod_def, or_true, true_or, and_true, true_and] <;> omega))⟩
  have T_16 : ∃ r, D_X8_isLetter_16 = some r ∧ ((r = 0 ∨ r = 1) ∧ ((Int32.toInt r = 0 ∨ 97 ≤ Int32.toInt v0))) := by
    unfold D_X8_isLetter_16
    exact T_17 _ (by first | exact Or.inl rfl | exact Or.inr rfl | assumption) (by first | omega | (simp only [Int32.toInt_add, Int32.toInt_sub, Int32.toInt_mul, Int32.toInt_toInt64, Int64.toInt_add, z_m1, Int32.reduceToInt, Int64.reduceToInt, Int32.reduceToNatClampNeg, Int.bmod_def, or_true, true_or, and_true, true_and] <;> omega))
  unfold D_X8_isLetter
  refine vIf (fun h_3 => ?_) (fun h_3 => ?_)
  · have i_3 := Int32.lt_iff_toInt_lt.mp h_3
    (try simp only [Int32.toInt_add, Int32.toInt_sub, Int32.toInt_mul, Int32.toInt_toInt64, Int64.toInt_add, z_m1, Int32.reduceToInt, Int64.reduceToInt, Int32.reduceToNatClampNeg, Int.bmod_def] at i_3)
    exact T_16
  · have i_3 := Int32.le_iff_toInt_le.mp (Int32.not_lt.mp h_3)
    (try simp only [Int32.toInt_add, Int32.toInt_sub, Int32.toInt_mul, Int32.toInt_toInt64, Int64.toInt_add, z_m1, Int32.reduceToInt, Int64.reduceToInt, Int32.reduceToNatClampNeg, Int.bmod_def] at i_3)
    refine vIf (fun h_9 => ?_) (fun h_9 => ?_)
    · have i_9 := Int32.lt_iff_toInt_lt.mp h_9
      (try simp only [Int32.toInt_add, Int32.toInt_sub, Int32.toInt_mul, Int32.toInt_toInt64, Int64.toInt_add, z_m1, Int32.reduceToInt, Int64.reduceToInt, Int32.reduceToNatClampNeg, Int.bmod_def] at i_9)
      exact T_16
    · have i_9 := Int32.le_iff_toInt_le.mp (Int32.not_lt.mp h_9)
      (try simp only [Int32.toInt_add, Int32.toInt_sub, Int32.toInt_mul, Int32.toInt_toInt64, Int64.toInt_add, z_m1, Int32.reduceToInt, Int64.reduceToInt, Int32.reduceToNatClampNeg, Int.bmod_def] at i_9)
      exact T_17 _ (by first | exact Or.inl rfl | exact Or.inr rfl | assumption) (by first | omega | (simp only [Int32.toInt_add, Int32.toInt_sub, Int32.toInt_mul, Int32.toInt_toInt64, Int64.toInt_add, z_m1, Int32.reduceToInt, Int64.reduceToInt, Int32.reduceToNatClampNeg, Int.bmod_def, or_true, true_or, and_true, true_and] <;> omega))
set_option maxRecDepth 100000 in
set_option maxHeartbeats 4000000 in
theorem v_X8_isDigit  {v0 : Int32}  : ∃ r, D_X8_isDigit v0 = some r ∧ ((r = 0 ∨ r = 1) ∧ ((Int32.toInt r = 0 ∨ 48 ≤ Int32.toInt v0))) := by
  have T_17 : ∀ (y0_17 : Int32), (y0_17 = 0 ∨ y0_17 = 1) → (Int32.toInt y0_17 = 0 ∨ 48 ≤ Int32.toInt v0) → ∃ r, D_X8_isDigit_17 y0_17 = some r ∧ ((r = 0 ∨ r = 1) ∧ ((Int32.toInt r = 0 ∨ 48 ≤ Int32.toInt v0))) := by
    intro y0_17 f0_17 f1_17
    unfold D_X8_isDigit_17
    exact ⟨_, rfl, (by first | exact Or.inl rfl | exact Or.inr rfl | assumption), (by first | omega | (simp only [Int32.toInt_add, Int32.toInt_sub, Int32.toInt_mul, Int32.toInt_toInt64, Int64.toInt_add, z_m1, Int32.reduceToInt, Int64.reduceToInt, Int32.reduceToNatClampNeg, Int.bmod_def, or_true, true_or, and_true, true_and] <;> omega))⟩
  have T_16 : ∃ r, D_X8_isDigit_16 = some r ∧ ((r = 0 ∨ r = 1) ∧ ((Int32.toInt r = 0 ∨ 48 ≤ Int32.toInt v0))) := by
    unfold D_X8_isDigit_16
    exact T_17 _ (by first | exact Or.inl rfl | exact Or.inr rfl | assumption) (by first | omega | (simp only [Int32.toInt_add, Int32.toInt_sub, Int32.toInt_mul, Int32.toInt_toInt64, Int64.toInt_add, z_m1, Int32.reduceToInt, Int64.reduceToInt, Int32.reduceToNatClampNeg, Int.bmod_def, or_true, true_or, and_true, true_and] <;> omega))
  unfold D_X8_isDigit
  refine vIf (fun h_3 => ?_) (fun h_3 => ?_)
  · have i_3 := Int32.lt_iff_toInt_lt.mp h_3
    (try simp only [Int32.toInt_add, Int32.toInt_sub, Int32.toInt_mul, Int32.toInt_toInt64, Int64.toInt_add, z_m1, Int32.reduceToInt, Int64.reduceToInt, Int32.reduceToNatClampNeg, Int.bmod_def] at i_3)
    exact T_16
  · have i_3 := Int32.le_iff_toInt_le.mp (Int32.not_lt.mp h_3)
    (try simp only [Int32.toInt_add, Int32.toInt_sub, Int32.toInt_mul, Int32.toInt_toInt64, Int64.toInt_add, z_m1, Int32.reduceToInt, Int64.reduceToInt, Int32.reduceToNatClampNeg, Int.bmod_def] at i_3)
    refine vIf (fun h_9 => ?_) (fun h_9 => ?_)
    · have i_9 := Int32.lt_iff_toInt_lt.mp h_9
      (try simp only [Int32.toInt_add, Int32.toInt_sub, Int32.toInt_mul, Int32.toInt_toInt64, Int64.toInt_add, z_m1, Int32.reduceToInt, Int64.reduceToInt, Int32.reduceToNatClampNeg, Int.bmod_def] at i_9)
      exact T_16
    · have i_9 := Int32.le_iff_toInt_le.mp (Int32.not_lt.mp h_9)
      (try simp only [Int32.toInt_add, Int32.toInt_sub, Int32.toInt_mul, Int32.toInt_toInt64, Int64.toInt_add, z_m1, Int32.reduceToInt, Int64.reduceToInt, Int32.reduceToNatClampNeg, Int.bmod_def] at i_9)
      exact T_17 _ (by first | exact Or.inl rfl | exact Or.inr rfl | assumption) (by first | omega | (simp only [Int32.toInt_add, Int32.toInt_sub, Int32.toInt_mul, Int32.toInt_toInt64, Int64.toInt_add, z_m1, Int32.reduceToInt, Int64.reduceToInt, Int32.reduceToNatClampNeg, Int.bmod_def, or_true, true_or, and_true, true_and] <;> omega))
set_option maxRecDepth 100000 in
set_option maxHeartbeats 4000000 in
theorem v_X8_among {P : Nat} {w0 : Nat} {N : zNt}  (hw0 : w0 < zLit.length) : ∃ r, D_X8_among P w0 N = some r ∧ (True) := by
  have TL_7 : ∀ u : Nat, ∀ (x2_7 : Int32) (x3_7 : Int64) (x5_7 : Int32), (0 ≤ Int32.toInt x5_7) → (2147483648 - Int32.toInt x5_7).toNat < u → ∃ r, D_X8_among_7 P w0 N u x2_7 x3_7 x5_7 = some r ∧ (True) := by
    intro u
    induction u with
    | zero => intro x2_7 x3_7 x5_7 f0_7 hm_7; exact absurd hm_7 (Nat.not_lt_zero _)
    | succ u_7 ih_7 =>
      have T_62 : ∀ (x2_62 : Int32) (x3_62 : Int64) (x5_62 : Int32), (0 ≤ Int32.toInt x5_62) → ((2147483648 - Int32.toInt x5_62).toNat < u_7 + 1) → (Int32.toInt x5_62 < 2147483647) → ∃ r, D_X8_among_62 P w0 N (D_X8_among_7 P w0 N u_7) x2_62 x3_62 x5_62 = some r ∧ (True) := by
        intro x2_62 x3_62 x5_62 f0_62 f1_62 f2_62
        unfold D_X8_among_62
        exact ih_7 _ _ _ (by first | omega | (simp only [Int32.toInt_add, Int32.toInt_sub, Int32.toInt_mul, Int32.toInt_toInt64, Int64.toInt_add, z_m1, Int32.reduceToInt, Int64.reduceToInt, Int32.reduceToNatClampNeg, Int.bmod_def, or_true, true_or, and_true, true_and] <;> omega)) (z_up1 f2_62 f1_62)
      intro x2_7 x3_7 x5_7 f0_7 hm_7
      rw [D_X8_among_7]
      refine vIf (fun h_13 => ?_) (fun h_13 => ?_)
      · have i_13 := Int32.le_iff_toInt_le.mp h_13
        (try simp only [Int32.toInt_add, Int32.toInt_sub, Int32.toInt_mul, Int32.toInt_toInt64, Int64.toInt_add, z_m1, Int32.reduceToInt, Int64.reduceToInt, Int32.reduceToNatClampNeg, Int.bmod_def] at i_13)
        exact ⟨_, rfl, trivial⟩
      · have i_13 := Int32.lt_iff_toInt_lt.mp (Int32.not_le.mp h_13)
        (try simp only [Int32.toInt_add, Int32.toInt_sub, Int32.toInt_mul, Int32.toInt_toInt64, Int64.toInt_add, z_m1, Int32.reduceToInt, Int64.reduceToInt, Int32.reduceToNatClampNeg, Int.bmod_def] at i_13)
        refine vI (z_in (by have := (zCh_ok w0 (by assumption)).1; omega) (z_nlt (by assumption)) (by assumption)) ?_
        refine vIf (fun h_28 => ?_) (fun h_28 => ?_)
        · have i_28 := congrArg Int32.toInt h_28
          (try simp only [Int32.toInt_add, Int32.toInt_sub, Int32.toInt_mul, Int32.toInt_toInt64, Int64.toInt_add, z_m1, Int32.reduceToInt, Int64.reduceToInt, Int32.reduceToNatClampNeg, Int.bmod_def] at i_28)
          refine vIf (fun h_52 => ?_) (fun h_52 => ?_)
          · exact ⟨_, rfl, trivial⟩
          · exact T_62 _ _ _ (by first | omega | (simp only [Int32.toInt_add, Int32.toInt_sub, Int32.toInt_mul, Int32.toInt_toInt64, Int64.toInt_add, z_m1, Int32.reduceToInt, Int64.reduceToInt, Int32.reduceToNatClampNeg, Int.bmod_def, or_true, true_or, and_true, true_and] <;> omega)) hm_7 (by first | assumption | exact z_lt (by assumption) | exact z_lt2 (by assumption) | exact z_lt3 (by assumption) (by first | assumption | decide))
        · have i_28 : ¬ Int32.toInt (zCh w0 x5_7.toNatClampNeg) = Int32.toInt (32 : Int32) := fun q => h_28 (Int32.toInt_inj.mp q)
          (try simp only [Int32.toInt_add, Int32.toInt_sub, Int32.toInt_mul, Int32.toInt_toInt64, Int64.toInt_add, z_m1, Int32.reduceToInt, Int64.reduceToInt, Int32.reduceToNatClampNeg, Int.bmod_def] at i_28)
          exact T_62 _ _ _ (by first | omega | (simp only [Int32.toInt_add, Int32.toInt_sub, Int32.toInt_mul, Int32.toInt_toInt64, Int64.toInt_add, z_m1, Int32.reduceToInt, Int64.reduceToInt, Int32.reduceToNatClampNeg, Int.bmod_def, or_true, true_or, and_true, true_and] <;> omega)) hm_7 (by first | assumption | exact z_lt (by assumption) | exact z_lt2 (by assumption) | exact z_lt3 (by assumption) (by first | assumption | decide))
  have T_7 : ∀ (x2_7 : Int32) (x3_7 : Int64) (x5_7 : Int32), (0 ≤ Int32.toInt x5_7) → ∃ r, D_X8_among_7 P w0 N zFu x2_7 x3_7 x5_7 = some r ∧ (True) := fun x2_7 x3_7 x5_7 f0_7 => TL_7 zFu x2_7 x3_7 x5_7 f0_7 (zFu_up _)
  unfold D_X8_among
  exact T_7 _ _ _ (by first | omega | (simp only [Int32.toInt_add, Int32.toInt_sub, Int32.toInt_mul, Int32.toInt_toInt64, Int64.toInt_add, z_m1, Int32.reduceToInt, Int64.reduceToInt, Int32.reduceToNatClampNeg, Int.bmod_def, or_true, true_or, and_true, true_and] <;> omega))
def WM_X8_next (P : Nat) (a j : Nat) : Prop := (a = P ∧ (j = 16 ∨ j = 17 ∨ j = 18 ∨ j = 19 ∨ j = 20))
def WN_X8_next (P : Nat) (a j : Nat) : Prop := (a = P ∧ (j = 24))
def nG (P : Nat) (M0 : zMt) (N0 : zNt) (r : Int32 × zMt × zNt) : Prop := (∀ a j, ¬ WM_X8_next P a j → r.2.1 a j = M0 a j) ∧ (∀ a j, ¬ WN_X8_next P a j → r.2.2 a j = N0 a j) ∧ (r.1 = 0 ∨ r.1 = 1) ∧ (jX P r.2.1) ∧ (Int32.toInt r.1 = 1) ∧ (Int32.toInt (M0 P 17) ≤ Int32.toInt (r.2.1 P 17)) ∧ (Int32.toInt (r.2.1 P 18) = 0 ∨ Int32.toInt (M0 P 17) < Int32.toInt (r.2.1 P 17))
theorem v_X8_next {P : Nat} {M0 : zMt} {N0 : zNt} (p_jX : jX P M0) : ∃ r, D_X8_next P M0 N0 = some r ∧ ((∀ a j, ¬ WM_X8_next P a j → r.2.1 a j = M0 a j) ∧ (∀ a j, ¬ WN_X8_next P a j → r.2.2 a j = N0 a j) ∧ (r.1 = 0 ∨ r.1 = 1) ∧ (jX P r.2.1) ∧ (Int32.toInt r.1 = 1) ∧ (Int32.toInt (M0 P 17) ≤ Int32.toInt (r.2.1 P 17)) ∧ (Int32.toInt (r.2.1 P 18) = 0 ∨ Int32.toInt (M0 P 17) < Int32.toInt (r.2.1 P 17))) := by
  show ∃ r, D_X8_next P M0 N0 = some r ∧ nG P M0 N0 r
  have nz : ∀ e : Int32, ¬ e = 0 → ¬ e.toInt = 0 := fun e h q => h (Int32.toInt_inj.mp (by rw [q]; decide))
  -- frames: what a step leaves
  have up : ∀ (M M' : zMt), (∀ a j, ¬ WM_X8_next P a j → M a j = M0 a j) → ∀ (j0 : Nat) (v : Int32), (j0 = 16 ∨ j0 = 17 ∨ j0 = 18 ∨ j0 = 19 ∨ j0 = 20) → zu M P j0 v = M' → ∀ a j, ¬ WM_X8_next P a j → M' a j = M0 a j := fun M M' k j0 v h0 f a j h => by
    subst f
    rw [zu_ne (by unfold WM_X8_next at h; omega)]
    exact k a j h
  have upX : ∀ (M M' : zMt), jX P M → ∀ (j0 : Nat) (v : Int32), (j0 = 16 ∨ j0 = 18 ∨ j0 = 19 ∨ j0 = 20) → zu M P j0 v = M' → jX P M' ∧ M' P 17 = M P 17 := fun M M' h j0 v h0 f => by
    subst f
    exact ⟨h.mono (fun a j hj => zu_ne (by omega)), zu_ne (by omega)⟩
  have inc : ∀ (M M' : zMt), jX P M → (M P 17).toInt < (M P 15).toInt → zu M P 17 (M P 17 + 1) = M' → jX P M' ∧ (M' P 17).toInt = (M P 17).toInt + 1 ∧ M' P 15 = M P 15 := fun M M' h hl f => by
    obtain ⟨x1, x2, x3, x4⟩ := id h
    subst f
    have e17 : (zu M P 17 (M P 17 + 1) P 17).toInt = (M P 17).toInt + 1 := by rw [zu_eq, z_inc (by omega)]
    have e15 : zu M P 17 (M P 17 + 1) P 15 = M P 15 := zu_ne (by omega)
    refine ⟨?_, e17, e15⟩
    unfold jX
    rw [e17, e15]
    exact ⟨x1, x2, by omega, by omega⟩
  have E320 : ∀ (M : zMt) (N : zNt), (∀ a j, ¬ WM_X8_next P a j → M a j = M0 a j) → (∀ a j, ¬ WN_X8_next P a j → N a j = N0 a j) → jX P M → (M0 P 17).toInt ≤ (M P 17).toInt → ((M P 18).toInt = 0 ∨ (M0 P 17).toInt < (M P 17).toInt) → ∃ r, D_X8_next_320 P M N = some r ∧ nG P M0 N0 r := fun M N k kn hX h1 h2 =>
    ⟨_, rfl, k, kn, Or.inr rfl, hX, (show (1 : Int32).toInt = 1 by decide), h1, h2⟩
  have T18 : ∀ (y : Int32) (M M' : zMt) (N : zNt), zu M P 18 y = M' → (∀ a j, ¬ WM_X8_next P a j → M a j = M0 a j) → (∀ a j, ¬ WN_X8_next P a j → N a j = N0 a j) → jX P M → (M0 P 17).toInt < (M P 17).toInt → ∃ r, D_X8_next_320 P M' N = some r ∧ nG P M0 N0 r := fun y M M' N f k kn hX h1 => by
    obtain ⟨x1, x2⟩ := upX M M' hX 18 y (by omega) f
    exact E320 M' N (up M M' k 18 y (by omega) f) kn x1 (by rw [x2]; omega) (Or.inr (by rw [x2]; omega))
  have T171 : ∀ (y : Int32) (M : zMt) (N : zNt), (∀ a j, ¬ WM_X8_next P a j → M a j = M0 a j) → (∀ a j, ¬ WN_X8_next P a j → N a j = N0 a j) → jX P M → (M0 P 17).toInt < (M P 17).toInt → ∃ r, D_X8_next_171 P y M N = some r ∧ nG P M0 N0 r := fun y M N k kn hX h1 => by
    unfold D_X8_next_171
    obtain ⟨x1, x2⟩ := upX M _ hX 18 y (by omega) rfl
    have k2 := up M _ k 18 y (by omega) rfl
    show ∃ r, (if zu M P 18 y P 18 = 2 then _ else _) = some r ∧ _
    refine vIf (fun _ => ?_) (fun _ => T18 y M _ N rfl k kn hX h1)
    refine vB (v_X8_among (by decide)) (fun e f q => ?_)
    obtain ⟨x3, x4⟩ := upX _ _ x1 19 e (by omega) rfl
    exact E320 _ N (up _ _ k2 19 e (by omega) rfl) kn x3 (by rw [x4, x2]; omega) (Or.inr (by rw [x4, x2]; omega))
  -- words
  have L86 : ∀ (u : Nat) (M : zMt) (N : zNt), ((M P 15).toInt - (M P 17).toInt).toNat < u → (∀ a j, ¬ WM_X8_next P a j → M a j = M0 a j) → (∀ a j, ¬ WN_X8_next P a j → N a j = N0 a j) → jX P M → (M0 P 17).toInt ≤ (M P 17).toInt → ((M0 P 17).toInt < (M P 17).toInt ∨ ∃ e, D_X8_byteAt P M (M P 17) = some e ∧ ∀ z, D_X8_isLetter e = some z → ¬ z = 0) → ∃ r, D_X8_next_86 P u M N = some r ∧ nG P M0 N0 r := by
    intro u
    induction u with
    | zero => intro M N h; omega
    | succ u ih =>
      intro M N hu k kn hX h1 h2
      obtain ⟨x1, x2, x3, x4⟩ := id hX
      rw [D_X8_next_86]
      refine vB (v_X8_byteAt hX x3) (fun e fe qe => ?_)
      refine vB v_X8_isLetter (fun z fz qz => ?_)
      refine vIf (fun hz => ?_) (fun hz => ?_)
      · have hlt : (M0 P 17).toInt < (M P 17).toInt := by
          rcases h2 with h2 | ⟨e', a1, a2⟩
          · exact h2
          · rw [fe] at a1
            cases a1
            exact absurd hz (a2 z fz)
        exact vIf (fun _ => T171 _ M N k kn hX hlt) (fun _ => T171 _ M N k kn hX hlt)
      · have hq := qz.2.resolve_left (nz _ hz)
        have hl : (M P 17).toInt < (M P 15).toInt := qe.resolve_left (by omega)
        have T138 : ∀ N' : zNt, (∀ a j, ¬ WN_X8_next P a j → N' a j = N0 a j) → ∃ r, D_X8_next_138 P (D_X8_next_86 P u) M N' = some r ∧ nG P M0 N0 r := fun N' kn' => by
          unfold D_X8_next_138
          obtain ⟨y1, y2, y3⟩ := inc M _ hX hl rfl
          exact ih _ N' (by rw [y2, y3]; omega) (up M _ k 17 _ (by omega) rfl) kn' y1 (by rw [y2]; omega) (Or.inl (by rw [y2]; omega))
        refine vIf (fun _ => T138 N kn) (fun _ => ?_)
        refine vB (v_X8_byteAt hX x3) (fun e2 _ _ => ?_)
        exact T138 _ (fun a j h => (zu_ne (by unfold WN_X8_next at h; omega)).trans (kn a j h))
  -- numbers
  have L207 : ∀ (u : Nat) (M : zMt) (N : zNt), ((M P 15).toInt - (M P 17).toInt).toNat < u → (∀ a j, ¬ WM_X8_next P a j → M a j = M0 a j) → (∀ a j, ¬ WN_X8_next P a j → N a j = N0 a j) → jX P M → (M0 P 17).toInt ≤ (M P 17).toInt → ((M0 P 17).toInt < (M P 17).toInt ∨ ∃ e, D_X8_byteAt P M (M P 17) = some e ∧ ∀ z, D_X8_isDigit e = some z → ¬ z = 0) → ∃ r, D_X8_next_207 P u M N = some r ∧ nG P M0 N0 r := by
    intro u
    induction u with
    | zero => intro M N h; omega
    | succ u ih =>
      intro M N hu k kn hX h1 h2
      obtain ⟨x1, x2, x3, x4⟩ := id hX
      rw [D_X8_next_207]
      refine vB (v_X8_byteAt hX x3) (fun e fe qe => ?_)
      refine vB v_X8_isDigit (fun z fz qz => ?_)
      refine vIf (fun hz => ?_) (fun hz => ?_)
      · have hlt : (M0 P 17).toInt < (M P 17).toInt := by
          rcases h2 with h2 | ⟨e', a1, a2⟩
          · exact h2
          · rw [fe] at a1
            cases a1
            exact absurd hz (a2 z fz)
        exact vIf (fun _ => T18 _ M _ N rfl k kn hX hlt) (fun _ => T18 _ M _ N rfl k kn hX hlt)
      · have hq := qz.2.resolve_left (nz _ hz)
        have hl : (M P 17).toInt < (M P 15).toInt := qe.resolve_left (by omega)
        have T257 : ∀ M' : zMt, (∀ a j, ¬ WM_X8_next P a j → M' a j = M0 a j) → jX P M' → M' P 17 = M P 17 → M' P 15 = M P 15 → ∃ r, D_X8_next_257 P (D_X8_next_207 P u) M' N = some r ∧ nG P M0 N0 r := fun M' k' hX' g1 g2 => by
          unfold D_X8_next_257
          obtain ⟨y1, y2, y3⟩ := inc M' _ hX' (by rw [g1, g2]; exact hl) rfl
          exact ih _ N (by rw [y2, y3, g1, g2]; omega) (up M' _ k' 17 _ (by omega) rfl) kn y1 (by rw [y2, g1]; omega) (Or.inl (by rw [y2, g1]; omega))
        refine vIf (fun _ => T257 M k hX rfl rfl) (fun _ => ?_)
        refine vB (v_X8_byteAt hX x3) (fun e2 _ _ => ?_)
        obtain ⟨y1, y2⟩ := upX M _ hX 20 (10 * M P 20 + e2 - 48) (by omega) rfl
        exact T257 _ (up M _ k 20 _ (by omega) rfl) y1 y2 (zu_ne (by omega))
  -- blanks
  have L0 : ∀ (u : Nat) (M : zMt), ((M P 15).toInt - (M P 17).toInt).toNat < u → (∀ a j, ¬ WM_X8_next P a j → M a j = M0 a j) → jX P M → (M0 P 17).toInt ≤ (M P 17).toInt → ∃ r, D_X8_next_0 P u M N0 = some r ∧ nG P M0 N0 r := by
    intro u
    induction u with
    | zero => intro M h; omega
    | succ u ih =>
      intro M hu k hX h1
      obtain ⟨x1, x2, x3, x4⟩ := id hX
      rw [D_X8_next_0]
      have T26 : (M P 17).toInt < (M P 15).toInt → ∃ r, D_X8_next_26 P (D_X8_next_0 P u) M N0 = some r ∧ nG P M0 N0 r := fun hl => by
        unfold D_X8_next_26
        obtain ⟨y1, y2, y3⟩ := inc M _ hX hl rfl
        exact ih _ (by rw [y2, y3]; omega) (up M _ k 17 _ (by omega) rfl) y1 (by rw [y2]; omega)
      refine vB (v_X8_byteAt hX x3) (fun e fe qe => ?_)
      refine vIf (fun hz => T26 (qe.resolve_left (by rw [hz]; decide))) (fun _ => ?_)
      refine vB (v_X8_byteAt hX x3) (fun e2 fe2 qe2 => ?_)
      refine vIf (fun hz => T26 (qe2.resolve_left (by rw [hz]; decide))) (fun _ => ?_)
      obtain ⟨y1, y2⟩ := upX M _ hX 16 (M P 17) (by omega) rfl
      have k1 := up M _ k 16 (M P 17) (by omega) rfl
      refine vLm (W := WM_X8_next P) (M0 := M0) k1 (fun M1 g1 k1' => ?_)
      rw [g1] at y1 y2
      refine vLm (W := WM_X8_next P) (M0 := M0) (up M1 _ k1' 19 (-1) (by omega) rfl) (fun M2 g2 k2 => ?_)
      obtain ⟨w1, w2⟩ := upX M1 M2 y1 19 (-1) (by omega) g2
      have w17 : M2 P 17 = M P 17 := w2.trans y2
      obtain ⟨v1, v2, v3, v4⟩ := id w1
      refine vB (v_X8_byteAt w1 v3) (fun e3 fe3 qe3 => ?_)
      refine vIf (fun _ => ?_) (fun hm1 => ?_)
      · obtain ⟨a1, a2⟩ := upX M2 _ w1 18 0 (by omega) rfl
        exact E320 _ N0 (up M2 _ k2 18 0 (by omega) rfl) (fun _ _ _ => rfl) a1 (by rw [a2, w17]; exact h1) (Or.inl (by rw [zu_eq]; decide))
      · have hl : (M2 P 17).toInt < (M2 P 15).toInt := qe3.resolve_left (fun q => hm1 (Int32.toInt_inj.mp (by rw [q]; decide)))
        refine vB v_X8_isLetter (fun z fz qz => ?_)
        refine vIf (fun _ => ?_) (fun hz => ?_)
        · refine vB v_X8_isDigit (fun z2 fz2 qz2 => ?_)
          refine vIf (fun _ => ?_) (fun hz2 => ?_)
          · obtain ⟨a1, a2, a3⟩ := inc M2 _ w1 hl rfl
            have k3 := up M2 _ k2 17 _ (by omega) (rfl : zu M2 P 17 (M2 P 17 + 1) = _)
            have hlt : (M0 P 17).toInt < (zu M2 P 17 (M2 P 17 + 1) P 17).toInt := by rw [a2, w17]; omega
            exact vIf (fun _ => T18 _ _ _ N0 rfl k3 (fun _ _ _ => rfl) a1 hlt) (fun _ => T18 _ _ _ N0 rfl k3 (fun _ _ _ => rfl) a1 hlt)
          · obtain ⟨a1, a2⟩ := upX M2 _ w1 20 0 (by omega) rfl
            have a15 : zu M2 P 20 0 P 15 = M2 P 15 := zu_ne (by omega)
            refine L207 zFu _ N0 (by unfold zFu; rw [a2, a15]; omega) (up M2 _ k2 20 0 (by omega) rfl) (fun _ _ _ => rfl) a1 (by rw [a2, w17]; exact h1) (Or.inr ⟨e3, ?_, fun z3 h3 => ?_⟩)
            · rw [← fe3, a2]
              unfold D_X8_byteAt
              rw [a15, zu_row (show P + 7 ≠ P by omega)]
              rfl
            · rw [fz2] at h3
              cases h3
              exact hz2
        · exact L86 zFu M2 _ (by unfold zFu; omega) k2 (fun a j h => zu_ne (by unfold WN_X8_next at h; omega)) w1 (by rw [w17]; exact h1) (Or.inr ⟨e3, fe3, fun z3 h3 => by rw [fz] at h3; cases h3; exact hz⟩)
  unfold D_X8_next
  obtain ⟨x1, x2, x3, x4⟩ := id p_jX
  exact L0 zFu M0 (by unfold zFu; omega) (fun _ _ _ => rfl) p_jX (Int.le_refl _)
def WM_X8_bad (P : Nat) (a j : Nat) : Prop := (a = P ∧ (j = 21 ∨ j = 22))
theorem wq_X8_bad_M0_21 {P a j : Nat} (h : ¬ WM_X8_bad P a j) : ¬ (a = P ∧ j = 21) := by unfold WM_X8_bad at h; omega
theorem wf_nA_M0_21 {P a j : Nat} (h : (a = P + 1 ∨ (a = P ∧ j = 8))) : ¬ (a = P ∧ j = 21) := by omega
theorem wq_X8_bad_M0_22 {P a j : Nat} (h : ¬ WM_X8_bad P a j) : ¬ (a = P ∧ j = 22) := by unfold WM_X8_bad at h; omega
theorem wf_nA_M0_22 {P a j : Nat} (h : (a = P + 1 ∨ (a = P ∧ j = 8))) : ¬ (a = P ∧ j = 22) := by omega
set_option maxRecDepth 100000 in
set_option maxHeartbeats 4000000 in
theorem v_X8_bad {P : Nat} {v0 : Int32} {M0 : zMt}  : ∃ r, D_X8_bad P v0 M0 = some r ∧ ((∀ a j, ¬ WM_X8_bad P a j → r.2 a j = M0 a j) ∧ (r.1 = 0 ∨ r.1 = 1) ∧ ((Int32.toInt r.1 = 0))) := by
  have T_14 : ∀ (y1_14 : Int32) (M_14 : zMt), (∀ a j, ¬ WM_X8_bad P a j → M_14 a j = M0 a j) → ∃ r, D_X8_bad_14 P y1_14 M_14 = some r ∧ ((∀ a j, ¬ WM_X8_bad P a j → r.2 a j = M0 a j) ∧ (r.1 = 0 ∨ r.1 = 1) ∧ ((Int32.toInt r.1 = 0))) := by
    intro y1_14 M_14o k_14
    unfold D_X8_bad_14
    refine vLm (W := WM_X8_bad P) (fun a j h => (zu_ne (wq_X8_bad_M0_21 h)).trans (k_14 a j h)) (fun M_14 f_14 k_14 => ?_)
    have c7_14 : Int32.toInt (M_14 P 7) = Int32.toInt (M_14o P 7) := congrArg Int32.toInt ((congrFun (congrFun f_14.symm P) 7).trans (zu_ne (fun z => absurd z.2 (by decide))))
    have c8_14 : Int32.toInt (M_14 P 8) = Int32.toInt (M_14o P 8) := congrArg Int32.toInt ((congrFun (congrFun f_14.symm P) 8).trans (zu_ne (fun z => absurd z.2 (by decide))))
    have c33_14 : Int32.toInt (M_14 P 33) = Int32.toInt (M_14o P 33) := congrArg Int32.toInt ((congrFun (congrFun f_14.symm P) 33).trans (zu_ne (fun z => absurd z.2 (by decide))))
    have n_14 : nA P M_14 = nA P M_14o := nA_congr (fun a j h => (congrFun (congrFun f_14.symm a) j).trans (zu_ne (wf_nA_M0_21 h)))
    refine vLm (W := WM_X8_bad P) (fun a j h => (zu_ne (wq_X8_bad_M0_22 h)).trans (k_14 a j h)) (fun M_22 f_22 k_22 => ?_)
    have c7_22 : Int32.toInt (M_22 P 7) = Int32.toInt (M_14 P 7) := congrArg Int32.toInt ((congrFun (congrFun f_22.symm P) 7).trans (zu_ne (fun z => absurd z.2 (by decide))))
    have c8_22 : Int32.toInt (M_22 P 8) = Int32.toInt (M_14 P 8) := congrArg Int32.toInt ((congrFun (congrFun f_22.symm P) 8).trans (zu_ne (fun z => absurd z.2 (by decide))))
    have c33_22 : Int32.toInt (M_22 P 33) = Int32.toInt (M_14 P 33) := congrArg Int32.toInt ((congrFun (congrFun f_22.symm P) 33).trans (zu_ne (fun z => absurd z.2 (by decide))))
    have n_22 : nA P M_22 = nA P M_14 := nA_congr (fun a j h => (congrFun (congrFun f_22.symm a) j).trans (zu_ne (wf_nA_M0_22 h)))
    exact ⟨_, rfl, k_22, (by first | exact Or.inl rfl | exact Or.inr rfl | assumption), (by first | omega | (simp only [Int32.toInt_add, Int32.toInt_sub, Int32.toInt_mul, Int32.toInt_toInt64, Int64.toInt_add, z_m1, Int32.reduceToInt, Int64.reduceToInt, Int32.reduceToNatClampNeg, Int.bmod_def, or_true, true_or, and_true, true_and] <;> omega))⟩
  unfold D_X8_bad
  refine vIf (fun h_6 => ?_) (fun h_6 => ?_)
  · have i_6 := congrArg Int32.toInt h_6
    (try simp only [Int32.toInt_add, Int32.toInt_sub, Int32.toInt_mul, Int32.toInt_toInt64, Int64.toInt_add, z_m1, Int32.reduceToInt, Int64.reduceToInt, Int32.reduceToNatClampNeg, Int.bmod_def] at i_6)
    exact T_14 _ _ (fun _ _ _ => rfl)
  · have i_6 : ¬ Int32.toInt (M0 P 18) = Int32.toInt (1 : Int32) := fun q => h_6 (Int32.toInt_inj.mp q)
    (try simp only [Int32.toInt_add, Int32.toInt_sub, Int32.toInt_mul, Int32.toInt_toInt64, Int64.toInt_add, z_m1, Int32.reduceToInt, Int64.reduceToInt, Int32.reduceToNatClampNeg, Int.bmod_def] at i_6)
    exact T_14 _ _ (fun _ _ _ => rfl)
set_option maxRecDepth 100000 in
set_option maxHeartbeats 4000000 in
theorem v_X8_isName {P : Nat} {M : zMt}   : ∃ r, D_X8_isName P M = some r ∧ ((r = 0 ∨ r = 1)) := by
  have T_21 : ∀ (y0_21 : Int32), (y0_21 = 0 ∨ y0_21 = 1) → ∃ r, D_X8_isName_21 P M y0_21 = some r ∧ ((r = 0 ∨ r = 1)) := by
    intro y0_21 f0_21
    unfold D_X8_isName_21
    exact ⟨_, rfl, (by first | exact Or.inl rfl | exact Or.inr rfl | assumption)⟩
  have T_20 : ∃ r, D_X8_isName_20 P M = some r ∧ ((r = 0 ∨ r = 1)) := by
    unfold D_X8_isName_20
    exact T_21 _ (by first | exact Or.inl rfl | exact Or.inr rfl | assumption)
  unfold D_X8_isName
  refine vIf (fun h_5 => ?_) (fun h_5 => ?_)
  · have i_5 := congrArg Int32.toInt h_5
    (try simp only [Int32.toInt_add, Int32.toInt_sub, Int32.toInt_mul, Int32.toInt_toInt64, Int64.toInt_add, z_m1, Int32.reduceToInt, Int64.reduceToInt, Int32.reduceToNatClampNeg, Int.bmod_def] at i_5)
    refine vIf (fun h_13 => ?_) (fun h_13 => ?_)
    · have i_13 := congrArg Int32.toInt h_13
      (try simp only [Int32.toInt_add, Int32.toInt_sub, Int32.toInt_mul, Int32.toInt_toInt64, Int64.toInt_add, z_m1, Int32.reduceToInt, Int64.reduceToInt, Int32.reduceToNatClampNeg, Int.bmod_def] at i_13)
      exact T_21 _ (by first | exact Or.inl rfl | exact Or.inr rfl | assumption)
    · have i_13 : ¬ Int32.toInt (M P 19) = Int32.toInt (-1 : Int32) := fun q => h_13 (Int32.toInt_inj.mp q)
      (try simp only [Int32.toInt_add, Int32.toInt_sub, Int32.toInt_mul, Int32.toInt_toInt64, Int64.toInt_add, z_m1, Int32.reduceToInt, Int64.reduceToInt, Int32.reduceToNatClampNeg, Int.bmod_def] at i_13)
      exact T_20
  · have i_5 : ¬ Int32.toInt (M P 18) = Int32.toInt (2 : Int32) := fun q => h_5 (Int32.toInt_inj.mp q)
    (try simp only [Int32.toInt_add, Int32.toInt_sub, Int32.toInt_mul, Int32.toInt_toInt64, Int64.toInt_add, z_m1, Int32.reduceToInt, Int64.reduceToInt, Int32.reduceToNatClampNeg, Int.bmod_def] at i_5)
    exact T_20
set_option maxRecDepth 100000 in
set_option maxHeartbeats 4000000 in
theorem v_X8_found {Q : Nat} {nQ : Nat} {N : zNt} {v0 : Int32} {v1 : Int64}  (i_0 : Int32.toInt v0 ≤ (nQ : Int)) (i_1 : Int32.toInt v0 ≤ 10) : ∃ r, D_X8_found Q nQ N v0 v1 = some r ∧ (((-1 ≤ Int32.toInt r) ∧ (Int32.toInt r = -1 ∨ Int32.toInt r < Int32.toInt v0))) := by
  have TL_3 : ∀ u : Nat, ∀ (x1_3 : Int32) (x2_3 : Int64) (x4_3 : Int32), (0 ≤ Int32.toInt x4_3) → (Int32.toInt x1_3 ≤ (nQ : Int) ∧ Int32.toInt x1_3 ≤ 10 ∧ Int32.toInt x1_3 = Int32.toInt v0) → (2147483648 - Int32.toInt x4_3).toNat < u → ∃ r, D_X8_found_3 Q nQ N u x1_3 x2_3 x4_3 = some r ∧ (((-1 ≤ Int32.toInt r) ∧ (Int32.toInt r = -1 ∨ Int32.toInt r < Int32.toInt v0))) := by
    intro u
    induction u with
    | zero => intro x1_3 x2_3 x4_3 f0_3 f1_3 hm_3; exact absurd hm_3 (Nat.not_lt_zero _)
    | succ u_3 ih_3 =>
      intro x1_3 x2_3 x4_3 f0_3 f1_3 hm_3
      rw [D_X8_found_3]
      refine vIf (fun h_6 => ?_) (fun h_6 => ?_)
      · have i_6 := Int32.le_iff_toInt_le.mp h_6
        (try simp only [Int32.toInt_add, Int32.toInt_sub, Int32.toInt_mul, Int32.toInt_toInt64, Int64.toInt_add, z_m1, Int32.reduceToInt, Int64.reduceToInt, Int32.reduceToNatClampNeg, Int.bmod_def] at i_6)
        exact ⟨_, rfl, ⟨(by first | omega | (simp only [Int32.toInt_add, Int32.toInt_sub, Int32.toInt_mul, Int32.toInt_toInt64, Int64.toInt_add, z_m1, Int32.reduceToInt, Int64.reduceToInt, Int32.reduceToNatClampNeg, Int.bmod_def, or_true, true_or, and_true, true_and] <;> omega)), (by first | omega | (simp only [Int32.toInt_add, Int32.toInt_sub, Int32.toInt_mul, Int32.toInt_toInt64, Int64.toInt_add, z_m1, Int32.reduceToInt, Int64.reduceToInt, Int32.reduceToNatClampNeg, Int.bmod_def, or_true, true_or, and_true, true_and] <;> omega))⟩⟩
      · have i_6 := Int32.lt_iff_toInt_lt.mp (Int32.not_le.mp h_6)
        (try simp only [Int32.toInt_add, Int32.toInt_sub, Int32.toInt_mul, Int32.toInt_toInt64, Int64.toInt_add, z_m1, Int32.reduceToInt, Int64.reduceToInt, Int32.reduceToNatClampNeg, Int.bmod_def] at i_6)
        refine vI (vp_of (by first | omega | (simp only [Int32.toInt_add, Int32.toInt_sub, Int32.toInt_mul, Int32.toInt_toInt64, Int64.toInt_add, z_m1, Int32.reduceToInt, Int64.reduceToInt, Int32.reduceToNatClampNeg, Int.bmod_def, or_true, true_or, and_true, true_and] <;> omega)) (by first | omega | (simp only [Int32.toInt_add, Int32.toInt_sub, Int32.toInt_mul, Int32.toInt_toInt64, Int64.toInt_add, z_m1, Int32.reduceToInt, Int64.reduceToInt, Int32.reduceToNatClampNeg, Int.bmod_def, or_true, true_or, and_true, true_and] <;> omega))) ?_
        refine vIf (fun h_15 => ?_) (fun h_15 => ?_)
        · exact ⟨_, rfl, ⟨(by first | omega | (simp only [Int32.toInt_add, Int32.toInt_sub, Int32.toInt_mul, Int32.toInt_toInt64, Int64.toInt_add, z_m1, Int32.reduceToInt, Int64.reduceToInt, Int32.reduceToNatClampNeg, Int.bmod_def, or_true, true_or, and_true, true_and] <;> omega)), (by first | omega | (simp only [Int32.toInt_add, Int32.toInt_sub, Int32.toInt_mul, Int32.toInt_toInt64, Int64.toInt_add, z_m1, Int32.reduceToInt, Int64.reduceToInt, Int32.reduceToNatClampNeg, Int.bmod_def, or_true, true_or, and_true, true_and] <;> omega))⟩⟩
        · exact ih_3 _ _ _ (by first | omega | (simp only [Int32.toInt_add, Int32.toInt_sub, Int32.toInt_mul, Int32.toInt_toInt64, Int64.toInt_add, z_m1, Int32.reduceToInt, Int64.reduceToInt, Int32.reduceToNatClampNeg, Int.bmod_def, or_true, true_or, and_true, true_and] <;> omega)) (by first | omega | (simp only [Int32.toInt_add, Int32.toInt_sub, Int32.toInt_mul, Int32.toInt_toInt64, Int64.toInt_add, z_m1, Int32.reduceToInt, Int64.reduceToInt, Int32.reduceToNatClampNeg, Int.bmod_def, or_true, true_or, and_true, true_and] <;> omega)) (z_up1 (by first | assumption | exact z_lt (by assumption) | exact z_lt2 (by assumption) | exact z_lt3 (by assumption) (by first | assumption | decide)) hm_3)
  have T_3 : ∀ (x1_3 : Int32) (x2_3 : Int64) (x4_3 : Int32), (0 ≤ Int32.toInt x4_3) → (Int32.toInt x1_3 ≤ (nQ : Int) ∧ Int32.toInt x1_3 ≤ 10 ∧ Int32.toInt x1_3 = Int32.toInt v0) → ∃ r, D_X8_found_3 Q nQ N zFu x1_3 x2_3 x4_3 = some r ∧ (((-1 ≤ Int32.toInt r) ∧ (Int32.toInt r = -1 ∨ Int32.toInt r < Int32.toInt v0))) := fun x1_3 x2_3 x4_3 f0_3 f1_3 => TL_3 zFu x1_3 x2_3 x4_3 f0_3 f1_3 (zFu_up _)
  unfold D_X8_found
  exact T_3 _ _ _ (by first | omega | (simp only [Int32.toInt_add, Int32.toInt_sub, Int32.toInt_mul, Int32.toInt_toInt64, Int64.toInt_add, z_m1, Int32.reduceToInt, Int64.reduceToInt, Int32.reduceToNatClampNeg, Int.bmod_def, or_true, true_or, and_true, true_and] <;> omega)) (by first | omega | (simp only [Int32.toInt_add, Int32.toInt_sub, Int32.toInt_mul, Int32.toInt_toInt64, Int64.toInt_add, z_m1, Int32.reduceToInt, Int64.reduceToInt, Int32.reduceToNatClampNeg, Int.bmod_def, or_true, true_or, and_true, true_and] <;> omega))
set_option maxRecDepth 100000 in
set_option maxHeartbeats 4000000 in
theorem v_X8_isTaken {P : Nat} {M : zMt} {N : zNt}   (p_jY : jY P M) : ∃ r, D_X8_isTaken P M N = some r ∧ ((r = 0 ∨ r = 1)) := by
  obtain ⟨u0_jY, u1_jY, u2_jY, u3_jY, u4_jY, u5_jY⟩ := id p_jY
  have T_62 : ∀ (y0_62 : Int32), (jY P M) → (y0_62 = 0 ∨ y0_62 = 1) → ∃ r, D_X8_isTaken_62 P M N y0_62 = some r ∧ ((r = 0 ∨ r = 1)) := by
    intro y0_62 p_jY_62 f0_62
    obtain ⟨u0_jY_62, u1_jY_62, u2_jY_62, u3_jY_62, u4_jY_62, u5_jY_62⟩ := id p_jY_62
    unfold D_X8_isTaken_62
    exact ⟨_, rfl, (by first | exact Or.inl rfl | exact Or.inr rfl | assumption)⟩
  have T_57 : (jY P M) → ∃ r, D_X8_isTaken_57 P M N = some r ∧ ((r = 0 ∨ r = 1)) := by
    intro  p_jY_57
    obtain ⟨u0_jY_57, u1_jY_57, u2_jY_57, u3_jY_57, u4_jY_57, u5_jY_57⟩ := id p_jY_57
    unfold D_X8_isTaken_57
    exact T_62 _ p_jY_57 (by first | exact Or.inl rfl | exact Or.inr rfl | assumption)
  unfold D_X8_isTaken
  refine vB (v_X8_found (by first | omega | (simp only [Int32.toInt_add, Int32.toInt_sub, Int32.toInt_mul, Int32.toInt_toInt64, Int64.toInt_add, z_m1, Int32.reduceToInt, Int64.reduceToInt, Int32.reduceToNatClampNeg, Int.bmod_def, or_true, true_or, and_true, true_and] <;> omega)) (by first | omega | (simp only [Int32.toInt_add, Int32.toInt_sub, Int32.toInt_mul, Int32.toInt_toInt64, Int64.toInt_add, z_m1, Int32.reduceToInt, Int64.reduceToInt, Int32.reduceToNatClampNeg, Int.bmod_def, or_true, true_or, and_true, true_and] <;> omega))) (fun e_12 f_12 q_12 => ?_)
  obtain ⟨x0_12, x1_12⟩ := q_12
  (try simp only [Int32.toInt_add, Int32.toInt_sub, Int32.toInt_mul, Int32.toInt_toInt64, Int64.toInt_add, z_m1, Int32.reduceToInt, Int64.reduceToInt, Int32.reduceToNatClampNeg, Int.bmod_def] at x0_12)
  (try simp only [Int32.toInt_add, Int32.toInt_sub, Int32.toInt_mul, Int32.toInt_toInt64, Int64.toInt_add, z_m1, Int32.reduceToInt, Int64.reduceToInt, Int32.reduceToNatClampNeg, Int.bmod_def] at x1_12)
  refine vIf (fun h_16 => ?_) (fun h_16 => ?_)
  · have i_16 := congrArg Int32.toInt h_16
    (try simp only [Int32.toInt_add, Int32.toInt_sub, Int32.toInt_mul, Int32.toInt_toInt64, Int64.toInt_add, z_m1, Int32.reduceToInt, Int64.reduceToInt, Int32.reduceToNatClampNeg, Int.bmod_def] at i_16)
    refine vB (v_X8_found (by first | omega | (simp only [Int32.toInt_add, Int32.toInt_sub, Int32.toInt_mul, Int32.toInt_toInt64, Int64.toInt_add, z_m1, Int32.reduceToInt, Int64.reduceToInt, Int32.reduceToNatClampNeg, Int.bmod_def, or_true, true_or, and_true, true_and] <;> omega)) (by first | omega | (simp only [Int32.toInt_add, Int32.toInt_sub, Int32.toInt_mul, Int32.toInt_toInt64, Int64.toInt_add, z_m1, Int32.reduceToInt, Int64.reduceToInt, Int32.reduceToNatClampNeg, Int.bmod_def, or_true, true_or, and_true, true_and] <;> omega))) (fun e_31 f_31 q_31 => ?_)
    obtain ⟨x0_31, x1_31⟩ := q_31
    (try simp only [Int32.toInt_add, Int32.toInt_sub, Int32.toInt_mul, Int32.toInt_toInt64, Int64.toInt_add, z_m1, Int32.reduceToInt, Int64.reduceToInt, Int32.reduceToNatClampNeg, Int.bmod_def] at x0_31)
    (try simp only [Int32.toInt_add, Int32.toInt_sub, Int32.toInt_mul, Int32.toInt_toInt64, Int64.toInt_add, z_m1, Int32.reduceToInt, Int64.reduceToInt, Int32.reduceToNatClampNeg, Int.bmod_def] at x1_31)
    refine vIf (fun h_35 => ?_) (fun h_35 => ?_)
    · have i_35 := congrArg Int32.toInt h_35
      (try simp only [Int32.toInt_add, Int32.toInt_sub, Int32.toInt_mul, Int32.toInt_toInt64, Int64.toInt_add, z_m1, Int32.reduceToInt, Int64.reduceToInt, Int32.reduceToNatClampNeg, Int.bmod_def] at i_35)
      refine vB (v_X8_found (by first | omega | (simp only [Int32.toInt_add, Int32.toInt_sub, Int32.toInt_mul, Int32.toInt_toInt64, Int64.toInt_add, z_m1, Int32.reduceToInt, Int64.reduceToInt, Int32.reduceToNatClampNeg, Int.bmod_def, or_true, true_or, and_true, true_and] <;> omega)) (by first | omega | (simp only [Int32.toInt_add, Int32.toInt_sub, Int32.toInt_mul, Int32.toInt_toInt64, Int64.toInt_add, z_m1, Int32.reduceToInt, Int64.reduceToInt, Int32.reduceToNatClampNeg, Int.bmod_def, or_true, true_or, and_true, true_and] <;> omega))) (fun e_50 f_50 q_50 => ?_)
      obtain ⟨x0_50, x1_50⟩ := q_50
      (try simp only [Int32.toInt_add, Int32.toInt_sub, Int32.toInt_mul, Int32.toInt_toInt64, Int64.toInt_add, z_m1, Int32.reduceToInt, Int64.reduceToInt, Int32.reduceToNatClampNeg, Int.bmod_def] at x0_50)
      (try simp only [Int32.toInt_add, Int32.toInt_sub, Int32.toInt_mul, Int32.toInt_toInt64, Int64.toInt_add, z_m1, Int32.reduceToInt, Int64.reduceToInt, Int32.reduceToNatClampNeg, Int.bmod_def] at x1_50)
      refine vIf (fun h_54 => ?_) (fun h_54 => ?_)
      · have i_54 := congrArg Int32.toInt h_54
        (try simp only [Int32.toInt_add, Int32.toInt_sub, Int32.toInt_mul, Int32.toInt_toInt64, Int64.toInt_add, z_m1, Int32.reduceToInt, Int64.reduceToInt, Int32.reduceToNatClampNeg, Int.bmod_def] at i_54)
        exact T_62 _ p_jY (by first | exact Or.inl rfl | exact Or.inr rfl | assumption)
      · have i_54 : ¬ Int32.toInt e_50 = Int32.toInt (-1 : Int32) := fun q => h_54 (Int32.toInt_inj.mp q)
        (try simp only [Int32.toInt_add, Int32.toInt_sub, Int32.toInt_mul, Int32.toInt_toInt64, Int64.toInt_add, z_m1, Int32.reduceToInt, Int64.reduceToInt, Int32.reduceToNatClampNeg, Int.bmod_def] at i_54)
        exact T_57 p_jY
    · have i_35 : ¬ Int32.toInt e_31 = Int32.toInt (-1 : Int32) := fun q => h_35 (Int32.toInt_inj.mp q)
      (try simp only [Int32.toInt_add, Int32.toInt_sub, Int32.toInt_mul, Int32.toInt_toInt64, Int64.toInt_add, z_m1, Int32.reduceToInt, Int64.reduceToInt, Int32.reduceToNatClampNeg, Int.bmod_def] at i_35)
      exact T_57 p_jY
  · have i_16 : ¬ Int32.toInt e_12 = Int32.toInt (-1 : Int32) := fun q => h_16 (Int32.toInt_inj.mp q)
    (try simp only [Int32.toInt_add, Int32.toInt_sub, Int32.toInt_mul, Int32.toInt_toInt64, Int64.toInt_add, z_m1, Int32.reduceToInt, Int64.reduceToInt, Int32.reduceToNatClampNeg, Int.bmod_def] at i_16)
    exact T_57 p_jY
