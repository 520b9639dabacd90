/-! an empty row -/
theorem w_begins39 {Q : Nat} : ∀ (u k : Nat) (M : zMt), k ≤ 10 → 10 - k < u → ∃ r, D_X8_begins_39 Q 82 u (nI k) M = some r ∧ ((∀ a j, ¬ (a = Q ∧ (j = 69 ∨ 72 ≤ j ∧ j < 82)) → r a j = M a j) ∧ r Q 69 = 100) := by
  intro u
  induction u with
  | zero => intro k M _ h; omega
  | succ u ih =>
    intro k M hk hu
    rw [D_X8_begins_39]
    refine vIf (fun hc => ?_) (fun hc => ?_)
    · refine vI (by unfold vp_in; decide) ?_
      exact ⟨_, rfl, fun a j h => zu_ne (by rw [show (69 : Int32).toNatClampNeg = 69 by decide]; omega), zu_eq⟩
    · have hlt : k < 10 := Nat.lt_of_not_le (fun q => hc ((nI_leI (a := 10) (b := k) (by decide) (by omega)).mpr q))
      have e : (72 : Int32) + nI k = nI (72 + k) := (show ∀ k, k < 10 → (72 : Int32) + nI k = nI (72 + k) by decide) k hlt
      rw [e]
      refine vI (vp_in_nI (by omega) (by decide)) ?_
      rw [nI_clamp (by omega), nI_1]
      obtain ⟨r, h1, h2, h3⟩ := ih (k + 1) (zu M Q (72 + k) (-1)) (by omega) (by omega)
      exact ⟨r, h1, fun a j h => (h2 a j h).trans (zu_ne (by omega)), h3⟩
theorem w_begins21 {Q : Nat} : ∀ (u k : Nat) (M : zMt), k ≤ 62 → 62 - k < u → ∃ r, D_X8_begins_21 Q 82 u (nI k) M = some r ∧ ((∀ a j, ¬ (a = Q ∧ ((k ≤ j ∧ j < 62) ∨ j = 69 ∨ 72 ≤ j ∧ j < 82)) → r a j = M a j) ∧ (∀ j, k ≤ j → j < 62 → r Q j = -1) ∧ r Q 69 = 100) := by
  intro u
  induction u with
  | zero => intro k M _ h; omega
  | succ u ih =>
    intro k M hk hu
    rw [D_X8_begins_21]
    refine vIf (fun hc => ?_) (fun hc => ?_)
    · obtain ⟨r, h1, h2, h3⟩ := w_begins39 (Q := Q) zFu 0 M (by omega) (by unfold zFu; omega)
      have hk2 : 62 ≤ k := (nI_leI (a := 62) (b := k) (by decide) (by omega)).mp hc
      exact ⟨r, h1, fun a j h => h2 a j (by omega), fun j h4 h5 => by omega, h3⟩
    · have hlt : k < 62 := Nat.lt_of_not_le (fun q => hc ((nI_leI (a := 62) (b := k) (by decide) (by omega)).mpr q))
      refine vI (vp_in_nI (by omega) (by decide)) ?_
      rw [nI_clamp (by omega), nI_1]
      obtain ⟨r, h1, h2, h3, h4⟩ := ih (k + 1) (zu M Q k (-1)) (by omega) (by omega)
      refine ⟨r, h1, fun a j h => (h2 a j (by omega)).trans (zu_ne (by omega)), fun j h5 h6 => ?_, h4⟩
      by_cases q : j = k
      · subst q
        exact (h2 Q j (by omega)).trans zu_eq
      · exact h3 j (by omega) h6
theorem w_begins2 {Q : Nat} : ∀ (u k : Nat) (M : zMt), k ≤ 82 → 82 - k < u → ∃ r, D_X8_begins_2 Q 82 u (nI k) M = some r ∧ ((∀ a j, ¬ (a = Q ∧ j < 82 ∧ (k ≤ j ∨ (10 ≤ j ∧ j < 62) ∨ j = 69 ∨ 72 ≤ j)) → r a j = M a j) ∧ (∀ j, k ≤ j → (j < 10 ∨ (62 ≤ j ∧ j < 69) ∨ j = 70 ∨ j = 71) → r Q j = 0) ∧ (∀ j, 10 ≤ j → j < 62 → r Q j = -1) ∧ r Q 69 = 100) := by
  intro u
  induction u with
  | zero => intro k M _ h; omega
  | succ u ih =>
    intro k M hk hu
    rw [D_X8_begins_2]
    refine vIf (fun hc => ?_) (fun hc => ?_)
    · obtain ⟨r, h1, h2, h3, h4⟩ := w_begins21 (Q := Q) zFu 10 M (by omega) (by unfold zFu; omega)
      have hk2 : 82 ≤ k := (nI_leI (a := 82) (b := k) (by decide) (by omega)).mp hc
      exact ⟨r, h1, fun a j h => h2 a j (by omega), fun j h5 h6 => by omega, h3, h4⟩
    · have hlt : k < 82 := Nat.lt_of_not_le (fun q => hc ((nI_leI (a := 82) (b := k) (by decide) (by omega)).mpr q))
      refine vI (vp_in_nI (by omega) (by decide)) ?_
      rw [nI_clamp (by omega), nI_1]
      obtain ⟨r, h1, h2, h3, h4, h5⟩ := ih (k + 1) (zu M Q k 0) (by omega) (by omega)
      refine ⟨r, h1, fun a j h => (h2 a j (by omega)).trans (zu_ne (by omega)), fun j h6 h7 => ?_, h4, h5⟩
      by_cases q : j = k
      · subst q
        exact (h2 Q j (by omega)).trans zu_eq
      · exact h3 j (by omega) h7
theorem w_X8_begins {Q : Nat} {M0 : zMt} : ∃ r, D_X8_begins Q 82 M0 = some r ∧ ((∀ a j, ¬ (a = Q ∧ j < 82) → r a j = M0 a j) ∧ (∀ j, (j < 10 ∨ (62 ≤ j ∧ j < 69) ∨ j = 70 ∨ j = 71) → r Q j = 0) ∧ (∀ j, 10 ≤ j → j < 62 → r Q j = -1) ∧ r Q 69 = 100) := by
  obtain ⟨r, h1, h2, h3, h4, h5⟩ := w_begins2 (Q := Q) zFu 0 M0 (by omega) (by unfold zFu; omega)
  exact ⟨r, h1, fun a j h => h2 a j (by omega), fun j h => h3 j (by omega) h, h4, h5⟩
theorem jZ.empty {P : Nat} {M : zMt} (h1 : ∀ j, (j < 10 ∨ (62 ≤ j ∧ j < 69) ∨ j = 70 ∨ j = 71) → M (P + 2) j = 0) (h2 : ∀ j, 10 ≤ j → j < 62 → M (P + 2) j = -1) (h3 : M (P + 2) 69 = 100) (a : M P 28 = 0) (b : M P 29 = 0) (c : M P 30 = 0) : jZ P M := by
  have o0 : (0 : Int32).toInt = 0 := by decide
  have o1 : (-1 : Int32).toInt = -1 := by decide
  have o2 : (100 : Int32).toInt = 100 := by decide
  unfold jZ
  rw [a, b, c, o0]
  refine ⟨fun x hx => ?_, fun x hx => ?_, fun k q1 q2 => ?_, fun x hx => ?_, ?_, fun p hp => absurd hp (by omega)⟩
  · rw [h1 x (by omega), o0]; omega
  · rw [h2 (10 + x) (by omega) (by omega), o1]; omega
  · rw [h2 k (by omega) q2, o1]; omega
  · rw [h1 (62 + x) (by omega), o0]; omega
  · rw [h1 67 (by omega), h1 68 (by omega), h3, o0, o2]; omega
