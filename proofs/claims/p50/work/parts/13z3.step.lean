/-! one step of both readers -/
noncomputable def c_k (Q : Nat) (M_46 : zMt) (N_41 : zNt) : Option (zMt × zNt) :=
  if (M_46 Q 5) < (M_46 Q 4) then
    zB (D_X3_isLetter (zrd 0 (M_46 (Q + 9)) 700 (M_46 Q 5))) fun e_81 =>
    if e_81 = 0 then
      zB (D_X3_isDigit (zrd 0 (M_46 (Q + 9)) 700 (M_46 Q 5))) fun e_95 =>
      if e_95 = 0 then
        if (zrd 0 (M_46 (Q + 9)) 700 (M_46 Q 5)) = (59 : Int32) then
          zLt (zu M_46 Q 6 (3 : Int32)) fun M_116 =>
          zLt (zu M_116 Q 5 ((M_116 Q 5) + (1 : Int32))) fun M_126 =>
          D_X3_step_137 Q M_126 N_41
        else
          zLt (zu M_46 Q 6 (4 : Int32)) fun M_134 =>
          D_X3_step_137 Q M_134 N_41
      else
        zB (D_X3_stepNumber Q M_46) fun e_102 =>
        D_X3_step_137 Q e_102 N_41
    else
      zB (D_X3_stepWord Q M_46 N_41) fun e_88 =>
      D_X3_step_137 Q e_88.1 e_88.2
  else
    zLt (zu M_46 Q 6 (0 : Int32)) fun M_74 =>
    D_X3_step_137 Q M_74 N_41
theorem c_41 {Q : Nat} {A : zMt} {N : zNt} : D_X3_step_41 Q A N = c_k Q (zu A Q 7 (A Q 5)) N := rfl
def c_G (Q n s : Nat) (t : Nat → Int32) (A : zMt) (N : zNt) (a : zMt × zNt) : Prop :=
  (∀ r j, ¬ (r = Q ∧ (j = 5 ∨ j = 6 ∨ j = 7 ∨ j = 9)) → a.1 r j = A r j) ∧ (∀ r j, ¬ (r = Q ∧ j = 8) → a.2 r j = N r j) ∧ a.1 Q 7 = nI s ∧
  (¬ s < n → a.1 Q 6 = 0) ∧
  (s < n → isL (t s) = true → (rn isL t n s - s ≤ 8 → a.1 Q 6 = 1 ∧ a.1 Q 5 = nI (rn isL t n s) ∧ a.2 Q 8 = wv t s (rn isL t n s - s)) ∧ (¬ rn isL t n s - s ≤ 8 → a.1 Q 6 = 4)) ∧
  (s < n → isL (t s) = false → isD (t s) = true → (rn isD t n s - s ≤ 3 → a.1 Q 6 = 2 ∧ a.1 Q 5 = nI (rn isD t n s) ∧ a.1 Q 9 = nv t s (rn isD t n s - s)) ∧ (¬ rn isD t n s - s ≤ 3 → a.1 Q 6 = 4)) ∧
  (s < n → isL (t s) = false → isD (t s) = false → (t s = 59 → a.1 Q 6 = 3 ∧ a.1 Q 5 = nI (s + 1)) ∧ (¬ t s = 59 → a.1 Q 6 = 4)) ∧
  (a.1 Q 9 = A Q 9 ∨ a.1 Q 6 = 2 ∨ a.1 Q 6 = 4)
theorem c_stepk {Q n s : Nat} {t : Nat → Int32} {A : zMt} {N : zNt} (hT : tx Q n t A) (h5 : A Q 5 = nI s) (h7 : A Q 7 = nI s) (hs : s ≤ n) : ∃ a, c_k Q A N = some a ∧ c_G Q n s t A N a := by
  obtain ⟨hn, h4, ht⟩ := id hT
  unfold c_k
  rw [h4, h5]
  by_cases hlt : s < n
  · have hz : zrd 0 (A (Q + 9)) 700 (nI s) = t s := by rw [zrd_nI (by omega) (by decide), ht s hlt]
    rw [if_pos ((nI_ltI (by omega) (by omega)).mpr hlt), hz, zB_s l_let3]
    by_cases hL : isL (t s) = true
    · rw [if_neg (by rw [if01, hL]; decide)]
      have h8 : zu N Q 8 (0 : Int64) Q 8 = wv t s 0 := zu_eq
      obtain ⟨A', N', e1, e2, e3, e4, e5⟩ := c_word (Q := Q) (n := n) (s := s) (t := t) zFu 0 A (zu N Q 8 (0 : Int64)) hT h5 (by omega) h8 (by unfold zFu; omega)
      have e4 : ∀ a j, ¬ (a = Q ∧ j = 5) → A' a j = A a j := e4
      have e0 : D_X3_stepWord Q A N = D_X3_stepWord_76 Q A' N' := e1
      obtain ⟨r1, r2, r3, r4⟩ := rn_spec (p := isL) (t := t) (n := n) (n - s) s (Nat.le_refl _) hs
      have e2 : A' Q 5 = nI (rn isL t n s) := e2
      have e3 : N' Q 8 = wv t s (rn isL t n s - s) := e3
      have e7 : A' Q 7 = nI s := (e4 Q 7 (by omega)).trans h7
      have hsub : A' Q 5 - A' Q 7 = nI (rn isL t n s - s) := by
        rw [e2, e7, show rn isL t n s = s + (rn isL t n s - s) by omega, nI_subk (by omega), Nat.add_sub_cancel_left]
      have e76 : D_X3_stepWord_76 Q A' N' = some (zu A' Q 6 (if rn isL t n s - s ≤ 8 then 1 else 4), N') := by
        unfold D_X3_stepWord_76
        rw [hsub]
        by_cases q : rn isL t n s - s ≤ 8
        · rw [if_neg (by intro z; exact absurd ((ltL (x := 8) (a := 8) (by decide) (by decide) (by omega)).mp z) (by omega)), if_pos q]
          rfl
        · rw [if_pos (by exact (ltL (x := 8) (a := 8) (by decide) (by decide) (by omega)).mpr (by omega)), if_neg q]
          rfl
      rw [zB_s (e0.trans e76)]
      refine ⟨_, rfl, fun r j h => ?_, fun r j h => ?_, ?_, fun q => absurd hlt q, fun _ _ => ⟨fun q => ⟨?_, ?_, e3⟩, fun q => ?_⟩, fun _ q => absurd (q.symm.trans hL) (by decide), fun _ q => absurd (q.symm.trans hL) (by decide), Or.inl ((zu_ne (by omega)).trans (e4 Q 9 (by omega)))⟩
      · exact (zu_ne (by omega)).trans (e4 r j (by omega))
      · exact (e5 r j h).trans (zu_ne h)
      · exact (zu_ne (by omega)).trans e7
      · show zu A' Q 6 _ Q 6 = 1
        rw [zu_eq, if_pos q]
      · exact (zu_ne (by omega)).trans e2
      · show zu A' Q 6 _ Q 6 = 4
        rw [zu_eq, if_neg q]
    · have hL : isL (t s) = false := by cases h : isL (t s) with
        | false => rfl
        | true => exact absurd h hL
      rw [if_pos (by rw [if01]; exact hL), zB_s l_dig3]
      by_cases hD : isD (t s) = true
      · rw [if_neg (by rw [if01, hD]; decide)]
        have k0 : ∀ a j, ¬ (a = Q ∧ j = 9) → zu A Q 9 (0 : Int32) a j = A a j := fun a j h => zu_ne h
        obtain ⟨A', e1, e2, e3, e4⟩ := c_num (Q := Q) (n := n) (s := s) (t := t) zFu 0 (zu A Q 9 (0 : Int32)) (hT.mono (fun a j h => k0 a j (by omega))) ((k0 Q 5 (by omega)).trans h5) (by omega) zu_eq (by unfold zFu; omega)
        have e4 : ∀ a j, ¬ (a = Q ∧ (j = 5 ∨ j = 9)) → A' a j = A a j := fun a j h => (e4 a j h).trans (k0 a j (by omega))
        have e0 : D_X3_stepNumber Q A = D_X3_stepNumber_72 Q A' := e1
        obtain ⟨r1, r2, r3, r4⟩ := rn_spec (p := isD) (t := t) (n := n) (n - s) s (Nat.le_refl _) hs
        have e2 : A' Q 5 = nI (rn isD t n s) := e2
        have e3 : A' Q 9 = nv t s (rn isD t n s - s) := e3
        have e7 : A' Q 7 = nI s := (e4 Q 7 (by omega)).trans h7
        have hsub : A' Q 5 - A' Q 7 = nI (rn isD t n s - s) := by
          rw [e2, e7, show rn isD t n s = s + (rn isD t n s - s) by omega, nI_subk (by omega), Nat.add_sub_cancel_left]
        have e76 : D_X3_stepNumber_72 Q A' = some (zu A' Q 6 (if rn isD t n s - s ≤ 3 then 2 else 4)) := by
          unfold D_X3_stepNumber_72
          rw [hsub]
          by_cases q : rn isD t n s - s ≤ 3
          · rw [if_neg (by intro z; exact absurd ((ltL (x := 3) (a := 3) (by decide) (by decide) (by omega)).mp z) (by omega)), if_pos q]
            rfl
          · rw [if_pos (by exact (ltL (x := 3) (a := 3) (by decide) (by decide) (by omega)).mpr (by omega)), if_neg q]
            rfl
        rw [zB_s (e0.trans e76)]
        refine ⟨_, rfl, fun r j h => ?_, fun r j h => rfl, ?_, fun q => absurd hlt q, fun _ q => absurd (hL.symm.trans q) (by decide), fun _ _ _ => ⟨fun q => ⟨?_, ?_, ?_⟩, fun q => ?_⟩, fun _ _ q => absurd (q.symm.trans hD) (by decide), ?_⟩
        · exact (zu_ne (by omega)).trans (e4 r j (by omega))
        · exact (zu_ne (by omega)).trans e7
        · show zu A' Q 6 _ Q 6 = 2
          rw [zu_eq, if_pos q]
        · exact (zu_ne (by omega)).trans e2
        · exact (zu_ne (by omega)).trans e3
        · show zu A' Q 6 _ Q 6 = 4
          rw [zu_eq, if_neg q]
        · refine Or.inr ?_
          show zu A' Q 6 _ Q 6 = 2 ∨ zu A' Q 6 _ Q 6 = 4
          rw [zu_eq]
          by_cases q : rn isD t n s - s ≤ 3
          · exact Or.inl (if_pos q)
          · exact Or.inr (if_neg q)
      · have hD : isD (t s) = false := by cases h : isD (t s) with
          | false => rfl
          | true => exact absurd h hD
        rw [if_pos (by rw [if01]; exact hD)]
        by_cases h59 : t s = 59
        · rw [if_pos h59]
          have e5 : zu A Q 6 (3 : Int32) Q 5 = nI s := (zu_ne (by omega)).trans h5
          show ∃ a, some (zu (zu A Q 6 (3 : Int32)) Q 5 (zu A Q 6 (3 : Int32) Q 5 + 1), N) = some a ∧ _
          rw [e5, nI_add1]
          refine ⟨_, rfl, fun r j h => (zu_ne (by omega)).trans (zu_ne (by omega)), fun r j h => rfl, (zu_ne (by omega)).trans ((zu_ne (by omega)).trans h7), fun q => absurd hlt q, fun _ q => absurd (hL.symm.trans q) (by decide), fun _ _ q => absurd (hD.symm.trans q) (by decide), fun _ _ _ => ⟨fun _ => ⟨(zu_ne (by omega)).trans zu_eq, zu_eq⟩, fun q => absurd h59 q⟩, Or.inl ((zu_ne (by omega)).trans (zu_ne (by omega)))⟩
        · rw [if_neg h59]
          refine ⟨_, rfl, fun r j h => zu_ne (by omega), fun r j h => rfl, (zu_ne (by omega)).trans h7, fun q => absurd hlt q, fun _ q => absurd (hL.symm.trans q) (by decide), fun _ _ q => absurd (hD.symm.trans q) (by decide), fun _ _ _ => ⟨fun q => absurd q h59, fun _ => zu_eq⟩, Or.inl (zu_ne (by omega))⟩
  · rw [if_neg (fun z => hlt ((nI_ltI (by omega) (by omega)).mp z))]
    refine ⟨_, rfl, fun r j h => zu_ne (by omega), fun r j h => rfl, (zu_ne (by omega)).trans h7, fun _ => zu_eq, fun q => absurd q hlt, fun q => absurd q hlt, fun q => absurd q hlt, Or.inl (zu_ne (by omega))⟩
theorem c_step {Q n x : Nat} {t : Nat → Int32} {A : zMt} {N : zNt} (hT : tx Q n t A) (h5 : A Q 5 = nI x) (hx : x ≤ n) : ∃ a, D_X3_step Q A N = some a ∧ c_G Q n (rn isB t n x) t A N a := by
  obtain ⟨A1, e1, e2, e3⟩ := c_blank (N := N) zFu x A hT h5 hx (by have := hT.1; unfold zFu; omega)
  obtain ⟨r1, r2, -, -⟩ := rn_spec (p := isB) (t := t) (n := n) (n - x) x (Nat.le_refl _) hx
  have k1 : ∀ a j, ¬ (a = Q ∧ (j = 5 ∨ j = 7)) → zu A1 Q 7 (A1 Q 5) a j = A a j := fun a j h => (zu_ne (by omega)).trans (e3 a j (by omega))
  obtain ⟨a, h1, h2, h3, h4, h5, h6, h7, h8, h9⟩ := c_stepk (Q := Q) (n := n) (s := rn isB t n x) (t := t) (A := zu A1 Q 7 (A1 Q 5)) (N := N) (hT.mono (fun a j h => k1 a j (by omega))) ((zu_ne (by omega)).trans e2) (zu_eq.trans e2) r2
  exact ⟨a, (show D_X3_step Q A N = D_X3_step_0 Q zFu A N from rfl).trans (e1.trans (c_41.trans h1)), fun r j h => (h2 r j h).trans (k1 r j (by omega)), h3, h4, h5, h6, h7, h8, by rw [← k1 Q 9 (by omega)]; exact h9⟩
