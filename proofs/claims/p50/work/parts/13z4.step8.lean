def m_G (P n s : Nat) (t : Nat → Int32) (B : zMt) (N : zNt) (b : Int32 × zMt × zNt) : Prop :=
  (∀ r j, ¬ (r = P ∧ (16 ≤ j ∧ j ≤ 20)) → b.2.1 r j = B r j) ∧ (∀ r j, ¬ (r = P ∧ j = 24) → b.2.2 r j = N r j) ∧ b.1 = 1 ∧ b.2.1 P 16 = nI s ∧
  (¬ s < n → b.2.1 P 18 = 0) ∧
  (s < n → isL (t s) = true → (rn isL t n s - s ≤ 8 → b.2.1 P 18 = 2 ∧ b.2.1 P 17 = nI (rn isL t n s) ∧ b.2.2 P 24 = xv t s (rn isL t n s - s) ∧ D_X8_among P 11 b.2.2 = some (b.2.1 P 19)) ∧ (¬ rn isL t n s - s ≤ 8 → b.2.1 P 18 = 1)) ∧
  (s < n → isL (t s) = false → isD (t s) = true → (rn isD t n s - s ≤ 3 → b.2.1 P 18 = 3 ∧ b.2.1 P 17 = nI (rn isD t n s) ∧ b.2.1 P 20 = yv t s (rn isD t n s - s)) ∧ (¬ rn isD t n s - s ≤ 3 → b.2.1 P 18 = 1)) ∧
  (s < n → isL (t s) = false → isD (t s) = false → (t s = 59 → b.2.1 P 18 = 4 ∧ b.2.1 P 17 = nI (s + 1)) ∧ (¬ t s = 59 → b.2.1 P 18 = 1))
noncomputable def m_k (P : Nat) (M_49 : zMt) (N_0 : zNt) : Option (Int32 × zMt × zNt) :=
  zB (D_X8_byteAt P M_49 (M_49 P 17)) fun e_57 =>
  if e_57 = (-1 : Int32) then
    zLt (zu M_49 P 18 (0 : Int32)) fun M_68 =>
    D_X8_next_320 P M_68 N_0
  else
    zB (D_X8_isLetter e_57) fun e_75 =>
    if e_75 = 0 then
      zB (D_X8_isDigit e_57) fun e_196 =>
      if e_196 = 0 then
        zLt (zu M_49 P 17 ((M_49 P 17) + (1 : Int32))) fun M_302 =>
        if e_57 = (59 : Int32) then
          D_X8_next_317 P (4 : Int32) M_302 N_0
        else
          D_X8_next_317 P (1 : Int32) M_302 N_0
      else
        zLt (zu M_49 P 20 (0 : Int32)) fun M_204 =>
        D_X8_next_207 P zFu M_204 N_0
    else
      zLt (zu N_0 P 24 (0 : Int64)) fun N_83 =>
      D_X8_next_86 P zFu M_49 N_83
theorem m_atk {P : Nat} {B : zMt} {N : zNt} : m_at0 P B N = m_k P (zu (zu B P 16 (B P 17)) P 19 (-1 : Int32)) N := rfl
theorem m_stepk {P n s : Nat} {t : Nat → Int32} {B : zMt} {N : zNt} (hT : ty P n t B) (h17 : B P 17 = nI s) (h16 : B P 16 = nI s) (hs : s ≤ n) : ∃ b, m_k P B N = some b ∧ m_G P n s t B N b := by
  obtain ⟨hn, h15, ht⟩ := id hT
  unfold m_k
  rw [h17]
  by_cases hlt : s < n
  · have hne : ¬ t s = -1 := fun q => by
      have h0 := (ht s hlt).2
      rw [q] at h0
      exact absurd h0 (by decide)
    rw [zB_s (m_byte hT hlt), if_neg hne, zB_s l_let8]
    by_cases hL : isL (t s) = true
    · rw [if_neg (by rw [if01, hL]; decide)]
      obtain ⟨B', N', e1, e2, e3, e4, e5⟩ := m_word (P := P) (n := n) (s := s) (t := t) zFu 0 B (zu N P 24 (0 : Int64)) hT h17 h16 (by omega) zu_eq (by unfold zFu; omega)
      have e4 : ∀ a j, ¬ (a = P ∧ j = 17) → B' a j = B a j := e4
      have e5 : ∀ a j, ¬ (a = P ∧ j = 24) → N' a j = N a j := fun a j h => (e5 a j h).trans (zu_ne h)
      obtain ⟨r1, r2, r3, r4⟩ := rn_spec (p := isL) (t := t) (n := n) (n - s) s (Nat.le_refl _) hs
      have e2 : B' P 17 = nI (rn isL t n s) := e2
      have e3 : N' P 24 = xv t s (rn isL t n s - s) := e3
      have e16 : B' P 16 = nI s := (e4 P 16 (by omega)).trans h16
      have hsub : B' P 17 - B' P 16 = nI (rn isL t n s - s) := by
        rw [e2, e16, show rn isL t n s = s + (rn isL t n s - s) by omega, nI_subk (by omega), Nat.add_sub_cancel_left]
      show ∃ b, D_X8_next_86 P zFu B (zu N P 24 (0 : Int64)) = some b ∧ _
      rw [e1]
      unfold m_w86
      rw [hsub]
      by_cases q : rn isL t n s - s ≤ 8
      · rw [if_pos (by exact (leR (x := 8) (b := 8) (by decide) (by decide) (by omega)).mpr q)]
        obtain ⟨w, hw, -⟩ := v_X8_among (P := P) (w0 := 11) (N := N') (by decide)
        show ∃ b, (if zu B' P 18 (2 : Int32) P 18 = (2 : Int32) then zB (D_X8_among P 11 N') fun e_186 => zLt (zu (zu B' P 18 (2 : Int32)) P 19 e_186) fun M_189 => D_X8_next_320 P M_189 N' else _) = some b ∧ _
        rw [if_pos zu_eq, zB_s hw]
        refine ⟨_, rfl, fun r j h => (zu_ne (by omega)).trans ((zu_ne (by omega)).trans (e4 r j (by omega))), e5, rfl, (zu_ne (by omega)).trans ((zu_ne (by omega)).trans e16), fun z => absurd hlt z, fun _ _ => ⟨fun _ => ⟨(zu_ne (by omega)).trans zu_eq, (zu_ne (by omega)).trans ((zu_ne (by omega)).trans e2), e3, ?_⟩, fun z => absurd q z⟩, fun _ z => absurd (z.symm.trans hL) (by decide), fun _ z => absurd (z.symm.trans hL) (by decide)⟩
        show D_X8_among P 11 N' = some (zu (zu B' P 18 (2 : Int32)) P 19 w P 19)
        rw [zu_eq]
        exact hw
      · rw [if_neg (fun z => q ((leR (x := 8) (b := 8) (by decide) (by decide) (by omega)).mp z))]
        show ∃ b, (if zu B' P 18 (1 : Int32) P 18 = (2 : Int32) then _ else D_X8_next_320 P (zu B' P 18 (1 : Int32)) N') = some b ∧ _
        rw [if_neg (by rw [zu_eq]; decide)]
        refine ⟨_, rfl, fun r j h => (zu_ne (by omega)).trans (e4 r j (by omega)), e5, rfl, (zu_ne (by omega)).trans e16, fun z => absurd hlt z, fun _ _ => ⟨fun z => absurd z q, fun _ => zu_eq⟩, fun _ z => absurd (z.symm.trans hL) (by decide), fun _ z => absurd (z.symm.trans hL) (by decide)⟩
    · have hL : isL (t s) = false := by cases h : isL (t s) with
        | false => rfl
        | true => exact absurd h hL
      rw [if_pos (by rw [if01]; exact hL), zB_s l_dig8]
      by_cases hD : isD (t s) = true
      · rw [if_neg (by rw [if01, hD]; decide)]
        have k0 : ∀ a j, ¬ (a = P ∧ j = 20) → zu B P 20 (0 : Int32) a j = B a j := fun a j h => zu_ne h
        obtain ⟨B', e1, e2, e3, e4⟩ := m_num (P := P) (n := n) (s := s) (t := t) (N := N) zFu 0 (zu B P 20 (0 : Int32)) (hT.mono (fun a j h => k0 a j (by omega))) ((k0 P 17 (by omega)).trans h17) ((k0 P 16 (by omega)).trans h16) (by omega) zu_eq (by unfold zFu; omega)
        have e4 : ∀ a j, ¬ (a = P ∧ (j = 17 ∨ j = 20)) → B' a j = B a j := fun a j h => (e4 a j h).trans (k0 a j (by omega))
        obtain ⟨r1, r2, r3, r4⟩ := rn_spec (p := isD) (t := t) (n := n) (n - s) s (Nat.le_refl _) hs
        have e2 : B' P 17 = nI (rn isD t n s) := e2
        have e3 : B' P 20 = yv t s (rn isD t n s - s) := e3
        have e16 : B' P 16 = nI s := (e4 P 16 (by omega)).trans h16
        have hsub : B' P 17 - B' P 16 = nI (rn isD t n s - s) := by
          rw [e2, e16, show rn isD t n s = s + (rn isD t n s - s) by omega, nI_subk (by omega), Nat.add_sub_cancel_left]
        show ∃ b, D_X8_next_207 P zFu (zu B P 20 (0 : Int32)) N = some b ∧ _
        rw [e1]
        unfold m_w207
        rw [hsub]
        by_cases q : rn isD t n s - s ≤ 3
        · rw [if_pos (by exact (leR (x := 3) (b := 3) (by decide) (by decide) (by omega)).mpr q)]
          refine ⟨_, rfl, fun r j h => (zu_ne (by omega)).trans (e4 r j (by omega)), fun _ _ _ => rfl, rfl, (zu_ne (by omega)).trans e16, fun z => absurd hlt z, fun _ z => absurd (hL.symm.trans z) (by decide), fun _ _ _ => ⟨fun _ => ⟨zu_eq, (zu_ne (by omega)).trans e2, (zu_ne (by omega)).trans e3⟩, fun z => absurd q z⟩, fun _ _ z => absurd (z.symm.trans hD) (by decide)⟩
        · rw [if_neg (fun z => q ((leR (x := 3) (b := 3) (by decide) (by decide) (by omega)).mp z))]
          refine ⟨_, rfl, fun r j h => (zu_ne (by omega)).trans (e4 r j (by omega)), fun _ _ _ => rfl, rfl, (zu_ne (by omega)).trans e16, fun z => absurd hlt z, fun _ z => absurd (hL.symm.trans z) (by decide), fun _ _ _ => ⟨fun z => absurd z q, fun _ => zu_eq⟩, fun _ _ z => absurd (z.symm.trans hD) (by decide)⟩
      · have hD : isD (t s) = false := by cases h : isD (t s) with
          | false => rfl
          | true => exact absurd h hD
        rw [if_pos (by rw [if01]; exact hD)]
        show ∃ b, (if t s = (59 : Int32) then D_X8_next_317 P (4 : Int32) (zu B P 17 (nI s + (1 : Int32))) N else D_X8_next_317 P (1 : Int32) (zu B P 17 (nI s + (1 : Int32))) N) = some b ∧ _
        rw [nI_add1]
        by_cases h59 : t s = 59
        · rw [if_pos h59]
          refine ⟨_, rfl, fun r j h => (zu_ne (by omega)).trans (zu_ne (by omega)), fun _ _ _ => rfl, rfl, (zu_ne (by omega)).trans ((zu_ne (by omega)).trans h16), fun z => absurd hlt z, fun _ z => absurd (hL.symm.trans z) (by decide), fun _ _ z => absurd (hD.symm.trans z) (by decide), fun _ _ _ => ⟨fun _ => ⟨zu_eq, (zu_ne (by omega)).trans zu_eq⟩, fun z => absurd h59 z⟩⟩
        · rw [if_neg h59]
          refine ⟨_, rfl, fun r j h => (zu_ne (by omega)).trans (zu_ne (by omega)), fun _ _ _ => rfl, rfl, (zu_ne (by omega)).trans ((zu_ne (by omega)).trans h16), fun z => absurd hlt z, fun _ z => absurd (hL.symm.trans z) (by decide), fun _ _ z => absurd (hD.symm.trans z) (by decide), fun _ _ _ => ⟨fun z => absurd z h59, fun _ => zu_eq⟩⟩
  · rw [zB_s (m_byte0 hT (by omega) (by omega)), if_pos rfl]
    refine ⟨_, rfl, fun r j h => zu_ne (by omega), fun _ _ _ => rfl, rfl, (zu_ne (by omega)).trans h16, fun _ => zu_eq, fun z => absurd z hlt, fun z => absurd z hlt, fun z => absurd z hlt⟩
theorem m_step {P n x : Nat} {t : Nat → Int32} {B : zMt} {N : zNt} (hT : ty P n t B) (h17 : B P 17 = nI x) (hx : x ≤ n) : ∃ b, D_X8_next P B N = some b ∧ m_G P n (rn isB t n x) t B N b := by
  obtain ⟨B1, e1, e2, e3⟩ := m_blank (N := N) zFu x B hT h17 hx (by have := hT.1; unfold zFu; omega)
  obtain ⟨r1, r2, -, -⟩ := rn_spec (p := isB) (t := t) (n := n) (n - x) x (Nat.le_refl _) hx
  have k1 : ∀ a j, ¬ (a = P ∧ (16 ≤ j ∧ j ≤ 20)) → zu (zu B1 P 16 (B1 P 17)) P 19 (-1 : Int32) a j = B a j := fun a j h => (zu_ne (by omega)).trans ((zu_ne (by omega)).trans (e3 a j (by omega)))
  obtain ⟨b, h1, h2, h3, h4⟩ := m_stepk (P := P) (n := n) (s := rn isB t n x) (t := t) (B := zu (zu B1 P 16 (B1 P 17)) P 19 (-1 : Int32)) (N := N) (hT.mono (fun a j h => k1 a j (by omega))) ((zu_ne (by omega)).trans ((zu_ne (by omega)).trans e2)) ((zu_ne (by omega)).trans (zu_eq.trans e2)) r2
  exact ⟨b, (show D_X8_next P B N = D_X8_next_0 P zFu B N from rfl).trans (e1.trans (m_atk.trans h1)), fun r j h => (h2 r j h).trans (k1 r j h), h3, h4⟩
