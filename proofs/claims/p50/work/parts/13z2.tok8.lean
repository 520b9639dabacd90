/-! the reference's step -/
theorem m_byte {P n x : Nat} {t : Nat → Int32} {B : zMt} (hT : ty P n t B) (hx : x < n) : D_X8_byteAt P B (nI x) = some (t x) := by
  obtain ⟨hn, h15, ht⟩ := hT
  unfold D_X8_byteAt
  rw [h15, if_neg (fun q => absurd ((nI_leI (by omega) (by omega)).mp q) (by omega))]
  unfold zI
  rw [if_neg (vp_in_nI (by omega) (by decide)), nI_clamp (by omega), (ht x hx).1]
  rfl
theorem m_byte0 {P n x : Nat} {t : Nat → Int32} {B : zMt} (hT : ty P n t B) (hx : n ≤ x) (hx2 : x ≤ 700) : D_X8_byteAt P B (nI x) = some (-1) := by
  obtain ⟨hn, h15, ht⟩ := hT
  unfold D_X8_byteAt
  rw [h15, if_pos ((nI_leI (by omega) (by omega)).mpr hx)]
  rfl
noncomputable def m_at0 (P : Nat) (M_0 : zMt) (N_0 : zNt) : Option (Int32 × zMt × zNt) :=
  zLt (zu M_0 P 16 (M_0 P 17)) fun M_44 =>
  zLt (zu M_44 P 19 (-1 : Int32)) fun M_49 =>
  zB (D_X8_byteAt P M_49 (M_49 P 17)) fun e_57 =>
  if e_57 = (-1 : Int32) then
    zLt (zu M_49 P 18 (0 : Int32)) fun M_68 =>
    D_X8_next_320 P M_68 N_0
  else
    zB (D_X8_isLetter e_57) fun e_75 =>
    if e_75 = 0 then
      zB (D_X8_isDigit e_57) fun e_196 =>
      if e_196 = 0 then
        zLt (zu M_49 P 17 ((M_49 P 17) + (1 : Int32))) fun M_302 =>
        if e_57 = (59 : Int32) then
          D_X8_next_317 P (4 : Int32) M_302 N_0
        else
          D_X8_next_317 P (1 : Int32) M_302 N_0
      else
        zLt (zu M_49 P 20 (0 : Int32)) fun M_204 =>
        D_X8_next_207 P zFu M_204 N_0
    else
      zLt (zu N_0 P 24 (0 : Int64)) fun N_83 =>
      D_X8_next_86 P zFu M_49 N_83
theorem m_next0 {P : Nat} {u : Nat} {M : zMt} {N : zNt} : D_X8_next_0 P (u + 1) M N = zB (D_X8_byteAt P M (M P 17)) fun e_5 =>
    if e_5 = (32 : Int32) then
      D_X8_next_26 P (D_X8_next_0 P u) M N
    else
      zB (D_X8_byteAt P M (M P 17)) fun e_18 =>
      if e_18 = (10 : Int32) then
        D_X8_next_26 P (D_X8_next_0 P u) M N
      else m_at0 P M N := rfl
theorem m_blank {P n : Nat} {t : Nat → Int32} {N : zNt} : ∀ (u x : Nat) (B : zMt), ty P n t B → B P 17 = nI x → x ≤ n → n - x < u → ∃ B', D_X8_next_0 P u B N = m_at0 P B' N ∧ B' P 17 = nI (rn isB t n x) ∧ (∀ a j, ¬ (a = P ∧ j = 17) → B' a j = B a j) := by
  intro u
  induction u with
  | zero => intro x B _ _ _ h; omega
  | succ u ih =>
    intro x B hT h17 hx hu
    obtain ⟨hn, h15, ht⟩ := id hT
    rw [m_next0, h17]
    by_cases hc : n ≤ x
    · rw [zB_s (m_byte0 hT hc (by omega)), if_neg (by decide), zB_s (m_byte0 hT hc (by omega)), if_neg (by decide)]
      exact ⟨B, rfl, by rw [rn_stop (by omega)]; exact h17, fun _ _ _ => rfl⟩
    · have hlt : x < n := by omega
      have go : isB (t x) = true → ∃ B', D_X8_next_26 P (D_X8_next_0 P u) B N = m_at0 P B' N ∧ B' P 17 = nI (rn isB t n x) ∧ (∀ a j, ¬ (a = P ∧ j = 17) → B' a j = B a j) := fun hb => by
        show ∃ B', D_X8_next_0 P u (zu B P 17 (B P 17 + 1)) N = _ ∧ _
        rw [h17, nI_add1]
        have k1 : ∀ a j, ¬ (a = P ∧ j = 17) → zu B P 17 (nI (x + 1)) a j = B a j := fun a j h => zu_ne h
        obtain ⟨B', e1, e2, e3⟩ := ih (x + 1) (zu B P 17 (nI (x + 1))) (hT.mono (fun a j h => k1 a j (by omega))) zu_eq (by omega) (by omega)
        rw [rn_go hlt hb]
        exact ⟨B', e1, e2, fun a j h => (e3 a j h).trans (k1 a j h)⟩
      rw [zB_s (m_byte hT hlt)]
      by_cases h32 : t x = 32
      · rw [if_pos h32]
        exact go (isB_iff.mpr (Or.inr h32))
      · rw [if_neg h32, zB_s (m_byte hT hlt)]
        by_cases h10 : t x = 10
        · rw [if_pos h10]
          exact go (isB_iff.mpr (Or.inl h10))
        · rw [if_neg h10]
          exact ⟨B, rfl, by rw [rn_stop (fun q => (isB_iff.mp q.2).elim h10 h32)]; exact h17, fun _ _ _ => rfl⟩
def xv (t : Nat → Int32) (s : Nat) : Nat → Int64
  | 0 => 0
  | k + 1 => if k < 8 then ((xv t s k <<< (Int32.toInt64 (5 : Int32) &&& 63)) ||| ((Int32.toInt64 (t (s + k))) - (96 : Int64))) else xv t s k
noncomputable def m_w86 (P : Nat) (M_86 : zMt) (N_86 : zNt) : Option (Int32 × zMt × zNt) :=
  if ((M_86 P 17) - (M_86 P 16)) ≤ (8 : Int32) then D_X8_next_171 P (2 : Int32) M_86 N_86 else D_X8_next_171 P (1 : Int32) M_86 N_86
theorem m_next86 {P u : Nat} {M : zMt} {N : zNt} : D_X8_next_86 P (u + 1) M N = zB (D_X8_byteAt P M (M P 17)) fun e_91 =>
    zB (D_X8_isLetter e_91) fun e_94 =>
    if e_94 = 0 then m_w86 P M N
    else
      if (8 : Int32) ≤ ((M P 17) - (M P 16)) then
        D_X8_next_138 P (D_X8_next_86 P u) M N
      else
        zB (D_X8_byteAt P M (M P 17)) fun e_126 =>
        zLt (zu N P 24 (((N P 24) <<< (Int32.toInt64 (5 : Int32) &&& 63)) ||| ((Int32.toInt64 e_126) - (96 : Int64)))) fun N_135 =>
        D_X8_next_138 P (D_X8_next_86 P u) M N_135 := rfl
theorem nI_subk {s k : Nat} (h : s + k ≤ 700) : nI (s + k) - nI s = nI k := by
  apply Int32.toInt_inj.mp
  have e1 : (nI (s + k)).toInt = (s + k : Nat) := nI_toInt (by omega)
  have e2 : (nI s).toInt = (s : Nat) := nI_toInt (by omega)
  have e3 : (nI k).toInt = (k : Nat) := nI_toInt (by omega)
  rw [z_sub (by rw [e1, e2]; omega) (by rw [e1, e2]; omega), e1, e2, e3]
  omega
theorem notL : isL (-1) = false := by decide
theorem notD : isD (-1) = false := by decide
theorem m_word {P n s : Nat} {t : Nat → Int32} : ∀ (u k : Nat) (B : zMt) (N : zNt), ty P n t B → B P 17 = nI (s + k) → B P 16 = nI s → s + k ≤ n → N P 24 = xv t s k → n - (s + k) < u → ∃ B' N', D_X8_next_86 P u B N = m_w86 P B' N' ∧ B' P 17 = nI (rn isL t n (s + k)) ∧ N' P 24 = xv t s (rn isL t n (s + k) - s) ∧ (∀ a j, ¬ (a = P ∧ j = 17) → B' a j = B a j) ∧ (∀ a j, ¬ (a = P ∧ j = 24) → N' a j = N a j) := by
  intro u
  induction u with
  | zero => intro k B N _ _ _ _ _ h; omega
  | succ u ih =>
    intro k B N hT h17 h16 hx h24 hu
    obtain ⟨hn, h15, ht⟩ := id hT
    have fin : rn isL t n (s + k) = s + k → ∃ B' N', m_w86 P B N = m_w86 P B' N' ∧ B' P 17 = nI (rn isL t n (s + k)) ∧ N' P 24 = xv t s (rn isL t n (s + k) - s) ∧ (∀ a j, ¬ (a = P ∧ j = 17) → B' a j = B a j) ∧ (∀ a j, ¬ (a = P ∧ j = 24) → N' a j = N a j) := fun e => ⟨B, N, rfl, by rw [e]; exact h17, by rw [e, Nat.add_sub_cancel_left]; exact h24, fun _ _ _ => rfl, fun _ _ _ => rfl⟩
    rw [m_next86, h17]
    by_cases hc : n ≤ s + k
    · rw [zB_s (m_byte0 hT hc (by omega)), zB_s l_let8, notL, if_pos (by decide)]
      exact fin (rn_stop (by omega))
    · have hlt : s + k < n := by omega
      rw [zB_s (m_byte hT hlt), zB_s l_let8]
      by_cases hb : isL (t (s + k)) = true
      · rw [if_neg (by rw [if01, hb]; decide), h16, nI_subk (by omega), rn_go hlt hb]
        by_cases h8 : k < 8
        · rw [if_neg (by intro q; exact absurd ((leL (x := 8) (a := 8) (by decide) (by decide) (by omega)).mp q) (by omega)), zB_s (m_byte hT hlt), h24]
          show ∃ B' N', D_X8_next_86 P u (zu B P 17 (B P 17 + 1)) (zu N P 24 ((xv t s k <<< (Int32.toInt64 (5 : Int32) &&& 63)) ||| ((Int32.toInt64 (t (s + k))) - (96 : Int64)))) = _ ∧ _
          have ex : xv t s (k + 1) = ((xv t s k <<< (Int32.toInt64 (5 : Int32) &&& 63)) ||| ((Int32.toInt64 (t (s + k))) - (96 : Int64))) := if_pos h8
          rw [h17, nI_add1, ← ex]
          have k1 : ∀ a j, ¬ (a = P ∧ j = 17) → zu B P 17 (nI (s + k + 1)) a j = B a j := fun a j h => zu_ne h
          obtain ⟨B', N', e1, e2, e3, e4, e5⟩ := ih (k + 1) (zu B P 17 (nI (s + k + 1))) (zu N P 24 (xv t s (k + 1))) (hT.mono (fun a j h => k1 a j (by omega))) zu_eq ((k1 P 16 (by omega)).trans h16) (by omega) zu_eq (by omega)
          exact ⟨B', N', e1, e2, e3, fun a j h => (e4 a j h).trans (k1 a j h), fun a j h => (e5 a j h).trans (zu_ne h)⟩
        · rw [if_pos (by exact (leL (x := 8) (a := 8) (by decide) (by decide) (by omega)).mpr (by omega))]
          show ∃ B' N', D_X8_next_86 P u (zu B P 17 (B P 17 + 1)) N = _ ∧ _
          have ex : xv t s (k + 1) = xv t s k := if_neg h8
          rw [h17, nI_add1]
          have k1 : ∀ a j, ¬ (a = P ∧ j = 17) → zu B P 17 (nI (s + k + 1)) a j = B a j := fun a j h => zu_ne h
          obtain ⟨B', N', e1, e2, e3, e4, e5⟩ := ih (k + 1) (zu B P 17 (nI (s + k + 1))) N (hT.mono (fun a j h => k1 a j (by omega))) zu_eq ((k1 P 16 (by omega)).trans h16) (by omega) (h24.trans ex.symm) (by omega)
          exact ⟨B', N', e1, e2, e3, fun a j h => (e4 a j h).trans (k1 a j h), e5⟩
      · have hb : isL (t (s + k)) = false := by cases h : isL (t (s + k)) with
          | false => rfl
          | true => exact absurd h hb
        rw [if_pos (by rw [if01]; exact hb)]
        exact fin (rn_stop (by rw [hb]; rintro ⟨_, q⟩; cases q))
def yv (t : Nat → Int32) (s : Nat) : Nat → Int32
  | 0 => 0
  | k + 1 => if k < 3 then (((10 : Int32) * yv t s k) + t (s + k)) - (48 : Int32) else yv t s k
noncomputable def m_w207 (P : Nat) (M : zMt) (N : zNt) : Option (Int32 × zMt × zNt) :=
  if ((M P 17) - (M P 16)) ≤ (3 : Int32) then D_X8_next_289 P (3 : Int32) M N else D_X8_next_289 P (1 : Int32) M N
theorem m_next207 {P u : Nat} {M : zMt} {N : zNt} : D_X8_next_207 P (u + 1) M N = zB (D_X8_byteAt P M (M P 17)) fun e_212 =>
    zB (D_X8_isDigit e_212) fun e_215 =>
    if e_215 = 0 then m_w207 P M N
    else
      if (3 : Int32) ≤ ((M P 17) - (M P 16)) then
        D_X8_next_257 P (D_X8_next_207 P u) M N
      else
        zB (D_X8_byteAt P M (M P 17)) fun e_247 =>
        zLt (zu M P 20 ((((10 : Int32) * (M P 20)) + e_247) - (48 : Int32))) fun M_254 =>
        D_X8_next_257 P (D_X8_next_207 P u) M_254 N := rfl
theorem m_num {P n s : Nat} {t : Nat → Int32} {N : zNt} : ∀ (u k : Nat) (B : zMt), ty P n t B → B P 17 = nI (s + k) → B P 16 = nI s → s + k ≤ n → B P 20 = yv t s k → n - (s + k) < u → ∃ B', D_X8_next_207 P u B N = m_w207 P B' N ∧ B' P 17 = nI (rn isD t n (s + k)) ∧ B' P 20 = yv t s (rn isD t n (s + k) - s) ∧ (∀ a j, ¬ (a = P ∧ (j = 17 ∨ j = 20)) → B' a j = B a j) := by
  intro u
  induction u with
  | zero => intro k B _ _ _ _ _ h; omega
  | succ u ih =>
    intro k B hT h17 h16 hx h20 hu
    obtain ⟨hn, h15, ht⟩ := id hT
    have fin : rn isD t n (s + k) = s + k → ∃ B', m_w207 P B N = m_w207 P B' N ∧ B' P 17 = nI (rn isD t n (s + k)) ∧ B' P 20 = yv t s (rn isD t n (s + k) - s) ∧ (∀ a j, ¬ (a = P ∧ (j = 17 ∨ j = 20)) → B' a j = B a j) := fun e => ⟨B, rfl, by rw [e]; exact h17, by rw [e, Nat.add_sub_cancel_left]; exact h20, fun _ _ _ => rfl⟩
    rw [m_next207, h17]
    by_cases hc : n ≤ s + k
    · rw [zB_s (m_byte0 hT hc (by omega)), zB_s l_dig8, notD, if_pos (by decide)]
      exact fin (rn_stop (by omega))
    · have hlt : s + k < n := by omega
      rw [zB_s (m_byte hT hlt), zB_s l_dig8]
      by_cases hb : isD (t (s + k)) = true
      · rw [if_neg (by rw [if01, hb]; decide), h16, nI_subk (by omega), rn_go hlt hb]
        by_cases h8 : k < 3
        · rw [if_neg (by intro q; exact absurd ((leL (x := 3) (a := 3) (by decide) (by decide) (by omega)).mp q) (by omega)), zB_s (m_byte hT hlt), h20]
          have e17 : ∀ v : Int32, zu B P 20 v P 17 = nI (s + k) := fun v => (zu_ne (by omega)).trans h17
          have ex : yv t s (k + 1) = (((10 : Int32) * yv t s k) + t (s + k)) - (48 : Int32) := if_pos h8
          rw [← ex]
          show ∃ B', D_X8_next_207 P u (zu (zu B P 20 (yv t s (k + 1))) P 17 (zu B P 20 (yv t s (k + 1)) P 17 + 1)) N = _ ∧ _
          rw [e17, nI_add1]
          have k1 : ∀ a j, ¬ (a = P ∧ (j = 17 ∨ j = 20)) → zu (zu B P 20 (yv t s (k + 1))) P 17 (nI (s + k + 1)) a j = B a j := fun a j h => (zu_ne (by omega)).trans (zu_ne (by omega))
          obtain ⟨B', e1, e2, e3, e4⟩ := ih (k + 1) (zu (zu B P 20 (yv t s (k + 1))) P 17 (nI (s + k + 1))) (hT.mono (fun a j h => k1 a j (by omega))) zu_eq ((k1 P 16 (by omega)).trans h16) (by omega) ((zu_ne (by omega)).trans zu_eq) (by omega)
          exact ⟨B', e1, e2, e3, fun a j h => (e4 a j h).trans (k1 a j h)⟩
        · rw [if_pos (by exact (leL (x := 3) (a := 3) (by decide) (by decide) (by omega)).mpr (by omega))]
          show ∃ B', D_X8_next_207 P u (zu B P 17 (B P 17 + 1)) N = _ ∧ _
          have ex : yv t s (k + 1) = yv t s k := if_neg h8
          rw [h17, nI_add1]
          have k1 : ∀ a j, ¬ (a = P ∧ j = 17) → zu B P 17 (nI (s + k + 1)) a j = B a j := fun a j h => zu_ne h
          obtain ⟨B', e1, e2, e3, e4⟩ := ih (k + 1) (zu B P 17 (nI (s + k + 1))) (hT.mono (fun a j h => k1 a j (by omega))) zu_eq ((k1 P 16 (by omega)).trans h16) (by omega) ((k1 P 20 (by omega)).trans (h20.trans ex.symm)) (by omega)
          exact ⟨B', e1, e2, e3, fun a j h => (e4 a j h).trans (k1 a j (by omega))⟩
      · have hb : isD (t (s + k)) = false := by cases h : isD (t (s + k)) with
          | false => rfl
          | true => exact absurd h hb
        rw [if_pos (by rw [if01]; exact hb)]
        exact fin (rn_stop (by rw [hb]; rintro ⟨_, q⟩; cases q))
