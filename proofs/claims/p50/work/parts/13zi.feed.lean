/-! FEED: both tapes get the same bytes -/
def bt (v s : Int32) : Int32 := ((Int32.toUInt32 v >>> (Int32.toUInt32 s &&& Int32.toUInt32 31)).toInt32) &&& (255 : Int32)
theorem bt_nn (v s : Int32) : 0 ≤ (bt v s).toInt := by
  have key : ∀ x : Int32, 0 ≤ (x &&& (255 : Int32)).toInt := fun x => by
    have h1 : (x &&& (255 : Int32)).toBitVec.toNat ≤ 255 := by
      rw [Int32.toBitVec_and, BitVec.toNat_and]
      exact Nat.and_le_right
    show 0 ≤ (x &&& (255 : Int32)).toBitVec.toInt
    rw [BitVec.toInt_eq_toNat_cond]
    split <;> omega
  exact key _
/-- four bytes of one number -/
def b4 (v : Int32) (k : Nat) : Int32 := if k = 0 then bt v 24 else if k = 1 then bt v 16 else if k = 2 then bt v 8 else bt v 0
theorem b4_nn (v : Int32) (k : Nat) : 0 ≤ (b4 v k).toInt := by
  unfold b4
  repeat' split
  all_goals exact bt_nn _ _
theorem c_append {C m : Nat} {v : Int32} {A : zMt} (h : A C 1 = nI m) (hm : m + 4 ≤ 700) : ∃ A', D_X7_append C v A = some A' ∧ A' C 1 = nI (m + 4) ∧ (∀ k, k < 4 → A' (C + 1) (m + k) = b4 v k) ∧ (∀ r j, ¬ (r = C ∧ j = 1) → ¬ (r = C + 1 ∧ m ≤ j ∧ j < m + 4) → A' r j = A r j) := by
  have step : ∀ (u : Nat) (s : Int32) (q : Nat) (A : zMt), ¬ s < 0 → A C 1 = nI q → q < 700 → D_X7_append_3 C (u + 1) v s A = D_X7_append_3 C u v (s + (-8)) (zu (zu A (C + 1) q (bt v s)) C 1 (nI (q + 1))) := fun u s q A hs hq hq7 => by
    rw [D_X7_append_3, if_neg hs, hq, zwr_nI hq7 (by decide)]
    show D_X7_append_3 C u v (s + (-8)) (zu (zu A (C + 1) q (bt v s)) C 1 (zu A (C + 1) q (bt v s) C 1 + 1)) = _
    rw [zu_ne (show ¬ (C = C + 1 ∧ 1 = q) by omega), hq, nI_add1]
  have e0 : D_X7_append C v A = D_X7_append_3 C (4294967292 + 1 + 1 + 1 + 1 + 1) v (24 : Int32) A := rfl
  rw [e0, step _ 24 m A (by decide) h (by omega)]
  rw [show (24 : Int32) + (-8) = 16 by decide, step _ 16 (m + 1) _ (by decide) zu_eq (by omega)]
  rw [show (16 : Int32) + (-8) = 8 by decide, step _ 8 (m + 2) _ (by decide) zu_eq (by omega)]
  rw [show (8 : Int32) + (-8) = 0 by decide, step _ 0 (m + 3) _ (by decide) zu_eq (by omega)]
  rw [D_X7_append_3, if_pos (by decide)]
  refine ⟨_, rfl, zu_eq, fun k hk => ?_, fun r j h1 h2 => ?_⟩
  · have : k = 0 ∨ k = 1 ∨ k = 2 ∨ k = 3 := by omega
    rcases this with rfl | rfl | rfl | rfl
    · rw [zu_ne (by omega), zu_ne (by omega), zu_ne (by omega), zu_ne (by omega), zu_ne (by omega), zu_ne (by omega), zu_ne (by omega)]
      exact zu_eq
    · rw [zu_ne (by omega), zu_ne (by omega), zu_ne (by omega), zu_ne (by omega), zu_ne (by omega)]
      exact zu_eq
    · rw [zu_ne (by omega), zu_ne (by omega), zu_ne (by omega)]
      exact zu_eq
    · rw [zu_ne (by omega)]
      exact zu_eq
  · rw [zu_ne (by omega), zu_ne (by omega), zu_ne (by omega), zu_ne (by omega), zu_ne (by omega), zu_ne (by omega), zu_ne (by omega), zu_ne (by omega)]
theorem m_come {P m : Nat} {v : Int32} {B : zMt} (h : B P 11 = nI m) (hm : m + 4 ≤ 700) : ∃ B', D_X8_come P v B = some B' ∧ B' P 11 = nI (m + 4) ∧ (∀ k, k < 4 → B' (P + 7) (m + k) = b4 v k) ∧ (∀ r j, ¬ (r = P ∧ j = 11) → ¬ (r = P + 7 ∧ m ≤ j ∧ j < m + 4) → B' r j = B r j) := by
  have step : ∀ (u : Nat) (s : Int32) (q : Nat) (B : zMt), ¬ s < 0 → B P 11 = nI q → q < 700 → D_X8_come_3 P (u + 1) v s B = D_X8_come_3 P u v (s + (-8)) (zu (zu B (P + 7) q (bt v s)) P 11 (nI (q + 1))) := fun u s q B hs hq hq7 => by
    rw [D_X8_come_3, if_neg hs, hq]
    unfold zI
    rw [if_neg (vp_in_nI hq7 (by decide)), nI_clamp (by omega)]
    show D_X8_come_3 P u v (s + (-8)) (zu (zu B (P + 7) q (bt v s)) P 11 (zu B (P + 7) q (bt v s) P 11 + 1)) = _
    rw [zu_ne (show ¬ (P = P + 7 ∧ 11 = q) by omega), hq, nI_add1]
  have e0 : D_X8_come P v B = D_X8_come_3 P (4294967292 + 1 + 1 + 1 + 1 + 1) v (24 : Int32) B := rfl
  rw [e0, step _ 24 m B (by decide) h (by omega)]
  rw [show (24 : Int32) + (-8) = 16 by decide, step _ 16 (m + 1) _ (by decide) zu_eq (by omega)]
  rw [show (16 : Int32) + (-8) = 8 by decide, step _ 8 (m + 2) _ (by decide) zu_eq (by omega)]
  rw [show (8 : Int32) + (-8) = 0 by decide, step _ 0 (m + 3) _ (by decide) zu_eq (by omega)]
  rw [D_X8_come_3, if_pos (by decide)]
  refine ⟨_, rfl, zu_eq, fun k hk => ?_, fun r j h1 h2 => ?_⟩
  · have : k = 0 ∨ k = 1 ∨ k = 2 ∨ k = 3 := by omega
    rcases this with rfl | rfl | rfl | rfl
    · rw [zu_ne (by omega), zu_ne (by omega), zu_ne (by omega), zu_ne (by omega), zu_ne (by omega), zu_ne (by omega), zu_ne (by omega)]
      exact zu_eq
    · rw [zu_ne (by omega), zu_ne (by omega), zu_ne (by omega), zu_ne (by omega), zu_ne (by omega)]
      exact zu_eq
    · rw [zu_ne (by omega), zu_ne (by omega), zu_ne (by omega)]
      exact zu_eq
    · rw [zu_ne (by omega)]
      exact zu_eq
  · rw [zu_ne (by omega), zu_ne (by omega), zu_ne (by omega), zu_ne (by omega), zu_ne (by omega), zu_ne (by omega), zu_ne (by omega), zu_ne (by omega)]
/-- the tapes, so far as they are filled -/
def tpm (C P m : Nat) (A B : zMt) : Prop := A C 1 = nI m ∧ B P 11 = nI m ∧ ∀ k, k < m → A (C + 1) k = B (P + 7) k ∧ 0 ≤ (A (C + 1) k).toInt
theorem t_app {C P m : Nat} {v : Int32} {A B : zMt} (h : tpm C P m A B) (hm : m + 4 ≤ 700) : ∃ A', D_X7_append C v A = some A' ∧ ∃ B', D_X8_come P v B = some B' ∧ tpm C P (m + 4) A' B' := by
  obtain ⟨h1, h2, h3⟩ := h
  obtain ⟨A', a1, a2, a3, a4⟩ := c_append (v := v) h1 hm
  obtain ⟨B', b1, b2, b3, b4'⟩ := m_come (v := v) h2 hm
  refine ⟨A', a1, B', b1, a2, b2, fun k hk => ?_⟩
  by_cases q : k < m
  · rw [a4 (C + 1) k (by omega) (by omega), b4' (P + 7) k (by omega) (by omega)]
    exact h3 k q
  · have e1 := a3 (k - m) (by omega)
    have e2 := b3 (k - m) (by omega)
    rw [show m + (k - m) = k by omega] at e1 e2
    rw [e1, e2]
    exact ⟨rfl, b4_nn _ _⟩
theorem t_feed {C P : Nat} {v0 v1 v2 v3 v4 : Int32} {A B : zMt} (hT : tpe C P A B) : ∃ a, D_X7_feed C v0 v1 v2 v3 v4 A = some a ∧ ∃ b, D_X8_feed P v0 v1 v2 v3 v4 B = some b ∧ a.1 = b.1 ∧ tpe C P a.2 b.2 := by
  obtain ⟨m, hm, h1, h2, h3⟩ := hT
  have e20 : nI m + (20 : Int32) = nI (m + 20) := by
    apply Int32.toInt_inj.mp
    have e1 : (nI m).toInt = (m : Nat) := nI_toInt (by omega)
    have e3 : (nI (m + 20)).toInt = (m + 20 : Nat) := nI_toInt (by omega)
    have o20 : (20 : Int32).toInt = 20 := by decide
    rw [z_add (by rw [e1, o20]; omega) (by rw [e1, o20]; omega), e1, e3, o20]
    omega
  have b11 : zu B P 6 (0 : Int32) P 11 = nI m := (zu_ne (by omega)).trans h2
  unfold D_X7_feed D_X8_feed
  rw [h1, e20]
  show ∃ a, (if nI (m + 20) ≤ (700 : Int32) then zB (D_X7_append C v0 A) fun e_17 => zB (D_X7_append C v1 e_17) fun e_22 => zB (D_X7_append C v2 e_22) fun e_27 => zB (D_X7_append C v3 e_27) fun e_33 => zB (D_X7_append C v4 e_33) fun e_39 => some ((e_39 C 1), e_39) else some ((-1 : Int32), A)) = some a ∧ ∃ b, (if (zu B P 6 (0 : Int32) P 11) + (20 : Int32) ≤ (700 : Int32) then zB (D_X8_come P v0 (zu B P 6 (0 : Int32))) fun e_22 => zB (D_X8_come P v1 e_22) fun e_27 => zB (D_X8_come P v2 e_27) fun e_32 => zB (D_X8_come P v3 e_32) fun e_38 => zB (D_X8_come P v4 e_38) fun e_44 => some ((e_44 P 11), e_44) else some ((-1 : Int32), zu B P 6 (0 : Int32))) = some b ∧ _
  rw [b11, e20]
  have hB : ∀ j, zu B P 6 (0 : Int32) (P + 7) j = B (P + 7) j := fun j => zu_ne (by omega)
  by_cases q : m + 20 ≤ 700
  · have hle : nI (m + 20) ≤ (700 : Int32) := (leR (x := 700) (b := 700) (by decide) (by decide) (by omega)).mpr q
    rw [if_pos hle, if_pos hle]
    have t0 : tpm C P m A (zu B P 6 (0 : Int32)) := ⟨h1, b11, fun k hk => by rw [hB k]; exact h3 k hk⟩
    obtain ⟨A1, a1, B1, b1, t1⟩ := t_app (v := v0) t0 (by omega)
    rw [zB_s a1, zB_s b1]
    obtain ⟨A2, a2, B2, b2, t2⟩ := t_app (v := v1) t1 (by omega)
    rw [zB_s a2, zB_s b2]
    obtain ⟨A3, a3, B3, b3, t3⟩ := t_app (v := v2) t2 (by omega)
    rw [zB_s a3, zB_s b3]
    obtain ⟨A4, a4, B4, b4', t4⟩ := t_app (v := v3) t3 (by omega)
    rw [zB_s a4, zB_s b4']
    obtain ⟨A5, a5, B5, b5, t5⟩ := t_app (v := v4) t4 (by omega)
    rw [zB_s a5, zB_s b5]
    exact ⟨_, rfl, _, rfl, t5.1.trans t5.2.1.symm, m + 4 + 4 + 4 + 4 + 4, by omega, t5.1, t5.2.1, t5.2.2⟩
  · have hle : ¬ nI (m + 20) ≤ (700 : Int32) := fun z => q ((leR (x := 700) (b := 700) (by decide) (by decide) (by omega)).mp z)
    rw [if_neg hle, if_neg hle]
    exact ⟨_, rfl, _, rfl, rfl, m, hm, h1, b11, fun k hk => by
      show A (C + 1) k = zu B P 6 (0 : Int32) (P + 7) k ∧ _
      rw [hB k]
      exact h3 k hk⟩
