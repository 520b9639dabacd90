/-! FEED: both tapes get the same bytes -/
def bt (v s : Int32) : Int32 := ((Int32.toUInt32 v >>> (Int32.toUInt32 s &&& Int32.toUInt32 31)).toInt32) &&& (255 : Int32)
/-- four bytes of one number -/
def b4 (v : Int32) (k : Nat) : Int32 := if k = 0 then bt v 24 else if k = 1 then bt v 16 else if k = 2 then bt v 8 else bt v 0
theorem c_append {C m : Nat} {v : Int32} {A : zMt} (h : A C 1 = nI m) (hm : m + 4 ≤ 700) : ∃ A', D_X7_append C v A = some A' ∧ A' C 1 = nI (m + 4) ∧ (∀ k, k < 4 → A' (C + 1) (m + k) = b4 v k) ∧ (∀ r j, ¬ (r = C ∧ j = 1) → ¬ (r = C + 1 ∧ m ≤ j ∧ j < m + 4) → A' r j = A r j) := by
  have step : ∀ (u : Nat) (s : Int32) (q : Nat) (A : zMt), ¬ s < 0 → A C 1 = nI q → q < 700 → D_X7_append_3 C (u + 1) v s A = D_X7_append_3 C u v (s + (-8)) (zu (zu A (C + 1) q (bt v s)) C 1 (nI (q + 1))) := fun u s q A hs hq hq7 => by
    rw [D_X7_append_3, if_neg hs, hq, zwr_nI hq7 (by decide)]
    show D_X7_append_3 C u v (s + (-8)) (zu (zu A (C + 1) q (bt v s)) C 1 (zu A (C + 1) q (bt v s) C 1 + 1)) = _
    rw [zu_ne (show ¬ (C = C + 1 ∧ 1 = q) by omega), hq, nI_add1]
  have e0 : D_X7_append C v A = D_X7_append_3 C (4294967292 + 1 + 1 + 1 + 1 + 1) v (24 : Int32) A := rfl
  rw [e0, step _ 24 m A (by decide) h (by omega)]
  rw [show (24 : Int32) + (-8) = 16 by decide, step _ 16 (m + 1) _ (by decide) zu_eq (by omega)]
  rw [show (16 : Int32) + (-8) = 8 by decide, step _ 8 (m + 2) _ (by decide) zu_eq (by omega)]
  rw [show (8 : Int32) + (-8) = 0 by decide, step _ 0 (m + 3) _ (by decide) zu_eq (by omega)]
  rw [D_X7_append_3, if_pos (by decide)]
  refine ⟨_, rfl, zu_eq, fun k hk => ?_, fun r j h1 h2 => ?_⟩
  · have : k = 0 ∨ k = 1 ∨ k = 2 ∨ k = 3 := by omega
    rcases this with rfl | rfl | rfl | rfl
    · rw [zu_ne (by omega), zu_ne (by omega), zu_ne (by omega), zu_ne (by omega), zu_ne (by omega), zu_ne (by omega), zu_ne (by omega)]
      exact zu_eq
    · rw [zu_ne (by omega), zu_ne (by omega), zu_ne (by omega), zu_ne (by omega), zu_ne (by omega)]
      exact zu_eq
    · rw [zu_ne (by omega), zu_ne (by omega), zu_ne (by omega)]
      exact zu_eq
    · rw [zu_ne (by omega)]
      exact zu_eq
  · rw [zu_ne (by omega), zu_ne (by omega), zu_ne (by omega), zu_ne (by omega), zu_ne (by omega), zu_ne (by omega), zu_ne (by omega), zu_ne (by omega)]
