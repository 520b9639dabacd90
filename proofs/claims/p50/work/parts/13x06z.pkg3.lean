/-! the reader's packages -/
/-- how far the reference has read -/
def jX (P : Nat) (M : zMt) : Prop := 0 ≤ (M P 15).toInt ∧ (M P 15).toInt ≤ 700 ∧ 0 ≤ (M P 17).toInt ∧ (M P 17).toInt ≤ (M P 15).toInt
theorem jX.mono {P : Nat} {M M' : zMt} (h : jX P M) (hf : ∀ a j, (a = P ∧ (j = 15 ∨ j = 17)) → M' a j = M a j) : jX P M' := by
  unfold jX
  rw [hf P 15 (by omega), hf P 17 (by omega)]
  exact h
/-- how many names it has read -/
def jY (P : Nat) (M : zMt) : Prop := 0 ≤ (M P 28).toInt ∧ (M P 28).toInt ≤ 5 ∧ 0 ≤ (M P 29).toInt ∧ (M P 29).toInt ≤ 10 ∧ 0 ≤ (M P 30).toInt ∧ (M P 30).toInt ≤ 4
theorem jY.mono {P : Nat} {M M' : zMt} (h : jY P M) (hf : ∀ a j, (a = P ∧ (j = 28 ∨ j = 29 ∨ j = 30)) → M' a j = M a j) : jY P M' := by
  unfold jY
  rw [hf P 28 (by omega), hf P 29 (by omega), hf P 30 (by omega)]
  exact h
