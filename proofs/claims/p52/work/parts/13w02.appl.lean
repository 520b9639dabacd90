/-- c applicants stand: where their choices are, and one hunter of each -/
def jQ (P : Nat) (H : Int) (M : zMt) (c : Nat) : Prop := ∀ a : Nat, a < c → 20 ≤ (M (P + 13) a).toInt ∧ (M (P + 13) a).toInt ≤ 59 ∧ ∃ h : Nat, (h : Int) < H ∧ bitAt (M (P + 11) a) h
theorem jQ.put {P : Nat} {H : Int} {M M' : zMt} {c : Nat} (h : jQ P H M c) (h1 : ∀ a : Nat, a < c → M' (P + 13) a = M (P + 13) a ∧ M' (P + 11) a = M (P + 11) a) (h2 : 20 ≤ (M' (P + 13) c).toInt ∧ (M' (P + 13) c).toInt ≤ 59 ∧ ∃ h : Nat, (h : Int) < H ∧ bitAt (M' (P + 11) c) h) : jQ P H M' (c + 1) := by
  intro a ha
  by_cases q : a = c
  · subst q; exact h2
  · obtain ⟨e1, e2⟩ := h1 a (by omega)
    rw [e1, e2]
    exact h a (by omega)
theorem z_m1 : (-1 : Int32).toInt = -1 := by decide
