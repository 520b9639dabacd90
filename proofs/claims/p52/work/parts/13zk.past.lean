/-! WHAT STOOD: the class keeps registers in a ring, the reference rows one behind the other -/
def ent (Q nw K k : Nat) : Nat := Q + 2 + 8 * ((nw + 9 + k - K) % 8)
def pst (Q P : Nat) (A B : zMt) (g : Nat → Int32) (U H K : Nat) : Prop :=
  K ≤ 8 ∧ A Q 0 = nI K ∧ B P 9 = nI K ∧ ∃ nw, nw < 8 ∧ A Q 1 = nI nw ∧ ∀ k, k < K → ∃ G, gR (ent Q nw K k) A (fun j => B (P + 4) (82 * k + j)) g U H G
theorem nI_subn {x y : Nat} (h : y ≤ x) (hx : x < 2147483648) : nI x - nI y = nI (x - y) := by
  apply Int32.toInt_inj.mp
  have e1 : (nI x).toInt = (x : Nat) := nI_toInt (by omega)
  have e2 : (nI y).toInt = (y : Nat) := nI_toInt (by omega)
  have e3 : (nI (x - y)).toInt = (x - y : Nat) := nI_toInt (by omega)
  rw [z_sub (by rw [e1, e2]; omega) (by rw [e1, e2]; omega), e1, e2, e3]
  omega
