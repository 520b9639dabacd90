/-! draw, both sides -/
theorem rM.k {P n U : Nat} {B B' s : zMt} (h : rM P B s n U) (k : ∀ i j, P + 19 ≤ i → i ≤ P + 22 → B' i j = B i j) : rM P B' s n U :=
  ⟨fun a ha => by rw [k _ _ (by omega) (by omega), k _ _ (by omega) (by omega)]; exact h.1 a ha, fun v hv => by rw [k _ _ (by omega) (by omega), k _ _ (by omega) (by omega)]; exact h.2 v hv⟩
theorem rC.k {S n U : Nat} {A A' s : zMt} (h : rC S A s n U) (k : ∀ i j, S + 2 ≤ i → i ≤ S + 5 → A' i j = A i j) : rC S A' s n U :=
  ⟨fun a ha => by rw [k _ _ (by omega) (by omega), k _ _ (by omega) (by omega)]; exact h.1 a ha, fun v hv => by rw [k _ _ (by omega) (by omega), k _ _ (by omega) (by omega)]; exact h.2 v hv⟩
