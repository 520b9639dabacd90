theorem two.tr {α β γ : Type} {X : Option α} {Y : Option (β × γ)} {R : α → β × γ → Prop} {f : β × γ → Option (β × γ)} (h : two X Y R) (hf : ∀ e, f e = some (e.1, e.2)) : two X (zB Y f) R := by
  obtain ⟨a, h1, b, h2, h3⟩ := h
  rw [h2]
  exact ⟨a, h1, b, hf b, h3⟩
/-- one number of a list -/
theorem gR.put {R i k x : Nat} {A : zMt} {r r' g : Nat → Int32} {U H G : Nat} {v : Int32} (w : gR R A r g U H G) (hc : (i = 2 ∧ k < 10 ∧ x = k) ∨ (i = 1 ∧ k < U ∧ x = 62 + k) ∨ (i = 0 ∧ 3 ≤ k ∧ k ≤ 5 ∧ x = 64 + k)) (e : r' x = v) (b : ∀ j, j < 82 → ¬ j = x → r' j = r j) : gR R (zu A (R + i) k v) r' g U H G := by
  obtain ⟨⟨c1, c2, c3, c4, c5, c6, c7⟩, r1, r2, r3, r4, r5, r6, r9, ⟨s1, s2, s3, s4⟩, u3, u4, u5⟩ := w
  have ne : ∀ a j, ¬ (a = R + i ∧ j = k) → zu A (R + i) k v a j = A a j := fun a j h => zu_ne h
  have ws : ∀ h base, h < 10 → 20 ≤ base → base ≤ 59 → wsR R A r h base → wsR R (zu A (R + i) k v) r' h base := fun h base h1 h2 h3 q => q.k (ne _ _ (by omega)) (fun y _ => ne _ _ (by omega)) (fun y _ => b _ (by omega) (by omega))
  refine ⟨⟨c1, c2, c3, (ne _ _ (by omega)).trans c4, (ne _ _ (by omega)).trans c5, (ne _ _ (by omega)).trans c6, (b _ (by omega) (by omega)).trans c7⟩, fun u hu => ?_, fun h hh => ?_, fun h hh => ?_, fun h hh => ?_, fun h hh he => ?_, fun h p hh hp he => ?_, fun p hp => ?_, ⟨?_, ?_, ?_, ?_⟩, fun h hh => ?_, fun u hu1 hu2 => ?_, fun h hh1 hh2 => ?_⟩
  · by_cases q : i = 1 ∧ k = u
    · obtain ⟨rfl, rfl⟩ := q
      rw [zu_eq, ← e, show x = 62 + k by omega]
    · rw [ne _ _ (by omega), b _ (by omega) (by omega)]; exact r1 u hu
  · by_cases q : i = 2 ∧ k = h
    · obtain ⟨rfl, rfl⟩ := q
      rw [zu_eq, ← e, show x = k by omega]
    · rw [ne _ _ (by omega), b _ (by omega) (by omega)]; exact r2 h hh
  · rw [ne _ _ (by omega)]; exact r3 h hh
  · rw [ne _ _ (by omega), b _ (by omega) (by omega)]; exact r4 h hh
  · rw [ne _ _ (by omega)] at he
    exact ws h _ (by omega) (by omega) (by omega) (r5 h hh he)
  · rw [ne _ _ (by omega)] at he
    exact ws h _ (by omega) (by omega) (by omega) (r6 h p hh hp he)
  · obtain ⟨h, h1, h2⟩ := r9 p hp
    exact ⟨h, h1, (ne _ _ (by omega)).trans h2⟩
  · by_cases q : i = 0 ∧ k = 3
    · obtain ⟨rfl, rfl⟩ := q
      show zu A R 3 v R 3 = _
      rw [zu_eq, ← e, show x = 67 by omega]
    · rw [ne _ _ (by omega), b _ (by omega) (by omega)]; exact s1
  · by_cases q : i = 0 ∧ k = 4
    · obtain ⟨rfl, rfl⟩ := q
      show zu A R 4 v R 4 = _
      rw [zu_eq, ← e, show x = 68 by omega]
    · rw [ne _ _ (by omega), b _ (by omega) (by omega)]; exact s2
  · by_cases q : i = 0 ∧ k = 5
    · obtain ⟨rfl, rfl⟩ := q
      show zu A R 5 v R 5 = _
      rw [zu_eq, ← e, show x = 69 by omega]
    · rw [ne _ _ (by omega), b _ (by omega) (by omega)]; exact s3
  · rw [ne _ _ (by omega), b _ (by omega) (by omega)]; exact s4
  · rw [ne _ _ (by omega), b _ (by omega) (by omega)]; exact u3 h hh
  · rw [ne _ _ (by omega)]; exact u4 u hu1 hu2
  · rw [ne _ _ (by omega)]; exact u5 h hh1 hh2
