/-! what a row that stands for a list gives; a call that has changed the list ends -/
theorem row_facts {r : Nat → Int32} {U H G : Nat} (hR : jRow r U H) (h70 : r 70 = nI G) (hG : G ≤ 4) (hH : H ≤ 10) : fr r H + G ≤ H ∧ (r 67 = 0 ∨ r 67 = 1 ∨ r 67 = 2) ∧ (∀ p, p < G → ∃ h, h < H ∧ r (10 + h) = nI p) ∧ (∀ h, h < H → r (10 + h) = -1 ∨ ∃ p, p < G ∧ r (10 + h) = nI p) ∧ (∀ a, a < fr r H + G → ¬ sN r H a = 0) := by
  obtain ⟨h1, h2, h3, h4, h5, h6⟩ := hR
  have e70 : (r 70).toInt = G := by rw [h70, nI_toInt (by omega)]
  have hmem : ∀ p, p < G → ∃ h, h < H ∧ r (10 + h) = nI p := fun p hp => by
    obtain ⟨h, q1, q2⟩ := h6 p (by omega)
    exact ⟨h, by omega, Int32.toInt_inj.mp (by rw [q2, nI_toInt (by omega)])⟩
  refine ⟨?_, ?_, hmem, fun h hh => ?_, fun a ha => ?_⟩
  · have hp := fr_pig r H (fun p => decide (p < G)) (fun p _ hs => by
      obtain ⟨h, q1, q2⟩ := h6 p (by have := of_decide_eq_true hs; omega)
      exact ⟨h, by omega, q2⟩)
    simp only [decide_eq_true_eq] at hp
    revert hp
    (repeat' split) <;> intro hp <;> omega
  · obtain ⟨v, _, q2, q3⟩ := isN.of (x := r 67) (lo := 0) (hi := 2) (by show ((0 : Nat) : Int) ≤ _; omega) (by omega)
    have hc : v = 0 ∨ v = 1 ∨ v = 2 := by omega
    rcases hc with z | z | z
    · exact Or.inl (by rw [q3, z]; decide)
    · exact Or.inr (Or.inl (by rw [q3, z]; decide))
    · exact Or.inr (Or.inr (by rw [q3, z]; decide))
  · obtain ⟨q1, q2, _⟩ := h2 h (by omega)
    by_cases z : (r (10 + h)).toInt = -1
    · exact Or.inl (Int32.toInt_inj.mp (by rw [z]; decide))
    · obtain ⟨v, _, v2, v3⟩ := isN.of (x := r (10 + h)) (lo := 0) (hi := G - 1) (by show ((0 : Nat) : Int) ≤ _; omega) (by omega)
      exact Or.inr ⟨v, by omega, v3⟩
  · obtain ⟨h, hm⟩ := ap_ex ha hG hmem
    exact sN_ne hm hH
theorem cc_changed {C U H G : Nat} {A : zMt} {r g : Nat → Int32} {v : Int32} (w : gR (C + 17) A r g U H G) (hR : jRow r U H) : ∃ A', D_X7_changed C v A = some (v, A') ∧ cU (C + 91) A' r U ∧ cL (C + 91) A' r g H G ∧ A' C 0 = 0 ∧ A' C 3 = 0 ∧ (∀ i j, ¬ (i = C ∧ (j = 0 ∨ j = 3)) → (i < C + 91 ∨ C + 104 ≤ i) → A' i j = A i j) := by
  have c2 := w.1.2.1
  have c3 := w.1.2.2.1
  obtain ⟨f1, f2, f3, f4, f5⟩ := row_facts hR w.1.2.2.2.2.2.2 c3 c2
  unfold D_X7_changed
  obtain ⟨A1, e1, e2, e3, e4⟩ := cc_gather (Q := C + 91) w (by omega) (by omega) f2 f5
  rw [zB_s e1, zLt_eq]
  have ea : D_X7_answer C v (zu A1 C 3 (0 : Int32)) = some (v, zu (zu A1 C 3 (0 : Int32)) C 0 (0 : Int32)) := rfl
  rw [zB_s ea]
  have kk : ∀ i j, ¬ (i = C ∧ (j = 0 ∨ j = 3)) → zu (zu A1 C 3 (0 : Int32)) C 0 (0 : Int32) i j = A1 i j := fun i j h => (zu_ne (by omega)).trans (zu_ne (by omega))
  refine ⟨zu (zu A1 C 3 (0 : Int32)) C 0 (0 : Int32), rfl, ?_, ?_, zu_eq, (zu_ne (by omega)).trans zu_eq, fun i j h1 h2 => (kk i j h1).trans (e4 i j (by omega))⟩
  · obtain ⟨u1, u2, u3⟩ := e2
    refine ⟨(kk _ _ (by omega)).trans u1, fun u hu => ?_, ?_⟩
    · rw [kk _ _ (by omega), kk _ _ (by omega), kk _ _ (by omega)]
      exact u2 u hu
    · rcases u3 with ⟨z0, al⟩ | ⟨z1, i0, h1, h2⟩
      · exact Or.inl ⟨(kk _ _ (by omega)).trans z0, fun i hi => by rw [kk _ _ (by omega)]; exact al i hi⟩
      · exact Or.inr ⟨(kk _ _ (by omega)).trans z1, i0, h1, by rw [kk _ _ (by omega)]; exact h2⟩
  · obtain ⟨l1, l2, l3⟩ := e3
    refine ⟨(kk _ _ (by omega)).trans l1, (kk _ _ (by omega)).trans l2, fun a ha => ?_⟩
    obtain ⟨q1, q2, q3, q4, q5, q6, q7, q8⟩ := l3 a ha
    exact ⟨(kk _ _ (by omega)).trans q1, (kk _ _ (by omega)).trans q2, fun base hb => (q3 base hb).k (kk _ _ (by omega)) (fun j _ _ => kk _ _ (by omega)), (kk _ _ (by omega)).trans q4, (kk _ _ (by omega)).trans q5, (kk _ _ (by omega)).trans q6, (kk _ _ (by omega)).trans q7, fun h hm => (kk _ _ (by omega)).trans (q8 h hm)⟩
