/-! both begin alike -/
theorem jRow_new {r : Nat → Int32} (h1 : ∀ j, (j < 10 ∨ (62 ≤ j ∧ j < 69) ∨ j = 70 ∨ j = 71) → r j = 0) (h2 : ∀ j, 10 ≤ j → j < 62 → r j = -1) (h3 : r 69 = 100) : jRow r ((0 : Nat) : Int) ((0 : Nat) : Int) := by
  have o0 : (0 : Int32).toInt = 0 := by decide
  have o1 : (-1 : Int32).toInt = -1 := by decide
  have o2 : (100 : Int32).toInt = 100 := by decide
  refine ⟨fun x hx => ?_, fun x hx => ?_, fun k q1 q2 => ?_, fun x hx => ?_, ?_, fun p hp => absurd hp (by rw [h1 70 (by omega), o0]; omega)⟩
  · rw [h1 x (by omega), o0]; omega
  · rw [h2 (10 + x) (by omega) (by omega), h1 70 (by omega), o1, o0]; omega
  · rw [h2 k (by omega) q2, o1]; omega
  · rw [h1 (62 + x) (by omega), o0]; omega
  · rw [h1 67 (by omega), h1 68 (by omega), h3, h1 70 (by omega), o0, o2]; omega
theorem eqE.fresh {C P : Nat} {A B : zMt} (l0 : A (C + 17) 0 = 0) (l1 : A (C + 17) 1 = 0) (l2 : A (C + 17) 2 = 0) (l3 : A (C + 17) 3 = 0) (l4 : A (C + 17) 4 = 0) (l5 : A (C + 17) 5 = 100) (l6 : A (C + 17) 6 = 0) (lq : ∀ j, j < 5 → A (C + 18) j = 0) (lg : ∀ j, j < 10 → A (C + 20) j = 0) (p0 : A (C + 25) 0 = 0) (p1 : A (C + 25) 1 = 0) (q0 : A (C + 91) 0 = 0) (q1 : A (C + 91) 1 = 0) (q2 : A (C + 91) 2 = 0) (q3 : A (C + 91) 3 = 0) (ls : ∀ j, j < 10 → A (C + 19) j = 0) (lp : ∀ j, j < 10 → A (C + 21) j = -1) (lh : ∀ j, j < 10 → A (C + 24) j = -1) (b7 : B P 7 = 0) (b8 : B P 8 = 0) (b9 : B P 9 = 0) (r1 : ∀ j, (j < 10 ∨ (62 ≤ j ∧ j < 69) ∨ j = 70 ∨ j = 71) → B (P + 1) j = 0) (r2 : ∀ j, 10 ≤ j → j < 62 → B (P + 1) j = -1) (r3 : B (P + 1) 69 = 100) (r4 : ∀ j, j < 10 → B (P + 1) (72 + j) = -1) : eqE C P A B := by
  have n0 : (0 : Int32) = nI 0 := by decide
  refine ⟨B (P + 1), B (P + 5), 0, 0, 0, 0, fun _ _ => rfl, fun _ _ => rfl, b7.trans n0, b8.trans n0, jRow_new r1 r2 r3, ?_, ?_, ?_, ?_⟩
  · refine ⟨⟨by omega, by omega, by omega, l0.trans n0, l1.trans n0, l2.trans n0, (r1 70 (by omega)).trans n0⟩, fun u hu => ?_, fun h hh => ?_, fun h hh => absurd hh (Nat.not_lt_zero h), fun h hh => ?_, fun h hh => absurd hh (Nat.not_lt_zero h), fun h p hh => absurd hh (Nat.not_lt_zero h), fun p hp => absurd hp (Nat.not_lt_zero p), ⟨?_, ?_, ?_, ?_⟩, fun h hh => ?_, fun u _ hu => lq u hu, fun h _ hh => lg h hh⟩
    · exact (lq u hu).trans (r1 _ (by omega)).symm
    · exact (ls h hh).trans (r1 _ (by omega)).symm
    · exact ⟨(lp h hh).trans (r2 _ (by omega) (by omega)).symm, Or.inl (lp h hh), Or.inr (lp h hh)⟩
    · exact l3.trans (r1 67 (by omega)).symm
    · exact l4.trans (r1 68 (by omega)).symm
    · exact l5.trans r3.symm
    · exact l6.trans (r1 71 (by omega)).symm
    · exact (lh h hh).trans (r4 h hh).symm
  · exact ⟨q0.trans n0, fun u hu => absurd hu (Nat.not_lt_zero u), Or.inl ⟨q3, fun u hu => absurd hu (Nat.not_lt_zero u)⟩⟩
  · exact ⟨q1.trans n0, q2, fun a ha => absurd ha (Nat.not_lt_zero a)⟩
  · exact ⟨by omega, p0.trans n0, b9.trans n0, 0, by omega, p1.trans n0, fun k hk => absurd hk (Nat.not_lt_zero k)⟩
theorem eqE.vp {C P : Nat} {A B : zMt} (w : eqE C P A B) : vp_in (A (C + 25) 1) 8 := by
  obtain ⟨r, g, U, H, G, K, w⟩ := w
  obtain ⟨-, -, -, nw, hn, a1, -⟩ := w.2.2.2.2.2.2.2.2
  rw [a1]
  exact vp_in_nI hn (by decide)
