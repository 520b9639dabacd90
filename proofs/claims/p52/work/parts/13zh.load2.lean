theorem ld9_21 {P : Nat} {v : Int32} {M : zMt} : ld9 P v M P 21 = 0 := by
  unfold ld9
  rw [zu_ne (by omega), zu_ne (by omega), zu_ne (by omega), zu_ne (by omega), zu_ne (by omega), zu_eq]
theorem ld9_22 {P : Nat} {v : Int32} {M : zMt} : ld9 P v M P 22 = -1 := by
  unfold ld9
  rw [zu_ne (by omega), zu_ne (by omega), zu_ne (by omega), zu_ne (by omega), zu_eq]
theorem ld9_23 {P : Nat} {v : Int32} {M : zMt} : ld9 P v M P 23 = 0 := by
  unfold ld9
  rw [zu_ne (by omega), zu_ne (by omega), zu_ne (by omega), zu_eq]
theorem c_take1 {R S : Nat} {A : zMt} (h : ¬ S = R) : ∃ A', D_X4_take R S A = some A' ∧ A' R 1 = A S 1 := by
  refine ⟨_, rfl, ?_⟩
  rw [zcpy_ne (by omega), zcpy_ne (by omega), zcpy_ne (by omega), zcpy_ne (by omega), zcpy_ne (by omega), zcpy_ne (by omega), zcpy_ne (by omega), zu_ne (by omega), zu_ne (by omega), zu_ne (by omega), zu_ne (by omega), zu_ne (by omega), zu_eq, zu_ne (by omega)]
/-- the class's reading begins -/
theorem c_readB {Q T n : Nat} {A : zMt} {NA : zNt} {v : Int32} (hv : v = nI n) (hn : n ≤ 700) (hT : T < Q ∨ Q + 14 ≤ T) : ∃ A', D_X3_read Q T 700 v A NA = (zB (D_X3_step Q A' NA) fun e => D_X3_read_62 Q T 700 zFu (0 : Int32) e.1 e.2) ∧ tx Q n (A T) A' ∧ A' Q 5 = 0 ∧ A' Q 1 = 0 ∧ A' Q 2 = -1 ∧ A' Q 11 = 0 ∧ A' Q 12 = 0 ∧ A' Q 13 = 0 ∧
    A' (Q + 1) 0 = 0 ∧ A' (Q + 1) 1 = 0 ∧ A' (Q + 1) 2 = 0 ∧ A' (Q + 1) 3 = 0 ∧ A' (Q + 1) 4 = 0 ∧ A' (Q + 1) 5 = 100 ∧ A' (Q + 1) 6 = 0 ∧ (∀ j, j < 5 → A' (Q + 2) j = 0) ∧ (∀ j, j < 10 → A' (Q + 3) j = 0) ∧ (∀ j, j < 10 → A' (Q + 4) j = 0) ∧ (∀ j, j < 10 → A' (Q + 5) j = -1) ∧ (∀ j, j < 10 → A' (Q + 6) j = 0) ∧ (∀ j, j < 30 → A' (Q + 7) j = -1) ∧ (∀ j, j < 10 → A' (Q + 8) j = -1) := by
  have ev : (if (700 : Int32) < v then (700 : Int32) else v) = nI n := by
    rw [hv]
    by_cases q : (700 : Int32) < nI n
    · exact absurd ((ltL (x := 700) (a := 700) (by decide) (by decide) (by omega)).mp q) (by omega)
    · rw [if_neg q]
  unfold D_X3_read
  rw [ev]
  show ∃ A', (zB (D_X4_clear (Q + 1) (zu (zu (zu (zu (zu (zcpy A (Q + 9) 700 (fun j => zrd 0 (A T) 700 (nI j))) Q 4 (nI n)) Q 5 (0 : Int32)) Q 11 (0 : Int32)) Q 12 (0 : Int32)) Q 13 (0 : Int32))) fun e_43 => zB (D_X3_step Q (zu (zu e_43 Q 1 (0 : Int32)) Q 2 (-1 : Int32)) NA) fun e_57 => D_X3_read_62 Q T 700 zFu (0 : Int32) e_57.1 e_57.2) = _ ∧ _
  obtain ⟨A1, e1, k1, c0, c1, c2, c3, c4, c5, c6, d1, d2, d3, d4, d5, d6, d7⟩ := c_clear9 (R := Q + 1) (A := zu (zu (zu (zu (zu (zcpy A (Q + 9) 700 (fun j => zrd 0 (A T) 700 (nI j))) Q 4 (nI n)) Q 5 (0 : Int32)) Q 11 (0 : Int32)) Q 12 (0 : Int32)) Q 13 (0 : Int32))
  rw [zB_s e1]
  have kS : ∀ r j, ¬ (r = Q ∧ (j = 1 ∨ j = 2)) → zu (zu A1 Q 1 (0 : Int32)) Q 2 (-1 : Int32) r j = A1 r j := fun r j h => (zu_ne (by omega)).trans (zu_ne (by omega))
  have kR : ∀ i j, (1 ≤ i ∧ i ≤ 8) → zu (zu A1 Q 1 (0 : Int32)) Q 2 (-1 : Int32) (Q + i) j = A1 (Q + i) j := fun i j hi => kS _ _ (by omega)
  have e4 : A1 Q 4 = nI n := (k1 Q 4 (by omega)).trans ((zu_ne (by omega)).trans ((zu_ne (by omega)).trans ((zu_ne (by omega)).trans ((zu_ne (by omega)).trans zu_eq))))
  have e5 : A1 Q 5 = 0 := (k1 Q 5 (by omega)).trans ((zu_ne (by omega)).trans ((zu_ne (by omega)).trans ((zu_ne (by omega)).trans zu_eq)))
  have e11 : A1 Q 11 = 0 := (k1 Q 11 (by omega)).trans ((zu_ne (by omega)).trans ((zu_ne (by omega)).trans zu_eq))
  have e12 : A1 Q 12 = 0 := (k1 Q 12 (by omega)).trans ((zu_ne (by omega)).trans zu_eq)
  have e13 : A1 Q 13 = 0 := (k1 Q 13 (by omega)).trans zu_eq
  have e9 : ∀ k, k < n → A1 (Q + 9) k = A T k := fun k hk => by
    rw [k1 (Q + 9) k (by omega), zu_ne (by omega), zu_ne (by omega), zu_ne (by omega), zu_ne (by omega), zu_ne (by omega), zcpy_in (by omega), zrd_nI (by omega) (by decide)]
  refine ⟨zu (zu A1 Q 1 (0 : Int32)) Q 2 (-1 : Int32), rfl, ⟨hn, (kS Q 4 (by omega)).trans e4, fun k hk => (kS (Q + 9) k (by omega)).trans (e9 k hk)⟩, (kS Q 5 (by omega)).trans e5, (zu_ne (by omega)).trans zu_eq, zu_eq, (kS Q 11 (by omega)).trans e11, (kS Q 12 (by omega)).trans e12, (kS Q 13 (by omega)).trans e13, (kR 1 0 (by omega)).trans c0, (kR 1 1 (by omega)).trans c1, (kR 1 2 (by omega)).trans c2, (kR 1 3 (by omega)).trans c3, (kR 1 4 (by omega)).trans c4, (kR 1 5 (by omega)).trans c5, (kR 1 6 (by omega)).trans c6, fun j hj => (kR 2 j (by omega)).trans (d1 j hj), fun j hj => (kR 3 j (by omega)).trans (d2 j hj), fun j hj => (kR 4 j (by omega)).trans (d3 j hj), fun j hj => (kR 5 j (by omega)).trans (d4 j hj), fun j hj => (kR 6 j (by omega)).trans (d5 j hj), fun j hj => (kR 7 j (by omega)).trans (d6 j hj), fun j hj => (kR 8 j (by omega)).trans (d7 j hj)⟩
/-- what of a fault both would tell -/
def flt (C P : Nat) (A B : zMt) : Prop := A (C + 3) 1 = B P 13 ∧ A (C + 3) 2 = B P 14
