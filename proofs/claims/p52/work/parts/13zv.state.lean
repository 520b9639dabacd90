/-! THE STATES: the class's at C, the reference's at P, between two calls -/
theorem cU.k {Q : Nat} {A A' : zMt} {r : Nat → Int32} {U : Nat} (h : cU Q A r U) (k : ∀ i j, Q ≤ i → i < Q + 13 → A' i j = A i j) : cU Q A' r U := by
  have e : ∀ i, i < 13 → A' (Q + i) = A (Q + i) := fun i hi => funext fun j => k _ j (by omega) (by omega)
  have e0 : A' Q = A Q := e 0 (by omega)
  unfold cU
  rw [e0, e 1 (by omega), e 2 (by omega), e 3 (by omega)]
  exact h
theorem cL.k {Q : Nat} {A A' : zMt} {r g : Nat → Int32} {H G : Nat} (h : cL Q A r g H G) (k : ∀ i j, Q ≤ i → i < Q + 13 → A' i j = A i j) : cL Q A' r g H G := by
  have e : ∀ i, i < 13 → A' (Q + i) = A (Q + i) := fun i hi => funext fun j => k _ j (by omega) (by omega)
  have e0 : A' Q = A Q := e 0 (by omega)
  unfold cL wsC
  rw [e0, e 4 (by omega), e 5 (by omega), e 6 (by omega), e 7 (by omega), e 8 (by omega), e 9 (by omega), e 10 (by omega), e 11 (by omega), e 12 (by omega)]
  exact h
theorem pst.k {Q P : Nat} {A A' B B' : zMt} {g : Nat → Int32} {U H K : Nat} (w : pst Q P A B g U H K) (a : ∀ i j, Q ≤ i → i < Q + 66 → A' i j = A i j) (b : ∀ i j, ((i = P ∧ j = 9) ∨ i = P + 4) → B' i j = B i j) : pst Q P A' B' g U H K := by
  obtain ⟨hK, a0, b9, nw, hn, a1, he⟩ := w
  refine ⟨hK, (a _ _ (by omega) (by omega)).trans a0, (b _ _ (by omega)).trans b9, nw, hn, (a _ _ (by omega) (by omega)).trans a1, fun k hk => ?_⟩
  obtain ⟨G, hg⟩ := he k hk
  have h1 : Q + 2 ≤ ent Q nw K k := by unfold ent; omega
  have h2 : ent Q nw K k ≤ Q + 58 := by unfold ent; omega
  exact ⟨G, hg.m (fun i j _ _ => a i j (by omega) (by omega)) (fun j _ => b (P + 4) (82 * k + j) (by omega)) (fun _ _ => rfl)⟩
def eqS (C P : Nat) (A B : zMt) (r g : Nat → Int32) (U H G K : Nat) : Prop := (∀ j, j < 82 → B (P + 1) j = r j) ∧ (∀ h, h < 10 → B (P + 5) h = g h) ∧ B P 7 = nI U ∧ B P 8 = nI H ∧ jRow r U H ∧ gR (C + 17) A r g U H G ∧ cU (C + 91) A r U ∧ cL (C + 91) A r g H G ∧ pst (C + 25) P A B g U H K
def eqE (C P : Nat) (A B : zMt) : Prop := ∃ r g U H G K, eqS C P A B r g U H G K
theorem eqS.k {C P : Nat} {A A' B B' : zMt} {r g : Nat → Int32} {U H G K : Nat} (w : eqS C P A B r g U H G K) (a : ∀ i j, C + 17 ≤ i → i < C + 104 → A' i j = A i j) (b : ∀ i j, ((i = P ∧ (j = 7 ∨ j = 8 ∨ j = 9)) ∨ (i = P + 1 ∧ j < 82) ∨ i = P + 4 ∨ i = P + 5) → B' i j = B i j) : eqS C P A' B' r g U H G K := by
  obtain ⟨w1, w2, w3, w4, w5, w6, w7, w8, w9⟩ := w
  exact ⟨fun j hj => (b _ _ (by omega)).trans (w1 j hj), fun h hh => (b _ _ (by omega)).trans (w2 h hh), (b _ _ (by omega)).trans w3, (b _ _ (by omega)).trans w4, w5, w6.m (fun i j _ _ => a i j (by omega) (by omega)) (fun _ _ => rfl) (fun _ _ => rfl), w7.k (fun i j _ _ => a i j (by omega) (by omega)), w8.k (fun i j _ _ => a i j (by omega) (by omega)), w9.k (fun i j _ _ => a i j (by omega) (by omega)) (fun i j _ => b i j (by omega))⟩
theorem eqE.k {C P : Nat} {A A' B B' : zMt} (w : eqE C P A B) (a : ∀ i j, C + 17 ≤ i → i < C + 104 → A' i j = A i j) (b : ∀ i j, ((i = P ∧ (j = 7 ∨ j = 8 ∨ j = 9)) ∨ (i = P + 1 ∧ j < 82) ∨ i = P + 4 ∨ i = P + 5) → B' i j = B i j) : eqE C P A' B' := by
  obtain ⟨r, g, U, H, G, K, w⟩ := w
  exact ⟨r, g, U, H, G, K, w.k a b⟩
theorem jS.row {P U H : Nat} {B : zMt} (h : jS P B) (h7 : B P 7 = nI U) (h8 : B P 8 = nI H) (hU : U ≤ 5) (hH : H ≤ 10) : jRow (B (P + 1)) U H := by
  have e : jRow (B (P + 1)) (B P 7).toInt (B P 8).toInt := h
  rw [h7, h8, nI_toInt (by omega), nI_toInt (by omega)] at e
  exact e
/-- a call that has changed the list ends -/
theorem t_done {C P U H G K : Nat} {A B : zMt} {g : Nat → Int32} {v : Int32} (h7 : B P 7 = nI U) (h8 : B P 8 = nI H) (hR : jRow (B (P + 1)) U H) (h5 : ∀ h, h < 10 → B (P + 5) h = g h) (hg : gR (C + 17) A (B (P + 1)) g U H G) (hp : pst (C + 25) P A B g U H K) : ∃ A', D_X7_changed C v A = some (v, A') ∧ eqS C P A' B (B (P + 1)) g U H G K ∧ A' C 3 = 0 ∧ (∀ i j, ¬ (i = C ∧ (j = 0 ∨ j = 3)) → (i < C + 91 ∨ C + 104 ≤ i) → A' i j = A i j) := by
  obtain ⟨A', e1, e2, e3, e4, e5, e6⟩ := cc_changed (C := C) (v := v) hg hR
  exact ⟨A', e1, ⟨fun _ _ => rfl, h5, h7, h8, hR, hg.m (fun i j _ _ => e6 i j (by omega) (by omega)) (fun _ _ => rfl) (fun _ _ => rfl), e2, e3, hp.k (fun i j _ _ => e6 i j (by omega) (by omega)) (fun _ _ _ => rfl)⟩, e5, e6⟩
/-! what both ask first -/
theorem n10 : ¬ (1 : Int32) = 0 := by decide
theorem mm_from {v : Int32} {a b : Int64} {lo hi : Int} (ha : a.toInt = lo) (hb : b.toInt = hi) : D_X8_isFrom (Int32.toInt64 v) a b = some (if lo ≤ v.toInt ∧ v.toInt ≤ hi then 1 else 0) := by
  obtain ⟨r, hr, q1, q2⟩ := v_X8_isFrom (v0 := Int32.toInt64 v) (v1 := a) (v2 := b)
  rw [Int32.toInt_toInt64, ha, hb] at q2
  rw [hr]
  have o0 : (0 : Int32).toInt = 0 := by decide
  have o1 : (1 : Int32).toInt = 1 := by decide
  by_cases q : lo ≤ v.toInt ∧ v.toInt ≤ hi
  · rw [if_pos q]
    rcases q2 with ⟨w, _⟩ | ⟨_, w⟩
    · rw [Int32.toInt_inj.mp (w.trans o1.symm)]
    · omega
  · rw [if_neg q]
    rcases q2 with ⟨_, w⟩ | ⟨w, _⟩
    · exact absurd w q
    · rw [Int32.toInt_inj.mp (w.trans o0.symm)]
/-- a number from 0 to x -/
theorem t_rng {v x : Int32} {y : Int64} (hxy : y.toInt = x.toInt) : (¬ v < 0 ∧ v ≤ x ∧ 0 ≤ v.toInt ∧ v.toInt ≤ x.toInt ∧ D_X8_isFrom (Int32.toInt64 v) (0 : Int64) y = some 1) ∨ ((v < 0 ∨ ¬ v < 0 ∧ ¬ v ≤ x) ∧ D_X8_isFrom (Int32.toInt64 v) (0 : Int64) y = some 0) := by
  have o0 : (0 : Int32).toInt = 0 := by decide
  have e := mm_from (v := v) (a := (0 : Int64)) (b := y) (lo := 0) (hi := x.toInt) (by decide) hxy
  rw [e]
  by_cases q : v < 0
  · have := Int32.lt_iff_toInt_lt.mp q
    exact Or.inr ⟨Or.inl q, by rw [if_neg (by omega)]⟩
  · have h1 := Int32.le_iff_toInt_le.mp (Int32.not_lt.mp q)
    by_cases q2 : v ≤ x
    · have h2 := Int32.le_iff_toInt_le.mp q2
      exact Or.inl ⟨q, q2, by omega, h2, by rw [if_pos ⟨by omega, h2⟩]⟩
    · exact Or.inr ⟨Or.inr ⟨q, q2⟩, by rw [if_neg (fun z => q2 (Int32.le_iff_toInt_le.mpr z.2))]⟩
theorem t_isS {v : Int32} : (D_X7_isSeed v = some 1 ∧ D_X8_isSeed v = some 1 ∧ 0 ≤ v.toInt ∧ v.toInt ≤ 999999999) ∨ (D_X7_isSeed v = some 0 ∧ D_X8_isSeed v = some 0) := by
  have o9 : (999999999 : Int32).toInt = 999999999 := by decide
  rcases t_rng (v := v) (x := 999999999) (y := 999999999) (by decide) with ⟨q1, q2, q3, q4, q5⟩ | ⟨q, q5⟩
  · refine Or.inl ⟨?_, ?_, q3, by omega⟩
    · unfold D_X7_isSeed
      rw [if_neg q1, if_neg (Int32.not_lt.mpr q2)]
      rfl
    · unfold D_X8_isSeed
      rw [zB_s q5]
  · refine Or.inr ⟨?_, ?_⟩
    · unfold D_X7_isSeed
      rcases q with z | ⟨z, z2⟩
      · rw [if_pos z]; rfl
      · rw [if_neg z, if_pos (Int32.not_le.mp z2)]; rfl
    · unfold D_X8_isSeed
      rw [zB_s q5]
