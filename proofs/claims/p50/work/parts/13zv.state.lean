/-! THE STATES: the class's at C, the reference's at P, between two calls -/
theorem cU.k {Q : Nat} {A A' : zMt} {r : Nat → Int32} {U : Nat} (h : cU Q A r U) (k : ∀ i j, Q ≤ i → i < Q + 13 → A' i j = A i j) : cU Q A' r U := by
  have e : ∀ i, i < 13 → A' (Q + i) = A (Q + i) := fun i hi => funext fun j => k _ j (by omega) (by omega)
  have e0 : A' Q = A Q := e 0 (by omega)
  unfold cU
  rw [e0, e 1 (by omega), e 2 (by omega), e 3 (by omega)]
  exact h
theorem cL.k {Q : Nat} {A A' : zMt} {r g : Nat → Int32} {H G : Nat} (h : cL Q A r g H G) (k : ∀ i j, Q ≤ i → i < Q + 13 → A' i j = A i j) : cL Q A' r g H G := by
  have e : ∀ i, i < 13 → A' (Q + i) = A (Q + i) := fun i hi => funext fun j => k _ j (by omega) (by omega)
  have e0 : A' Q = A Q := e 0 (by omega)
  unfold cL wsC
  rw [e0, e 4 (by omega), e 5 (by omega), e 6 (by omega), e 7 (by omega), e 8 (by omega), e 9 (by omega), e 10 (by omega), e 11 (by omega), e 12 (by omega)]
  exact h
theorem pst.k {Q P : Nat} {A A' B B' : zMt} {g : Nat → Int32} {U H K : Nat} (w : pst Q P A B g U H K) (a : ∀ i j, Q ≤ i → i < Q + 66 → A' i j = A i j) (b : ∀ i j, ((i = P ∧ j = 9) ∨ i = P + 4) → B' i j = B i j) : pst Q P A' B' g U H K := by
  obtain ⟨hK, a0, b9, nw, hn, a1, he⟩ := w
  refine ⟨hK, (a _ _ (by omega) (by omega)).trans a0, (b _ _ (by omega)).trans b9, nw, hn, (a _ _ (by omega) (by omega)).trans a1, fun k hk => ?_⟩
  obtain ⟨G, hg⟩ := he k hk
  have h1 : Q + 2 ≤ ent Q nw K k := by unfold ent; omega
  have h2 : ent Q nw K k ≤ Q + 58 := by unfold ent; omega
  exact ⟨G, hg.m (fun i j _ _ => a i j (by omega) (by omega)) (fun j _ => b (P + 4) (82 * k + j) (by omega)) (fun _ _ => rfl)⟩
def eqS (C P : Nat) (A B : zMt) (r g : Nat → Int32) (U H G K : Nat) : Prop := (∀ j, j < 82 → B (P + 1) j = r j) ∧ (∀ h, h < 10 → B (P + 5) h = g h) ∧ B P 7 = nI U ∧ B P 8 = nI H ∧ jRow r U H ∧ gR (C + 17) A r g U H G ∧ cU (C + 91) A r U ∧ cL (C + 91) A r g H G ∧ pst (C + 25) P A B g U H K
def eqE (C P : Nat) (A B : zMt) : Prop := ∃ r g U H G K, eqS C P A B r g U H G K
theorem eqS.k {C P : Nat} {A A' B B' : zMt} {r g : Nat → Int32} {U H G K : Nat} (w : eqS C P A B r g U H G K) (a : ∀ i j, C + 17 ≤ i → i < C + 104 → A' i j = A i j) (b : ∀ i j, ((i = P ∧ (j = 7 ∨ j = 8 ∨ j = 9)) ∨ (i = P + 1 ∧ j < 82) ∨ i = P + 4 ∨ i = P + 5) → B' i j = B i j) : eqS C P A' B' r g U H G K := by
  obtain ⟨w1, w2, w3, w4, w5, w6, w7, w8, w9⟩ := w
  exact ⟨fun j hj => (b _ _ (by omega)).trans (w1 j hj), fun h hh => (b _ _ (by omega)).trans (w2 h hh), (b _ _ (by omega)).trans w3, (b _ _ (by omega)).trans w4, w5, w6.m (fun i j _ _ => a i j (by omega) (by omega)) (fun _ _ => rfl) (fun _ _ => rfl), w7.k (fun i j _ _ => a i j (by omega) (by omega)), w8.k (fun i j _ _ => a i j (by omega) (by omega)), w9.k (fun i j _ _ => a i j (by omega) (by omega)) (fun i j _ => b i j (by omega))⟩
theorem eqE.k {C P : Nat} {A A' B B' : zMt} (w : eqE C P A B) (a : ∀ i j, C + 17 ≤ i → i < C + 104 → A' i j = A i j) (b : ∀ i j, ((i = P ∧ (j = 7 ∨ j = 8 ∨ j = 9)) ∨ (i = P + 1 ∧ j < 82) ∨ i = P + 4 ∨ i = P + 5) → B' i j = B i j) : eqE C P A' B' := by
  obtain ⟨r, g, U, H, G, K, w⟩ := w
  exact ⟨r, g, U, H, G, K, w.k a b⟩
theorem jS.row {P U H : Nat} {B : zMt} (h : jS P B) (h7 : B P 7 = nI U) (h8 : B P 8 = nI H) (hU : U ≤ 5) (hH : H ≤ 10) : jRow (B (P + 1)) U H := by
  have e : jRow (B (P + 1)) (B P 7).toInt (B P 8).toInt := h
  rw [h7, h8, nI_toInt (by omega), nI_toInt (by omega)] at e
  exact e
/-- a call that has changed the list ends -/
theorem t_done {C P U H G K : Nat} {A B : zMt} {g : Nat → Int32} {v : Int32} (h7 : B P 7 = nI U) (h8 : B P 8 = nI H) (hR : jRow (B (P + 1)) U H) (h5 : ∀ h, h < 10 → B (P + 5) h = g h) (hg : gR (C + 17) A (B (P + 1)) g U H G) (hp : pst (C + 25) P A B g U H K) : ∃ A', D_X7_changed C v A = some (v, A') ∧ eqS C P A' B (B (P + 1)) g U H G K ∧ A' C 3 = 0 ∧ (∀ i j, ¬ (i = C ∧ (j = 0 ∨ j = 3)) → (i < C + 91 ∨ C + 104 ≤ i) → A' i j = A i j) := by
  obtain ⟨A', e1, e2, e3, e4, e5, e6⟩ := cc_changed (C := C) (v := v) hg hR
  exact ⟨A', e1, ⟨fun _ _ => rfl, h5, h7, h8, hR, hg.m (fun i j _ _ => e6 i j (by omega) (by omega)) (fun _ _ => rfl) (fun _ _ => rfl), e2, e3, hp.k (fun i j _ _ => e6 i j (by omega) (by omega)) (fun _ _ _ => rfl)⟩, e5, e6⟩
/-! what both ask first -/
theorem n10 : ¬ (1 : Int32) = 0 := by decide
theorem nI_m1l {n : Nat} (hn : n < 1000) : (Int32.toInt64 (nI n - 1)).toInt = (n : Int) - 1 := by
  have o1 : (1 : Int32).toInt = 1 := by decide
  have e : (nI n).toInt = n := nI_toInt (by omega)
  rw [Int32.toInt_toInt64, z_sub (by rw [e, o1]; omega) (by rw [e, o1]; omega), e, o1]
theorem mm_from {v : Int32} {a b : Int64} {lo hi : Int} (ha : a.toInt = lo) (hb : b.toInt = hi) : D_X8_isFrom (Int32.toInt64 v) a b = some (if lo ≤ v.toInt ∧ v.toInt ≤ hi then 1 else 0) := by
  obtain ⟨r, hr, q1, q2⟩ := v_X8_isFrom (v0 := Int32.toInt64 v) (v1 := a) (v2 := b)
  rw [Int32.toInt_toInt64, ha, hb] at q2
  rw [hr]
  have o0 : (0 : Int32).toInt = 0 := by decide
  have o1 : (1 : Int32).toInt = 1 := by decide
  by_cases q : lo ≤ v.toInt ∧ v.toInt ≤ hi
  · rw [if_pos q]
    rcases q2 with ⟨w, _⟩ | ⟨_, w⟩
    · rw [Int32.toInt_inj.mp (w.trans o1.symm)]
    · omega
  · rw [if_neg q]
    rcases q2 with ⟨_, w⟩ | ⟨w, _⟩
    · exact absurd w q
    · rw [Int32.toInt_inj.mp (w.trans o0.symm)]
theorem inN {v : Int32} {n : Nat} (hn : n < 2147483648) : ((∃ h, h < n ∧ v = nI h) ∧ ¬ v < 0 ∧ ¬ nI n ≤ v ∧ 0 ≤ v.toInt ∧ v.toInt ≤ (n : Int) - 1) ∨ ((v < 0 ∨ nI n ≤ v) ∧ ¬ (0 ≤ v.toInt ∧ v.toInt ≤ (n : Int) - 1)) := by
  have o0 : (0 : Int32).toInt = 0 := by decide
  have en : (nI n).toInt = n := nI_toInt (by omega)
  by_cases q : 0 ≤ v.toInt ∧ v.toInt ≤ (n : Int) - 1
  · refine Or.inl ⟨⟨v.toInt.toNat, by omega, z_toN q.1⟩, fun z => ?_, fun z => ?_, q.1, q.2⟩
    · have := Int32.lt_iff_toInt_lt.mp z
      omega
    · have := Int32.le_iff_toInt_le.mp z
      omega
  · refine Or.inr ⟨?_, q⟩
    by_cases z : v < 0
    · exact Or.inl z
    · refine Or.inr (Int32.le_iff_toInt_le.mpr ?_)
      have := Int32.le_iff_toInt_le.mp (Int32.not_lt.mp z)
      omega
/-- a number from 0 to x -/
theorem t_rng {v x : Int32} {y : Int64} (hxy : y.toInt = x.toInt) : (¬ v < 0 ∧ v ≤ x ∧ 0 ≤ v.toInt ∧ v.toInt ≤ x.toInt ∧ D_X8_isFrom (Int32.toInt64 v) (0 : Int64) y = some 1) ∨ ((v < 0 ∨ ¬ v < 0 ∧ ¬ v ≤ x) ∧ D_X8_isFrom (Int32.toInt64 v) (0 : Int64) y = some 0) := by
  have o0 : (0 : Int32).toInt = 0 := by decide
  have e := mm_from (v := v) (a := (0 : Int64)) (b := y) (lo := 0) (hi := x.toInt) (by decide) hxy
  rw [e]
  by_cases q : v < 0
  · have := Int32.lt_iff_toInt_lt.mp q
    exact Or.inr ⟨Or.inl q, by rw [if_neg (by omega)]⟩
  · have h1 := Int32.le_iff_toInt_le.mp (Int32.not_lt.mp q)
    by_cases q2 : v ≤ x
    · have h2 := Int32.le_iff_toInt_le.mp q2
      exact Or.inl ⟨q, q2, by omega, h2, by rw [if_pos ⟨by omega, h2⟩]⟩
    · exact Or.inr ⟨Or.inr ⟨q, q2⟩, by rw [if_neg (fun z => q2 (Int32.le_iff_toInt_le.mpr z.2))]⟩
theorem t_isH {C P U H G K : Nat} {A B : zMt} {r g : Nat → Int32} {v : Int32} (w : eqS C P A B r g U H G K) : (D_X7_isHunter C A v = some 1 ∧ D_X8_isHunter P B v = some 1 ∧ ∃ h, h < H ∧ v = nI h) ∨ (D_X7_isHunter C A v = some 0 ∧ D_X8_isHunter P B v = some 0) := by
  obtain ⟨w1, w2, w3, w4, w5, w6, w7, w8, w9⟩ := w
  have c2 := w6.1.2.1
  have eA : A (C + 17) 1 = nI H := w6.1.2.2.2.2.1
  have eM : D_X8_isHunter P B v = some (if (0 : Int) ≤ v.toInt ∧ v.toInt ≤ (H : Int) - 1 then 1 else 0) := by
    unfold D_X8_isHunter
    rw [w4, mm_from (lo := 0) (hi := (H : Int) - 1) (by decide) (nI_m1l (by omega))]
    rfl
  rcases inN (v := v) (n := H) (by omega) with ⟨hx, q1, q2, q3, q4⟩ | ⟨q, q3⟩
  · refine Or.inl ⟨?_, ?_, hx⟩
    · unfold D_X7_isHunter
      rw [eA, if_neg q1, if_neg q2]
      rfl
    · rw [eM, if_pos ⟨q3, q4⟩]
  · refine Or.inr ⟨?_, ?_⟩
    · unfold D_X7_isHunter
      rw [eA]
      by_cases z : v < 0
      · rw [if_pos z]; rfl
      · rw [if_neg z, if_pos (q.resolve_left z)]; rfl
    · rw [eM, if_neg q3]
theorem t_isU {C P U H G K : Nat} {A B : zMt} {r g : Nat → Int32} {v : Int32} (w : eqS C P A B r g U H G K) : (D_X7_isUnit C A v = some 1 ∧ D_X8_isUnit P B v = some 1 ∧ ∃ h, h < U ∧ v = nI h) ∨ (D_X7_isUnit C A v = some 0 ∧ D_X8_isUnit P B v = some 0) := by
  obtain ⟨w1, w2, w3, w4, w5, w6, w7, w8, w9⟩ := w
  have c2 := w6.1.1
  have eA : A (C + 17) 0 = nI U := w6.1.2.2.2.1
  have eM : D_X8_isUnit P B v = some (if (0 : Int) ≤ v.toInt ∧ v.toInt ≤ (U : Int) - 1 then 1 else 0) := by
    unfold D_X8_isUnit
    rw [w3, mm_from (lo := 0) (hi := (U : Int) - 1) (by decide) (nI_m1l (by omega))]
    rfl
  rcases inN (v := v) (n := U) (by omega) with ⟨hx, q1, q2, q3, q4⟩ | ⟨q, q3⟩
  · refine Or.inl ⟨?_, ?_, hx⟩
    · unfold D_X7_isUnit
      rw [eA, if_neg q1, if_neg q2]
      rfl
    · rw [eM, if_pos ⟨q3, q4⟩]
  · refine Or.inr ⟨?_, ?_⟩
    · unfold D_X7_isUnit
      rw [eA]
      by_cases z : v < 0
      · rw [if_pos z]; rfl
      · rw [if_neg z, if_pos (q.resolve_left z)]; rfl
    · rw [eM, if_neg q3]
theorem t_isP {C P U H G K : Nat} {A B : zMt} {r g : Nat → Int32} {v : Int32} (w : eqS C P A B r g U H G K) : (D_X7_isParty C A v = some 1 ∧ D_X8_isParty P B v = some 1 ∧ ∃ h, h < G ∧ v = nI h) ∨ (D_X7_isParty C A v = some 0 ∧ D_X8_isParty P B v = some 0) := by
  obtain ⟨w1, w2, w3, w4, w5, w6, w7, w8, w9⟩ := w
  have c2 := w6.1.2.2.1
  have eA : A (C + 17) 2 = nI G := w6.1.2.2.2.2.2.1
  have eB : B (P + 1) 70 = nI G := (w1 70 (by omega)).trans w6.1.2.2.2.2.2.2
  have eM : D_X8_isParty P B v = some (if (0 : Int) ≤ v.toInt ∧ v.toInt ≤ (G : Int) - 1 then 1 else 0) := by
    unfold D_X8_isParty zI
    rw [if_neg (by decide), show (70 : Int32).toNatClampNeg = 70 by decide, eB, mm_from (lo := 0) (hi := (G : Int) - 1) (by decide) (nI_m1l (by omega))]
    rfl
  rcases inN (v := v) (n := G) (by omega) with ⟨hx, q1, q2, q3, q4⟩ | ⟨q, q3⟩
  · refine Or.inl ⟨?_, ?_, hx⟩
    · unfold D_X7_isParty
      rw [eA, if_neg q1, if_neg q2]
      rfl
    · rw [eM, if_pos ⟨q3, q4⟩]
  · refine Or.inr ⟨?_, ?_⟩
    · unfold D_X7_isParty
      rw [eA]
      by_cases z : v < 0
      · rw [if_pos z]; rfl
      · rw [if_neg z, if_pos (q.resolve_left z)]; rfl
    · rw [eM, if_neg q3]
theorem t_isS {v : Int32} : (D_X7_isSeed v = some 1 ∧ D_X8_isSeed v = some 1 ∧ 0 ≤ v.toInt ∧ v.toInt ≤ 999999999) ∨ (D_X7_isSeed v = some 0 ∧ D_X8_isSeed v = some 0) := by
  have o9 : (999999999 : Int32).toInt = 999999999 := by decide
  rcases t_rng (v := v) (x := 999999999) (y := 999999999) (by decide) with ⟨q1, q2, q3, q4, q5⟩ | ⟨q, q5⟩
  · refine Or.inl ⟨?_, ?_, q3, by omega⟩
    · unfold D_X7_isSeed
      rw [if_neg q1, if_neg (Int32.not_lt.mpr q2)]
      rfl
    · unfold D_X8_isSeed
      rw [zB_s q5]
  · refine Or.inr ⟨?_, ?_⟩
    · unfold D_X7_isSeed
      rcases q with z | ⟨z, z2⟩
      · rw [if_pos z]; rfl
      · rw [if_neg z, if_pos (Int32.not_le.mp z2)]; rfl
    · unfold D_X8_isSeed
      rw [zB_s q5]
/-- the applicants laid, and what the class has gathered -/
theorem t_laid {C P U H G K : Nat} {A B : zMt} {r g : Nat → Int32} (w : eqS C P A B r g U H G K) : ∃ n B1, n = fr r H + G ∧ D_X8_laysApplicants P B = some B1 ∧ gP (tP (C + 91) A) n U ∧ gH (tP (C + 91) A) n H ∧ mP P B1 (tP (C + 91) A) n U ∧ (∀ i j, ¬ (i = P ∧ j = 33) → ¬ (P + 11 ≤ i ∧ i ≤ P + 17) → B1 i j = B i j) := by
  obtain ⟨w1, w2, w3, w4, w5, w6, w7, w8, w9⟩ := w
  have c1 := w6.1.1
  have c2 := w6.1.2.1
  have c3 := w6.1.2.2.1
  obtain ⟨f1, f2, f3, f4, f5⟩ := row_facts w5 w6.1.2.2.2.2.2.2 c3 c2
  have hg : ∀ h, h < H → g h = 0 ∨ g h = 1 := fun h hh => (w6.2.2.2.1 h hh).2
  obtain ⟨B1, e1, e2, e3⟩ := mm_lays (P := P) (B := B) (r := r) (g := g) c2 c3 (by omega) hg f5 w4 w1 (fun h hh => w2 h (by omega)) w6.1.2.2.2.2.2.2
  exact ⟨_, B1, rfl, e1, t_view c2 c3 c1 (by omega) w5 f3 w7 w8, t_viewH (U := U) c2 c3 (by omega) f4 w8, t_view8 c2 c3 w7 w8 c1 e2 (fun j hj => (e3 _ _ (by omega) (by omega)).trans (w1 j hj)) ((e3 _ _ (by omega) (by omega)).trans w3), e3⟩
theorem t_isA {C P U H G K : Nat} {A B : zMt} {r g : Nat → Int32} {v : Int32} (w : eqS C P A B r g U H G K) : ∃ n B1, n = fr r H + G ∧ D_X8_laysApplicants P B = some B1 ∧ gP (tP (C + 91) A) n U ∧ gH (tP (C + 91) A) n H ∧ mP P B1 (tP (C + 91) A) n U ∧ (∀ i j, ¬ (i = P ∧ j = 33) → ¬ (P + 11 ≤ i ∧ i ≤ P + 17) → B1 i j = B i j) ∧ ((D_X7_isApplicant C A v = some 1 ∧ D_X8_isApplicant P v B = some (1, B1) ∧ ∃ a, a < n ∧ v = nI a) ∨ (D_X7_isApplicant C A v = some 0 ∧ D_X8_isApplicant P v B = some (0, B1))) := by
  obtain ⟨n, B1, hn, e1, e2, e3, e4, e5⟩ := t_laid w
  refine ⟨n, B1, hn, e1, e2, e3, e4, e5, ?_⟩
  have hn10 := e2.1
  have eA : A (C + 91) 1 = nI n := e2.2.2.1
  have eM : D_X8_isApplicant P v B = some (if (0 : Int) ≤ v.toInt ∧ v.toInt ≤ (n : Int) - 1 then 1 else 0, B1) := by
    unfold D_X8_isApplicant
    rw [zB_s e1, e4.1, mm_from (lo := 0) (hi := (n : Int) - 1) (by decide) (nI_m1l (by omega))]
    rfl
  rcases inN (v := v) (n := n) (by omega) with ⟨hx, q1, q2, q3, q4⟩ | ⟨q, q3⟩
  · refine Or.inl ⟨?_, ?_, hx⟩
    · unfold D_X7_isApplicant
      rw [eA, if_neg q1, if_neg q2]
      rfl
    · rw [eM, if_pos ⟨q3, q4⟩]
  · refine Or.inr ⟨?_, ?_⟩
    · unfold D_X7_isApplicant
      rw [eA]
      by_cases z : v < 0
      · rw [if_pos z]; rfl
      · rw [if_neg z, if_pos (q.resolve_left z)]; rfl
    · rw [eM, if_neg q3]
