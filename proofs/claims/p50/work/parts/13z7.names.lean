/-! NAMES: two words that stand for one name -/
def nmR (t : Nat → Int32) (x y : Int64) : Prop := ∃ s k, dgs (cdg t s) k ∧ x.toInt = eC 27 (cdg t s) k ∧ y.toInt = eC 32 (cdg t s) k
theorem nmR.iff {t : Nat → Int32} {x y x' y' : Int64} (h : nmR t x y) (h' : nmR t x' y') : x = x' ↔ y = y' := by
  obtain ⟨s, k, d, e1, e2⟩ := h
  obtain ⟨s', k', d', e1', e2'⟩ := h'
  rw [← Int64.toInt_inj, ← Int64.toInt_inj, e1, e2, e1', e2']
  exact eC_iff d d'
def cFind (Qr : Nat) (N : zNt) (c : Nat) (w : Int64) (r : Int32) : Prop := (r = -1 ∧ ∀ i, i < c → ¬ N Qr i = w) ∨ ∃ i, i < c ∧ r = nI i ∧ N Qr i = w
theorem s_findL {Qr nQ Pr nP c : Nat} {t : Nat → Int32} {N NB : zNt} {w w' : Int64} (hQ : c ≤ nQ) (hP : c ≤ nP) (hQ2 : nQ < 1000) (hP2 : nP < 1000) (hw : nmR t w w') (hn : ∀ i, i < c → nmR t (N Qr i) (NB Pr i)) : ∀ (u i : Nat), i ≤ c → c - i < u → (∀ i', i' < i → ¬ N Qr i' = w) → ∃ r, D_X3_find_3 Qr nQ N u (nI c) w (nI i) = some r ∧ D_X8_found_3 Pr nP NB u (nI c) w' (nI i) = some r ∧ cFind Qr N c w r := by
  intro u
  induction u with
  | zero => intro i _ h; omega
  | succ u ih =>
    intro i hi hu hp
    rw [D_X3_find_3, D_X8_found_3]
    by_cases hc : c ≤ i
    · rw [if_pos ((nI_leI (by omega) (by omega)).mpr hc), if_pos ((nI_leI (by omega) (by omega)).mpr hc)]
      exact ⟨_, rfl, rfl, Or.inl ⟨rfl, fun i' h => hp i' (by omega)⟩⟩
    · have hne : ¬ nI c ≤ nI i := fun q => hc ((nI_leI (by omega) (by omega)).mp q)
      rw [if_neg hne, if_neg hne, zrd_nI (by omega) (by omega)]
      unfold zI
      rw [if_neg (vp_in_nI (by omega) (by omega)), nI_clamp (by omega), nI_add1]
      have hiff := (hn i (by omega)).iff hw
      by_cases q : N Qr i = w
      · rw [if_pos ((lg_cmp_eq _ _).mpr q), if_pos ((lg_cmp_eq _ _).mpr (hiff.mp q))]
        exact ⟨_, rfl, rfl, Or.inr ⟨i, by omega, rfl, q⟩⟩
      · rw [if_neg (fun z => q ((lg_cmp_eq _ _).mp z)), if_neg (fun z => q (hiff.mpr ((lg_cmp_eq _ _).mp z)))]
        exact ih (i + 1) (by omega) (by omega) (fun i' h => by
          by_cases z : i' = i
          · subst z; exact q
          · exact hp i' (by omega))
theorem s_find {Qr nQ Pr nP c : Nat} {t : Nat → Int32} {N NB : zNt} {w w' : Int64} (hQ : c ≤ nQ) (hP : c ≤ nP) (hQ2 : nQ < 1000) (hP2 : nP < 1000) (hw : nmR t w w') (hn : ∀ i, i < c → nmR t (N Qr i) (NB Pr i)) : ∃ r, D_X3_find Qr nQ N (nI c) w = some r ∧ D_X8_found Pr nP NB (nI c) w' = some r ∧ cFind Qr N c w r :=
  s_findL hQ hP hQ2 hP2 hw hn zFu 0 (Nat.zero_le c) (by unfold zFu; omega) (fun i' h => by omega)
theorem tW.nm {Q P n : Nat} {t : Nat → Int32} {A B : zMt} {NA NB : zNt} {s k : Nat} (h : tW Q P n t A NA B NB s k) : nmR t (NA Q 8) (NB P 24) := ⟨s, k, h.2.2.2.2.2.2.2.1, h.2.2.2.2.2.2.2.2.1, h.2.2.2.2.2.2.2.2.2.1⟩
/-! THE LIST as both have read it so far -/
def wsh (A B : zMt) (Q P h base : Nat) : Prop := ∃ c, c ≤ 3 ∧ A (Q + 6) h = nI c ∧ (∀ k, k < 3 → A (Q + 7) (3 * h + k) = B (P + 2) (base + k)) ∧ (∀ k, k < 3 → (k < c ↔ ¬ B (P + 2) (base + k) = -1))
/-- counts -/
def dC (Q P : Nat) (A B : zMt) (U H G : Nat) : Prop := U ≤ 5 ∧ H ≤ 10 ∧ G ≤ 4 ∧ A (Q + 1) 0 = nI U ∧ B P 28 = nI U ∧ A (Q + 1) 1 = nI H ∧ B P 29 = nI H ∧ A (Q + 1) 2 = nI G ∧ B P 30 = nI G
/-- names -/
def dN (Q P : Nat) (t : Nat → Int32) (NA NB : zNt) (U H G : Nat) : Prop := (∀ i, i < U → nmR t (NA (Q + 10) i) (NB (P + 8) i)) ∧ (∀ i, i < H → nmR t (NA (Q + 11) i) (NB (P + 9) i)) ∧ (∀ i, i < G → nmR t (NA (Q + 12) i) (NB (P + 10) i)) ∧ (∀ i j, i < H → j < G → ¬ NA (Q + 11) i = NA (Q + 12) j)
/-- the rows -/
def dR (Q P : Nat) (A B : zMt) (U H G : Nat) : Prop :=
  (∀ u, u < 5 → A (Q + 2) u = B (P + 2) (62 + u)) ∧
  (∀ h, h < 10 → A (Q + 3) h = B (P + 2) h) ∧
  (∀ h, h < H → A (Q + 4) h = B (P + 6) h ∧ (A (Q + 4) h = 0 ∨ A (Q + 4) h = 1)) ∧
  (∀ h, h < 10 → A (Q + 5) h = B (P + 2) (10 + h) ∧ (A (Q + 5) h = -1 ∨ ∃ g, g < G ∧ A (Q + 5) h = nI g) ∧ (h < H ∨ A (Q + 5) h = -1)) ∧
  (∀ h, h < 10 → A (Q + 5) h = -1 → wsh A B Q P h (20 + 3 * h)) ∧
  (∀ h g, h < 10 → g < G → A (Q + 5) h = nI g → wsh A B Q P h (50 + 3 * g)) ∧
  (∀ g k, G ≤ g → g < 4 → k < 3 → B (P + 2) (50 + 3 * g + k) = -1) ∧
  (∀ h, h < 10 → H ≤ h → A (Q + 6) h = 0) ∧
  (∀ g, g < G → ∃ h, h < H ∧ A (Q + 5) h = nI g) ∧
  (A (Q + 1) 3 = B (P + 2) 67 ∧ A (Q + 1) 4 = B (P + 2) 68 ∧ A (Q + 1) 5 = B (P + 2) 69) ∧
  (A (Q + 1) 6 = 0 ∧ B (P + 2) 71 = 0 ∧ (∀ h, h < 10 → A (Q + 8) h = -1 ∧ B (P + 2) (72 + h) = -1) ∧ (∀ u, U ≤ u → u < 5 → A (Q + 2) u = 0) ∧ (∀ h, H ≤ h → h < 10 → A (Q + 4) h = 0))
/-- what comes once -/
def dO (Q P : Nat) (A B : zMt) : Prop := (A Q 11 = 0 ↔ ¬ bitAt (B P 23) 5) ∧ (A Q 12 = 0 ↔ ¬ bitAt (B P 23) 6) ∧ (A Q 13 = 0 ↔ ¬ bitAt (B P 23) 7) ∧ (A Q 11 = 0 → A (Q + 1) 3 = 0)
def dD (Q P : Nat) (t : Nat → Int32) (A : zMt) (NA : zNt) (B : zMt) (NB : zNt) : Prop := (∃ U H G, dC Q P A B U H G ∧ dN Q P t NA NB U H G ∧ dR Q P A B U H G) ∧ dO Q P A B ∧ A Q 1 = 0 ∧ B P 21 = 0 ∧ A Q 2 = -1 ∧ B P 22 = -1
/-- a step leaves the list -/
def kA (Q : Nat) (A A' : zMt) : Prop := ∀ r j, ¬ (r = Q ∧ (j = 5 ∨ j = 6 ∨ j = 7 ∨ j = 9)) → ¬ r = Q + 13 → A' r j = A r j
def kB (P : Nat) (B B' : zMt) : Prop := ∀ r j, ¬ (r = P ∧ ((16 ≤ j ∧ j ≤ 20) ∨ j = 31)) → B' r j = B r j
def kNA (Q : Nat) (N N' : zNt) : Prop := ∀ r j, ¬ (r = Q ∧ (j = 8 ∨ j = 10)) → N' r j = N r j
def kNB (P : Nat) (N N' : zNt) : Prop := ∀ r j, ¬ (r = P ∧ (j = 24 ∨ j = 32)) → N' r j = N r j
theorem fq.kA {Q : Nat} {A A' : zMt} (h : fq Q A A') : kA Q A A' := fun r j q _ => h r j q
theorem fp.kB {P : Nat} {B B' : zMt} (h : fp P B B') : kB P B B' := fun r j q => h r j (by omega)
theorem fqn.kNA {Q : Nat} {N N' : zNt} (h : fqn Q N N') : kNA Q N N' := fun r j q => h r j (by omega)
theorem fpn.kNB {P : Nat} {N N' : zNt} (h : fpn P N N') : kNB P N N' := fun r j q => h r j (by omega)
theorem kA.tr {Q : Nat} {A A' A2 : zMt} (h : kA Q A A') (h' : kA Q A' A2) : kA Q A A2 := fun r j q z => (h' r j q z).trans (h r j q z)
theorem kB.tr {P : Nat} {B B' B2 : zMt} (h : kB P B B') (h' : kB P B' B2) : kB P B B2 := fun r j q => (h' r j q).trans (h r j q)
theorem kNA.tr {Q : Nat} {A A' A2 : zNt} (h : kNA Q A A') (h' : kNA Q A' A2) : kNA Q A A2 := fun r j q => (h' r j q).trans (h r j q)
theorem kNB.tr {P : Nat} {B B' B2 : zNt} (h : kNB P B B') (h' : kNB P B' B2) : kNB P B B2 := fun r j q => (h' r j q).trans (h r j q)
theorem kA.rf {Q : Nat} {A : zMt} : kA Q A A := fun _ _ _ _ => rfl
theorem kB.rf {P : Nat} {B : zMt} : kB P B B := fun _ _ _ => rfl
theorem kNA.rf {Q : Nat} {N : zNt} : kNA Q N N := fun _ _ _ => rfl
theorem kNB.rf {P : Nat} {N : zNt} : kNB P N N := fun _ _ _ => rfl
theorem tx.k {Q n : Nat} {t : Nat → Int32} {A A' : zMt} (h : tx Q n t A) (k : kA Q A A') : tx Q n t A' := h.mono (fun a j q => k a j (by omega) (by omega))
theorem ty.k {P n : Nat} {t : Nat → Int32} {B B' : zMt} (h : ty P n t B) (k : kB P B B') : ty P n t B' := h.mono (fun a j q => k a j (by omega))
theorem wsh.k {A A' B B' : zMt} {Q P h base : Nat} (w : wsh A B Q P h base) (a6 : A' (Q + 6) h = A (Q + 6) h) (a7 : ∀ k, k < 3 → A' (Q + 7) (3 * h + k) = A (Q + 7) (3 * h + k)) (b : ∀ k, k < 3 → B' (P + 2) (base + k) = B (P + 2) (base + k)) : wsh A' B' Q P h base := by
  obtain ⟨c, h1, h2, h3, h4⟩ := w
  refine ⟨c, h1, by rw [a6]; exact h2, fun k hk => ?_, fun k hk => ?_⟩
  · rw [a7 k hk, b k hk]; exact h3 k hk
  · rw [b k hk]; exact h4 k hk
theorem dC.k {Q P : Nat} {A A' B B' : zMt} {U H G : Nat} (h : dC Q P A B U H G) (a : kA Q A A') (b : kB P B B') : dC Q P A' B' U H G := by
  unfold dC
  rw [a (Q + 1) 0 (by omega) (by omega), a (Q + 1) 1 (by omega) (by omega), a (Q + 1) 2 (by omega) (by omega), b P 28 (by omega), b P 29 (by omega), b P 30 (by omega)]
  exact h
theorem dN.k {Q P : Nat} {t : Nat → Int32} {NA NA' NB NB' : zNt} {U H G : Nat} (h : dN Q P t NA NB U H G) (a : kNA Q NA NA') (b : kNB P NB NB') : dN Q P t NA' NB' U H G := by
  obtain ⟨h1, h2, h3, h4⟩ := h
  refine ⟨fun i hi => ?_, fun i hi => ?_, fun i hi => ?_, fun i j hi hj => ?_⟩
  · rw [a (Q + 10) i (by omega), b (P + 8) i (by omega)]; exact h1 i hi
  · rw [a (Q + 11) i (by omega), b (P + 9) i (by omega)]; exact h2 i hi
  · rw [a (Q + 12) i (by omega), b (P + 10) i (by omega)]; exact h3 i hi
  · rw [a (Q + 11) i (by omega), a (Q + 12) j (by omega)]; exact h4 i j hi hj
theorem dR.k {Q P : Nat} {A A' B B' : zMt} {U H G : Nat} (h : dR Q P A B U H G) (a : kA Q A A') (b : kB P B B') : dR Q P A' B' U H G := by
  have ea : ∀ i, (1 ≤ i ∧ i ≤ 8) → A' (Q + i) = A (Q + i) := fun i hi => funext fun j => a (Q + i) j (by omega) (by omega)
  have eb : B' (P + 2) = B (P + 2) := funext fun j => b (P + 2) j (by omega)
  have eb6 : B' (P + 6) = B (P + 6) := funext fun j => b (P + 6) j (by omega)
  unfold dR wsh
  rw [ea 1 (by omega), ea 2 (by omega), ea 3 (by omega), ea 4 (by omega), ea 5 (by omega), ea 6 (by omega), ea 7 (by omega), ea 8 (by omega), eb, eb6]
  exact h
theorem dO.k {Q P : Nat} {A A' B B' : zMt} (h : dO Q P A B) (a : kA Q A A') (b : kB P B B') : dO Q P A' B' := by
  unfold dO
  rw [a Q 11 (by omega) (by omega), a Q 12 (by omega) (by omega), a Q 13 (by omega) (by omega), a (Q + 1) 3 (by omega) (by omega), b P 23 (by omega)]
  exact h
theorem dD.k {Q P : Nat} {t : Nat → Int32} {A A' B B' : zMt} {NA NA' NB NB' : zNt} (h : dD Q P t A NA B NB) (a : kA Q A A') (na : kNA Q NA NA') (b : kB P B B') (nb : kNB P NB NB') : dD Q P t A' NA' B' NB' := by
  obtain ⟨⟨U, H, G, h1, h2, h3⟩, h4, h5, h6, h7, h8⟩ := h
  refine ⟨⟨U, H, G, h1.k a b, h2.k na nb, h3.k a b⟩, h4.k a b, ?_, ?_, ?_, ?_⟩
  · rw [a Q 1 (by omega) (by omega)]; exact h5
  · rw [b P 21 (by omega)]; exact h6
  · rw [a Q 2 (by omega) (by omega)]; exact h7
  · rw [b P 22 (by omega)]; exact h8
/-- a step, with all that is held -/
def stp (Q P n : Nat) (t : Nat → Int32) (A : zMt) (NA : zNt) (B : zMt) (NB : zNt) (a : zMt × zNt) (b : Int32 × zMt × zNt) : Prop :=
  b.1 = 1 ∧ kA Q A a.1 ∧ kNA Q NA a.2 ∧ kB P B b.2.1 ∧ kNB P NB b.2.2 ∧ tx Q n t a.1 ∧ ty P n t b.2.1 ∧ tk Q P n t a.1 a.2 b.2.1 b.2.2 ∧ a.2 Q 10 = NA Q 10 ∧ b.2.2 P 32 = NB P 32 ∧ b.2.1 P 31 = B P 31 ∧ (∀ j, a.1 (Q + 13) j = A (Q + 13) j) ∧ (a.1 Q 9 = A Q 9 ∨ a.1 Q 6 = 2 ∨ a.1 Q 6 = 4)
theorem r_step {Q P n : Nat} {t : Nat → Int32} {A B : zMt} {NA NB : zNt} (hX : tx Q n t A) (hY : ty P n t B) (hN : nx Q P n A B) : ∃ a, D_X3_step Q A NA = some a ∧ ∃ b, D_X8_next P B NB = some b ∧ stp Q P n t A NA B NB a b := by
  obtain ⟨a, h1, b, h2, h3, h4, h5, h6, h7, h9, h8⟩ := s_step (NA := NA) (NB := NB) hX hY hN
  exact ⟨a, h1, b, h2, h3, h4.kA, h5.kNA, h6.kB, h7.kNB, hX.k h4.kA, hY.k h6.kB, h8, h5 Q 10 (by omega), h7 P 32 (by omega), h6 P 31 (by omega), fun j => h4 (Q + 13) j (by omega), h9⟩
/-- at the head of a line: where no line can begin, the list doesn't matter any more -/
def RLn (Q P n : Nat) (t : Nat → Int32) (A : zMt) (NA : zNt) (B : zMt) (NB : zNt) : Prop := tx Q n t A ∧ ty P n t B ∧ tk Q P n t A NA B NB ∧ (A Q 6 = 2 ∨ A Q 6 = 4 ∨ dD Q P t A NA B NB)
