/-! the row that is being read -/
/-- a row stands for a list of U units, H hunters, G parties -/
def jRowP (r : Nat → Int32) (U H G : Int) : Prop :=
  (∀ h : Nat, h < 10 → 0 ≤ (r h).toInt ∧ (r h).toInt ≤ 20) ∧
  (∀ h : Nat, h < 10 → -1 ≤ (r (10 + h)).toInt ∧ (r (10 + h)).toInt < G ∧ ((h : Int) < H ∨ (r (10 + h)).toInt = -1)) ∧
  (∀ k : Nat, 20 ≤ k → k < 62 → -1 ≤ (r k).toInt ∧ (r k).toInt < U) ∧
  (∀ u : Nat, u < 5 → 0 ≤ (r (62 + u)).toInt ∧ (r (62 + u)).toInt ≤ 20) ∧
  (0 ≤ (r 67).toInt ∧ (r 67).toInt ≤ 2 ∧ 0 ≤ (r 68).toInt ∧ (r 68).toInt ≤ 100 ∧ 0 ≤ (r 69).toInt ∧ (r 69).toInt ≤ 100) ∧
  (∀ p : Nat, (p : Int) < G → ∃ h : Nat, (h : Int) < H ∧ (r (10 + h)).toInt = p)
theorem jRowP.mono {r : Nat → Int32} {U H G U' H' : Int} (h : jRowP r U H G) (hU : U ≤ U') (hH : H ≤ H') : jRowP r U' H' G := by
  obtain ⟨s1, s2, s3, s4, s5, s6⟩ := h
  refine ⟨s1, fun x hx => ?_, fun k h1 h2 => ?_, s4, s5, fun p hp => ?_⟩
  · have := s2 x hx
    omega
  · have := s3 k h1 h2
    omega
  · obtain ⟨x, h1, h2⟩ := s6 p hp
    exact ⟨x, by omega, h2⟩
def jZ (P : Nat) (M : zMt) : Prop := jRowP (M (P + 2)) (M P 28).toInt (M P 29).toInt (M P 30).toInt
theorem jZ.mono {P : Nat} {M M' : zMt} (h : jZ P M) (hf : ∀ a j, (a = P + 2 ∨ (a = P ∧ (j = 28 ∨ j = 29 ∨ j = 30))) → M' a j = M a j) : jZ P M' := by
  unfold jZ
  rw [hf P 28 (by omega), hf P 29 (by omega), hf P 30 (by omega), show M' (P + 2) = M (P + 2) from funext fun j => hf (P + 2) j (by omega)]
  exact h
/-- a number of the row that is being read becomes another, where it may -/
theorem jZ.put {P k : Nat} {M M' : zMt} {v : Int32} (h : jZ P M) (hH : (M P 29).toInt ≤ 10) (f : zu M (P + 2) k v = M') (hk : (k < 10 ∧ 0 ≤ v.toInt ∧ v.toInt ≤ 20) ∨ (20 ≤ k ∧ k < 62 ∧ -1 ≤ v.toInt ∧ v.toInt < (M P 28).toInt) ∨ (62 ≤ k ∧ k < 67 ∧ 0 ≤ v.toInt ∧ v.toInt ≤ 20) ∨ (k = 67 ∧ 0 ≤ v.toInt ∧ v.toInt ≤ 2) ∨ (68 ≤ k ∧ k < 70 ∧ 0 ≤ v.toInt ∧ v.toInt ≤ 100) ∨ 70 ≤ k) : jZ P M' := by
  subst f
  obtain ⟨s1, s2, s3, s4, s5, s6⟩ := id h
  unfold jZ
  rw [congrFun (zu_row (show P ≠ P + 2 by omega)) 28, congrFun (zu_row (show P ≠ P + 2 by omega)) 29, congrFun (zu_row (show P ≠ P + 2 by omega)) 30]
  have e : ∀ j, ¬ j = k → zu M (P + 2) k v (P + 2) j = M (P + 2) j := fun j hj => zu_ne (by omega)
  have g : ∀ (j : Nat) (lo hi : Int), (lo ≤ (M (P + 2) j).toInt ∧ (M (P + 2) j).toInt ≤ hi) → (j = k → lo ≤ v.toInt ∧ v.toInt ≤ hi) → lo ≤ (zu M (P + 2) k v (P + 2) j).toInt ∧ (zu M (P + 2) k v (P + 2) j).toInt ≤ hi := fun j lo hi h1 h2 => by
    by_cases q : j = k
    · have := h2 q
      subst q
      rw [zu_eq]
      exact this
    · rw [e j q]; exact h1
  refine ⟨fun x hx => g x 0 20 (s1 x hx) (fun q => by omega), fun x hx => ?_, fun x h1 h2 => ?_, fun u hu => g (62 + u) 0 20 (s4 u hu) (fun q => by omega), ?_, fun p hp => ?_⟩
  · rw [e (10 + x) (by omega)]
    exact s2 x hx
  · have := g x (-1) ((M P 28).toInt - 1) (by have := s3 x h1 h2; omega) (fun q => by omega)
    omega
  · have a7 := g 67 0 2 (by omega) (fun q => by omega)
    have a8 := g 68 0 100 (by omega) (fun q => by omega)
    have a9 := g 69 0 100 (by omega) (fun q => by omega)
    omega
  · obtain ⟨x, h1, h2⟩ := s6 p hp
    exact ⟨x, h1, by rw [e (10 + x) (by omega)]; exact h2⟩
/-- one unit, or one hunter, more -/
theorem jZ.up {P k : Nat} {M M' : zMt} {v : Int32} (h : jZ P M) (f : zu M P k v = M') (hk : (k = 28 ∧ (M P 28).toInt ≤ v.toInt) ∨ (k = 29 ∧ (M P 29).toInt ≤ v.toInt) ∨ (¬ k = 28 ∧ ¬ k = 29 ∧ ¬ k = 30)) : jZ P M' := by
  subst f
  unfold jZ
  rw [zu_row (show P + 2 ≠ P by omega), zu_ne (show ¬ (P = P ∧ 30 = k) by omega)]
  refine jRowP.mono h ?_ ?_
  · by_cases q : 28 = k
    · subst q; rw [zu_eq]; omega
    · rw [zu_ne (by omega)]; exact Int.le_refl _
  · by_cases q : 29 = k
    · subst q; rw [zu_eq]; omega
    · rw [zu_ne (by omega)]; exact Int.le_refl _
/-- at the end the row's own number of parties is told -/
theorem jRowP.done {r r' : Nat → Int32} {U H G : Int} (h : jRowP r U H G) (hH : H ≤ 10) (e : ∀ j, j < 82 → ¬ j = 70 → r' j = r j) (e70 : (r' 70).toInt = G) (g : 0 ≤ G ∧ G ≤ 4) : jRow r' U H := by
  obtain ⟨s1, s2, s3, s4, s5, s6⟩ := h
  refine ⟨fun x hx => ?_, fun x hx => ?_, fun k h1 h2 => ?_, fun u hu => ?_, ?_, fun p hp => ?_⟩
  · rw [e x (by omega) (by omega)]; exact s1 x hx
  · rw [e (10 + x) (by omega) (by omega), e70]; exact s2 x hx
  · rw [e k (by omega) (by omega)]; exact s3 k h1 h2
  · rw [e (62 + u) (by omega) (by omega)]; exact s4 u hu
  · rw [e 67 (by omega) (by omega), e 68 (by omega) (by omega), e 69 (by omega) (by omega), e70]; omega
  · rw [e70] at hp
    obtain ⟨x, h1, h2⟩ := s6 p hp
    exact ⟨x, h1, by rw [e (10 + x) (by omega) (by omega)]; exact h2⟩
theorem jY.put {P k : Nat} {M M' : zMt} {v : Int32} (h : jY P M) (f : zu M P k v = M') (hk : (k = 28 ∧ 0 ≤ v.toInt ∧ v.toInt ≤ 5) ∨ (k = 29 ∧ 0 ≤ v.toInt ∧ v.toInt ≤ 10) ∨ (k = 30 ∧ 0 ≤ v.toInt ∧ v.toInt ≤ 4)) : jY P M' := by
  subst f
  unfold jY at h ⊢
  rcases hk with ⟨q, h0, h1⟩ | ⟨q, h0, h1⟩ | ⟨q, h0, h1⟩ <;> subst q
  · rw [zu_eq, zu_ne (show ¬ (P = P ∧ 29 = 28) by omega), zu_ne (show ¬ (P = P ∧ 30 = 28) by omega)]
    exact ⟨h0, h1, h.2.2⟩
  · rw [zu_eq, zu_ne (show ¬ (P = P ∧ 28 = 29) by omega), zu_ne (show ¬ (P = P ∧ 30 = 29) by omega)]
    exact ⟨h.1, h.2.1, h0, h1, h.2.2.2.2⟩
  · rw [zu_eq, zu_ne (show ¬ (P = P ∧ 28 = 30) by omega), zu_ne (show ¬ (P = P ∧ 29 = 30) by omega)]
    exact ⟨h.1, h.2.1, h.2.2.1, h.2.2.2.1, h0, h1⟩
theorem z_at {c x : Int32} (h0 : 0 ≤ x.toInt) (h1 : x.toInt < 10) (c0 : 0 ≤ c.toInt) (c1 : c.toInt ≤ 50) : (c + (3 : Int32) * x).toInt = c.toInt + 3 * x.toInt := by
  have ex : x = nI x.toInt.toNat := Int32.toInt_inj.mp (by rw [nI_toInt (by omega)]; omega)
  have key : ∀ k : Nat, k < 10 → ((3 : Int32) * nI k).toInt = 3 * (k : Int) := by decide
  have e3 : ((3 : Int32) * x).toInt = 3 * x.toInt := by
    have := key x.toInt.toNat (by omega)
    rw [← ex] at this
    omega
  rw [z_add (by omega) (by omega), e3]
theorem z_at20 {x : Int32} (h0 : 0 ≤ x.toInt) (h1 : x.toInt < 10) : 20 ≤ ((20 : Int32) + (3 : Int32) * x).toInt ∧ ((20 : Int32) + (3 : Int32) * x).toInt ≤ 59 := by
  have o : (20 : Int32).toInt = 20 := by decide
  rw [z_at h0 h1 (by omega) (by omega)]
  omega
theorem z_at50 {x : Int32} (h0 : 0 ≤ x.toInt) (h1 : x.toInt < 4) : 20 ≤ ((50 : Int32) + (3 : Int32) * x).toInt ∧ ((50 : Int32) + (3 : Int32) * x).toInt ≤ 59 := by
  have o : (50 : Int32).toInt = 50 := by decide
  rw [z_at h0 (by omega) (by omega) (by omega)]
  omega
