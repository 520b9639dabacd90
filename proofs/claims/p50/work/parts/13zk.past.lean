/-! WHAT STOOD: the class keeps registers in a ring, the reference rows one behind the other -/
def ent (Q nw K k : Nat) : Nat := Q + 2 + 8 * ((nw + 9 + k - K) % 8)
def pst (Q P : Nat) (A B : zMt) (g : Nat → Int32) (U H K : Nat) : Prop :=
  K ≤ 8 ∧ A Q 0 = nI K ∧ B P 9 = nI K ∧ ∃ nw, nw < 8 ∧ A Q 1 = nI nw ∧ ∀ k, k < K → ∃ G, gR (ent Q nw K k) A (fun j => B (P + 4) (82 * k + j)) g U H G
theorem nI_addk {x y : Nat} (h : x + y < 2147483648) : nI x + nI y = nI (x + y) := by
  apply Int32.toInt_inj.mp
  have e1 : (nI x).toInt = (x : Nat) := nI_toInt (by omega)
  have e2 : (nI y).toInt = (y : Nat) := nI_toInt (by omega)
  have e3 : (nI (x + y)).toInt = (x + y : Nat) := nI_toInt (by omega)
  rw [z_add (by rw [e1, e2]; omega) (by rw [e1, e2]; omega), e1, e2, e3]
  omega
theorem nI_subn {x y : Nat} (h : y ≤ x) (hx : x < 2147483648) : nI x - nI y = nI (x - y) := by
  apply Int32.toInt_inj.mp
  have e1 : (nI x).toInt = (x : Nat) := nI_toInt (by omega)
  have e2 : (nI y).toInt = (y : Nat) := nI_toInt (by omega)
  have e3 : (nI (x - y)).toInt = (x - y : Nat) := nI_toInt (by omega)
  rw [z_sub (by rw [e1, e2]; omega) (by rw [e1, e2]; omega), e1, e2, e3]
  omega
theorem nI_m82 : ∀ K, K < 8 → (82 : Int32) * nI K = nI (82 * K) := by decide
/-- the reference drops the oldest row -/
theorem mm_drop {P : Nat} : ∀ (u k : Nat) (B : zMt), B P 9 = nI 8 → 82 ≤ k → k ≤ 656 → 656 - k < u → ∃ B', D_X8_keeps_12 P u (nI k) B = D_X8_keeps_50 P B' ∧ B' P 9 = nI 7 ∧ (∀ j, k ≤ j → j < 656 → B' (P + 4) (j - 82) = B (P + 4) j) ∧ (∀ i j, ¬ (i = P ∧ j = 9) → ¬ (i = P + 4 ∧ k - 82 ≤ j ∧ j < 574) → B' i j = B i j) := by
  intro u
  induction u with
  | zero => intro k B _ _ _ h; omega
  | succ u ih =>
    intro k B h9 h1 h2 hu
    rw [D_X8_keeps_12]
    by_cases hc : 656 ≤ k
    · rw [if_pos (by exact (leL (x := 656) (a := 656) (by decide) (by decide) (by omega)).mpr hc), zLt_eq]
      have e : B P 9 - (1 : Int32) = nI 7 := by rw [h9]; decide
      rw [e]
      exact ⟨_, rfl, zu_eq, fun j h3 h4 => by omega, fun i j h3 h4 => zu_ne h3⟩
    · rw [if_neg (by intro z; exact hc ((leL (x := 656) (a := 656) (by decide) (by decide) (by omega)).mp z))]
      have e82 : nI k - (82 : Int32) = nI (k - 82) := by
        rw [show (82 : Int32) = nI 82 by decide]
        exact nI_subn h1 (by omega)
      rw [e82]
      unfold zI
      rw [if_neg (vp_in_nI (by omega) (by decide)), if_neg (vp_in_nI (by omega) (by decide)), nI_clamp (by omega), nI_clamp (by omega), zLt_eq, nI_add1]
      obtain ⟨B', e1, e2, e3, e4⟩ := ih (k + 1) (zu B (P + 4) (k - 82) (B (P + 4) k)) ((zu_ne (by omega)).trans h9) (by omega) (by omega) (by omega)
      refine ⟨B', e1, e2, fun j h3 h4 => ?_, fun i j h3 h4 => (e4 i j h3 (by omega)).trans (zu_ne (by omega))⟩
      by_cases q : j = k
      · subst q
        rw [e4 (P + 4) (j - 82) (by omega) (by omega), zu_eq]
      · rw [e3 j (by omega) h4, zu_ne (by omega)]
/-- the reference writes its row down -/
theorem mm_copy {P K : Nat} (hK : K < 8) : ∀ (u k : Nat) (B : zMt), B P 9 = nI K → k ≤ 82 → 82 - k < u → ∃ B', D_X8_keeps_52 P u (nI k) B = some B' ∧ B' P 9 = nI (K + 1) ∧ (∀ j, k ≤ j → j < 82 → B' (P + 4) (82 * K + j) = B (P + 1) j) ∧ (∀ i j, ¬ (i = P ∧ j = 9) → ¬ (i = P + 4 ∧ 82 * K + k ≤ j ∧ j < 82 * K + 82) → B' i j = B i j) := by
  intro u
  induction u with
  | zero => intro k B _ _ h; omega
  | succ u ih =>
    intro k B h9 hk hu
    rw [D_X8_keeps_52, h9]
    by_cases hc : 82 ≤ k
    · rw [if_pos (by exact (leL (x := 82) (a := 82) (by decide) (by decide) (by omega)).mpr hc), zLt_eq, nI_add1]
      exact ⟨_, rfl, zu_eq, fun j h3 h4 => by omega, fun i j h3 h4 => zu_ne h3⟩
    · rw [if_neg (by intro z; exact hc ((leL (x := 82) (a := 82) (by decide) (by decide) (by omega)).mp z)), nI_m82 K hK, nI_addk (by omega)]
      unfold zI
      rw [if_neg (vp_in_nI (by omega) (by decide)), if_neg (vp_in_nI (by omega) (by decide)), nI_clamp (by omega), nI_clamp (by omega), zLt_eq, nI_add1]
      obtain ⟨B', e1, e2, e3, e4⟩ := ih (k + 1) (zu B (P + 4) (82 * K + k) (B (P + 1) k)) ((zu_ne (by omega)).trans h9) (by omega) (by omega)
      refine ⟨B', e1, e2, fun j h3 h4 => ?_, fun i j h3 h4 => (e4 i j h3 (by omega)).trans (zu_ne (by omega))⟩
      by_cases q : j = k
      · subst q
        rw [e4 (P + 4) (82 * K + j) (by omega) (by omega), zu_eq]
      · rw [e3 j (by omega) h4, zu_ne (by omega)]
/-- both keep what stands -/
theorem t_keep {C P : Nat} {A B : zMt} {g : Nat → Int32} {U H G K : Nat} (hL : gR (C + 17) A (B (P + 1)) g U H G) (hP : pst (C + 25) P A B g U H K) : ∃ A', D_X1_keep (C + 25) (C + 17) A = some A' ∧ ∃ B', D_X8_keeps P B = some B' ∧ ∃ K', pst (C + 25) P A' B' g U H K' ∧ (∀ i j, (i < C + 25 ∨ C + 91 ≤ i) → A' i j = A i j) ∧ (∀ i j, ¬ (i = P ∧ j = 9) → ¬ i = P + 4 → B' i j = B i j) := by
  obtain ⟨hK, a0, b9, nw, hn, a1, he⟩ := hP
  -- the class
  have cls : ∃ A', D_X1_keep (C + 25) (C + 17) A = some A' ∧ A' (C + 25) 0 = nI (if K = 8 then 8 else K + 1) ∧ A' (C + 25) 1 = nI ((nw + 1) % 8) ∧ gR (C + 25 + 2 + 8 * ((nw + 1) % 8)) A' (B (P + 1)) g U H G ∧ (∀ i j, ¬ (i = C + 25 ∧ (j = 0 ∨ j = 1)) → (i < C + 25 + 2 + 8 * ((nw + 1) % 8) ∨ C + 25 + 2 + 8 * ((nw + 1) % 8) + 8 ≤ i) → A' i j = A i j) := by
    have go : ∀ y : Nat, y = (nw + 1) % 8 → ∃ A', D_X1_keep_22 (C + 25) (C + 17) (nI y) A = some A' ∧ A' (C + 25) 0 = nI (if K = 8 then 8 else K + 1) ∧ A' (C + 25) 1 = nI y ∧ gR (C + 25 + 2 + 8 * y) A' (B (P + 1)) g U H G ∧ (∀ i j, ¬ (i = C + 25 ∧ (j = 0 ∨ j = 1)) → (i < C + 25 + 2 + 8 * y ∨ C + 25 + 2 + 8 * y + 8 ≤ i) → A' i j = A i j) := fun y hy => by
      have hy8 : y < 8 := by omega
      unfold D_X1_keep_22
      rw [zLt_eq]
      unfold zI
      rw [if_neg (vp_in_nI hy8 (by decide)), nI_clamp (by omega)]
      have k1 : ∀ i j, ¬ (i = C + 25 ∧ j = 1) → zu A (C + 25) 1 (nI y) i j = A i j := fun i j h => zu_ne h
      obtain ⟨A2, e2, g2, k2⟩ := (hL.m (A' := zu A (C + 25) 1 (nI y)) (fun i j h1 h2 => k1 i j (by omega)) (fun _ _ => rfl) (fun _ _ => rfl)).take (R := C + 25 + 2 + 8 * y) (by omega)
      rw [zB_s e2, zLt_eq]
      have e0 : A2 (C + 25) 0 = nI K := (k2 (C + 25) 0 (by omega)).trans ((k1 (C + 25) 0 (by omega)).trans a0)
      have e00 : (if (8 : Int32) < A2 (C + 25) 0 + 1 then (8 : Int32) else A2 (C + 25) 0 + 1) = nI (if K = 8 then 8 else K + 1) := by
        rw [e0, nI_add1]
        by_cases q : K = 8
        · rw [if_pos q, q]; decide
        · rw [if_neg q, if_neg (by intro z; exact absurd ((ltL (x := 8) (a := 8) (by decide) (by decide) (by omega)).mp z) (by omega))]
      rw [e00]
      refine ⟨_, rfl, zu_eq, ?_, g2.m (fun i j h1 h2 => zu_ne (by omega)) (fun _ _ => rfl) (fun _ _ => rfl), fun i j h1 h2 => (zu_ne (by omega)).trans ((k2 i j h2).trans (k1 i j (by omega)))⟩
      exact (zu_ne (by omega)).trans ((k2 (C + 25) 1 (by omega)).trans zu_eq)
    unfold D_X1_keep
    rw [a1, nI_add1]
    by_cases q : 8 ≤ nw + 1
    · rw [if_pos (by exact (leL (x := 8) (a := 8) (by decide) (by decide) (by omega)).mpr q)]
      have e : (nw + 1) % 8 = 0 := by omega
      rw [e]
      have t := go 0 (by omega)
      rw [show nI 0 = (0 : Int32) by decide] at t ⊢
      exact t
    · rw [if_neg (by intro z; exact q ((leL (x := 8) (a := 8) (by decide) (by decide) (by omega)).mp z))]
      have e : (nw + 1) % 8 = nw + 1 := by omega
      rw [e]
      exact go (nw + 1) (by omega)
  obtain ⟨A', ea, ea0, ea1, eg, ek⟩ := cls
  refine ⟨A', ea, ?_⟩
  by_cases q : K = 8
  · subst q
    obtain ⟨B1, d1, d2, d3, d4⟩ := mm_drop (P := P) zFu 82 B b9 (by omega) (by omega) (by unfold zFu; omega)
    obtain ⟨B2, f1, f2, f3, f4⟩ := mm_copy (P := P) (K := 7) (by omega) zFu 0 B1 d2 (by omega) (by unfold zFu; omega)
    rw [show nI 0 = (0 : Int32) by decide] at f1
    rw [show nI 82 = (82 : Int32) by decide] at d1
    have ek8 : D_X8_keeps P B = some B2 := by
      unfold D_X8_keeps
      rw [if_pos (by rw [b9]; decide), d1]
      exact f1
    refine ⟨B2, ek8, 8, ⟨by omega, by rw [ea0, if_pos rfl], f2, (nw + 1) % 8, by omega, ea1, fun k hk => ?_⟩, fun i j h => ek i j (by omega) (by omega), fun i j h1 h2 => (f4 i j h1 (fun z => h2 z.1)).trans (d4 i j h1 (fun z => h2 z.1))⟩
    by_cases z : k = 7
    · subst z
      refine ⟨G, ?_⟩
      have ee : ent (C + 25) ((nw + 1) % 8) 8 7 = C + 25 + 2 + 8 * ((nw + 1) % 8) := by unfold ent; omega
      rw [ee]
      refine eg.m (fun _ _ _ _ => rfl) (fun j hj => ?_) (fun _ _ => rfl)
      exact (f3 j (Nat.zero_le j) hj).trans (d4 (P + 1) j (by omega) (by omega))
    · obtain ⟨G', hg'⟩ := he (k + 1) (by omega)
      refine ⟨G', ?_⟩
      have ee : ent (C + 25) ((nw + 1) % 8) 8 k = ent (C + 25) nw 8 (k + 1) := by unfold ent; omega
      have hpos : ent (C + 25) nw 8 (k + 1) + 8 ≤ C + 25 + 2 + 8 * ((nw + 1) % 8) ∨ C + 25 + 2 + 8 * ((nw + 1) % 8) + 8 ≤ ent (C + 25) nw 8 (k + 1) := by unfold ent; omega
      have hge : C + 27 ≤ ent (C + 25) nw 8 (k + 1) := by unfold ent; omega
      rw [ee]
      refine hg'.m (fun i j h1 h2 => ek i j (by omega) (by omega)) (fun j hj => ?_) (fun _ _ => rfl)
      show B2 (P + 4) (82 * k + j) = B (P + 4) (82 * (k + 1) + j)
      rw [f4 (P + 4) (82 * k + j) (by omega) (by omega)]
      have := d3 (82 * (k + 1) + j) (by omega) (by omega)
      rw [show 82 * (k + 1) + j - 82 = 82 * k + j by omega] at this
      exact this
  · obtain ⟨B2, f1, f2, f3, f4⟩ := mm_copy (P := P) (K := K) (by omega) zFu 0 B b9 (by omega) (by unfold zFu; omega)
    rw [show nI 0 = (0 : Int32) by decide] at f1
    have ek8 : D_X8_keeps P B = some B2 := by
      unfold D_X8_keeps
      rw [if_neg (by rw [b9]; intro z; exact q (nI_inj (b := 8) (by omega) (by omega) z))]
      exact f1
    refine ⟨B2, ek8, K + 1, ⟨by omega, by rw [ea0, if_neg q], f2, (nw + 1) % 8, by omega, ea1, fun k hk => ?_⟩, fun i j h => ek i j (by omega) (by omega), fun i j h1 h2 => f4 i j h1 (fun z => h2 z.1)⟩
    by_cases z : k = K
    · subst z
      refine ⟨G, ?_⟩
      have ee : ent (C + 25) ((nw + 1) % 8) (k + 1) k = C + 25 + 2 + 8 * ((nw + 1) % 8) := by unfold ent; omega
      rw [ee]
      exact eg.m (fun _ _ _ _ => rfl) (fun j hj => f3 j (Nat.zero_le j) hj) (fun _ _ => rfl)
    · obtain ⟨G', hg'⟩ := he k (by omega)
      refine ⟨G', ?_⟩
      have ee : ent (C + 25) ((nw + 1) % 8) (K + 1) k = ent (C + 25) nw K k := by unfold ent; omega
      have hpos : ent (C + 25) nw K k + 8 ≤ C + 25 + 2 + 8 * ((nw + 1) % 8) ∨ C + 25 + 2 + 8 * ((nw + 1) % 8) + 8 ≤ ent (C + 25) nw K k := by unfold ent; omega
      have hge : C + 27 ≤ ent (C + 25) nw K k := by unfold ent; omega
      rw [ee]
      exact hg'.m (fun i j h1 h2 => ek i j (by omega) (by omega)) (fun j hj => f4 (P + 4) (82 * k + j) (by omega) (by omega)) (fun _ _ => rfl)
/-- the reference takes a row back -/
theorem mm_back {P K : Nat} (hK : K < 8) : ∀ (u k : Nat) (B : zMt), B P 9 = nI K → k ≤ 82 → 82 - k < u → ∃ B', D_X8_undo_25 P u (nI k) B = some (nI K, B') ∧ (∀ j, k ≤ j → j < 82 → B' (P + 1) j = B (P + 4) (82 * K + j)) ∧ (∀ i j, ¬ (i = P ∧ (j = 6 ∨ j = 12)) → ¬ (i = P + 1 ∧ k ≤ j ∧ j < 82) → B' i j = B i j) := by
  intro u
  induction u with
  | zero => intro k B _ _ h; omega
  | succ u ih =>
    intro k B h9 hk hu
    rw [D_X8_undo_25, h9]
    by_cases hc : 82 ≤ k
    · rw [if_pos (by exact (leL (x := 82) (a := 82) (by decide) (by decide) (by omega)).mpr hc)]
      have eg : D_X8_gives P (nI K) B = some (nI K, zu (zu B P 6 (0 : Int32)) P 12 (0 : Int32)) := rfl
      rw [zB_s eg]
      exact ⟨_, rfl, fun j h3 h4 => by omega, fun i j h3 h4 => (zu_ne (by omega)).trans (zu_ne (by omega))⟩
    · rw [if_neg (by intro z; exact hc ((leL (x := 82) (a := 82) (by decide) (by decide) (by omega)).mp z)), nI_m82 K hK, nI_addk (by omega)]
      unfold zI
      rw [if_neg (vp_in_nI (by omega) (by decide)), if_neg (vp_in_nI (by omega) (by decide)), nI_clamp (by omega), nI_clamp (by omega), zLt_eq, nI_add1]
      obtain ⟨B', e1, e3, e4⟩ := ih (k + 1) (zu B (P + 1) k (B (P + 4) (82 * K + k))) ((zu_ne (by omega)).trans h9) (by omega) (by omega)
      refine ⟨B', e1, fun j h3 h4 => ?_, fun i j h3 h4 => (e4 i j h3 (by omega)).trans (zu_ne (by omega))⟩
      by_cases q : j = k
      · subst q
        rw [e4 (P + 1) j (by omega) (by omega), zu_eq]
      · rw [e3 j (by omega) h4, zu_ne (by omega)]
/-- both take back what stood, if something did -/
theorem t_back {C P : Nat} {A B : zMt} {g : Nat → Int32} {U H K : Nat} (hP : pst (C + 25) P A B g U H K) : ∃ a, D_X1_giveBack (C + 25) (C + 17) A = some a ∧ ((K = 0 ∧ a.1 = 0 ∧ a.2 = A ∧ B P 9 = 0) ∨ (0 < K ∧ a.1 = 1 ∧ a.2 (C + 25) 0 = nI (K - 1) ∧ (∀ i j, (i < C + 17 ∨ (C + 25 < i)) → a.2 i j = A i j) ∧ ∃ B', D_X8_undo P B = some (nI (K - 1), B') ∧ (∃ G, gR (C + 17) a.2 (B' (P + 1)) g U H G) ∧ pst (C + 25) P a.2 B' g U H (K - 1) ∧ (∀ i j, ¬ (i = P ∧ (j = 6 ∨ j = 9 ∨ j = 12)) → ¬ (i = P + 1 ∧ j < 82) → B' i j = B i j))) := by
  obtain ⟨hK, a0, b9, nw, hn, a1, he⟩ := hP
  unfold D_X1_giveBack
  rw [a1, a0]
  unfold zI
  rw [if_neg (vp_in_nI hn (by decide)), nI_clamp (by omega)]
  by_cases q : K = 0
  · subst q
    rw [if_pos (by decide)]
    exact ⟨_, rfl, Or.inl ⟨rfl, rfl, rfl, b9.trans (by decide)⟩⟩
  · rw [if_neg (by intro z; exact q (nI_inj (b := 0) (by omega) (by omega) z))]
    obtain ⟨G', hg'⟩ := he (K - 1) (by omega)
    have ee : ent (C + 25) nw K (K - 1) = C + 25 + 2 + 8 * nw := by unfold ent; omega
    rw [ee] at hg'
    obtain ⟨A1, e1, g1, k1⟩ := hg'.take (R := C + 17) (by omega)
    rw [zB_s e1, zLt_eq]
    have e0 : A1 (C + 25) 0 = nI K := (k1 (C + 25) 0 (by omega)).trans a0
    have e00 : A1 (C + 25) 0 - 1 = nI (K - 1) := by
      rw [e0, show (1 : Int32) = nI 1 by decide]
      exact nI_subn (by omega) (by omega)
    rw [e00]
    have e11 : zu A1 (C + 25) 0 (nI (K - 1)) (C + 25) 1 = nI nw := (zu_ne (by omega)).trans ((k1 (C + 25) 1 (by omega)).trans a1)
    rw [e11]
    -- the reference
    obtain ⟨B', m1, m2, m3⟩ := mm_back (P := P) (K := K - 1) (by omega) zFu 0 (zu B P 9 (nI (K - 1))) zu_eq (by omega) (by unfold zFu; omega)
    rw [show nI 0 = (0 : Int32) by decide] at m1
    have eu : D_X8_undo P B = some (nI (K - 1), B') := by
      unfold D_X8_undo
      rw [if_neg (by rw [b9]; intro z; exact q (nI_inj (b := 0) (by omega) (by omega) z)), zLt_eq, b9]
      have e9 : nI K - (1 : Int32) = nI (K - 1) := by
        rw [show (1 : Int32) = nI 1 by decide]
        exact nI_subn (by omega) (by omega)
      rw [e9]
      exact m1
    have kB : ∀ i j, ¬ (i = P ∧ (j = 6 ∨ j = 9 ∨ j = 12)) → ¬ (i = P + 1 ∧ j < 82) → B' i j = B i j := fun i j h1 h2 => (m3 i j (by omega) (by omega)).trans (zu_ne (by omega))
    have fin : ∀ y : Nat, y = (nw + 7) % 8 → ∃ a, D_X1_giveBack_52 (C + 25) (C + 17) (nI y) (zu A1 (C + 25) 0 (nI (K - 1))) = some a ∧ ((K = 0 ∧ a.1 = 0 ∧ a.2 = A ∧ B P 9 = 0) ∨ (0 < K ∧ a.1 = 1 ∧ a.2 (C + 25) 0 = nI (K - 1) ∧ (∀ i j, (i < C + 17 ∨ (C + 25 < i)) → a.2 i j = A i j) ∧ ∃ B', D_X8_undo P B = some (nI (K - 1), B') ∧ (∃ G, gR (C + 17) a.2 (B' (P + 1)) g U H G) ∧ pst (C + 25) P a.2 B' g U H (K - 1) ∧ (∀ i j, ¬ (i = P ∧ (j = 6 ∨ j = 9 ∨ j = 12)) → ¬ (i = P + 1 ∧ j < 82) → B' i j = B i j))) := fun y hy => by
      unfold D_X1_giveBack_52
      rw [zLt_eq]
      have kf : ∀ i j, ¬ (i = C + 25 ∧ (j = 0 ∨ j = 1)) → zu (zu A1 (C + 25) 0 (nI (K - 1))) (C + 25) 1 (nI y) i j = A1 i j := fun i j h => (zu_ne (by omega)).trans (zu_ne (by omega))
      refine ⟨_, rfl, Or.inr ⟨by omega, rfl, (zu_ne (by omega)).trans zu_eq, fun i j h => (kf i j (by omega)).trans (k1 i j (by omega)), B', eu, ⟨G', ?_⟩, ⟨by omega, (zu_ne (by omega)).trans zu_eq, (m3 P 9 (by omega) (by omega)).trans zu_eq, y, by omega, zu_eq, fun k hk => ?_⟩, kB⟩⟩
      · exact g1.m (fun i j h1 h2 => kf i j (by omega)) (fun j hj => (m2 j (Nat.zero_le j) hj).trans (zu_ne (by omega))) (fun _ _ => rfl)
      · obtain ⟨G2, hg2⟩ := he k (by omega)
        refine ⟨G2, ?_⟩
        have e2 : ent (C + 25) y (K - 1) k = ent (C + 25) nw K k := by unfold ent; omega
        have hge : C + 27 ≤ ent (C + 25) nw K k := by unfold ent; omega
        rw [e2]
        exact hg2.m (fun i j h1 h2 => (kf i j (by omega)).trans (k1 i j (by omega))) (fun j hj => (m3 (P + 4) (82 * k + j) (by omega) (by omega)).trans (zu_ne (by omega))) (fun _ _ => rfl)
    by_cases q2 : nw ≤ 0
    · rw [if_pos (by exact (leR (x := 0) (b := 0) (by decide) (by decide) (by omega)).mpr q2)]
      have t := fin 7 (by omega)
      rw [show nI 7 = (7 : Int32) by decide] at t
      exact t
    · rw [if_neg (by intro z; exact q2 ((leR (x := 0) (b := 0) (by decide) (by decide) (by omega)).mp z))]
      have e3 : nI nw - (1 : Int32) = nI (nw - 1) := by
        rw [show (1 : Int32) = nI 1 by decide]
        exact nI_subn (by omega) (by omega)
      rw [e3]
      exact fin (nw - 1) (by omega)
