/-! together: the row with the two together, and what the reference lays -/
theorem bv_b {r : Nat → Int32} {H a i : Nat} (hi : i < 32) : ∀ n, n ≤ 10 → ((bv r H a n).toBitVec.getLsbD i = true ↔ i < n ∧ memb r H a i)
  | 0, _ => by
    rw [show bv r H a 0 = (0 : Int32) from rfl, show (0 : Int32).toBitVec = 0#32 from rfl, BitVec.getLsbD_zero]
    exact ⟨fun z => absurd z (by decide), fun z => by omega⟩
  | n + 1, hn => by
    have ih := bv_b (r := r) (H := H) (a := a) hi n (by omega)
    show ((if memb r H a n then bv r H a n ||| ((1 : Int32) <<< (nI n &&& 31)) else bv r H a n).toBitVec.getLsbD i = true ↔ _)
    by_cases q : memb r H a n
    · rw [if_pos q, Int32.toBitVec_or, BitVec.getLsbD_or, Bool.or_eq_true, ih, bit1 n (by omega) i hi, decide_eq_true_iff]
      constructor
      · rintro (⟨z1, z2⟩ | z)
        · exact ⟨by omega, z2⟩
        · subst z; exact ⟨by omega, q⟩
      · rintro ⟨z1, z2⟩
        by_cases y : i = n
        · exact Or.inr y
        · exact Or.inl ⟨by omega, z2⟩
    · rw [if_neg q, ih]
      constructor
      · rintro ⟨z1, z2⟩; exact ⟨by omega, z2⟩
      · rintro ⟨z1, z2⟩
        have : ¬ i = n := fun y => q (y ▸ z2)
        exact ⟨by omega, z2⟩
theorem bv_ext {r r' : Nat → Int32} {H a a' : Nat} (hH : H ≤ 10) (h : ∀ i, i < H → (memb r H a i ↔ memb r' H a' i)) : bv r H a H = bv r' H a' H := i_ext (fun i hi => by
  rw [bv_b hi H hH, bv_b hi H hH]
  exact ⟨fun z => ⟨z.1, (h i z.1).mp z.2⟩, fun z => ⟨z.1, (h i z.1).mpr z.2⟩⟩)
def jn (r r2 : Nat → Int32) (h0 h1 G : Nat) : Prop := r2 (10 + h0) = nI G ∧ r2 (10 + h1) = nI G ∧ (∀ k, k < 3 → r2 (50 + 3 * G + k) = r (20 + 3 * h0 + k)) ∧ (∀ j, ¬ j = 10 + h0 → ¬ j = 10 + h1 → ¬ (50 + 3 * G ≤ j ∧ j < 53 + 3 * G) → r2 j = r j)
theorem jn_ex {r : Nat → Int32} {h0 h1 G : Nat} (H0 : h0 < 10) (H1 : h1 < 10) : ∃ r2, jn r r2 h0 h1 G := by
  refine ⟨fun j => if j = 10 + h0 ∨ j = 10 + h1 then nI G else if 50 + 3 * G ≤ j ∧ j < 53 + 3 * G then r (20 + 3 * h0 + (j - (50 + 3 * G))) else r j, if_pos (Or.inl rfl), if_pos (Or.inr rfl), fun k hk => ?_, fun j h1 h2 h3 => (if_neg (by omega)).trans (if_neg h3)⟩
  refine (if_neg (by omega)).trans ((if_pos (by omega)).trans ?_)
  rw [show 50 + 3 * G + k - (50 + 3 * G) = k by omega]
theorem tg_fr {r r2 : Nat → Int32} {h0 h1 G : Nat} (hj : jn r r2 h0 h1 G) (hG : G ≤ 4) (H0 : h0 < 10) (H1 : h1 < 10) (hne : ¬ h0 = h1) (e0 : r (10 + h0) = -1) (e1 : r (10 + h1) = -1) : ∀ k, k ≤ 10 → ((h0 < k ∧ h1 < k ∧ fr r2 k + 2 = fr r k) ∨ (h0 < k ∧ ¬ h1 < k ∧ fr r2 k + 1 = fr r k) ∨ (¬ h0 < k ∧ h1 < k ∧ fr r2 k + 1 = fr r k) ∨ (¬ h0 < k ∧ ¬ h1 < k ∧ fr r2 k = fr r k))
  | 0, _ => Or.inr (Or.inr (Or.inr ⟨by omega, by omega, rfl⟩))
  | k + 1, hk => by
    have ih := tg_fr hj hG H0 H1 hne e0 e1 k (by omega)
    have s1 : fr r2 (k + 1) = fr r2 k + (if r2 (10 + k) = -1 then 1 else 0) := rfl
    have s2 : fr r (k + 1) = fr r k + (if r (10 + k) = -1 then 1 else 0) := rfl
    by_cases z0 : k = h0
    · rw [z0, hj.1, if_neg (nI_ne (by omega))] at s1
      rw [z0, if_pos e0] at s2
      rw [z0] at ih ⊢
      omega
    · by_cases z1 : k = h1
      · rw [z1, hj.2.1, if_neg (nI_ne (by omega))] at s1
        rw [z1, if_pos e1] at s2
        rw [z1] at ih ⊢
        omega
      · rw [hj.2.2.2 (10 + k) (by omega) (by omega) (by omega)] at s1
        by_cases q : r (10 + k) = -1
        · rw [if_pos q] at s1 s2
          omega
        · rw [if_neg q] at s1 s2
          omega
def cJ (a0 a1 k : Nat) : Nat := k - (if a0 < k then 1 else 0) - (if a1 < k then 1 else 0)
theorem cJ_c {a0 a1 k : Nat} (h : ¬ a0 = a1) : (a0 < k ∧ a1 < k ∧ cJ a0 a1 k + 2 = k) ∨ (a0 < k ∧ ¬ a1 < k ∧ cJ a0 a1 k + 1 = k) ∨ (¬ a0 < k ∧ a1 < k ∧ cJ a0 a1 k + 1 = k) ∨ (¬ a0 < k ∧ ¬ a1 < k ∧ cJ a0 a1 k = k) := by
  unfold cJ
  by_cases q0 : a0 < k
  · by_cases q1 : a1 < k
    · rw [if_pos q0, if_pos q1]; omega
    · rw [if_pos q0, if_neg q1]; omega
  · by_cases q1 : a1 < k
    · rw [if_neg q0, if_pos q1]; omega
    · rw [if_neg q0, if_neg q1]; omega
theorem tg_m {r r2 : Nat → Int32} {h0 h1 G H k : Nat} (hj : jn r r2 h0 h1 G) (hG : G ≤ 4) (hH : H ≤ 10) (H0 : h0 < H) (H1 : h1 < H) (hne : ¬ h0 = h1) (e0 : r (10 + h0) = -1) (e1 : r (10 + h1) = -1) (hk : k < fr r H + G) (n0 : ¬ k = fr r h0) (n1 : ¬ k = fr r h1) : (∀ h, h < H → (memb r H k h ↔ memb r2 H (cJ (fr r h0) (fr r h1) k) h)) ∧ (∃ base, isBase r H k base ∧ isBase r2 H (cJ (fr r h0) (fr r h1) k) base ∧ 20 ≤ base ∧ base < 62 ∧ ∀ x, x < 3 → r2 (base + x) = r (base + x)) := by
  have ne : ¬ fr r h0 = fr r h1 := fun z => hne (fr_inj e0 e1 z)
  have hc := cJ_c (k := k) ne
  have hf := tg_fr hj hG (by omega) (by omega) hne e0 e1
  have l0 := fr_lt H0 e0
  have l1 := fr_lt H1 e1
  by_cases q : k < fr r H
  · obtain ⟨x, x1, x2, x3⟩ := fr_ex H q
    have y0 : ¬ x = h0 := fun z => n0 (by rw [← x3, z])
    have y1 : ¬ x = h1 := fun z => n1 (by rw [← x3, z])
    have z0 : fr r h0 < k ↔ h0 < x := by
      constructor
      · intro z
        by_cases w : h0 < x
        · exact w
        · have := fr_lt (show x < h0 by omega) x2
          omega
      · intro z
        have := fr_lt z e0
        omega
    have z1 : fr r h1 < k ↔ h1 < x := by
      constructor
      · intro z
        by_cases w : h1 < x
        · exact w
        · have := fr_lt (show x < h1 by omega) x2
          omega
      · intro z
        have := fr_lt z e1
        omega
    have ex := hf x (by omega)
    have ec : cJ (fr r h0) (fr r h1) k = fr r2 x := by omega
    have e2 : r2 (10 + x) = -1 := (hj.2.2.2 _ (by omega) (by omega) (by omega)).trans x2
    rw [ec, ← x3]
    refine ⟨fun h hh => (memb_free x1 x2).trans (memb_free x1 e2).symm, 20 + 3 * x, Or.inl ⟨x, x1, x2, rfl, rfl⟩, Or.inl ⟨x, x1, e2, rfl, rfl⟩, by omega, by omega, fun y hy => hj.2.2.2 _ (by omega) (by omega) (by omega)⟩
  · obtain ⟨p, rfl⟩ : ∃ p, k = fr r H + p := ⟨k - fr r H, by omega⟩
    have ex := hf H hH
    have ec : cJ (fr r h0) (fr r h1) (fr r H + p) = fr r2 H + p := by omega
    rw [ec]
    refine ⟨fun h hh => ?_, 50 + 3 * p, Or.inr ⟨by omega, by omega⟩, Or.inr ⟨by omega, by omega⟩, by omega, by omega, fun y hy => hj.2.2.2 _ (by omega) (by omega) (by omega)⟩
    rw [memb_party5 hh, memb_party5 hh]
    by_cases z0 : h = h0
    · rw [z0, hj.1, e0]
      exact ⟨fun z => absurd z.symm (nI_ne (by omega)), fun z => by have := nI_inj (by omega) (by omega) z; omega⟩
    · by_cases z1 : h = h1
      · rw [z1, hj.2.1, e1]
        exact ⟨fun z => absurd z.symm (nI_ne (by omega)), fun z => by have := nI_inj (by omega) (by omega) z; omega⟩
      · rw [hj.2.2.2 (10 + h) (by omega) (by omega) (by omega)]
theorem tg_j {r r2 : Nat → Int32} {h0 h1 G H : Nat} (hj : jn r r2 h0 h1 G) (hG : G ≤ 4) (hH : H ≤ 10) (H0 : h0 < H) (H1 : h1 < H) (hr : ∀ h, h < H → r (10 + h) = -1 ∨ ∃ p, p < G ∧ r (10 + h) = nI p) : (∀ h, h < H → (memb r2 H (fr r2 H + G) h ↔ h = h0 ∨ h = h1)) ∧ bv r2 H (fr r2 H + G) H = ((1 : Int32) <<< (nI h0 &&& 31)) ||| ((1 : Int32) <<< (nI h1 &&& 31)) := by
  have key : ∀ h, h < H → (memb r2 H (fr r2 H + G) h ↔ h = h0 ∨ h = h1) := fun h hh => by
    rw [memb_party5 hh]
    by_cases z0 : h = h0
    · rw [z0, hj.1]; exact ⟨fun _ => Or.inl rfl, fun _ => rfl⟩
    · by_cases z1 : h = h1
      · rw [z1, hj.2.1]; exact ⟨fun _ => Or.inr rfl, fun _ => rfl⟩
      · rw [hj.2.2.2 (10 + h) (by omega) (by omega) (by omega)]
        refine ⟨fun z => ?_, fun z => by omega⟩
        rcases hr h hh with w | ⟨p, hp, w⟩
        · exact absurd (z.symm.trans w) (nI_ne (by omega))
        · have := nI_inj (by omega) (by omega) (z.symm.trans w)
          omega
  refine ⟨key, i_ext (fun i hi => ?_)⟩
  rw [bv_b hi H hH, Int32.toBitVec_or, BitVec.getLsbD_or, Bool.or_eq_true, bit1 h0 (by omega) i hi, bit1 h1 (by omega) i hi, decide_eq_true_iff, decide_eq_true_iff]
  constructor
  · rintro ⟨z1, z2⟩
    exact (key i z1).mp z2
  · intro z
    have : i < H := by omega
    exact ⟨this, (key i this).mpr z⟩
theorem nI_20h : ∀ h, h < 10 → (20 : Int32) + (3 : Int32) * nI h = nI (20 + 3 * h) := by decide
/-- the reference's own list, the two left out -/
theorem lj_5 {P n a0 a1 h0 h1 : Nat} {B0 : zMt} (hn : n ≤ 10) (H0 : h0 < 10) (H1 : h1 < 10) (hne : ¬ a0 = a1) (A0 : a0 < n) (A1 : a1 < n) (t0 : ∀ k, k < n → (B0 (P + 11) k = (1 : Int32) <<< (nI h0 &&& 31) ↔ k = a0)) (t1 : ∀ k, k < n → (B0 (P + 11) k = (1 : Int32) <<< (nI h1 &&& 31) ↔ k = a1)) (h33 : B0 P 33 = nI n) : ∀ (v k : Nat) (B : zMt), k ≤ n → n - k < v → (∀ k', k' < k → ¬ k' = a0 → ¬ k' = a1 → ∀ i, P + 11 ≤ i → i ≤ P + 13 → B i (cJ a0 a1 k') = B0 i k') → (∀ i j, P + 11 ≤ i → i ≤ P + 13 → k ≤ j → B i j = B0 i j) → (∀ i j, ¬ (P + 11 ≤ i ∧ i ≤ P + 13) → B i j = B0 i j) → ∃ B', D_X8_laysJoined_5 P v (nI h0) (nI h1) (nI (cJ a0 a1 k)) (nI k) B = D_X8_laysJoined_133 P zFu (nI (cJ a0 a1 n)) (0 : Int32) (zu (zu (zu (zu B' (P + 11) (cJ a0 a1 n) (((1 : Int32) <<< (nI h0 &&& 31)) ||| ((1 : Int32) <<< (nI h1 &&& 31)))) (P + 12) (cJ a0 a1 n) (-1 : Int32)) (P + 13) (cJ a0 a1 n) (nI (20 + 3 * h0))) P 33 (nI (cJ a0 a1 n + 1))) ∧ (∀ k', k' < n → ¬ k' = a0 → ¬ k' = a1 → ∀ i, P + 11 ≤ i → i ≤ P + 13 → B' i (cJ a0 a1 k') = B0 i k') ∧ (∀ i j, ¬ (P + 11 ≤ i ∧ i ≤ P + 13) → B' i j = B0 i j) := by
  intro v
  induction v with
  | zero => intro k _ _ h; omega
  | succ v ih =>
    intro k B hk hv d1 d2 d3
    have hck := cJ_c (k := k) hne
    have hcn := cJ_c (k := n) hne
    rw [D_X8_laysJoined_5, d3 P 33 (by omega), h33]
    by_cases hc : n ≤ k
    · have e : k = n := by omega
      rw [if_pos (by exact (nI_leI (by omega) (by omega)).mpr hc), e]
      refine ⟨B, ?_, fun k' h' => d1 k' (by omega), d3⟩
      have iz : ¬ (nI (cJ a0 a1 n) < 0 ∨ 10 ≤ cJ a0 a1 n) := ci (by omega) (by omega)
      unfold zI
      rw [nI_clamp (by omega), if_neg iz, zLt_eq, if_neg iz, zLt_eq, if_neg iz, zLt_eq, zLt_eq, nI_add1, nI_20h h0 H0]
    · have hlt : k < n := by omega
      rw [if_neg (by intro z; exact hc ((nI_leI (by omega) (by omega)).mp z))]
      have ik : ¬ (nI k < 0 ∨ 10 ≤ k) := ci (by omega) (by omega)
      have ic : ¬ (nI (cJ a0 a1 k) < 0 ∨ 10 ≤ cJ a0 a1 k) := ci (by omega) (by omega)
      have hck1 := cJ_c (k := k + 1) hne
      unfold zI
      rw [nI_clamp (by omega), nI_clamp (by omega), if_neg ik, d2 (P + 11) k (by omega) (by omega) (Nat.le_refl k)]
      by_cases q0 : k = a0
      · rw [if_pos ((t0 k hlt).mpr q0)]
        unfold D_X8_laysJoined_85
        rw [nI_add1]
        have e : cJ a0 a1 k = cJ a0 a1 (k + 1) := by omega
        rw [e]
        exact ih (k + 1) B (by omega) (by omega) (fun k' h' g0 g1 => d1 k' (by omega) g0 g1) (fun i j z1 z2 z3 => d2 i j z1 z2 (by omega)) d3
      · rw [if_neg (fun z => q0 ((t0 k hlt).mp z)), if_neg ik]
        by_cases q1 : k = a1
        · rw [if_pos ((t1 k hlt).mpr q1)]
          unfold D_X8_laysJoined_85
          rw [nI_add1]
          have e : cJ a0 a1 k = cJ a0 a1 (k + 1) := by omega
          rw [e]
          exact ih (k + 1) B (by omega) (by omega) (fun k' h' g0 g1 => d1 k' (by omega) g0 g1) (fun i j z1 z2 z3 => d2 i j z1 z2 (by omega)) d3
        · rw [if_neg (fun z => q1 ((t1 k hlt).mp z)), if_neg ik, if_neg ic, zLt_eq, if_neg ik, if_neg ic, zLt_eq, if_neg ik, if_neg ic, zLt_eq]
          unfold D_X8_laysJoined_85
          have e : cJ a0 a1 k + 1 = cJ a0 a1 (k + 1) := by omega
          rw [nI_add1, nI_add1, e]
          generalize hB : zu (zu (zu B (P + 11) (cJ a0 a1 k) (B0 (P + 11) k)) (P + 12) (cJ a0 a1 k) (zu B (P + 11) (cJ a0 a1 k) (B0 (P + 11) k) (P + 12) k)) (P + 13) (cJ a0 a1 k) (zu (zu B (P + 11) (cJ a0 a1 k) (B0 (P + 11) k)) (P + 12) (cJ a0 a1 k) (zu B (P + 11) (cJ a0 a1 k) (B0 (P + 11) k) (P + 12) k) (P + 13) k) = Bn
          have v1 : ∀ i j, ¬ (P + 11 ≤ i ∧ i ≤ P + 13 ∧ j = cJ a0 a1 k) → Bn i j = B i j := fun i j h => by
            rw [← hB]
            exact (zu_ne (by omega)).trans ((zu_ne (by omega)).trans (zu_ne (by omega)))
          have v2 : ∀ i, P + 11 ≤ i → i ≤ P + 13 → Bn i (cJ a0 a1 k) = B0 i k := fun i z1 z2 => by
            have hi : i = P + 11 ∨ i = P + 12 ∨ i = P + 13 := by omega
            rw [← hB]
            rcases hi with w | w | w
            · subst w
              exact (zu_ne (by omega)).trans ((zu_ne (by omega)).trans zu_eq)
            · subst w
              refine (zu_ne (by omega)).trans (zu_eq.trans ((zu_ne (by omega)).trans (d2 _ _ (by omega) (by omega) (Nat.le_refl k))))
            · subst w
              refine zu_eq.trans ((zu_ne (by omega)).trans ((zu_ne (by omega)).trans (d2 _ _ (by omega) (by omega) (Nat.le_refl k))))
          refine ih (k + 1) Bn (by omega) (by omega) (fun k' h' g0 g1 i z1 z2 => ?_) (fun i j z1 z2 z3 => (v1 i j (by omega)).trans (d2 i j z1 z2 (by omega))) (fun i j z => (v1 i j (by omega)).trans (d3 i j z))
          by_cases w : k' = k
          · rw [w]
            exact v2 i z1 z2
          · have hck' := cJ_c (k := k') hne
            rw [v1 i _ (by omega)]
            exact d1 k' (by omega) g0 g1 i z1 z2
/-- .. and each worked out -/
theorem lj_133 {P H T : Nat} {r g : Nat → Int32} {x3 : Int32} (hH : H ≤ 10) (hT : T ≤ 10) (hg : ∀ h, h < H → g h = 0 ∨ g h = 1) (hne : ∀ a, a < T → ¬ sN r H a = 0) : ∀ (u i : Nat) (B : zMt), B P 8 = nI H → (∀ j, (j < 10 ∨ j = 67) → B (P + 1) j = r j) → (∀ h, h < H → B (P + 5) h = g h) → B P 33 = nI T → (∀ a, a < T → B (P + 11) a = bv r H a H) → i ≤ T → T - i < u → ∃ B', D_X8_laysJoined_133 P u x3 (nI i) B = some (x3, B') ∧ (∀ a, i ≤ a → a < T → B' (P + 14) a = sN r H a ∧ B' (P + 15) a = sG g r H a ∧ B' (P + 16) a = sP r H a ∧ B' (P + 17) a = sT r H a) ∧ (∀ k j, ¬ (P + 14 ≤ k ∧ k ≤ P + 17 ∧ i ≤ j ∧ j < T) → B' k j = B k j) := by
  intro u
  induction u with
  | zero => intro i B _ _ _ _ _ _ h; omega
  | succ u ih =>
    intro i B h8 hr hg5 h33 hb hi hu
    rw [D_X8_laysJoined_133, h33]
    by_cases hc : T ≤ i
    · rw [if_pos (by exact (nI_leI (by omega) (by omega)).mpr hc)]
      exact ⟨B, rfl, fun a h1 h2 => by omega, fun _ _ _ => rfl⟩
    · rw [if_neg (by intro z; exact hc ((nI_leI (by omega) (by omega)).mp z))]
      obtain ⟨B1, e1, e2, e3, e4, e5, e6⟩ := mm_onex (r := r) (g := g) (a := i) (B := B) hH (by omega) hg (hne i (by omega)) h8 hr hg5 (hb i (by omega))
      rw [zB_s e1, nI_add1]
      obtain ⟨B', f1, f2, f3⟩ := ih (i + 1) B1 ((e6 _ _ (by omega)).trans h8) (fun j hj => (e6 _ _ (by omega)).trans (hr j hj)) (fun h hh => (e6 _ _ (by omega)).trans (hg5 h hh)) ((e6 _ _ (by omega)).trans h33) (fun a ha => (e6 _ _ (by omega)).trans (hb a ha)) (by omega) (by omega)
      refine ⟨B', f1, fun a h1 h2 => ?_, fun k j h => (f3 k j (by omega)).trans (e6 k j (by omega))⟩
      by_cases z : a = i
      · subst z
        exact ⟨(f3 _ _ (by omega)).trans e2, (f3 _ _ (by omega)).trans e3, (f3 _ _ (by omega)).trans e4, (f3 _ _ (by omega)).trans e5⟩
      · exact f2 a (by omega) h2
/-! rows that the odds don't ask for -/
theorem gT_c {T T' s : zMt} {a u : Nat} {rd : Int32} (h : ∀ i, ¬ i = 10 → T' i = T i) : gT T' s a u rd = gT T s a u rd := by
  unfold gT
  rw [h 5 (by omega), h 6 (by omega)]
theorem f1_c {T T' s : zMt} {wo u a : Nat} (h : ∀ i, ¬ i = 10 → T' i = T i) : f1 T' wo u s a = f1 T wo u s a := by
  unfold f1
  rw [gT_c h, h 12 (by omega), h 5 (by omega), h 1 (by omega), h 2 (by omega), h 6 (by omega)]
theorem fA_c {T T' : zMt} {wo a : Nat} (h : ∀ i, ¬ i = 10 → T' i = T i) : ∀ (u : Nat) (s : zMt), fA T' wo a u s = fA T wo a u s
  | 0, _ => rfl
  | u + 1, s => by
    unfold fA
    first | rw [f1_c h, fA_c h u] | rw [fA_c h u, f1_c h] | (rw [fA_c h u]; rw [f1_c h])
theorem fC_c {T T' : zMt} {wo U : Nat} (h : ∀ i, ¬ i = 10 → T' i = T i) : ∀ (l : List Nat) (s : zMt), fC T' wo U l s = fC T wo U l s
  | [], _ => rfl
  | x :: l, s => by
    unfold fC
    rw [fA_c h, fC_c h l]
theorem pf_c {T T' : zMt} {p : Nat} (h : ∀ i, ¬ i = 10 → T' i = T i) : ∀ l : List Nat, pf T' p l = pf T p l
  | [] => rfl
  | x :: l => by
    unfold pf
    rw [pf_c h l, h 7 (by omega)]
theorem bk_c {T T' : zMt} {l : List Nat} (h : ∀ i, ¬ i = 10 → T' i = T i) : ∀ m, bk T' l m = bk T l m
  | 0 => rfl
  | m + 1 => by
    unfold bk
    rw [bk_c h m, pf_c h]
theorem s2_c {T T' : zMt} {a : Nat} (h : ∀ i, ¬ i = 10 → T' i = T i) : ∀ (c k : Nat) (s : zMt), s2 T' s a c k = s2 T s a c k
  | 0, _, _ => rfl
  | c + 1, k, s => by
    have e : ∀ x, wu T' a x = wu T a x := fun x => by
      unfold wu
      rw [h 12 (by omega)]
    unfold s2
    rw [e, gT_c h, s2_c h c, h 5 (by omega), h 6 (by omega)]
theorem f2_c {T T' s : zMt} {wo a : Nat} (h : ∀ i, ¬ i = 10 → T' i = T i) : f2 T' wo s a = f2 T wo s a := by
  unfold f2
  rw [s2_c h, h 11 (by omega)]
theorem fS_c {T T' : zMt} {wo : Nat} (h : ∀ i, ¬ i = 10 → T' i = T i) : ∀ (l : List Nat) (s : zMt), fS T' wo l s = fS T wo l s
  | [], _ => rfl
  | x :: l, s => by
    unfold fS
    rw [f2_c h, fS_c h l]
theorem rs_c {T T' : zMt} {wo U n : Nat} {l : Nat → Nat} (h : ∀ i, ¬ i = 10 → T' i = T i) : rs T' wo U n l = rs T wo U n l := by
  have e : s0 T' = s0 T := by
    unfold s0
    rw [h 1 (by omega), h 3 (by omega)]
  unfold rs
  rw [fS_c h, fC_c h, bk_c h, e]
theorem gP_c {T T' : zMt} {n U : Nat} (h : ∀ i, ¬ i = 10 → T' i = T i) (w : gP T n U) : gP T' n U := by
  unfold gP isW at w ⊢
  rw [h 0 (by omega), h 2 (by omega), h 5 (by omega), h 7 (by omega), h 8 (by omega), h 11 (by omega), h 12 (by omega)]
  exact w
