/-! a PARTY is one no more -/
def dsv (p : Nat) (x : Int32) : Int32 := if x = nI p then -1 else if x ≤ nI p then x else x - 1
theorem ds_m1 {p : Nat} (hp : p < 2147483648) : dsv p (-1) = -1 := by
  unfold dsv
  rw [if_neg (fun z => nI_ne hp z.symm), if_pos (Int32.le_iff_toInt_le.mpr (by rw [nI_toInt (by omega), z_m1]; omega))]
theorem ds_nI : ∀ p, p < 4 → ∀ q, q < 4 → dsv p (nI q) = if q = p then -1 else if q < p then nI q else nI (q - 1) := by decide
theorem cc_diss {Q H p : Nat} (hH : H ≤ 10) : ∀ (u k : Nat) (A : zMt), A Q 1 = nI H → k ≤ H → H - k < u → ∃ A', D_X4_dissolve_2 Q u (nI p) (nI k) A = some A' ∧ A' Q 2 = A Q 2 - 1 ∧ (∀ h, k ≤ h → h < H → A' (Q + 4) h = dsv p (A (Q + 4) h)) ∧ (∀ i j, ¬ (i = Q ∧ j = 2) → ¬ (i = Q + 4 ∧ k ≤ j ∧ j < H) → A' i j = A i j) := by
  intro u
  induction u with
  | zero => intro k A _ _ h; omega
  | succ u ih =>
    intro k A h1 hk hu
    rw [D_X4_dissolve_2, h1]
    by_cases hc : H ≤ k
    · rw [if_pos (by exact (nI_leI (by omega) (by omega)).mpr hc), zLt_eq]
      exact ⟨_, rfl, zu_eq, fun h h3 h4 => by omega, fun i j h3 h4 => zu_ne h3⟩
    · rw [if_neg (by intro z; exact hc ((nI_leI (by omega) (by omega)).mp z)), zrd_nI (show k < 10 by omega) (by decide), zwr_nI (show k < 10 by omega) (by decide), zwr_nI (show k < 10 by omega) (by decide)]
      have go : ∀ A1 : zMt, A1 (Q + 4) k = dsv p (A (Q + 4) k) → (∀ i j, ¬ (i = Q + 4 ∧ j = k) → A1 i j = A i j) → ∃ A', D_X4_dissolve_52 Q (D_X4_dissolve_2 Q u) (nI p) (nI k) A1 = some A' ∧ A' Q 2 = A Q 2 - 1 ∧ (∀ h, k ≤ h → h < H → A' (Q + 4) h = dsv p (A (Q + 4) h)) ∧ (∀ i j, ¬ (i = Q ∧ j = 2) → ¬ (i = Q + 4 ∧ k ≤ j ∧ j < H) → A' i j = A i j) := fun A1 e1 k1 => by
        unfold D_X4_dissolve_52
        rw [nI_add1]
        obtain ⟨A', f1, f2, f3, f4⟩ := ih (k + 1) A1 ((k1 _ _ (by omega)).trans h1) (by omega) (by omega)
        refine ⟨A', f1, f2.trans (by rw [k1 _ _ (by omega)]), fun h h3 h4 => ?_, fun i j h3 h4 => (f4 i j h3 (by omega)).trans (k1 i j (by omega))⟩
        by_cases q : h = k
        · subst q
          rw [f4 _ _ (by omega) (by omega), e1]
        · rw [f3 h (by omega) h4, k1 _ _ (by omega)]
      by_cases q : A (Q + 4) k = nI p
      · rw [if_pos q, zLt_eq]
        exact go _ (by rw [zu_eq]; unfold dsv; rw [if_pos q]) (fun i j h => zu_ne h)
      · rw [if_neg q]
        by_cases q2 : A (Q + 4) k ≤ nI p
        · rw [if_pos q2]
          exact go _ (by unfold dsv; rw [if_neg q, if_pos q2]) (fun i j h => rfl)
        · rw [if_neg q2, zLt_eq]
          exact go _ (by rw [zu_eq]; unfold dsv; rw [if_neg q, if_neg q2]) (fun i j h => zu_ne h)
theorem nI_20k : ∀ h, h < 10 → ∀ k, k < 3 → (20 : Int32) + (3 : Int32) * nI h + nI k = nI (20 + 3 * h + k) := by decide
theorem nI_50p : ∀ p, p < 4 → ∀ k, k < 3 → (50 : Int32) + (3 : Int32) * nI p + nI k = nI (50 + 3 * p + k) := by decide
theorem nI_50k : ∀ k, k < 12 → (50 : Int32) + nI k = nI (50 + k) := by decide
theorem nI_3p : ∀ p, p < 4 → (3 : Int32) * nI p = nI (3 * p) := by decide
theorem nI_10h : ∀ h, h < 10 → (10 : Int32) + nI h = nI (10 + h) := by decide
theorem mm_spl35 {P p h : Nat} {k2 : Int32 → Int32 → zMt → Option zMt} (hp : p < 4) (hh : h < 10) : ∀ (u k : Nat) (B : zMt), k ≤ 3 → 3 - k < u → ∃ B', D_X8_splits_35 P k2 u (nI p) (nI h) (nI k) B = k2 (nI p) (nI (h + 1)) B' ∧ (∀ x, k ≤ x → x < 3 → B' (P + 1) (20 + 3 * h + x) = B (P + 1) (50 + 3 * p + x)) ∧ (∀ i j, ¬ (i = P + 1 ∧ 20 + 3 * h + k ≤ j ∧ j < 20 + 3 * h + 3) → B' i j = B i j) := by
  intro u
  induction u with
  | zero => intro k B _ h; omega
  | succ u ih =>
    intro k B hk hu
    rw [D_X8_splits_35]
    by_cases hc : 3 ≤ k
    · rw [if_pos (by exact (leL (x := 3) (a := 3) (by decide) (by decide) (by omega)).mpr hc)]
      unfold D_X8_splits_101
      rw [nI_add1]
      exact ⟨B, rfl, fun x h1 h2 => by omega, fun _ _ _ => rfl⟩
    · rw [if_neg (by intro z; exact hc ((leL (x := 3) (a := 3) (by decide) (by decide) (by omega)).mp z)), nI_50p p hp k (by omega), nI_20k h hh k (by omega)]
      unfold zI
      rw [if_neg (vp_in_nI (show 50 + 3 * p + k < 82 by omega) (by decide)), if_neg (vp_in_nI (show 20 + 3 * h + k < 82 by omega) (by decide)), nI_clamp (show 20 + 3 * h + k < 2147483648 by omega), nI_clamp (show 50 + 3 * p + k < 2147483648 by omega), zLt_eq, nI_add1]
      obtain ⟨B', f1, f2, f3⟩ := ih (k + 1) (zu B (P + 1) (20 + 3 * h + k) (B (P + 1) (50 + 3 * p + k))) (by omega) (by omega)
      refine ⟨B', f1, fun x h1 h2 => ?_, fun i j hij => (f3 i j (by omega)).trans (zu_ne (by omega))⟩
      by_cases q : x = k
      · subst q
        rw [f3 _ _ (by omega), zu_eq]
      · rw [f2 x (by omega) h2, zu_ne (by omega)]
theorem mm_spl122 {P : Nat} : ∀ (u k : Nat) (B : zMt), k ≤ 12 → 12 - k < u → ∃ B', D_X8_splits_122 P u (nI k) B = some B' ∧ (∀ j, k ≤ j → j < 12 → B' (P + 1) (50 + j) = if j < 9 then B (P + 1) (53 + j) else -1) ∧ (∀ i j, ¬ (i = P + 1 ∧ 50 + k ≤ j ∧ j < 62) → B' i j = B i j) := by
  intro u
  induction u with
  | zero => intro k B _ h; omega
  | succ u ih =>
    intro k B hk hu
    rw [D_X8_splits_122]
    by_cases hc : 12 ≤ k
    · rw [if_pos (by exact (leL (x := 12) (a := 12) (by decide) (by decide) (by omega)).mpr hc)]
      exact ⟨B, rfl, fun j h1 h2 => by omega, fun _ _ _ => rfl⟩
    · rw [if_neg (by intro z; exact hc ((leL (x := 12) (a := 12) (by decide) (by decide) (by omega)).mp z)), nI_50k k (by omega)]
      have go : ∀ v : Int32, v = (if k < 9 then B (P + 1) (53 + k) else -1) → ∃ B', D_X8_splits_157 P (D_X8_splits_122 P u) (nI k) (nI (50 + k)) v B = some B' ∧ (∀ j, k ≤ j → j < 12 → B' (P + 1) (50 + j) = if j < 9 then B (P + 1) (53 + j) else -1) ∧ (∀ i j, ¬ (i = P + 1 ∧ 50 + k ≤ j ∧ j < 62) → B' i j = B i j) := fun v hv => by
        unfold D_X8_splits_157 zI
        rw [if_neg (vp_in_nI (show 50 + k < 82 by omega) (by decide)), nI_clamp (by omega), zLt_eq, nI_add1]
        obtain ⟨B', f1, f2, f3⟩ := ih (k + 1) (zu B (P + 1) (50 + k) v) (by omega) (by omega)
        refine ⟨B', f1, fun j h1 h2 => ?_, fun i j h => (f3 i j (by omega)).trans (zu_ne (by omega))⟩
        by_cases q : j = k
        · subst q
          rw [f3 _ _ (by omega), zu_eq, hv]
        · rw [f2 j (by omega) h2, zu_ne (by omega)]
      by_cases q : 9 ≤ k
      · rw [if_pos (by exact (leL (x := 9) (a := 9) (by decide) (by decide) (by omega)).mpr q)]
        exact go (-1) (by rw [if_neg (by omega)])
      · have e3 : nI (50 + k) + (3 : Int32) = nI (53 + k) := by
          rw [show (3 : Int32) = nI 3 by decide, nI_addk (by omega), show 50 + k + 3 = 53 + k by omega]
        rw [if_neg (by intro z; exact q ((leL (x := 9) (a := 9) (by decide) (by decide) (by omega)).mp z)), e3]
        unfold zI
        rw [if_neg (vp_in_nI (show 53 + k < 82 by omega) (by decide)), nI_clamp (by omega)]
        exact go _ (by rw [if_pos (by omega)])
theorem mm_spl2 {P H p : Nat} (hH : H ≤ 10) (hp : p < 4) : ∀ (u k : Nat) (B : zMt), B P 8 = nI H → k ≤ H → H - k < u → ∃ B', D_X8_splits_2 P u (nI p) (nI k) B = some B' ∧ B' (P + 1) 70 = B (P + 1) 70 - 1 ∧ (∀ h, k ≤ h → h < H → B' (P + 1) (10 + h) = dsv p (B (P + 1) (10 + h)) ∧ ∀ x, x < 3 → B' (P + 1) (20 + 3 * h + x) = if B (P + 1) (10 + h) = nI p then B (P + 1) (50 + 3 * p + x) else B (P + 1) (20 + 3 * h + x)) ∧ (∀ j, 3 * p ≤ j → j < 12 → B' (P + 1) (50 + j) = if j < 9 then B (P + 1) (53 + j) else -1) ∧ (∀ i j, ¬ (i = P + 1 ∧ (j = 70 ∨ (10 + k ≤ j ∧ j < 10 + H) ∨ (20 + 3 * k ≤ j ∧ j < 20 + 3 * H) ∨ (50 + 3 * p ≤ j ∧ j < 62))) → B' i j = B i j) := by
  intro u
  induction u with
  | zero => intro k B _ _ h; omega
  | succ u ih =>
    intro k B h8 hk hu
    rw [D_X8_splits_2, h8]
    by_cases hc : H ≤ k
    · rw [if_pos (by exact (nI_leI (by omega) (by omega)).mpr hc)]
      unfold zI
      rw [if_neg (by decide), if_neg (by decide), show (70 : Int32).toNatClampNeg = 70 by decide, zLt_eq, nI_3p p hp]
      obtain ⟨B', f1, f2, f3⟩ := mm_spl122 (P := P) zFu (3 * p) (zu B (P + 1) 70 (B (P + 1) 70 - 1)) (by omega) (by unfold zFu; omega)
      refine ⟨B', f1, ?_, fun h h1 h2 => by omega, fun j h1 h2 => ?_, fun i j h => (f3 i j (by omega)).trans (zu_ne (by omega))⟩
      · rw [f3 _ _ (by omega), zu_eq]
      · rw [f2 j h1 h2, zu_ne (by omega)]
    · rw [if_neg (by intro z; exact hc ((nI_leI (by omega) (by omega)).mp z)), nI_10h k (by omega)]
      have ik : ¬ (nI (10 + k) < 0 ∨ 82 ≤ (nI (10 + k)).toNatClampNeg) := vp_in_nI (by omega) (by decide)
      have go : ∀ B1 : zMt, B1 (P + 1) (10 + k) = dsv p (B (P + 1) (10 + k)) → (∀ x, x < 3 → B1 (P + 1) (20 + 3 * k + x) = if B (P + 1) (10 + k) = nI p then B (P + 1) (50 + 3 * p + x) else B (P + 1) (20 + 3 * k + x)) → (∀ i j, ¬ (i = P + 1 ∧ (j = 10 + k ∨ (20 + 3 * k ≤ j ∧ j < 20 + 3 * k + 3))) → B1 i j = B i j) → ∃ B', D_X8_splits_2 P u (nI p) (nI (k + 1)) B1 = some B' ∧ B' (P + 1) 70 = B (P + 1) 70 - 1 ∧ (∀ h, k ≤ h → h < H → B' (P + 1) (10 + h) = dsv p (B (P + 1) (10 + h)) ∧ ∀ x, x < 3 → B' (P + 1) (20 + 3 * h + x) = if B (P + 1) (10 + h) = nI p then B (P + 1) (50 + 3 * p + x) else B (P + 1) (20 + 3 * h + x)) ∧ (∀ j, 3 * p ≤ j → j < 12 → B' (P + 1) (50 + j) = if j < 9 then B (P + 1) (53 + j) else -1) ∧ (∀ i j, ¬ (i = P + 1 ∧ (j = 70 ∨ (10 + k ≤ j ∧ j < 10 + H) ∨ (20 + 3 * k ≤ j ∧ j < 20 + 3 * H) ∨ (50 + 3 * p ≤ j ∧ j < 62))) → B' i j = B i j) := fun B1 e1 e2 k1 => by
        obtain ⟨B', f1, f2, f3, f4, f5⟩ := ih (k + 1) B1 ((k1 _ _ (by omega)).trans h8) (by omega) (by omega)
        refine ⟨B', f1, f2.trans (by rw [k1 _ _ (by omega)]), fun h h3 h4 => ?_, fun j h3 h4 => ?_, fun i j h => (f5 i j (by omega)).trans (k1 i j (by omega))⟩
        · by_cases q : h = k
          · subst q
            refine ⟨(f5 _ _ (by omega)).trans e1, fun x hx => (f5 _ _ (by omega)).trans (e2 x hx)⟩
          · obtain ⟨f6, f7⟩ := f3 h (by omega) h4
            refine ⟨f6.trans (by rw [k1 _ _ (by omega)]), fun x hx => (f7 x hx).trans ?_⟩
            rw [k1 (P + 1) (10 + h) (by omega), k1 (P + 1) (50 + 3 * p + x) (by omega), k1 (P + 1) (20 + 3 * h + x) (by omega)]
        · rw [f4 j h3 h4, k1 (P + 1) (53 + j) (by omega)]
      unfold zI
      rw [if_neg ik, nI_clamp (by omega)]
      by_cases q : B (P + 1) (10 + k) = nI p
      · rw [if_pos q, if_neg (ci (show 10 + k < 82 by omega) (by omega)), zLt_eq]
        obtain ⟨B2, m1, m2, m3⟩ := mm_spl35 (P := P) (p := p) (h := k) (k2 := D_X8_splits_2 P u) hp (by omega) zFu 0 (zu B (P + 1) (10 + k) (-1 : Int32)) (by omega) (by unfold zFu; omega)
        rw [show nI 0 = (0 : Int32) by decide] at m1
        rw [m1]
        refine go B2 ?_ (fun x hx => ?_) (fun i j h => (m3 i j (by omega)).trans (zu_ne (by omega)))
        · rw [m3 _ _ (by omega), zu_eq]
          unfold dsv
          rw [if_pos q]
        · rw [if_pos q, m2 x (by omega) hx, zu_ne (by omega)]
      · rw [if_neg q, if_neg (ci (show 10 + k < 82 by omega) (by omega))]
        by_cases q2 : B (P + 1) (10 + k) ≤ nI p
        · rw [if_pos q2]
          unfold D_X8_splits_101
          rw [nI_add1]
          exact go B (by unfold dsv; rw [if_neg q, if_pos q2]) (fun x hx => by rw [if_neg q]) (fun _ _ _ => rfl)
        · rw [if_neg q2, if_neg (ci (show 10 + k < 82 by omega) (by omega)), if_neg (ci (show 10 + k < 82 by omega) (by omega)), zLt_eq]
          unfold D_X8_splits_101
          rw [nI_add1]
          refine go _ ?_ (fun x hx => ?_) (fun i j h => zu_ne (by omega))
          · rw [zu_eq]
            unfold dsv
            rw [if_neg q, if_neg q2]
          · rw [if_neg q, zu_ne (by omega)]
theorem wsR.mv {R R' : Nat} {A A' : zMt} {r r' : Nat → Int32} {h base base' : Nat} (w : wsR R A r h base) (a5 : A' (R' + 5) h = A (R + 5) h) (a6 : ∀ k, k < 3 → A' (R' + 6) (3 * h + k) = A (R + 6) (3 * h + k)) (b : ∀ k, k < 3 → r' (base' + k) = r (base + k)) : wsR R' A' r' h base' := by
  obtain ⟨c, h1, h2, h3, h4⟩ := w
  refine ⟨c, h1, by rw [a5]; exact h2, fun k hk => ?_, fun k hk => ?_⟩
  · rw [a6 k hk, b k hk]; exact h3 k hk
  · rw [b k hk]; exact h4 k hk
theorem gR.split {R p : Nat} {A A' : zMt} {r r' g : Nat → Int32} {U H G : Nat} (w : gR R A r g U H G) (hp : p < G)
    (a2 : A' R 2 = A R 2 - 1) (a4 : ∀ h, h < H → A' (R + 4) h = dsv p (A (R + 4) h)) (ak : ∀ i j, R ≤ i → i < R + 8 → ¬ (i = R ∧ j = 2) → ¬ (i = R + 4 ∧ j < H) → A' i j = A i j)
    (b70 : r' 70 = r 70 - 1) (bh : ∀ h, h < H → r' (10 + h) = dsv p (r (10 + h)) ∧ ∀ x, x < 3 → r' (20 + 3 * h + x) = if r (10 + h) = nI p then r (50 + 3 * p + x) else r (20 + 3 * h + x)) (bp : ∀ j, 3 * p ≤ j → j < 12 → r' (50 + j) = if j < 9 then r (53 + j) else -1) (bk : ∀ j, j < 82 → ¬ (j = 70 ∨ (10 ≤ j ∧ j < 10 + H) ∨ (20 ≤ j ∧ j < 20 + 3 * H) ∨ (50 + 3 * p ≤ j ∧ j < 62)) → r' j = r j) : gR R A' r' g U H (G - 1) := by
  obtain ⟨⟨c1, c2, c3, c4, c5, c6, c7⟩, r1, r2, r3, r4, r5, r6, r9, ⟨s1, s2, s3, s4⟩, u3, u4, u5⟩ := w
  have eG : nI G - (1 : Int32) = nI (G - 1) := by
    rw [show (1 : Int32) = nI 1 by decide]
    exact nI_subn (by omega) (by omega)
  have hcase : ∀ h, h < H → (A (R + 4) h = -1 ∧ r (10 + h) = -1 ∧ A' (R + 4) h = -1) ∨ ∃ q, q < G ∧ A (R + 4) h = nI q ∧ r (10 + h) = nI q ∧ ((q = p ∧ A' (R + 4) h = -1) ∨ (q < p ∧ A' (R + 4) h = nI q) ∨ (p < q ∧ A' (R + 4) h = nI (q - 1))) := fun h hh => by
    obtain ⟨e, o, _⟩ := r4 h (by omega)
    have e4 := a4 h hh
    rcases o with z | ⟨q, hq, z⟩
    · rw [z, ds_m1 (by omega)] at e4
      exact Or.inl ⟨z, e.symm.trans z, e4⟩
    · refine Or.inr ⟨q, hq, z, e.symm.trans z, ?_⟩
      rw [z, ds_nI p (by omega) q (by omega)] at e4
      by_cases y : q = p
      · rw [if_pos y] at e4; exact Or.inl ⟨y, e4⟩
      · rw [if_neg y] at e4
        by_cases y2 : q < p
        · rw [if_pos y2] at e4; exact Or.inr (Or.inl ⟨y2, e4⟩)
        · rw [if_neg y2] at e4; exact Or.inr (Or.inr ⟨by omega, e4⟩)
  have w5 : ∀ h, h < H → A' (R + 5) h = A (R + 5) h := fun h _ => ak _ _ (by omega) (by omega) (by omega) (by omega)
  have w6 : ∀ h, h < H → ∀ k, k < 3 → A' (R + 6) (3 * h + k) = A (R + 6) (3 * h + k) := fun h _ k _ => ak _ _ (by omega) (by omega) (by omega) (by omega)
  refine ⟨⟨c1, c2, by omega, (ak _ _ (by omega) (by omega) (by omega) (by omega)).trans c4, (ak _ _ (by omega) (by omega) (by omega) (by omega)).trans c5, a2.trans (by rw [c6, eG]), b70.trans (by rw [c7, eG])⟩, fun u hu => ?_, fun h hh => ?_, fun h hh => ?_, fun h hh => ?_, fun h hh he => ?_, fun h p' hh hp' he => ?_, fun p' hp' => ?_, ⟨?_, ?_, ?_, ?_⟩, fun h hh => ?_, fun u hu1 hu2 => ?_, fun h hh1 hh2 => ?_⟩
  · rw [ak _ _ (by omega) (by omega) (by omega) (by omega), bk _ (by omega) (by omega)]; exact r1 u hu
  · rw [ak _ _ (by omega) (by omega) (by omega) (by omega), bk _ (by omega) (by omega)]; exact r2 h hh
  · rw [ak _ _ (by omega) (by omega) (by omega) (by omega)]; exact r3 h hh
  · by_cases q : h < H
    · refine ⟨?_, ?_, Or.inl q⟩
      · rw [a4 h q, (bh h q).1, (r4 h hh).1]
      · rcases hcase h q with ⟨_, _, z⟩ | ⟨y, hy, _, _, ⟨_, z⟩ | ⟨_, z⟩ | ⟨_, z⟩⟩
        · exact Or.inl z
        · exact Or.inl z
        · exact Or.inr ⟨y, by omega, z⟩
        · exact Or.inr ⟨y - 1, by omega, z⟩
    · rw [ak _ _ (by omega) (by omega) (by omega) (by omega), bk _ (by omega) (by omega)]
      obtain ⟨q1, q2, q3⟩ := r4 h hh
      exact ⟨q1, Or.inl (q3.resolve_left q), q3⟩
  · rcases hcase h hh with ⟨z1, z2, z⟩ | ⟨y, hy, y1, y2, ⟨y3, z⟩ | ⟨_, z⟩ | ⟨_, z⟩⟩
    · exact (r5 h hh z1).mv (w5 h hh) (w6 h hh) (fun k hk => by rw [(bh h hh).2 k hk, if_neg (by rw [z2]; exact fun q => nI_ne (by omega) q.symm)])
    · subst y3
      exact (r6 h y hh hy y1).mv (w5 h hh) (w6 h hh) (fun k hk => by rw [(bh h hh).2 k hk, if_pos y2])
    · exact absurd (z.symm.trans he) (nI_ne (by omega))
    · exact absurd (z.symm.trans he) (nI_ne (by omega))
  · rcases hcase h hh with ⟨z1, z2, z⟩ | ⟨y, hy, y1, y2, ⟨y3, z⟩ | ⟨y3, z⟩ | ⟨y3, z⟩⟩
    · exact absurd (he.symm.trans z) (nI_ne (by omega))
    · exact absurd (he.symm.trans z) (nI_ne (by omega))
    · have : y = p' := nI_inj (by omega) (by omega) (z.symm.trans he)
      subst this
      exact (r6 h y hh hy y1).mv (w5 h hh) (w6 h hh) (fun k hk => bk _ (by omega) (by omega))
    · have : y - 1 = p' := nI_inj (by omega) (by omega) (z.symm.trans he)
      obtain ⟨x, rfl⟩ : ∃ x, y = x + 1 := ⟨y - 1, by omega⟩
      have : x = p' := by omega
      subst this
      refine (r6 h (x + 1) hh hy y1).mv (w5 h hh) (w6 h hh) (fun k hk => ?_)
      rw [show 50 + 3 * x + k = 50 + (3 * x + k) by omega, bp (3 * x + k) (by omega) (by omega), if_pos (by omega), show 53 + (3 * x + k) = 50 + 3 * (x + 1) + k by omega]
  · by_cases q : p' < p
    · obtain ⟨h, h1, h2⟩ := r9 p' (by omega)
      refine ⟨h, h1, ?_⟩
      rw [a4 h h1, h2, ds_nI p (by omega) p' (by omega), if_neg (by omega), if_pos q]
    · obtain ⟨h, h1, h2⟩ := r9 (p' + 1) (by omega)
      refine ⟨h, h1, ?_⟩
      rw [a4 h h1, h2, ds_nI p (by omega) (p' + 1) (by omega), if_neg (by omega), if_neg (by omega), Nat.add_sub_cancel]
  · rw [ak _ _ (by omega) (by omega) (by omega) (by omega), bk _ (by omega) (by omega)]; exact s1
  · rw [ak _ _ (by omega) (by omega) (by omega) (by omega), bk _ (by omega) (by omega)]; exact s2
  · rw [ak _ _ (by omega) (by omega) (by omega) (by omega), bk _ (by omega) (by omega)]; exact s3
  · rw [ak _ _ (by omega) (by omega) (by omega) (by omega), bk _ (by omega) (by omega)]; exact s4
  · rw [ak _ _ (by omega) (by omega) (by omega) (by omega), bk _ (by omega) (by omega)]; exact u3 h hh
  · rw [ak _ _ (by omega) (by omega) (by omega) (by omega)]; exact u4 u hu1 hu2
  · rw [ak _ _ (by omega) (by omega) (by omega) (by omega)]; exact u5 h hh1 hh2
theorem t_split {C P : Nat} {A B : zMt} {v0 : Int32} (w0 : eqE C P A B) (hJ : jJ P B) : two (D_X7_split C v0 A) (D_X8_split P v0 B) (acR C P A) := by
  obtain ⟨r, g, U, H, G, K, w⟩ := id w0
  obtain ⟨w1, w2, w3, w4, w5, w6, w7, w8, w9⟩ := id w
  have c1 := w6.1.1
  have c2 := w6.1.2.1
  have c3 := w6.1.2.2.1
  unfold D_X7_split D_X8_split
  rcases t_isP (v := v0) w with ⟨e1, e2, p, hp, hv⟩ | ⟨e1, e2⟩
  · subst hv
    rw [zB_s e1, zB_s e2, if_neg n10, if_neg n10]
    have hL : gR (C + 17) A (B (P + 1)) g U H G := w6.m (fun _ _ _ _ => rfl) (fun j hj => w1 j hj) (fun _ _ => rfl)
    obtain ⟨A1, ea, B1, eb, K1, p1, k1, k2⟩ := t_keep hL w9
    obtain ⟨A2, f1, f2, f3, f4⟩ := cc_diss (Q := C + 17) (H := H) (p := p) c2 zFu 0 A1 ((k1 _ _ (by omega)).trans w6.1.2.2.2.2.1) (by omega) (by unfold zFu; omega)
    rw [show nI 0 = (0 : Int32) by decide] at f1
    have f1' : D_X4_dissolve (C + 17) (nI p) A1 = some A2 := f1
    obtain ⟨B2, m1, m2, m3, m4, m5⟩ := mm_spl2 (P := P) (H := H) (p := p) c2 (by omega) zFu 0 B1 ((k2 _ _ (by omega) (by omega)).trans w4) (by omega) (by unfold zFu; omega)
    rw [show nI 0 = (0 : Int32) by decide] at m1
    have m1' : D_X8_splits P (nI p) B1 = some B2 := m1
    have eB70 : B1 (P + 1) 70 = nI G := (k2 _ _ (by omega) (by omega)).trans ((w1 70 (by omega)).trans w6.1.2.2.2.2.2.2)
    obtain ⟨B2', m6, kb, jS2⟩ := v_X8_splits (P := P) (v0 := nI p) (M0 := B1) (hJ.1.mono (fun a j q => k2 a j (by omega) (by omega))) (hJ.2.1.mono (fun a j q => k2 a j (by omega) (by omega))) (by rw [nI_toInt (by omega)]; omega) (by rw [eB70, nI_toInt (by omega), nI_toInt (by omega)]; omega)
    rw [m1'] at m6
    cases m6
    have gA : gR (C + 17) A2 (B2 (P + 1)) g U H (G - 1) := (hL.m (A' := A1) (r' := B1 (P + 1)) (g' := g) (fun i j _ _ => k1 i j (by omega)) (fun j _ => k2 _ _ (by omega) (by omega)) (fun _ _ => rfl)).split hp f2 (fun h hh => f3 h (Nat.zero_le h) hh) (fun i j _ _ h1 h2 => f4 i j h1 (by omega)) m2 (fun h hh => m3 h (Nat.zero_le h) hh) m4 (fun j _ hj => m5 _ _ (by omega))
    have h7 : B2 P 7 = nI U := (m5 _ _ (by omega)).trans ((k2 _ _ (by omega) (by omega)).trans w3)
    have h8 : B2 P 8 = nI H := (m5 _ _ (by omega)).trans ((k2 _ _ (by omega) (by omega)).trans w4)
    have pA : pst (C + 25) P A2 B2 g U H K1 := p1.k (fun i j _ _ => f4 i j (by omega) (by omega)) (fun i j _ => m5 i j (by omega))
    obtain ⟨A3, d1, d2, d3, d4⟩ := t_done (v := (0 : Int32)) h7 h8 (jS2.row h7 h8 c1 c2) (fun h hh => (m5 _ _ (by omega)).trans ((k2 _ _ (by omega) (by omega)).trans (w2 h hh))) gA pA
    obtain ⟨n, B3, hn, l1, l2, l3, l4, l5⟩ := t_laid d2
    refine two.l ea (two.r eb (two.l f1' (two.r m1' (two.l d1 (two.r l1 (two.l (e := (A3 (C + 91) 1, zu A3 C 0 (0 : Int32))) rfl (two.r (e := (B3 P 33, zu (zu B3 P 6 (0 : Int32)) P 12 (0 : Int32))) rfl (two.mk ⟨?_, ⟨_, _, _, _, _, _, d2.k (fun i j _ _ => ?_) (fun i j _ => ?_)⟩, Or.inl ?_⟩))))))))
    · exact (show A3 (C + 91) 1 = nI n from l2.2.2.1).trans l4.1.symm
    · show zu A3 C 0 (0 : Int32) i j = A3 i j
      exact zu_ne (by omega)
    · show zu (zu B3 P 6 (0 : Int32)) P 12 (0 : Int32) i j = B2 i j
      rw [zu_ne (by omega), zu_ne (by omega)]
      exact l5 i j (by omega) (by omega)
    · show zu A3 C 0 (0 : Int32) C 3 = 0
      rw [zu_ne (by omega)]
      exact d3
  · rw [zB_s e1, zB_s e2, if_pos rfl, if_pos rfl]
    exact t_ref0 w0
