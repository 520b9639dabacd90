/-! the reference works the same result out -/
theorem mm_choice {P n U a k : Nat} {B T : zMt} (hn : n ≤ 10) (hm : mP P B T n U) (ha : a < n) (hk : k < 3) : D_X8_choiceOf P B (nI a) (nI k) = some (T 12 (3 * a + k)) := by
  obtain ⟨m1, m2, m3, m4⟩ := hm
  obtain ⟨_, _, _, _, _, _, base, _, b1, b2, b3⟩ := m3 a ha
  unfold D_X8_choiceOf
  rw [if_neg (by intro z; exact absurd ((leL (x := 3) (a := 3) (by decide) (by decide) (by omega)).mp z) (by omega))]
  unfold zI
  rw [if_neg (vp_in_nI (by omega) (by decide)), nI_clamp (by omega), b2, nI_addk (by omega), if_neg (vp_in_nI (by omega) (by decide)), nI_clamp (by omega), b3 k hk]
  rfl
theorem mm_choice3 {P k : Nat} {B : zMt} {x : Int32} (hk : 3 ≤ k) (hk2 : k < 2147483648) : D_X8_choiceOf P B x (nI k) = some (-1) := by
  unfold D_X8_choiceOf
  rw [if_pos (by exact (leL (x := 3) (a := 3) (by decide) (by decide) (by omega)).mpr hk)]
  rfl
theorem mm_many2 {P n U a c : Nat} {B T : zMt} (hn : n ≤ 10) (hm : mP P B T n U) (ha : a < n) (hc3 : c ≤ 3) (hU : U ≤ 5) (h1 : ∀ k, k < c → ∃ u, u < U ∧ T 12 (3 * a + k) = nI u) (h2 : ∀ k, c ≤ k → k < 3 → T 12 (3 * a + k) = -1) : ∀ (d u k : Nat), k + d = c → d < u → D_X8_choiceMany_2 P B u (nI a) (nI k) = some (nI c) := by
  intro d
  induction d with
  | zero =>
    intro u k hk hu
    obtain ⟨u, rfl⟩ : ∃ y, u = y + 1 := ⟨u - 1, by omega⟩
    rw [D_X8_choiceMany_2]
    have e : D_X8_choiceOf P B (nI a) (nI k) = some (-1) := by
      by_cases q : k < 3
      · rw [mm_choice hn hm ha q, h2 k (by omega) q]
      · exact mm_choice3 (by omega) (by omega)
    rw [zB_s e, if_pos rfl, show k = c by omega]
  | succ d ih =>
    intro u k hk hu
    obtain ⟨u, rfl⟩ : ∃ y, u = y + 1 := ⟨u - 1, by omega⟩
    obtain ⟨w, hw, ew⟩ := h1 k (by omega)
    rw [D_X8_choiceMany_2, zB_s (mm_choice hn hm ha (show k < 3 by omega)), ew, if_neg (nI_ne (by omega)), nI_add1]
    exact ih u (k + 1) (by omega) (by omega)
theorem mm_manyC {P n U a : Nat} {B T : zMt} (hg : gP T n U) (hm : mP P B T n U) (ha : a < n) : D_X8_choiceMany P B (nI a) = some (T 11 a) := by
  obtain ⟨g1, g2, g3, g4, g5, g6, g7⟩ := hg
  obtain ⟨c, c1, c2, c3, c4⟩ := (g5 a ha).2.2.2
  unfold D_X8_choiceMany
  have := mm_many2 g1 hm ha c1 g2 c3 c4 c zFu 0 (by omega) (by unfold zFu; omega)
  rw [show nI 0 = (0 : Int32) by decide] at this
  rw [this, c2]
theorem mm_fits {P n U a w : Nat} {B T s : zMt} {x : Int32} (hn : n ≤ 10) (hU : U ≤ 5) (hm : mP P B T n U) (hs : rM P B s n U) (ha : a < n) (hw : w < U) : D_X8_fits P B (nI a) (nI w) x = some (if T 5 a ≤ x ∧ T 6 a ≤ s 3 w then 1 else 0) := by
  obtain ⟨m1, m2, m3, m4⟩ := hm
  obtain ⟨_, _, e5, e6, _⟩ := m3 a ha
  unfold D_X8_fits zI
  rw [if_neg (vp_in_nI (by omega) (by decide)), nI_clamp (by omega), e5]
  by_cases q : T 5 a ≤ x
  · rw [if_neg (by intro z; exact Int32.not_le.mpr z q), if_neg (ci (show a < 10 by omega) (by omega)), if_neg (vp_in_nI (show w < 5 by omega) (by decide)), nI_clamp (by omega), e6, (hs.2 w hw).2]
    by_cases q2 : T 6 a ≤ s 3 w
    · rw [if_neg (by intro z; exact Int32.not_le.mpr z q2), if_pos ⟨q, q2⟩]
      rfl
    · rw [if_pos (by exact Int32.not_le.mp q2), if_neg (fun z => q2 z.2)]
      rfl
  · rw [if_pos (by exact Int32.not_le.mp q), if_neg (fun z => q z.1)]
    rfl
theorem mm_gets {P n U a w : Nat} {B T s : zMt} {rd : Int32} (hn : n ≤ 10) (hU : U ≤ 5) (hm : mP P B T n U) (hs : rM P B s n U) (ha : a < n) (hw : w < U) : ∃ B', D_X8_gets P (nI a) (nI w) rd B = some B' ∧ rM P B' (gT T s a w rd) n U ∧ (∀ i j, ¬ (P + 19 ≤ i ∧ i ≤ P + 22) → B' i j = B i j) := by
  obtain ⟨m1, m2, m3, m4⟩ := hm
  obtain ⟨_, _, e5, e6, _⟩ := m3 a ha
  obtain ⟨hs1, hs2⟩ := hs
  have ia : ¬ (nI a < 0 ∨ 10 ≤ (nI a).toNatClampNeg) := vp_in_nI (by omega) (by decide)
  have iw : ¬ (nI w < 0 ∨ 5 ≤ (nI w).toNatClampNeg) := vp_in_nI (by omega) (by decide)
  have ia2 : ¬ (nI a < 0 ∨ 10 ≤ a) := ci (by omega) (by omega)
  have iw2 : ¬ (nI w < 0 ∨ 5 ≤ w) := ci (by omega) (by omega)
  unfold D_X8_gets zI
  rw [if_neg ia, nI_clamp (show a < 2147483648 by omega), zLt_eq, if_neg ia2, zLt_eq, if_neg iw, if_neg ia2, if_neg iw, nI_clamp (show w < 2147483648 by omega), zLt_eq, if_neg iw2, if_neg ia2, if_neg iw2, zLt_eq]
  rw [zu_ne (show ¬ (P + 21 = P + 20 ∧ w = a) by omega), zu_ne (show ¬ (P + 21 = P + 19 ∧ w = a) by omega), zu_ne (show ¬ (P + 14 = P + 20 ∧ a = a) by omega), zu_ne (show ¬ (P + 14 = P + 19 ∧ a = a) by omega), zu_ne (show ¬ (P + 22 = P + 21 ∧ w = w) by omega), zu_ne (show ¬ (P + 22 = P + 20 ∧ w = a) by omega), zu_ne (show ¬ (P + 22 = P + 19 ∧ w = a) by omega), zu_ne (show ¬ (P + 15 = P + 21 ∧ a = w) by omega), zu_ne (show ¬ (P + 15 = P + 20 ∧ a = a) by omega), zu_ne (show ¬ (P + 15 = P + 19 ∧ a = a) by omega), e5, e6, (hs2 w hw).1, (hs2 w hw).2]
  refine ⟨_, rfl, ⟨fun b hb => ?_, fun u hu => ?_⟩, fun i j h => ?_⟩
  · by_cases q : b = a
    · subst q
      rw [gT_0, gT_1]
      exact ⟨(zu_ne (by omega)).trans ((zu_ne (by omega)).trans ((zu_ne (by omega)).trans zu_eq)), (zu_ne (by omega)).trans ((zu_ne (by omega)).trans zu_eq)⟩
    · rw [gT_out (by omega) (by omega), gT_out (by omega) (by omega)]
      exact ⟨(zu_ne (by omega)).trans ((zu_ne (by omega)).trans ((zu_ne (by omega)).trans ((zu_ne (by omega)).trans (hs1 b hb).1))), (zu_ne (by omega)).trans ((zu_ne (by omega)).trans ((zu_ne (by omega)).trans ((zu_ne (by omega)).trans (hs1 b hb).2)))⟩
  · by_cases q : u = w
    · subst q
      rw [gT_2, gT_3]
      exact ⟨(zu_ne (by omega)).trans zu_eq, zu_eq⟩
    · rw [gT_out (by omega) (by omega), gT_out (by omega) (by omega)]
      exact ⟨(zu_ne (by omega)).trans ((zu_ne (by omega)).trans ((zu_ne (by omega)).trans ((zu_ne (by omega)).trans (hs2 u hu).1))), (zu_ne (by omega)).trans ((zu_ne (by omega)).trans ((zu_ne (by omega)).trans ((zu_ne (by omega)).trans (hs2 u hu).2)))⟩
  · exact (zu_ne (by omega)).trans ((zu_ne (by omega)).trans ((zu_ne (by omega)).trans (zu_ne (by omega))))
theorem nI_62 : ∀ u, u < 5 → (62 : Int32) + nI u = nI (62 + u) := by decide
theorem mm_pref {P n U u : Nat} {B T : zMt} (hU : U ≤ 5) (hm : mP P B T n U) (hu : u < U) : D_X8_preferred P B (nI u) = some (T 2 u) ∧ D_X8_forGuests P B (nI u) = some (T 3 u) := by
  obtain ⟨m1, m2, m3, m4⟩ := hm
  obtain ⟨e1, e2, e3⟩ := m4 u hu
  constructor
  · unfold D_X8_preferred zI
    rw [nI_62 u (by omega), if_neg (vp_in_nI (by omega) (by decide)), if_neg (by decide), nI_clamp (by omega), show (68 : Int32).toNatClampNeg = 68 by decide, e2]
  · unfold D_X8_forGuests zI
    rw [nI_62 u (by omega), if_neg (vp_in_nI (by omega) (by decide)), if_neg (by decide), nI_clamp (by omega), show (69 : Int32).toNatClampNeg = 69 by decide, e3]
/-- one unit, those with so many points -/
theorem mm_fr10 {P n U u p : Nat} {T : zMt} {wo : Nat} {v1 : Int32} {l : Nat → Nat} {k3 : Int32 → Int32 → Int32 → zMt → Option zMt} (hg : gP T n U) (hu : u < U) (hv : ∀ a, a < n → (nI a = v1 ↔ a = wo)) (hl : ∀ k, k < n → l k < n) (hp : p ≤ 20) : ∀ (c f i : Nat) (B s : zMt), i + c = n → c < f → mP P B T n U → rM P B s n U → (∀ k, k < n → B (P + 18) k = nI (l k)) → ∃ B', D_X8_firstRound_10 P k3 f (nI u) v1 (nI p) (nI i) B = k3 (nI u) v1 (nI p + (-1)) B' ∧ rM P B' (fL T wo u (pf T p (lr l c i)) s) n U ∧ (∀ i j, ¬ (P + 19 ≤ i ∧ i ≤ P + 22) → B' i j = B i j) := by
  obtain ⟨g1, g2, g3, g4, g5, g6, g7⟩ := hg
  intro c
  induction c with
  | zero =>
    intro f i B s hi hf hm hs _
    obtain ⟨f, rfl⟩ : ∃ y, f = y + 1 := ⟨f - 1, by omega⟩
    rw [D_X8_firstRound_10, hm.1, if_pos (by exact (nI_leI (by omega) (by omega)).mpr (by omega))]
    exact ⟨B, rfl, hs, fun _ _ _ => rfl⟩
  | succ c ih =>
    intro f i B s hi hf hm hs hln
    obtain ⟨f, rfl⟩ : ∃ y, f = y + 1 := ⟨f - 1, by omega⟩
    have hli := hl i (by omega)
    rw [D_X8_firstRound_10, hm.1, if_neg (by intro z; exact absurd ((nI_leI (by omega) (by omega)).mp z) (by omega))]
    unfold zI
    rw [if_neg (vp_in_nI (by omega) (by decide)), nI_clamp (by omega), hln i (by omega)]
    have next : ∀ B1 s1, rM P B1 s1 n U → (∀ i j, ¬ (P + 19 ≤ i ∧ i ≤ P + 22) → B1 i j = B i j) → s1 = (if T 7 (l i) = nI p then f1 T wo u s (l i) else s) → ∃ B', D_X8_firstRound_10 P k3 f (nI u) v1 (nI p) (nI i + 1) B1 = k3 (nI u) v1 (nI p + (-1)) B' ∧ rM P B' (fL T wo u (pf T p (lr l (c + 1) i)) s) n U ∧ (∀ i j, ¬ (P + 19 ≤ i ∧ i ≤ P + 22) → B' i j = B i j) := fun B1 s1 h1 h2 h3 => by
      rw [nI_add1]
      obtain ⟨B', b1, b2, b3⟩ := ih f (i + 1) B1 s1 (by omega) (by omega) (hm.m g2 (h2 _ _ (by omega)) (h2 _ _ (by omega)) (fun j _ _ => h2 _ _ (by omega)) (fun i j _ _ => h2 i j (by omega))) h1 (fun k hk => (h2 _ _ (by omega)).trans (hln k hk))
      refine ⟨B', b1, ?_, fun i j h => (b3 i j h).trans (h2 i j h)⟩
      have e : fL T wo u (pf T p (lr l (c + 1) i)) s = fL T wo u (pf T p (lr l c (i + 1))) s1 := by
        show fL T wo u (if T 7 (l i) = nI p then l i :: pf T p (lr l c (i + 1)) else pf T p (lr l c (i + 1))) s = _
        by_cases q : T 7 (l i) = nI p
        · rw [if_pos q] at h3 ⊢
          rw [h3]
          rfl
        · rw [if_neg q] at h3 ⊢
          rw [h3]
      rw [e]
      exact b2
    have skip : (if T 7 (l i) = nI p then f1 T wo u s (l i) else s) = s → ∃ B', D_X8_firstRound_60 P k3 (D_X8_firstRound_10 P k3 f) (nI u) v1 (nI p) (nI i) (nI (l i)) B = k3 (nI u) v1 (nI p + (-1)) B' ∧ rM P B' (fL T wo u (pf T p (lr l (c + 1) i)) s) n U ∧ (∀ i j, ¬ (P + 19 ≤ i ∧ i ≤ P + 22) → B' i j = B i j) := fun h => by
      unfold D_X8_firstRound_60 D_X8_firstRound_61
      rw [if_pos rfl]
      exact next B s hs (fun _ _ _ => rfl) h.symm
    by_cases qv : nI (l i) = v1
    · rw [if_pos qv]
      have hw := (hv _ hli).mp qv
      refine skip ?_
      by_cases q : T 7 (l i) = nI p
      · rw [if_pos q]
        unfold f1
        rw [if_neg (fun z => z.1 hw)]
      · rw [if_neg q]
    · rw [if_neg qv]
      have ec := mm_choice (k := 0) g1 hm hli (by omega)
      rw [show nI 0 = (0 : Int32) by decide] at ec
      rw [zB_s ec]
      by_cases qc : T 12 (3 * l i + 0) = nI u
      · have qc' : T 12 (3 * l i) = nI u := qc
        rw [if_pos qc, if_neg (vp_in_nI (show l i < 10 by omega) (by decide)), nI_clamp (show l i < 2147483648 by omega), (hm.2.2.1 _ hli).2.2.2.2.1]
        by_cases qp : T 7 (l i) = nI p
        · rw [if_pos qp]
          unfold D_X8_firstRound_61 zI
          rw [if_neg (by decide), if_neg (vp_in_nI (show u < 5 by omega) (by decide)), nI_62 u (by omega), if_neg (vp_in_nI (show 62 + u < 82 by omega) (by decide)), nI_clamp (show u < 2147483648 by omega), nI_clamp (show 62 + u < 2147483648 by omega), zB_s (mm_pref g2 hm hu).1, (hs.2 u hu).1, (hm.2.2.2 u hu).1, zB_s (mm_fits g1 g2 hm hs hli hu)]
          by_cases qf : T 5 (l i) ≤ s 2 u - T 1 u + T 2 u ∧ T 6 (l i) ≤ s 3 u
          · rw [if_pos qf, if_neg (by decide)]
            obtain ⟨B1, b1, b2, b3⟩ := mm_gets (rd := 1) g1 g2 hm hs hli hu
            rw [zB_s b1]
            refine next B1 _ b2 b3 ?_
            rw [if_pos qp]
            unfold f1
            rw [if_pos ⟨fun z => qv ((hv _ hli).mpr z), qc', qf.1, qf.2⟩]
          · rw [if_neg qf, if_pos rfl]
            refine next B s hs (fun _ _ _ => rfl) ?_
            rw [if_pos qp]
            unfold f1
            rw [if_neg (fun z => qf ⟨z.2.2.1, z.2.2.2⟩)]
        · rw [if_neg qp]
          exact skip (if_neg qp)
      · rw [if_neg qc]
        refine skip ?_
        rw [f1_id qc]
        by_cases q : T 7 (l i) = nI p
        · rw [if_pos q]
        · rw [if_neg q]
theorem mm_fr3 {P n U u : Nat} {T : zMt} {wo : Nat} {v1 : Int32} {l : Nat → Nat} (hg : gP T n U) (hu : u < U) (hv : ∀ a, a < n → (nI a = v1 ↔ a = wo)) (hl : ∀ k, k < n → l k < n) : ∀ (m f : Nat) (B s : zMt), m ≤ 21 → m < f → mP P B T n U → rM P B s n U → (∀ k, k < n → B (P + 18) k = nI (l k)) → ∃ B', D_X8_firstRound_3 P f (nI u) v1 (nI m + (-1)) B = some B' ∧ rM P B' (fL T wo u (bk T (lp l n) m) s) n U ∧ (∀ i j, ¬ (P + 19 ≤ i ∧ i ≤ P + 22) → B' i j = B i j) := by
  intro m
  induction m with
  | zero =>
    intro f B s _ hf hm hs _
    obtain ⟨f, rfl⟩ : ∃ y, f = y + 1 := ⟨f - 1, by omega⟩
    rw [D_X8_firstRound_3, if_pos (by decide)]
    exact ⟨B, rfl, hs, fun _ _ _ => rfl⟩
  | succ m ih =>
    intro f B s hm21 hf hm hs hln
    have g2 := hg.2.1
    obtain ⟨f, rfl⟩ : ∃ y, f = y + 1 := ⟨f - 1, by omega⟩
    have em : nI (m + 1) + (-1 : Int32) = nI m := by
      rw [i_neg]
      exact nI_sub1 (by omega)
    have hlr : lp l n = lr l n 0 := by
      have := lp_lr (l := l) n 0
      rw [show (0 : Nat) + n = n by omega] at this
      exact this.symm
    rw [D_X8_firstRound_3, em, if_neg (by intro z; exact absurd ((ltR (x := 0) (b := 0) (by decide) (by decide) (by omega)).mp z) (by omega))]
    obtain ⟨B1, b1, b2, b3⟩ := mm_fr10 (k3 := D_X8_firstRound_3 P f) (p := m) hg hu hv hl (by omega) n zFu 0 B s (by omega) (by have := hg.1; unfold zFu; omega) hm hs hln
    rw [show nI 0 = (0 : Int32) by decide] at b1
    rw [b1]
    obtain ⟨B2, d1, d2, d3⟩ := ih f B1 _ (by omega) (by omega) (hm.m g2 (b3 _ _ (by omega)) (b3 _ _ (by omega)) (fun j _ _ => b3 _ _ (by omega)) (fun i j _ _ => b3 i j (by omega))) b2 (fun k hk => (b3 _ _ (by omega)).trans (hln k hk))
    refine ⟨B2, d1, ?_, fun i j h => (d3 i j h).trans (b3 i j h)⟩
    show rM P B2 (fL T wo u (pf T m (lp l n) ++ bk T (lp l n) m) s) n U
    rw [fL_app, hlr]
    rw [hlr] at d2
    exact d2
theorem mm_r74 {P n U : Nat} {T : zMt} {wo : Nat} {v1 : Int32} {l : Nat → Nat} (hg : gP T n U) (hv : ∀ a, a < n → (nI a = v1 ↔ a = wo)) (hl : ∀ k, k < n → l k < n) : ∀ (f u : Nat) (B s : zMt), u ≤ U → U - u < f → mP P B T n U → rM P B (fU T wo (bk T (lp l n) 21) u s) n U → (∀ k, k < n → B (P + 18) k = nI (l k)) → ∃ B', D_X8_results_74 P f v1 (nI u) B = D_X8_results_96 P zFu v1 (0 : Int32) B' ∧ rM P B' (fU T wo (bk T (lp l n) 21) U s) n U ∧ (∀ i j, ¬ (P + 19 ≤ i ∧ i ≤ P + 22) → B' i j = B i j) := by
  intro f
  induction f with
  | zero => intro u B s _ h; omega
  | succ f ih =>
    intro u B s hu hf hm hs hln
    have g2 := hg.2.1
    rw [D_X8_results_74, hm.2.1]
    by_cases hc : U ≤ u
    · have : u = U := by omega
      subst this
      rw [if_pos (by exact (nI_leI (by omega) (by omega)).mpr hc)]
      exact ⟨B, rfl, hs, fun _ _ _ => rfl⟩
    · rw [if_neg (by intro z; exact hc ((nI_leI (by omega) (by omega)).mp z))]
      obtain ⟨B1, b1, b2, b3⟩ := mm_fr3 hg (show u < U by omega) hv hl 21 zFu B _ (by omega) (by unfold zFu; omega) hm hs hln
      have e1 : D_X8_firstRound P (nI u) v1 B = some B1 := by
        unfold D_X8_firstRound
        rw [show nI 21 + (-1 : Int32) = (20 : Int32) by decide] at b1
        exact b1
      rw [zB_s e1, nI_add1]
      obtain ⟨B2, d1, d2, d3⟩ := ih (u + 1) B1 s (by omega) (by omega) (hm.m g2 (b3 _ _ (by omega)) (b3 _ _ (by omega)) (fun j _ _ => b3 _ _ (by omega)) (fun i j _ _ => b3 i j (by omega))) b2 (fun k hk => (b3 _ _ (by omega)).trans (hln k hk))
      exact ⟨B2, d1, d2, fun i j h => (d3 i j h).trans (b3 i j h)⟩
/-- the second round: one -/
theorem mm_r114 {P n U a k : Nat} {T : zMt} {wo : Nat} {v1 : Int32} {k96 : Int32 → Int32 → zMt → Option zMt} (hg : gP T n U) (hv : ∀ a, a < n → (nI a = v1 ↔ a = wo)) (ha : a < n) : ∀ (c f i d : Nat) (B s : zMt), d = (T 11 a).toNatClampNeg → i + c = d → c + 1 < f → mP P B T n U → rM P B s n U → ∃ B', D_X8_results_114 P k96 f v1 (nI k) (nI a) (nI i) B = k96 v1 (nI (k + 1)) B' ∧ rM P B' (if s 0 a = -1 ∧ ¬ a = wo then s2 T s a c i else s) n U ∧ (∀ i j, ¬ (P + 19 ≤ i ∧ i ≤ P + 22) → B' i j = B i j) := by
  have hg0 := hg
  obtain ⟨g1, g2, g3, g4, g5, g6, g7⟩ := hg
  obtain ⟨x, x1, x2, x3, x4⟩ := (g5 a ha).2.2.2
  intro c
  induction c with
  | zero =>
    intro f i d B s hd hi hf hm hs
    obtain ⟨f, rfl⟩ : ∃ y, f = y + 1 := ⟨f - 1, by omega⟩
    rw [x2, nI_clamp (by omega)] at hd
    rw [D_X8_results_114, zB_s (mm_manyC hg0 hm ha), x2, if_pos (by exact (nI_leI (by omega) (by omega)).mpr (by omega))]
    unfold D_X8_results_185
    rw [nI_add1]
    refine ⟨B, rfl, ?_, fun _ _ _ => rfl⟩
    by_cases q : s 0 a = -1 ∧ ¬ a = wo
    · rw [if_pos q]; exact hs
    · rw [if_neg q]; exact hs
  | succ c ih =>
    intro f i d B s hd hi hf hm hs
    obtain ⟨f, rfl⟩ : ∃ y, f = y + 1 := ⟨f - 1, by omega⟩
    have hd' := hd
    rw [x2, nI_clamp (by omega)] at hd
    rw [D_X8_results_114, zB_s (mm_manyC hg0 hm ha), x2, if_neg (by intro z; exact absurd ((nI_leI (by omega) (by omega)).mp z) (by omega))]
    unfold zI
    rw [if_neg (vp_in_nI (show a < 10 by omega) (by decide)), nI_clamp (show a < 2147483648 by omega), (hs.1 a ha).1]
    by_cases q : s 0 a = -1
    · rw [if_pos q]
      by_cases qw : a = wo
      · rw [if_pos ((hv a ha).mpr qw), if_neg (fun z => z.2 qw)]
        unfold D_X8_results_185
        rw [nI_add1]
        exact ⟨B, rfl, hs, fun _ _ _ => rfl⟩
      · obtain ⟨w, hw, ew⟩ := x3 i (by omega)
        have ec := mm_choice (k := i) g1 hm ha (by omega)
        rw [ew] at ec
        have ewu : wu T a i = w := by
          unfold wu
          rw [ew, nI_clamp (by omega)]
        rw [if_neg (fun z => qw ((hv a ha).mp z)), if_pos ⟨q, qw⟩, zB_s ec, zB_s ec, if_neg (vp_in_nI (show w < 5 by omega) (by decide)), nI_clamp (show w < 2147483648 by omega), (hs.2 w hw).1, zB_s (mm_fits g1 g2 hm hs ha hw)]
        show ∃ B', _ = k96 v1 (nI (k + 1)) B' ∧ rM P B' (if T 5 a ≤ s 2 (wu T a i) ∧ T 6 a ≤ s 3 (wu T a i) then gT T s a (wu T a i) 2 else s2 T s a c (i + 1)) n U ∧ _
        rw [ewu]
        by_cases qf : T 5 a ≤ s 2 w ∧ T 6 a ≤ s 3 w
        · rw [if_pos qf, if_neg (by decide), if_pos qf, zB_s ec]
          obtain ⟨B1, b1, b2, b3⟩ := mm_gets (rd := 2) g1 g2 hm hs ha hw
          rw [zB_s b1]
          unfold D_X8_results_179
          rw [nI_add1]
          obtain ⟨B', e1, e2, e3⟩ := ih f (i + 1) d B1 _ hd' (by omega) (by omega) (hm.m g2 (b3 _ _ (by omega)) (b3 _ _ (by omega)) (fun j _ _ => b3 _ _ (by omega)) (fun i j _ _ => b3 i j (by omega))) b2
          rw [if_neg (fun z => by
            have := z.1
            rw [gT_0] at this
            exact nI_ne (by omega) this)] at e2
          exact ⟨B', e1, e2, fun i j h => (e3 i j h).trans (b3 i j h)⟩
        · rw [if_neg qf, if_pos rfl, if_neg qf]
          unfold D_X8_results_179
          rw [nI_add1]
          obtain ⟨B', e1, e2, e3⟩ := ih f (i + 1) d B s hd' (by omega) (by omega) hm hs
          rw [if_pos ⟨q, qw⟩] at e2
          exact ⟨B', e1, e2, e3⟩
    · rw [if_neg q, if_neg (fun z => q z.1)]
      unfold D_X8_results_185
      rw [nI_add1]
      exact ⟨B, rfl, hs, fun _ _ _ => rfl⟩
theorem mm_r96 {P n U : Nat} {T : zMt} {wo : Nat} {v1 : Int32} {l : Nat → Nat} (hg : gP T n U) (hv : ∀ a, a < n → (nI a = v1 ↔ a = wo)) (hl : ∀ k, k < n → l k < n) : ∀ (c f k : Nat) (B s : zMt), k + c = n → c < f → mP P B T n U → rM P B s n U → (∀ k, k < n → B (P + 18) k = nI (l k)) → ∃ B', D_X8_results_96 P f v1 (nI k) B = some B' ∧ rM P B' (fS T wo (lr l c k) s) n U ∧ (∀ i j, ¬ (P + 19 ≤ i ∧ i ≤ P + 22) → B' i j = B i j) := by
  have hg0 := hg
  obtain ⟨g1, g2, g3, g4, g5, g6, g7⟩ := hg
  intro c
  induction c with
  | zero =>
    intro f k B s hk hf hm hs _
    obtain ⟨f, rfl⟩ : ∃ y, f = y + 1 := ⟨f - 1, by omega⟩
    rw [D_X8_results_96, hm.1, if_pos (by exact (nI_leI (by omega) (by omega)).mpr (by omega))]
    exact ⟨B, rfl, hs, fun _ _ _ => rfl⟩
  | succ c ih =>
    intro f k B s hk hf hm hs hln
    obtain ⟨f, rfl⟩ : ∃ y, f = y + 1 := ⟨f - 1, by omega⟩
    have hlk := hl k (by omega)
    rw [D_X8_results_96, hm.1, if_neg (by intro z; exact absurd ((nI_leI (by omega) (by omega)).mp z) (by omega))]
    unfold zI
    rw [if_neg (vp_in_nI (show k < 10 by omega) (by decide)), nI_clamp (by omega), hln k (by omega)]
    obtain ⟨x, x1, x2, x3, x4⟩ := (g5 _ hlk).2.2.2
    obtain ⟨B1, b1, b2, b3⟩ := mm_r114 (k := k) (k96 := D_X8_results_96 P f) hg0 hv hlk x zFu 0 x B s (by rw [x2, nI_clamp (by omega)]) (by omega) (by unfold zFu; omega) hm hs
    rw [show nI 0 = (0 : Int32) by decide] at b1
    rw [b1]
    obtain ⟨B2, d1, d2, d3⟩ := ih f (k + 1) B1 _ (by omega) (by omega) (hm.m g2 (b3 _ _ (by omega)) (b3 _ _ (by omega)) (fun j _ _ => b3 _ _ (by omega)) (fun i j _ _ => b3 i j (by omega))) b2 (fun k hk => (b3 _ _ (by omega)).trans (hln k hk))
    refine ⟨B2, d1, ?_, fun i j h => (d3 i j h).trans (b3 i j h)⟩
    show rM P B2 (fS T wo (lr l c (k + 1)) (f2 T wo s (l k))) n U
    unfold f2
    rw [x2, nI_clamp (by omega)]
    exact d2
theorem mm_r2 {P n U : Nat} {T : zMt} {v1 : Int32} (hn : n ≤ 10) : ∀ (f k : Nat) (B : zMt), k ≤ n → n - k < f → B P 33 = nI n → (∀ a, a < k → B (P + 19) a = -1 ∧ B (P + 20) a = 0) → ∃ B', D_X8_results_2 P f v1 (nI k) B = D_X8_results_32 P zFu v1 (0 : Int32) B' ∧ (∀ a, a < n → B' (P + 19) a = -1 ∧ B' (P + 20) a = 0) ∧ (∀ i j, ¬ (P + 19 ≤ i ∧ i ≤ P + 22) → B' i j = B i j) := by
  intro f
  induction f with
  | zero => intro k B _ h; omega
  | succ f ih =>
    intro k B hk hf h33 hv
    rw [D_X8_results_2, h33]
    by_cases hc : n ≤ k
    · rw [if_pos (by exact (nI_leI (by omega) (by omega)).mpr hc)]
      exact ⟨B, rfl, fun a ha => hv a (by omega), fun _ _ _ => rfl⟩
    · have ik : ¬ (nI k < 0 ∨ 10 ≤ (nI k).toNatClampNeg) := vp_in_nI (by omega) (by decide)
      rw [if_neg (by intro z; exact hc ((nI_leI (by omega) (by omega)).mp z))]
      unfold zI
      rw [if_neg ik, nI_clamp (by omega), zLt_eq, if_neg (ci (show k < 10 by omega) (by omega)), zLt_eq, nI_add1]
      obtain ⟨B', b1, b2, b3⟩ := ih (k + 1) (zu (zu B (P + 19) k (-1)) (P + 20) k 0) (by omega) (by omega) ((zu_ne (by omega)).trans ((zu_ne (by omega)).trans h33)) (fun a ha => by
        by_cases q : a = k
        · subst q
          exact ⟨(zu_ne (by omega)).trans zu_eq, zu_eq⟩
        · exact ⟨(zu_ne (by omega)).trans ((zu_ne (by omega)).trans (hv a (by omega)).1), (zu_ne (by omega)).trans ((zu_ne (by omega)).trans (hv a (by omega)).2)⟩)
      exact ⟨B', b1, b2, fun i j h => (b3 i j h).trans ((zu_ne (by omega)).trans (zu_ne (by omega)))⟩
theorem mm_r32 {P n U : Nat} {T : zMt} {v1 : Int32} (hn : n ≤ 10) (hU : U ≤ 5) : ∀ (f k : Nat) (B : zMt), k ≤ U → U - k < f → mP P B T n U → (∀ v, v < k → B (P + 21) v = T 1 v ∧ B (P + 22) v = T 3 v) → ∃ B', D_X8_results_32 P f v1 (nI k) B = D_X8_results_74 P zFu v1 (0 : Int32) B' ∧ (∀ v, v < U → B' (P + 21) v = T 1 v ∧ B' (P + 22) v = T 3 v) ∧ (∀ i j, ¬ (P + 21 ≤ i ∧ i ≤ P + 22) → B' i j = B i j) := by
  intro f
  induction f with
  | zero => intro k B _ h; omega
  | succ f ih =>
    intro k B hk hf hm hv
    rw [D_X8_results_32, hm.2.1]
    by_cases hc : U ≤ k
    · rw [if_pos (by exact (nI_leI (by omega) (by omega)).mpr hc)]
      exact ⟨B, rfl, fun a ha => hv a (by omega), fun _ _ _ => rfl⟩
    · have ik : ¬ (nI k < 0 ∨ 5 ≤ (nI k).toNatClampNeg) := vp_in_nI (by omega) (by decide)
      rw [if_neg (by intro z; exact hc ((nI_leI (by omega) (by omega)).mp z)), nI_62 k (by omega)]
      unfold zI
      rw [if_neg (vp_in_nI (show 62 + k < 82 by omega) (by decide)), if_neg ik, nI_clamp (show k < 2147483648 by omega), nI_clamp (show 62 + k < 2147483648 by omega), (hm.2.2.2 k (by omega)).1, zLt_eq]
      have hm1 : mP P (zu B (P + 21) k (T 1 k)) T n U := hm.m hU (zu_ne (by omega)) (zu_ne (by omega)) (fun j _ _ => zu_ne (by omega)) (fun i j _ _ => zu_ne (by omega))
      rw [zB_s (mm_pref hU hm1 (show k < U by omega)).2, if_neg (ci (show k < 5 by omega) (by omega)), zLt_eq, nI_add1]
      obtain ⟨B', b1, b2, b3⟩ := ih (k + 1) (zu (zu B (P + 21) k (T 1 k)) (P + 22) k (T 3 k)) (by omega) (by omega) (hm1.m hU (zu_ne (by omega)) (zu_ne (by omega)) (fun j _ _ => zu_ne (by omega)) (fun i j _ _ => zu_ne (by omega))) (fun v hv' => by
        by_cases q : v = k
        · subst q
          exact ⟨(zu_ne (by omega)).trans zu_eq, zu_eq⟩
        · exact ⟨(zu_ne (by omega)).trans ((zu_ne (by omega)).trans (hv v (by omega)).1), (zu_ne (by omega)).trans ((zu_ne (by omega)).trans (hv v (by omega)).2)⟩)
      exact ⟨B', b1, b2, fun i j h => (b3 i j h).trans ((zu_ne (by omega)).trans (zu_ne (by omega)))⟩
theorem mm_results {P n U : Nat} {B T : zMt} {wo : Nat} {v1 : Int32} {l : Nat → Nat} (hg : gP T n U) (hm : mP P B T n U) (hv : ∀ a, a < n → (nI a = v1 ↔ a = wo)) (hl : ∀ k, k < n → l k < n ∧ B (P + 18) k = nI (l k)) : ∃ B', D_X8_results P v1 B = some B' ∧ rM P B' (rs T wo U n l) n U ∧ (∀ i j, ¬ (P + 19 ≤ i ∧ i ≤ P + 22) → B' i j = B i j) := by
  have g1 := hg.1
  have g2 := hg.2.1
  unfold D_X8_results
  obtain ⟨B1, a1, a2, a3⟩ := mm_r2 (P := P) (U := U) (T := T) (v1 := v1) g1 zFu 0 B (by omega) (by unfold zFu; omega) hm.1 (fun a ha => absurd ha (Nat.not_lt_zero a))
  rw [show nI 0 = (0 : Int32) by decide] at a1
  rw [a1]
  have hm1 : mP P B1 T n U := hm.m g2 (a3 _ _ (by omega)) (a3 _ _ (by omega)) (fun j _ _ => a3 _ _ (by omega)) (fun i j _ _ => a3 i j (by omega))
  obtain ⟨B2, b1, b2, b3⟩ := mm_r32 (P := P) (v1 := v1) g1 g2 zFu 0 B1 (by omega) (by unfold zFu; omega) hm1 (fun v hv => absurd hv (Nat.not_lt_zero v))
  rw [show nI 0 = (0 : Int32) by decide] at b1
  rw [b1]
  have k2 : ∀ i j, ¬ (P + 19 ≤ i ∧ i ≤ P + 22) → B2 i j = B i j := fun i j h => (b3 i j (by omega)).trans (a3 i j h)
  have hm2 : mP P B2 T n U := hm.m g2 (k2 _ _ (by omega)) (k2 _ _ (by omega)) (fun j _ _ => k2 _ _ (by omega)) (fun i j _ _ => k2 i j (by omega))
  have hr2 : rM P B2 (s0 T) n U := by
    refine ⟨fun a ha => ?_, fun u hu => b2 u hu⟩
    rw [b3 _ _ (by omega), b3 _ _ (by omega)]
    exact a2 a ha
  obtain ⟨B3, d1, d2, d3⟩ := mm_r74 (P := P) (wo := wo) (v1 := v1) (l := l) hg hv (fun k hk => (hl k hk).1) zFu 0 B2 (s0 T) (by omega) (by unfold zFu; omega) hm2 hr2 (fun k hk => (k2 _ _ (by omega)).trans (hl k hk).2)
  rw [show nI 0 = (0 : Int32) by decide] at d1
  rw [d1]
  have k3 : ∀ i j, ¬ (P + 19 ≤ i ∧ i ≤ P + 22) → B3 i j = B i j := fun i j h => (d3 i j h).trans (k2 i j h)
  obtain ⟨B4, e1, e2, e3⟩ := mm_r96 (P := P) (wo := wo) (v1 := v1) (l := l) hg hv (fun k hk => (hl k hk).1) n zFu 0 B3 _ (by omega) (by unfold zFu; omega) (hm.m g2 (k3 _ _ (by omega)) (k3 _ _ (by omega)) (fun j _ _ => k3 _ _ (by omega)) (fun i j _ _ => k3 i j (by omega))) d2 (fun k hk => (k3 _ _ (by omega)).trans (hl k hk).2)
  rw [show nI 0 = (0 : Int32) by decide] at e1
  refine ⟨B4, e1, ?_, fun i j h => (e3 i j h).trans (k3 i j h)⟩
  have hlr : lp l n = lr l n 0 := by
    have := lp_lr (l := l) n 0
    rw [show (0 : Nat) + n = n by omega] at this
    exact this.symm
  rw [fU_fC (by omega)] at e2
  unfold rs
  rw [← hlr] at e2
  exact e2
