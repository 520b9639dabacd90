/-! the odds: the readings, both sides -/
def oD (C : Nat) (A : zMt) (N : zNt) : Prop := A C 3 = 0 ∨ ∃ T n U, (∀ i j, i < 13 → A (C + 91 + i) j = T i j) ∧ gP T n U ∧ n ≤ 7 ∧ cI (C + 112) A N T U n (lvA T n)
theorem oD.k {C : Nat} {A A' : zMt} {N N' : zNt} (h : oD C A N) (a : ∀ i j, ((i = C ∧ j = 3) ∨ (C + 91 ≤ i ∧ i < C + 104) ∨ i = C + 114) → A' i j = A i j) (b : ∀ i j, C + 113 ≤ i → i ≤ C + 116 → N' i j = N i j) : oD C A' N' := by
  rcases h with h | ⟨T, n, U, h1, h2, h3, h4⟩
  · exact Or.inl ((a _ _ (by omega)).trans h)
  · exact Or.inr ⟨T, n, U, fun i j hi => (a _ _ (by omega)).trans (h1 i j hi), h2, h3, h4.k (fun j => a _ _ (by omega)) (fun i j _ _ => b i j (by omega) (by omega))⟩
theorem mP.cg {P n U : Nat} {B T T' : zMt} (w : mP P B T n U) (e : ∀ i j, i < 13 → T' i j = T i j) : mP P B T' n U := by
  obtain ⟨w1, w2, w3, w4⟩ := w
  refine ⟨w1, w2, fun a ha => ?_, fun u hu => ?_⟩
  · obtain ⟨v1, v2, v3, v4, v5, v6, base, b0, b1, b2, b3⟩ := w3 a ha
    exact ⟨v1.trans (e 9 a (by omega)).symm, v2.trans (e 10 a (by omega)).symm, v3.trans (e 5 a (by omega)).symm, v4.trans (e 6 a (by omega)).symm, v5.trans (e 7 a (by omega)).symm, v6.trans (e 8 a (by omega)).symm, base, b0, b1, b2, fun k hk => (b3 k hk).trans (e 12 _ (by omega)).symm⟩
  · rw [e 1 u (by omega), e 2 u (by omega), e 3 u (by omega)]
    exact w4 u hu
theorem gH.cg {n H : Nat} {T T' : zMt} (w : gH T n H) (e : ∀ i j, i < 13 → T' i j = T i j) : gH T' n H := by
  intro h hh
  obtain ⟨h1, h2, h3⟩ := w h hh
  have ea : aOf T' h = aOf T h := congrArg Int32.toNatClampNeg (e 4 h (by omega))
  refine ⟨by rw [ea]; exact h1, by rw [ea, e 4 h (by omega)]; exact h2, fun b hb => ?_⟩
  rw [ea, e 9 b (by omega)]
  exact h3 b hb
theorem t_reckon {C P U H G K n : Nat} {A B : zMt} {N : zNt} {r g : Nat → Int32} (w : eqS C P A B r g U H G K) (hn : n = fr r H + G) (h7 : n ≤ 7) (hD : oD C A N) : ∃ A' N' T, D_X7_reckon C A N = some (A', N') ∧ (∀ i j, i < 13 → A' (C + 91 + i) j = T i j) ∧ (∀ i j, i < 13 → T i j = tP (C + 91) A i j) ∧ gP T n U ∧ gH T n H ∧ cI (C + 112) A' N' T U n (lvA T n) ∧ oD C A' N' ∧ (∀ i j, ¬ (i = C ∧ j = 3) → ¬ (C + 112 ≤ i ∧ i ≤ C + 124) → A' i j = A i j) := by
  obtain ⟨n', B1, hn', l1, l2, l3, l4, l5⟩ := t_laid w
  have : n' = n := hn'.trans hn.symm
  subst this
  unfold D_X7_reckon
  by_cases q : A C 3 = 0
  · obtain ⟨A1, N1, f1, f2, f3, f4⟩ := cc_reckon (Q := C + 112) (Ap := C + 91) (A := A) (N := N) (T := tP (C + 91) A) l2 h7 (Or.inr (by omega)) (fun _ _ _ => rfl)
    have kA : ∀ i j, ¬ (i = C ∧ j = 3) → zu A1 C 3 1 i j = A1 i j := fun i j h => zu_ne h
    have hI : cI (C + 112) (zu A1 C 3 1) N1 (tP (C + 91) A) U n' (lvA (tP (C + 91) A) n') := f2.k (fun j => kA _ _ (by omega)) (fun _ _ _ _ => rfl)
    have hT : ∀ i j, i < 13 → zu A1 C 3 1 (C + 91 + i) j = tP (C + 91) A i j := fun i j hi => (kA _ _ (by omega)).trans (f3 _ _ (by omega) (by omega))
    rw [if_pos q, zB_s f1]
    exact ⟨zu A1 C 3 1, N1, tP (C + 91) A, rfl, hT, fun _ _ _ => rfl, l2, l3, hI, Or.inr ⟨_, n', U, hT, l2, h7, hI⟩, fun i j h1 h2 => (kA i j h1).trans (f3 i j (by omega) (by omega))⟩
  · obtain ⟨T, n2, U2, hT, hg, h72, hI⟩ := hD.resolve_left q
    have e1 : n2 = n' := by
      have h1 := hg.2.2.1
      have h2 : T 0 1 = nI n' := (hT 0 1 (by omega)).symm.trans l2.2.2.1
      exact nI_inj (by omega) (by omega) (h1.symm.trans h2)
    have e2 : U2 = U := by
      have h1 := hg.2.2.2.1
      have h2 : T 0 0 = nI U := (hT 0 0 (by omega)).symm.trans l2.2.2.2.1
      have h3 := hg.2.1
      have h4 := l2.2.1
      exact nI_inj (by omega) (by omega) (h1.symm.trans h2)
    subst e1 e2
    rw [if_neg q]
    exact ⟨A, N, T, rfl, hT, fun i j hi => (hT i j hi).symm, hg, l3.cg (fun i j hi => (hT i j hi).symm), hI, hD, fun _ _ _ _ => rfl⟩
theorem mm_many7 {P n : Nat} {B B1 : zMt} (hn : n ≤ 10) (hB : D_X8_laysApplicants P B = some B1) (h33 : B1 P 33 = nI n) : (n ≤ 7 → D_X8_areMany P B = some (0, B1)) ∧ (¬ n ≤ 7 → D_X8_areMany P B = some (1, B1)) := by
  unfold D_X8_areMany
  rw [zB_s hB, h33]
  constructor
  · intro h
    rw [if_pos (Int32.le_iff_toInt_le.mpr (by rw [nI_toInt (by omega), show (7 : Int32).toInt = 7 by decide]; omega))]
    rfl
  · intro h
    rw [if_neg (fun z => h (by
      have h1 := Int32.le_iff_toInt_le.mp z
      rw [nI_toInt (by omega), show (7 : Int32).toInt = 7 by decide] at h1
      omega))]
    rfl
theorem nI_7i {n : Nat} (hn : n ≤ 10) : nI n ≤ (7 : Int32) ↔ n ≤ 7 := by
  rw [Int32.le_iff_toInt_le, nI_toInt (by omega), show (7 : Int32).toInt = 7 by decide]
  omega
/-- all that a call by all orders begins with -/
theorem t_odds {C P U H G K : Nat} {A B : zMt} {N NB : zNt} {r g : Nat → Int32} (w : eqS C P A B r g U H G K) (hD : oD C A N) : ∃ n B1, n = fr r H + G ∧ n ≤ 10 ∧ A (C + 91) 1 = nI n ∧ ((n ≤ 7 ∧ D_X8_areMany P B = some (0, B1) ∧ ∃ A' N' T B' N2, D_X7_reckon C A N = some (A', N') ∧ D_X8_laysAll P B1 NB = some (B', N2) ∧ (∀ i j, i < 13 → A' (C + 91 + i) j = T i j) ∧ gP T n U ∧ gH T n H ∧ cI (C + 112) A' N' T U n (lvA T n) ∧ oD C A' N' ∧ rI P B' N2 T U n (lvA T n) ∧ mP P B' T n U ∧ (∀ i j, ¬ (i = C ∧ j = 3) → ¬ (C + 112 ≤ i ∧ i ≤ C + 124) → A' i j = A i j)) ∨ (¬ n ≤ 7 ∧ D_X8_areMany P B = some (1, B1))) := by
  obtain ⟨n, B1, hn, l1, l2, l3, l4, l5⟩ := t_laid w
  have hn10 := l2.1
  obtain ⟨m1, m2⟩ := mm_many7 hn10 l1 l4.1
  refine ⟨n, B1, hn, hn10, l2.2.2.1, ?_⟩
  by_cases h7 : n ≤ 7
  · refine Or.inl ⟨h7, m1 h7, ?_⟩
    have w' : eqS C P A B1 r g U H G K := w.k (fun _ _ _ _ => rfl) (fun i j h => l5 i j (by omega) (by omega))
    obtain ⟨n', B2, hn', l1', l2', l3', l4', l5'⟩ := t_laid w'
    have : n' = n := hn'.trans hn.symm
    subst this
    obtain ⟨A', N', T, f1, f2, f3, f4, f5, f6, f7, f8⟩ := t_reckon w hn h7 hD
    obtain ⟨B', N2, g1, g2, g3, -⟩ := mm_all (N := NB) f4 h7 (l4'.cg f3)
    refine ⟨A', N', T, B', N2, f1, ?_, f2, f4, f5, f6, f7, g2, g3, f8⟩
    unfold D_X8_laysAll
    rw [zB_s l1', zB_s g1]
  · exact Or.inr ⟨h7, m2 h7⟩
theorem t_rfsL {C P : Nat} {A B : zMt} {NA NB : zNt} {v v' : Int32} (h : oD C A NA) : two (zB (D_X7_refuse C v A) fun e => some ((Int32.toInt64 e.1), e.2, NA)) (zB (D_X8_refuse P v' B) fun e => some ((Int32.toInt64 e.1), e.2, NB)) (fun a b => a.1 = b.1 ∧ oD C a.2.1 a.2.2) :=
  two.l (e := ((-1 : Int32), zu A C 0 v)) rfl (two.r (e := ((-1 : Int32), zu (zu B P 6 (0 : Int32)) P 12 v')) rfl (two.mk ⟨rfl, h.k (fun i j h => zu_ne (by omega)) (fun _ _ _ _ => rfl)⟩))
theorem t_ansL {C P : Nat} {A B : zMt} {NA NB : zNt} {x y : Int64} (h : oD C A NA) (e : x = y) : two (zB (D_X7_answerParts C x A) fun e => some (e.1, e.2, NA)) (zB (D_X8_givesLong P y B) fun e => some (e.1, e.2, NB)) (fun a b => a.1 = b.1 ∧ oD C a.2.1 a.2.2) :=
  two.l (e := (x, zu A C 0 (0 : Int32))) rfl (two.r (e := (y, zu (zu B P 6 (0 : Int32)) P 12 (0 : Int32))) rfl (two.mk ⟨e, h.k (fun i j h => zu_ne (by omega)) (fun _ _ _ _ => rfl)⟩))
theorem t_at {C P : Nat} {A B : zMt} {NA NB : zNt} {v0 v1 : Int32} (w0 : eqE C P A B) (hD : oD C A NA) (_hJ : jJ P B) : two (D_X7_at C v0 v1 A NA) (D_X8_at P v0 v1 B NB) (fun a b => a.1 = b.1 ∧ oD C a.2.1 a.2.2) := by
  obtain ⟨r, g, U, H, G, K, w⟩ := w0
  unfold D_X7_at D_X8_at
  obtain ⟨n, B1, hn, l1, l2, l3, l4, l5, hA⟩ := t_isA (v := v0) w
  rcases hA with ⟨f1, f2, a, ha, hv⟩ | ⟨f1, f2⟩
  · subst hv
    have w' : eqS C P A B1 r g U H G K := w.k (fun _ _ _ _ => rfl) (fun i j h => l5 i j (by omega) (by omega))
    rw [zB_s f1, zB_s f2, if_neg n10, if_neg n10]
    rcases t_isU (v := v1) w' with ⟨g1, g2, u, hu, hv⟩ | ⟨g1, g2⟩
    · subst hv
      obtain ⟨n', B2, hn', hn10, e91, hO⟩ := t_odds (NB := NB) w' hD
      have : n' = n := hn'.trans hn.symm
      subst this
      rw [zB_s g1, if_neg n10, e91]
      refine two.r g2 ?_
      rw [if_neg n10]
      rcases hO with ⟨h7, m1, A', N', T, B', N2, p1, p2, p3, p4, p5, p6, p7, p8, p9, p10⟩ | ⟨h7, m1⟩
      · rw [if_pos ((nI_7i hn10).mpr h7)]
        refine two.l p1 (two.r m1 ?_)
        rw [if_pos rfl]
        refine two.r p2 ?_
        have hU := p4.2.1
        unfold D_X0_certainUnit
        rw [nI_m5 a (by omega) u (by omega), zrd_nI (show 5 * a + u < 35 by omega) (by decide), nI_5m a (by omega) u (by omega)]
        refine two.ir (vp_in_nI (by omega) (by decide)) ?_
        rw [nI_clamp (by omega)]
        exact two.l rfl (t_ansL p7 ((p6.2.2.1 a u ha hu).trans (p8.1 a u ha hu).symm))
      · rw [if_neg (fun z => h7 ((nI_7i hn10).mp z))]
        refine two.r m1 ?_
        rw [if_neg n10]
        exact t_rfsL hD
    · rw [zB_s g1, if_pos rfl]
      refine two.r g2 ?_
      rw [if_pos rfl]
      exact t_rfsL hD
  · rw [zB_s f1, zB_s f2, if_pos rfl, if_pos rfl]
    exact t_rfsL hD
