/-! who there is: hunter, unit, applicant, choice, both sides -/
theorem mm_apOf {P n U H h : Nat} {B B1 T : zMt} (hn : n ≤ 10) (hB : D_X8_laysApplicants P B = some B1) (hm : mP P B1 T n U) (hh : gH T n H) (hH : H ≤ 10) (hhH : h < H) : D_X8_applicantOf P (nI h) B = some (nI (aOf T h), B1) := by
  obtain ⟨ha, _, hb⟩ := hh h hhH
  generalize aOf T h = a at ha hb
  have go : ∀ (c u x : Nat), x + c = a → c < u → D_X8_applicantOf_6 P u (nI h) (nI x) B1 = some (nI a, B1) := by
    intro c
    induction c with
    | zero =>
      intro u x hx hu
      obtain ⟨u, rfl⟩ : ∃ y, u = y + 1 := ⟨u - 1, by omega⟩
      have : x = a := by omega
      subst this
      rw [D_X8_applicantOf_6]
      unfold zI
      rw [if_neg (vp_in_nI (show x < 10 by omega) (by decide)), nI_clamp (by omega), (hm.2.2.1 x ha).1, zB_s (mm_has1 ((hb x ha).mpr rfl)), if_neg n10]
    | succ c ih =>
      intro u x hx hu
      obtain ⟨u, rfl⟩ : ∃ y, u = y + 1 := ⟨u - 1, by omega⟩
      rw [D_X8_applicantOf_6]
      unfold zI
      rw [if_neg (vp_in_nI (show x < 10 by omega) (by decide)), nI_clamp (by omega), (hm.2.2.1 x (by omega)).1, zB_s (mm_has0 (fun z => by have := (hb x (by omega)).mp z; omega)), if_pos rfl, nI_add1]
      exact ih u (x + 1) (by omega) (by omega)
  unfold D_X8_applicantOf
  rw [zB_s hB]
  have := go a zFu 0 (by omega) (by unfold zFu; omega)
  rw [show nI 0 = (0 : Int32) by decide] at this
  exact this
theorem t_hunter {C P : Nat} {A B : zMt} {v0 v1 : Int32} (w0 : eqE C P A B) (_hJ : jJ P B) : two (D_X7_hunter C v0 v1 A) (D_X8_hunter P v0 v1 B) (fun a b => a.1 = b.1) := by
  obtain ⟨r, g, U, H, G, K, w⟩ := w0
  obtain ⟨n, B1, hn, l1, l2, l3, l4, l5⟩ := t_laid w
  obtain ⟨w1, w2, w3, w4, w5, w6, w7, w8, w9⟩ := id w
  obtain ⟨⟨c1, c2, c3, c4, c5, c6, c7⟩, r1, r2, r3, r4, r5, r6, r9, ⟨s1, s2, s3, s4⟩, u3, u4, u5⟩ := w6
  unfold D_X7_hunter D_X8_hunter
  rcases t_rng (v := v1) (x := 4) (y := 4) (by decide) with ⟨g1, g2, g3, g4, g5⟩ | ⟨gn, g5⟩
  · rw [if_neg g1, if_pos g2, zB_s g5, if_neg n10]
    rcases t_isH (v := v0) w with ⟨e1, e2, h, hh, hv⟩ | ⟨e1, e2⟩
    · subst hv
      rw [zB_s e1, zB_s e2, if_neg n10, if_neg n10, nI_0p h (by omega), nI_10h h (by omega), nI_72h h (by omega)]
      refine two.ite Iff.rfl (fun _ => two.ir (vp_in_nI (by omega) (by decide)) ?_) (fun _ => ?_)
      · rw [zrd_nI (show h < 10 by omega) (by decide), nI_clamp (by omega)]
        exact t_ans ((r2 h (by omega)).trans (w1 h (by omega)).symm)
      refine two.ite Iff.rfl (fun _ => two.ir (vp_in_nI (by omega) (by decide)) ?_) (fun _ => ?_)
      · rw [zrd_nI (show h < 10 by omega) (by decide), nI_clamp (by omega), w2 h (by omega)]
        obtain ⟨z1, z2⟩ := r3 h hh
        rcases z2 with z | z
        · rw [if_pos z]
          exact t_ans (z1.trans z)
        · rw [if_neg (by rw [z]; decide)]
          exact t_ans (z1.trans z)
      refine two.ite Iff.rfl (fun _ => two.ir (vp_in_nI (by omega) (by decide)) ?_) (fun _ => ?_)
      · rw [zrd_nI (show h < 10 by omega) (by decide), nI_clamp (by omega)]
        exact t_ans ((r4 h (by omega)).1.trans (w1 (10 + h) (by omega)).symm)
      refine two.ite Iff.rfl (fun _ => ?_) (fun _ => two.ir (vp_in_nI (by omega) (by decide)) ?_)
      · rw [zrd_nI (show h < 10 by omega) (by decide)]
        exact two.r (mm_apOf l2.1 l1 l4 l3 c2 hh) (t_ans (l3 h hh).2.1)
      · rw [zrd_nI (show h < 10 by omega) (by decide), nI_clamp (by omega)]
        exact t_ans ((u3 h (by omega)).trans (w1 (72 + h) (by omega)).symm)
    · rw [zB_s e1, zB_s e2, if_pos rfl, if_pos rfl]
      exact t_rfs
  · rw [zB_s g5, if_pos rfl]
    rcases gn with z | ⟨z, z2⟩
    · rw [if_pos z]
      exact t_rfs
    · rw [if_neg z, if_neg z2]
      exact t_rfs
/-- at which place a unit stands -/
def rkF (T : zMt) (a : Nat) (x : Int32) : Nat → Nat → Int32
  | 0, _ => -1
  | d + 1, k => if T 12 (3 * a + k) = x then nI k else rkF T a x d (k + 1)
def rk (T : zMt) (a : Nat) (x : Int32) : Int32 := rkF T a x (T 11 a).toNatClampNeg 0
theorem cc_rank {Q n U a : Nat} {A T : zMt} {x : Int32} (hg : gP T n U) (hT : ∀ i j, i < 13 → A (Q + i) j = T i j) (ha : a < n) : D_X2_rankOf Q A (nI a) x = some (rk T a x) := by
  have g1 := hg.1
  obtain ⟨c, c1, c2, c3, c4⟩ := (hg.2.2.2.2.1 a ha).2.2.2
  have go : ∀ (d u k : Nat), k + d = c → d < u → D_X2_rankOf_2 Q A u (nI a) x (nI k) = some (rkF T a x d k) := by
    intro d
    induction d with
    | zero =>
      intro u k hk hu
      obtain ⟨u, rfl⟩ : ∃ y, u = y + 1 := ⟨u - 1, by omega⟩
      rw [D_X2_rankOf_2, zrd_nI (show a < 10 by omega) (by decide), hT 11 a (by omega), c2, if_pos (by exact (nI_leI (by omega) (by omega)).mpr (by omega))]
      rfl
    | succ d ih =>
      intro u k hk hu
      obtain ⟨u, rfl⟩ : ∃ y, u = y + 1 := ⟨u - 1, by omega⟩
      rw [D_X2_rankOf_2, zrd_nI (show a < 10 by omega) (by decide), hT 11 a (by omega), c2, if_neg (by intro z; exact absurd ((nI_leI (by omega) (by omega)).mp z) (by omega)), zB_s (cc_wish (T := T) (a := a) (k := k) (by omega) (by omega) hT)]
      have e : rkF T a x (d + 1) k = if T 12 (3 * a + k) = x then nI k else rkF T a x d (k + 1) := rfl
      rw [e]
      by_cases q : T 12 (3 * a + k) = x
      · rw [if_pos q, if_pos q]
      · rw [if_neg q, if_neg q, nI_add1]
        exact ih u (k + 1) (by omega) (by omega)
  have := go c zFu 0 (by omega) (by unfold zFu; omega)
  rw [show nI 0 = (0 : Int32) by decide] at this
  unfold D_X2_rankOf rk
  rw [c2, nI_clamp (by omega)]
  exact this
theorem mm_place {P n U a : Nat} {B T : zMt} {x : Int32} (hg : gP T n U) (hm : mP P B T n U) (ha : a < n) : D_X8_placeOf P B (nI a) x = some (rk T a x) := by
  have g1 := hg.1
  obtain ⟨c, c1, c2, c3, c4⟩ := (hg.2.2.2.2.1 a ha).2.2.2
  have go : ∀ (d u k : Nat), k + d = c → d < u → D_X8_placeOf_2 P B u (nI a) x (nI k) = some (rkF T a x d k) := by
    intro d
    induction d with
    | zero =>
      intro u k hk hu
      obtain ⟨u, rfl⟩ : ∃ y, u = y + 1 := ⟨u - 1, by omega⟩
      rw [D_X8_placeOf_2, zB_s (mm_manyC hg hm ha), c2, if_pos (by exact (nI_leI (by omega) (by omega)).mpr (by omega))]
      rfl
    | succ d ih =>
      intro u k hk hu
      obtain ⟨u, rfl⟩ : ∃ y, u = y + 1 := ⟨u - 1, by omega⟩
      rw [D_X8_placeOf_2, zB_s (mm_manyC hg hm ha), c2, if_neg (by intro z; exact absurd ((nI_leI (by omega) (by omega)).mp z) (by omega)), zB_s (mm_choice (k := k) g1 hm ha (by omega))]
      have e : rkF T a x (d + 1) k = if T 12 (3 * a + k) = x then nI k else rkF T a x d (k + 1) := rfl
      rw [e]
      by_cases q : T 12 (3 * a + k) = x
      · rw [if_pos q, if_pos q]
      · rw [if_neg q, if_neg q, nI_add1]
        exact ih u (k + 1) (by omega) (by omega)
  have := go c zFu 0 (by omega) (by unfold zFu; omega)
  rw [show nI 0 = (0 : Int32) by decide] at this
  unfold D_X8_placeOf rk
  rw [c2, nI_clamp (by omega)]
  exact this
theorem rkF_ge {T : zMt} {a : Nat} {x : Int32} : ∀ d k, rkF T a x d k = -1 ∨ ∃ i, k ≤ i ∧ i < k + d ∧ rkF T a x d k = nI i
  | 0, k => Or.inl rfl
  | d + 1, k => by
    have e : rkF T a x (d + 1) k = if T 12 (3 * a + k) = x then nI k else rkF T a x d (k + 1) := rfl
    rw [e]
    by_cases q : T 12 (3 * a + k) = x
    · rw [if_pos q]
      exact Or.inr ⟨k, by omega, by omega, rfl⟩
    · rw [if_neg q]
      rcases rkF_ge d (k + 1) with z | ⟨i, h1, h2, h3⟩
      · exact Or.inl z
      · exact Or.inr ⟨i, by omega, by omega, h3⟩
/-- first among them -/
theorem rk_0 {T : zMt} {a n U u : Nat} (hg : gP T n U) (ha : a < n) (hu : u < U) : rk T a (nI u) = 0 ↔ T 12 (3 * a) = nI u := by
  have g2 := hg.2.1
  have hw := (hg.2.2.2.2.1 a ha).2.2.2
  constructor
  · intro h
    obtain ⟨c, c1, c2, c3, c4⟩ := hw
    unfold rk at h
    rw [c2, nI_clamp (by omega)] at h
    cases c with
    | zero => exact absurd (show (-1 : Int32) = 0 from h) (by decide)
    | succ d =>
      have e : rkF T a (nI u) (d + 1) 0 = if T 12 (3 * a + 0) = nI u then nI 0 else rkF T a (nI u) d (0 + 1) := rfl
      rw [e] at h
      by_cases q : T 12 (3 * a + 0) = nI u
      · exact q
      · rw [if_neg q] at h
        rcases rkF_ge (T := T) (a := a) (x := nI u) d (0 + 1) with z | ⟨i, h1, h2, h3⟩
        · rw [z] at h
          exact absurd h (by decide)
        · rw [h3] at h
          have := nI_inj (a := i) (b := 0) (by omega) (by omega) h
          omega
  · intro h
    have hp := hw.pos (by omega) h
    unfold rk
    obtain ⟨d, hd⟩ : ∃ d, (T 11 a).toNatClampNeg = d + 1 := ⟨(T 11 a).toNatClampNeg - 1, by omega⟩
    rw [hd]
    have e : rkF T a (nI u) (d + 1) 0 = if T 12 (3 * a + 0) = nI u then nI 0 else rkF T a (nI u) d (0 + 1) := rfl
    rw [e, if_pos (by exact h)]
    decide
/-- applicants, hunters whose first choice a unit is; applicants who ask for it -/
def fA1 (T : zMt) (u a : Nat) : Int32 := if T 12 (3 * a) = nI u then 1 else 0
def fH1 (T : zMt) (u a : Nat) : Int32 := if T 12 (3 * a) = nI u then T 5 a else 0
def fK1 (T : zMt) (u a : Nat) : Int32 := if rk T a (nI u) = -1 then 0 else 1
theorem cc_fA {Q n U u : Nat} {A T : zMt} (hg : gP T n U) (hT : ∀ i j, i < 13 → A (Q + i) j = T i j) (hu : u < U) : D_X2_firstApplicants Q A (nI u) = some (zsum (fA1 T u) n) := by
  have g1 := hg.1
  have e1 : A Q 1 = nI n := (hT 0 1 (by omega)).trans hg.2.2.1
  have go : ∀ (v k : Nat), k ≤ n → n - k < v → D_X2_firstApplicants_4 Q A v (nI u) (zsum (fA1 T u) k) (nI k) = some (zsum (fA1 T u) n) := by
    intro v
    induction v with
    | zero => intro k _ h; omega
    | succ v ih =>
      intro k hk hv
      rw [D_X2_firstApplicants_4, e1]
      by_cases hc : n ≤ k
      · rw [if_pos (by exact (nI_leI (by omega) (by omega)).mpr hc), show k = n by omega]
      · rw [if_neg (by intro z; exact hc ((nI_leI (by omega) (by omega)).mp z)), zB_s (cc_rank hg hT (show k < n by omega))]
        have := ih (k + 1) (by omega) (by omega)
        rw [zsum_s, ← nI_add1] at this
        have hr := rk_0 hg (show k < n by omega) hu
        by_cases q : T 12 (3 * k) = nI u
        · rw [if_pos (hr.mpr q)]
          rw [show fA1 T u k = 1 from if_pos q] at this
          exact this
        · rw [if_neg (fun z => q (hr.mp z))]
          rw [show fA1 T u k = 0 from if_neg q] at this
          exact this
  have := go zFu 0 (by omega) (by unfold zFu; omega)
  rw [show nI 0 = (0 : Int32) by decide] at this
  exact this
theorem cc_fH {Q n U u : Nat} {A T : zMt} (hg : gP T n U) (hT : ∀ i j, i < 13 → A (Q + i) j = T i j) (hu : u < U) : D_X2_firstHunters Q A (nI u) = some (zsum (fH1 T u) n) := by
  have g1 := hg.1
  have e1 : A Q 1 = nI n := (hT 0 1 (by omega)).trans hg.2.2.1
  have go : ∀ (v k : Nat), k ≤ n → n - k < v → D_X2_firstHunters_4 Q A v (nI u) (zsum (fH1 T u) k) (nI k) = some (zsum (fH1 T u) n) := by
    intro v
    induction v with
    | zero => intro k _ h; omega
    | succ v ih =>
      intro k hk hv
      rw [D_X2_firstHunters_4, e1]
      by_cases hc : n ≤ k
      · rw [if_pos (by exact (nI_leI (by omega) (by omega)).mpr hc), show k = n by omega]
      · rw [if_neg (by intro z; exact hc ((nI_leI (by omega) (by omega)).mp z)), zB_s (cc_rank hg hT (show k < n by omega)), zrd_nI (show k < 10 by omega) (by decide), hT 5 k (by omega)]
        have := ih (k + 1) (by omega) (by omega)
        rw [zsum_s, ← nI_add1] at this
        have hr := rk_0 hg (show k < n by omega) hu
        by_cases q : T 12 (3 * k) = nI u
        · rw [if_pos (hr.mpr q)]
          rw [show fH1 T u k = T 5 k from if_pos q] at this
          exact this
        · rw [if_neg (fun z => q (hr.mp z))]
          rw [show fH1 T u k = 0 from if_neg q] at this
          exact this
  have := go zFu 0 (by omega) (by unfold zFu; omega)
  rw [show nI 0 = (0 : Int32) by decide] at this
  exact this
theorem cc_fK {Q n U u : Nat} {A T : zMt} (hg : gP T n U) (hT : ∀ i j, i < 13 → A (Q + i) j = T i j) : D_X2_askers Q A (nI u) = some (zsum (fK1 T u) n) := by
  have g1 := hg.1
  have e1 : A Q 1 = nI n := (hT 0 1 (by omega)).trans hg.2.2.1
  have go : ∀ (v k : Nat), k ≤ n → n - k < v → D_X2_askers_4 Q A v (nI u) (zsum (fK1 T u) k) (nI k) = some (zsum (fK1 T u) n) := by
    intro v
    induction v with
    | zero => intro k _ h; omega
    | succ v ih =>
      intro k hk hv
      rw [D_X2_askers_4, e1]
      by_cases hc : n ≤ k
      · rw [if_pos (by exact (nI_leI (by omega) (by omega)).mpr hc), show k = n by omega]
      · rw [if_neg (by intro z; exact hc ((nI_leI (by omega) (by omega)).mp z)), zB_s (cc_rank hg hT (show k < n by omega))]
        have := ih (k + 1) (by omega) (by omega)
        rw [zsum_s, ← nI_add1] at this
        by_cases q : rk T k (nI u) = -1
        · rw [if_pos q]
          rw [show fK1 T u k = 0 from if_pos q] at this
          exact this
        · rw [if_neg q]
          rw [show fK1 T u k = 1 from if_neg q] at this
          exact this
  have := go zFu 0 (by omega) (by unfold zFu; omega)
  rw [show nI 0 = (0 : Int32) by decide] at this
  exact this
/-- the reference counts likewise -/
theorem mm_unit85 {P n U u : Nat} {B T : zMt} {x : Int32} (hg : gP T n U) (hm : mP P B T n U) (hx : x = 3 ∨ x = 4 ∨ x = 5) : ∀ (v k : Nat), k ≤ n → n - k < v → D_X8_unit_85 P v (nI u) x (zsum (if x = 5 then fK1 T u else if x = 4 then fH1 T u else fA1 T u) k) (nI k) B = some (zsum (if x = 5 then fK1 T u else if x = 4 then fH1 T u else fA1 T u) n, zu (zu B P 6 (0 : Int32)) P 12 (0 : Int32)) := by
  have g1 := hg.1
  intro v
  induction v with
  | zero => intro k _ h; omega
  | succ v ih =>
    intro k hk hv
    rw [D_X8_unit_85, hm.1]
    by_cases hc : n ≤ k
    · rw [if_pos (by exact (nI_leI (by omega) (by omega)).mpr hc), show k = n by omega]
      rfl
    · have := ih (k + 1) (by omega) (by omega)
      rw [zsum_s, ← nI_add1] at this
      have ec := mm_choice (k := 0) g1 hm (show k < n by omega) (by omega)
      rw [show nI 0 = (0 : Int32) by decide] at ec
      rw [if_neg (by intro z; exact hc ((nI_leI (by omega) (by omega)).mp z)), zB_s (mm_place hg hm (show k < n by omega)), zB_s ec]
      unfold D_X8_unit_134
      rcases hx with z | z | z <;> subst z
      · have n1 : ¬ (3 : Int32) = 5 := by decide
        have n2 : ¬ (3 : Int32) = 4 := by decide
        simp only [if_neg n1, if_neg n2, if_true] at this ⊢
        by_cases q : T 12 (3 * k + 0) = nI u
        · rw [if_pos q, if_neg n10]
          rw [show fA1 T u k = 1 from if_pos q] at this
          exact this
        · rw [if_neg q]
          rw [show fA1 T u k = 0 from if_neg q] at this
          exact this
      · have n1 : ¬ (4 : Int32) = 5 := by decide
        have n2 : (4 : Int32) = 4 := rfl
        simp only [if_neg n1, if_true] at this ⊢
        by_cases q : T 12 (3 * k + 0) = nI u
        · rw [if_pos q, if_neg n10]
          unfold zI
          rw [if_neg (vp_in_nI (show k < 10 by omega) (by decide)), nI_clamp (by omega), (hm.2.2.1 k (by omega)).2.2.1]
          rw [show fH1 T u k = T 5 k from if_pos q] at this
          exact this
        · rw [if_neg q]
          rw [show fH1 T u k = 0 from if_neg q] at this
          exact this
      · have n1 : (5 : Int32) = 5 := rfl
        have n2 : ¬ (5 : Int32) = 4 := by decide
        simp only [if_neg n2, if_true] at this ⊢
        by_cases q : rk T k (nI u) = -1
        · rw [if_pos q]
          rw [show fK1 T u k = 0 from if_pos q] at this
          exact this
        · rw [if_neg q, if_neg n10]
          rw [show fK1 T u k = 1 from if_neg q] at this
          exact this
theorem i_of {x : Int32} {k : Nat} (h : Int32.toInt x = k) (hk : k < 2147483648) : x = nI k := Int32.toInt_inj.mp (by rw [h, nI_toInt (by omega)])
theorem t_unit {C P : Nat} {A B : zMt} {v0 v1 : Int32} (w0 : eqE C P A B) (_hJ : jJ P B) : two (D_X7_unit C v0 v1 A) (D_X8_unit P v0 v1 B) (fun a b => a.1 = b.1) := by
  obtain ⟨r, g, U, H, G, K, w⟩ := w0
  obtain ⟨n, B1, hn, l1, l2, l3, l4, l5⟩ := t_laid w
  obtain ⟨w1, w2, w3, w4, w5, w6, w7, w8, w9⟩ := id w
  obtain ⟨⟨c1, c2, c3, c4, c5, c6, c7⟩, r1, r2, r3, r4, r5, r6, r9, ⟨s1, s2, s3, s4⟩, u3, u4, u5⟩ := w6
  have o5 : (5 : Int32).toInt = 5 := by decide
  have hT : ∀ i j, i < 13 → A (C + 91 + i) j = tP (C + 91) A i j := fun _ _ _ => rfl
  unfold D_X7_unit D_X8_unit
  rcases t_rng (v := v1) (x := 5) (y := 5) (by decide) with ⟨g1, g2, g3, g4, g5⟩ | ⟨gn, g5⟩
  · rw [if_neg g1, if_pos g2, zB_s g5, if_neg n10]
    rcases t_isU (v := v0) w with ⟨e1, e2, u, hu, hv⟩ | ⟨e1, e2⟩
    · subst hv
      rw [zB_s e1, zB_s e2, if_neg n10, if_neg n10]
      obtain ⟨z1, z2, z3⟩ := w7.2.1 u hu
      have ep : D_X8_preferred P B (nI u) = some (A (C + 93) u) := by
        unfold D_X8_preferred zI
        rw [nI_62 u (by omega), if_neg (vp_in_nI (show 62 + u < 82 by omega) (by decide)), nI_clamp (by omega), if_neg (by decide), show (68 : Int32).toNatClampNeg = 68 by decide, w1 _ (by omega), w1 68 (by omega)]
        exact congrArg some z2.symm
      have eg : D_X8_forGuests P B (nI u) = some (A (C + 94) u) := by
        unfold D_X8_forGuests zI
        rw [nI_62 u (by omega), if_neg (vp_in_nI (show 62 + u < 82 by omega) (by decide)), nI_clamp (by omega), if_neg (by decide), show (69 : Int32).toNatClampNeg = 69 by decide, w1 _ (by omega), w1 69 (by omega)]
        exact congrArg some z3.symm
      have hc : v1 = 0 ∨ v1 = 1 ∨ v1 = 2 ∨ v1 = 3 ∨ v1 = 4 ∨ v1 = 5 := by
        have : v1.toInt = 0 ∨ v1.toInt = 1 ∨ v1.toInt = 2 ∨ v1.toInt = 3 ∨ v1.toInt = 4 ∨ v1.toInt = 5 := by omega
        rcases this with q | q | q | q | q | q
        · exact Or.inl (i_of (k := 0) q (by omega))
        · exact Or.inr (Or.inl (i_of (k := 1) q (by omega)))
        · exact Or.inr (Or.inr (Or.inl (i_of (k := 2) q (by omega))))
        · exact Or.inr (Or.inr (Or.inr (Or.inl (i_of (k := 3) q (by omega)))))
        · exact Or.inr (Or.inr (Or.inr (Or.inr (Or.inl (i_of (k := 4) q (by omega))))))
        · exact Or.inr (Or.inr (Or.inr (Or.inr (Or.inr (i_of (k := 5) q (by omega))))))
      have cnt : ∀ x : Int32, (x = 3 ∨ x = 4 ∨ x = 5) → ∀ y : Int32, y = zsum (if x = 5 then fK1 (tP (C + 91) A) u else if x = 4 then fH1 (tP (C + 91) A) u else fA1 (tP (C + 91) A) u) n → two (zB (D_X7_answer C y A) fun e => some (e.1, e.2)) (zB (D_X8_laysApplicants P B) fun e_77 => D_X8_unit_85 P zFu (nI u) x (0 : Int32) (0 : Int32) e_77) (fun a b => a.1 = b.1) := fun x hx y hy => by
        have hn10 := l2.1
        have em := mm_unit85 (u := u) l2 l4 hx zFu 0 (by omega) (by unfold zFu; omega)
        rw [show nI 0 = (0 : Int32) by decide] at em
        have e0 : ∀ f : Nat → Int32, zsum f 0 = (0 : Int32) := fun _ => rfl
        rw [e0] at em
        refine two.r l1 ?_
        rw [em]
        exact two.l (e := (y, zu A C 0 (0 : Int32))) rfl (two.mk hy)
      rcases hc with q | q | q | q | q | q <;> subst q
      · rw [if_pos (by decide), if_neg (by decide), if_pos rfl, zrd_nI (show u < 5 by omega) (by decide), nI_62 u (by omega)]
        refine two.ir (vp_in_nI (show 62 + u < 82 by omega) (by decide)) ?_
        rw [nI_clamp (by omega)]
        exact t_ans ((r1 u (by omega)).trans (w1 _ (by omega)).symm)
      · rw [if_neg (by decide), if_pos (by decide), if_neg (by decide), if_neg (by decide), if_pos rfl, zrd_nI (show u < 5 by omega) (by decide)]
        exact two.r ep (t_ans rfl)
      · rw [if_neg (by decide), if_neg (by decide), if_pos (by decide), if_neg (by decide), if_neg (by decide), if_neg (by decide), zrd_nI (show u < 5 by omega) (by decide)]
        exact two.r eg (t_ans rfl)
      · rw [if_neg (by decide), if_neg (by decide), if_neg (by decide), if_pos (by decide), if_pos (by decide)]
        exact two.l (cc_fA l2 hT hu) (cnt 3 (Or.inl rfl) _ (by rw [if_neg (by decide), if_neg (by decide)]))
      · rw [if_neg (by decide), if_neg (by decide), if_neg (by decide), if_neg (by decide), if_pos (by decide), if_pos (by decide)]
        exact two.l (cc_fH l2 hT hu) (cnt 4 (Or.inr (Or.inl rfl)) _ (by rw [if_neg (by decide), if_pos rfl]))
      · rw [if_neg (by decide), if_neg (by decide), if_neg (by decide), if_neg (by decide), if_neg (by decide), if_pos (by decide)]
        exact two.l (cc_fK l2 hT) (cnt 5 (Or.inr (Or.inr rfl)) _ (by rw [if_pos rfl]))
    · rw [zB_s e1, zB_s e2, if_pos rfl, if_pos rfl]
      exact t_rfs
  · rw [zB_s g5, if_pos rfl]
    rcases gn with z | ⟨z, z2⟩
    · rw [if_pos z]
      exact t_rfs
    · rw [if_neg z, if_neg z2]
      exact t_rfs
theorem t_applicant {C P : Nat} {A B : zMt} {v0 v1 : Int32} (w0 : eqE C P A B) (_hJ : jJ P B) : two (D_X7_applicant C v0 v1 A) (D_X8_applicant P v0 v1 B) (fun a b => a.1 = b.1) := by
  obtain ⟨r, g, U, H, G, K, w⟩ := w0
  unfold D_X7_applicant D_X8_applicant
  rcases t_rng (v := v1) (x := 6) (y := 6) (by decide) with ⟨g1, g2, g3, g4, g5⟩ | ⟨gn, g5⟩
  · rw [if_neg g1, if_pos g2, zB_s g5, if_neg n10]
    obtain ⟨n, B1, hn, l1, l2, l3, l4, l5, hA⟩ := t_isA (v := v0) w
    have hn10 := l2.1
    rcases hA with ⟨e1, e2, a, ha, hv⟩ | ⟨e1, e2⟩
    · subst hv
      obtain ⟨m1, m2, m3, m4, m5, m6, -⟩ := l4.2.2.1 a ha
      rw [zB_s e1, zB_s e2, if_neg n10, if_neg n10]
      refine two.ite Iff.rfl (fun _ => two.ir (vp_in_nI (by omega) (by decide)) ?_) (fun _ => ?_)
      · rw [zrd_nI (show a < 10 by omega) (by decide), nI_clamp (by omega)]
        exact t_ans m3.symm
      refine two.ite Iff.rfl (fun _ => two.ir (vp_in_nI (by omega) (by decide)) ?_) (fun _ => ?_)
      · rw [zrd_nI (show a < 10 by omega) (by decide), nI_clamp (by omega)]
        exact t_ans m4.symm
      refine two.ite Iff.rfl (fun _ => two.ir (vp_in_nI (by omega) (by decide)) ?_) (fun _ => ?_)
      · rw [zrd_nI (show a < 10 by omega) (by decide), nI_clamp (by omega)]
        exact t_ans m5.symm
      refine two.ite Iff.rfl (fun _ => two.ir (vp_in_nI (by omega) (by decide)) ?_) (fun _ => ?_)
      · rw [zrd_nI (show a < 10 by omega) (by decide), nI_clamp (by omega)]
        exact t_ans m6.symm
      refine two.ite Iff.rfl (fun _ => ?_) (fun _ => ?_)
      · rw [zrd_nI (show a < 10 by omega) (by decide)]
        exact two.r (mm_manyC l2 l4 ha) (t_ans rfl)
      refine two.ite Iff.rfl (fun _ => two.ir (vp_in_nI (by omega) (by decide)) ?_) (fun _ => two.ir (vp_in_nI (by omega) (by decide)) ?_)
      · rw [zrd_nI (show a < 10 by omega) (by decide), nI_clamp (by omega)]
        exact t_ans m1.symm
      · rw [zrd_nI (show a < 10 by omega) (by decide), nI_clamp (by omega)]
        exact t_ans m2.symm
    · rw [zB_s e1, zB_s e2, if_pos rfl, if_pos rfl]
      exact t_rfs
  · rw [zB_s g5, if_pos rfl]
    rcases gn with z | ⟨z, z2⟩
    · rw [if_pos z]
      exact t_rfs
    · rw [if_neg z, if_neg z2]
      exact t_rfs
theorem t_choice {C P : Nat} {A B : zMt} {v0 v1 : Int32} (w0 : eqE C P A B) (_hJ : jJ P B) : two (D_X7_choice C v0 v1 A) (D_X8_choice P v0 v1 B) (fun a b => a.1 = b.1) := by
  obtain ⟨r, g, U, H, G, K, w⟩ := w0
  unfold D_X7_choice D_X8_choice
  refine two.ite Iff.rfl (fun hge => ?_) (fun _ => t_rfs)
  have hge2 := Int32.le_iff_toInt_le.mp hge
  rw [show (0 : Int32).toInt = 0 by decide] at hge2
  obtain ⟨n, B1, hn, l1, l2, l3, l4, l5, hA⟩ := t_isA (v := v0) w
  have hn10 := l2.1
  rcases hA with ⟨e1, e2, a, ha, hv⟩ | ⟨e1, e2⟩
  · subst hv
    obtain ⟨c, c1, c2, c3, c4⟩ := (l2.2.2.2.2.1 a ha).2.2.2
    have c2' : A (C + 102) a = nI c := c2
    have hk : v1 = nI v1.toInt.toNat := z_toN hge2
    have hlt := Int32.toInt_lt v1
    have hkk : v1.toInt.toNat < 2147483648 := by omega
    generalize v1.toInt.toNat = k at hk hkk
    subst hk
    rw [zB_s e1, zB_s e2, if_neg n10, if_neg n10, zrd_nI (show a < 10 by omega) (by decide), c2', zB_s (mm_manyC l2 l4 ha), c2]
    by_cases q : k < c
    · rw [if_pos (by exact (nI_ltI (by omega) (by omega)).mpr q), if_neg (by intro z; exact absurd ((nI_leI (by omega) (by omega)).mp z) (by omega))]
      exact two.l (cc_wish (T := tP (C + 91) A) (a := a) (k := k) (by omega) (by omega) (fun _ _ _ => rfl)) (two.r (mm_choice (k := k) hn10 l4 ha (by omega)) (t_ans rfl))
    · rw [if_neg (by intro z; exact q ((nI_ltI (by omega) (by omega)).mp z)), if_pos (by exact (nI_leI (by omega) (by omega)).mpr (by omega))]
      exact t_rfs
  · rw [zB_s e1, zB_s e2, if_pos rfl, if_pos rfl]
    exact t_rfs
