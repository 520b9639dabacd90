/-! envies, lucky, spoils, both sides -/
theorem rkF_no {T : zMt} {a : Nat} {x : Int32} : ∀ d k, (∀ i, k ≤ i → i < k + d → ¬ T 12 (3 * a + i) = x) → rkF T a x d k = -1
  | 0, _, _ => rfl
  | d + 1, k, h => by
    have e : rkF T a x (d + 1) k = if T 12 (3 * a + k) = x then nI k else rkF T a x d (k + 1) := rfl
    rw [e, if_neg (h k (by omega) (by omega))]
    exact rkF_no d (k + 1) (fun i h1 h2 => h i (by omega) (by omega))
theorem rkF_yes {T : zMt} {a : Nat} {x : Int32} : ∀ d k i, k ≤ i → i < k + d → k + d ≤ 3 → T 12 (3 * a + i) = x → ¬ rkF T a x d k = -1
  | 0, k, i, h1, h2, _, _ => by omega
  | d + 1, k, i, h1, h2, h3, h4 => by
    have e : rkF T a x (d + 1) k = if T 12 (3 * a + k) = x then nI k else rkF T a x d (k + 1) := rfl
    rw [e]
    by_cases q : T 12 (3 * a + k) = x
    · rw [if_pos q]
      exact nI_ne (by omega)
    · rw [if_neg q]
      have : ¬ i = k := fun z => q (z ▸ h4)
      exact rkF_yes d (k + 1) i (by omega) (by omega) (by omega) h4
theorem rk_m1 {T : zMt} {n U a : Nat} (hg : gP T n U) (ha : a < n) : rk T a (-1) = -1 := by
  have g2 := hg.2.1
  obtain ⟨c, c1, c2, c3, c4⟩ := (hg.2.2.2.2.1 a ha).2.2.2
  unfold rk
  rw [c2, nI_clamp (by omega)]
  refine rkF_no c 0 (fun i _ hi z => ?_)
  obtain ⟨u, hu, e⟩ := c3 i (by omega)
  exact absurd (e.symm.trans z) (nI_ne (by omega))
theorem rk_ok {T s : zMt} {n U a : Nat} (hg : gP T n U) (ha : a < n) (ok : okS T s n U) (h : ¬ s 0 a = -1) : ¬ rk T a (s 0 a) = -1 := by
  obtain ⟨c, c1, c2, c3, c4⟩ := (hg.2.2.2.2.1 a ha).2.2.2
  rcases ok a ha with z | ⟨k, w, k1, k2, k3, k4⟩
  · exact absurd z h
  · unfold rk
    rw [k4]
    refine rkF_yes _ 0 k (by omega) (by omega) ?_ k3
    rw [c2, nI_clamp (by omega)]
    omega
theorem rk_lt {T : zMt} {a c : Nat} {x : Int32} (hc3 : c ≤ 3) (hc : T 11 a = nI c) : rk T a x = -1 ∨ ∃ i, i < c ∧ rk T a x = nI i := by
  unfold rk
  rw [hc, nI_clamp (by omega)]
  rcases rkF_ge (T := T) (a := a) (x := x) c 0 with z | ⟨i, h1, h2, h3⟩
  · exact Or.inl z
  · exact Or.inr ⟨i, by omega, h3⟩
/-- the rank of what is held: the class's word, the reference's -/
def hC (T s : zMt) (a : Nat) : Int32 := if rk T a (s 0 a) = -1 then 3 else rk T a (s 0 a)
def hM (T s : zMt) (a : Nat) : Int32 := if s 0 a = -1 then T 11 a else rk T a (s 0 a)
theorem t_held {T s : zMt} {n U a c : Nat} (hg : gP T n U) (ha : a < n) (ok : okS T s n U) (hc3 : c ≤ 3) (hc : T 11 a = nI c) : (hC T s a = nI 3 ∧ hM T s a = nI c) ∨ (∃ i, i < c ∧ hC T s a = nI i ∧ hM T s a = nI i) := by
  unfold hC hM
  by_cases q : s 0 a = -1
  · rw [if_pos q, q, if_pos (rk_m1 hg ha)]
    exact Or.inl ⟨by decide, hc⟩
  · rw [if_neg q, if_neg (rk_ok hg ha ok q)]
    rcases rk_lt (T := T) (a := a) (x := s 0 a) hc3 hc with z | ⟨i, h1, h2⟩
    · exact absurd z (rk_ok hg ha ok q)
    · exact Or.inr ⟨i, h1, h2, h2⟩
theorem cc_held {Q S n U a : Nat} {A T s : zMt} (hg : gP T n U) (hT : ∀ i j, i < 13 → A (Q + i) j = T i j) (hs : rC S A s n U) (ha : a < n) : D_X5_rankHeld S Q A (nI a) = some (hC T s a) := by
  have hn := hg.1
  unfold D_X5_rankHeld hC
  rw [zrd_nI (show a < 10 by omega) (by decide), (hs.1 a ha).1, zB_s (cc_rank hg hT ha)]
  by_cases q : rk T a (s 0 a) = -1
  · rw [if_pos q, if_pos q]
    rfl
  · rw [if_neg q, if_neg q]
    rfl
theorem mm_held {P n U a : Nat} {B T s : zMt} (hg : gP T n U) (hm : mP P B T n U) (hs : rM P B s n U) (ha : a < n) : D_X8_placeNow P B (nI a) = some (hM T s a) := by
  have hn := hg.1
  unfold D_X8_placeNow hM zI
  rw [if_neg (vp_in_nI (show a < 10 by omega) (by decide)), nI_clamp (by omega), (hs.1 a ha).1]
  by_cases q : s 0 a = -1
  · rw [if_pos q, if_pos q, zB_s (mm_manyC hg hm ha)]
    rfl
  · rw [if_neg q, if_neg q, if_neg (ci (show a < 10 by omega) (by omega)), zB_s (mm_place hg hm ha)]
    rfl
theorem t_envies44 {C P n U a : Nat} {A B T s : zMt} {N : zNt} {l : Nat → Nat} (h : sdR C P T A B n U l s) (ha : a < n) : ∀ (v k : Nat) (c : Int32), k ≤ n → n - k < v → two (D_X7_envies_44 C v (nI a) c (nI k) A) (D_X8_envies_37 P v (nI a) c (nI k) B N) (fun a b => a.1 = b.1) := by
  obtain ⟨s1, s2, s3, s4, s5, s6, s7⟩ := h
  have hn10 := s1.1
  have e91 : A (C + 91) 1 = nI n := (s2 0 1 (by omega)).trans s1.2.2.1
  intro v
  induction v with
  | zero => intro k _ _ h; omega
  | succ v ih =>
    intro k c hk hv
    rw [D_X7_envies_44, D_X8_envies_37, e91, s3.1]
    by_cases hc : n ≤ k
    · have hle : nI n ≤ nI k := (nI_leI (by omega) (by omega)).mpr hc
      rw [if_pos hle, if_pos hle]
      exact t_ansN rfl
    · have hle : ¬ nI n ≤ nI k := fun z => hc ((nI_leI (by omega) (by omega)).mp z)
      have o1 : A (C + 106) k = s 0 k := (s5.1 k (by omega)).1
      have o2 : A (C + 98) k = T 7 k := s2 7 k (by omega)
      have o3 : A (C + 98) a = T 7 a := s2 7 a (by omega)
      have p1 : B (P + 19) k = s 0 k := (s6.1 k (by omega)).1
      have p2 : B (P + 16) k = T 7 k := (s3.2.2.1 k (by omega)).2.2.2.2.1
      have p3 : B (P + 16) a = T 7 a := (s3.2.2.1 a ha).2.2.2.2.1
      have st : ∀ c : Int32, two (D_X7_envies_147 C (D_X7_envies_44 C v) (nI a) c (nI k) A) (D_X8_envies_117 P (D_X8_envies_37 P v) (nI a) c (nI k) B N) (fun a b => a.1 = b.1) := fun c => by
        unfold D_X7_envies_147 D_X8_envies_117
        rw [nI_add1]
        exact ih (k + 1) c (by omega) (by omega)
      have s0' : two (D_X7_envies_147 C (D_X7_envies_44 C v) (nI a) c (nI k) A) (D_X8_envies_114 P (D_X8_envies_37 P v) (nI a) (nI k) c B N) (fun a b => a.1 = b.1) := by
        unfold D_X8_envies_114 D_X8_envies_115
        rw [Int32.or_zero]
        exact st c
      rw [if_neg hle, if_neg hle, zrd_nI (show k < 10 by omega) (by decide), zrd_nI (show k < 10 by omega) (by decide), zrd_nI (show a < 10 by omega) (by decide), o1, o2, o3]
      refine two.ir (vp_in_nI (by omega) (by decide)) ?_
      rw [nI_clamp (show k < 2147483648 by omega), p1]
      refine two.ite Iff.rfl (fun _ => st c) (fun hne => ?_)
      refine two.ir (vp_in_nI (by omega) (by decide)) (two.ir (vp_in_nI (by omega) (by decide)) ?_)
      rw [nI_clamp (show a < 2147483648 by omega), p2, p3]
      refine two.ite Iff.rfl (fun _ => ?_) (fun _ => st c)
      refine two.ir (vp_in_nI (by omega) (by decide)) ?_
      refine two.l (cc_rank s1 s2 ha) (two.r (mm_place s1 s3 ha) ?_)
      refine two.ite Iff.rfl (fun _ => s0') (fun hr => ?_)
      refine two.l (cc_held s1 s2 s5 ha) (two.r (mm_held s1 s3 s6 ha) ?_)
      obtain ⟨d, d1, d2, d3, d4⟩ := (s1.2.2.2.2.1 a ha).2.2.2
      have hI : hC T s a ≤ rk T a (s 0 k) ↔ hM T s a ≤ rk T a (s 0 k) := by
        rcases rk_lt (T := T) (a := a) (x := s 0 k) d1 d2 with z | ⟨i, h1, h2⟩
        · exact absurd z hr
        · rw [h2]
          rcases t_held s1 ha s7 d1 d2 with ⟨y1, y2⟩ | ⟨j, y0, y1, y2⟩
          · rw [y1, y2]
            exact ⟨fun z => absurd ((nI_leI (by omega) (by omega)).mp z) (by omega), fun z => absurd ((nI_leI (by omega) (by omega)).mp z) (by omega)⟩
          · rw [y1, y2]
      exact two.ite hI (fun _ => s0') (fun _ => st _)
theorem t_envies {C P : Nat} {A B : zMt} {N : zNt} {v0 v1 : Int32} (w0 : eqE C P A B) (_hJ : jJ P B) : two (D_X7_envies C v0 v1 A) (D_X8_envies P v0 v1 B N) (fun a b => a.1 = b.1) := by
  obtain ⟨r, g, U, H, G, K, w⟩ := w0
  unfold D_X7_envies D_X8_envies
  rcases t_isS (v := v0) with ⟨e1, e2, hs, hs2⟩ | ⟨e1, e2⟩
  · rw [zB_s e1, zB_s e2, if_neg n10, if_neg n10]
    obtain ⟨n, B1, hn, l1, l2, l3, l4, l5, hA⟩ := t_isA (v := v1) w
    have hn10 := l2.1
    rcases hA with ⟨f1, f2, a, ha, hv⟩ | ⟨f1, f2⟩
    · subst hv
      have w' : eqS C P A B1 r g U H G K := w.k (fun _ _ _ _ => rfl) (fun i j h => l5 i j (by omega) (by omega))
      rw [zB_s f1, zB_s f2, if_neg n10, if_neg n10]
      refine two.bind (t_seed w' hs) (fun A' b hb => ?_)
      obtain ⟨m, l, hm, h3, hd, k1, k2⟩ := hb
      have : m = n := hm.trans hn.symm
      subst this
      have hn10 := hd.1.1
      have := t_envies44 (N := b.2) hd ha zFu 0 (0 : Int32) (by omega) (by unfold zFu; omega)
      rw [show nI 0 = (0 : Int32) by decide] at this
      exact this
    · rw [zB_s f1, zB_s f2, if_pos rfl, if_pos rfl]
      exact t_rfsN
  · rw [zB_s e1, zB_s e2, if_pos rfl, if_pos rfl]
    exact t_rfsN
theorem mm_hasFirst {P n U a : Nat} {B T s : zMt} (hg : gP T n U) (hm : mP P B T n U) (hs : rM P B s n U) (ha : a < n) : D_X8_hasFirst P B (nI a) = some (if s 0 a = -1 then 0 else if s 0 a = T 12 (3 * a) then 1 else 0) := by
  have hn := hg.1
  have ec := mm_choice (k := 0) hn hm ha (by omega)
  rw [show nI 0 = (0 : Int32) by decide] at ec
  unfold D_X8_hasFirst zI
  rw [if_neg (vp_in_nI (show a < 10 by omega) (by decide)), nI_clamp (by omega), (hs.1 a ha).1]
  by_cases q : s 0 a = -1
  · rw [if_pos q, if_pos q]
    rfl
  · rw [if_neg q, if_neg q, if_neg (ci (show a < 10 by omega) (by omega)), zB_s ec]
    by_cases q1 : s 0 a = T 12 (3 * a)
    · rw [if_pos (show s 0 a = T 12 (3 * a + 0) from q1), if_pos q1]
      rfl
    · rw [if_neg (show ¬ s 0 a = T 12 (3 * a + 0) from q1), if_neg q1]
      rfl
theorem t_lucky36 {C P U H G K a : Nat} {r g : Nat → Int32} {x : Int32} (h0 : 0 ≤ x.toInt) (h9 : x.toInt ≤ 999999949) (ha : a < fr r H + G) : ∀ (v k : Nat) (A B : zMt) (N : zNt), k ≤ 50 → 50 - k < v → eqS C P A B r g U H G K → two (D_X7_lucky_36 C v x (nI a) (nI k) A) (D_X8_lucky_34 P v x (nI a) (x + nI k) B N) (fun a b => a.1 = b.1) := by
  intro v
  induction v with
  | zero => intro k _ _ _ _ h; omega
  | succ v ih =>
    intro k A B N hk hv w
    have o5 : (50 : Int32).toInt = 50 := by decide
    have e1 : (x + nI k).toInt = x.toInt + k := by
      rw [z_add (by rw [nI_toInt (by omega)]; omega) (by rw [nI_toInt (by omega)]; omega), nI_toInt (by omega)]
    have e2 : (x + 50).toInt = x.toInt + 50 := by
      rw [z_add (by omega) (by omega), o5]
    rw [D_X7_lucky_36, D_X8_lucky_34]
    refine two.ite ?_ (fun _ => t_rfsN) (fun hlt => ?_)
    · rw [Int32.le_iff_toInt_le, Int32.le_iff_toInt_le, e1, e2, o5, nI_toInt (by omega)]
      omega
    · have hk5 : k < 50 := by
        have : ¬ k = 50 := fun z => hlt (by rw [z]; decide)
        omega
      refine two.bind (t_seed (seed := x + nI k) w (by omega)) (fun A' b hb => ?_)
      obtain ⟨n, l, hn, h3, ⟨s1, s2, s3, s4, s5, s6, s7⟩, k1, k2⟩ := hb
      rw [← hn] at ha
      refine two.l (cc_hasFirst s1.1 ha s2 s5) (two.r (mm_hasFirst s1 s3 s6 ha) ?_)
      refine two.ite Iff.rfl (fun _ => ?_) (fun _ => t_ansN rfl)
      rw [Int32.add_assoc, nI_add1]
      exact ih (k + 1) A' b.1 b.2 (by omega) (by omega) (w.k (fun i j _ _ => k1 i j (by omega)) (fun i j _ => k2 i j (by omega) (by omega)))
theorem t_lucky {C P : Nat} {A B : zMt} {N : zNt} {v0 v1 : Int32} (w0 : eqE C P A B) (_hJ : jJ P B) : two (D_X7_lucky C v0 v1 A) (D_X8_lucky P v0 v1 B N) (fun a b => a.1 = b.1) := by
  obtain ⟨r, g, U, H, G, K, w⟩ := w0
  have o9 : (999999949 : Int32).toInt = 999999949 := by decide
  unfold D_X7_lucky D_X8_lucky
  rcases t_rng (v := v0) (x := 999999949) (y := 999999949) (by decide) with ⟨g1, g2, g3, g4, g5⟩ | ⟨gn, g5⟩
  · have es : D_X7_isSeed v0 = some 1 := by
      unfold D_X7_isSeed
      rw [if_neg g1, if_neg (fun z => by
        have h1 := Int32.lt_iff_toInt_lt.mp z
        rw [show (999999999 : Int32).toInt = 999999999 by decide] at h1
        omega)]
      rfl
    rw [zB_s es, zB_s g5, if_neg n10, if_neg n10, if_pos g2]
    obtain ⟨n, B1, hn, l1, l2, l3, l4, l5, hA⟩ := t_isA (v := v1) w
    rcases hA with ⟨f1, f2, a, ha, hv⟩ | ⟨f1, f2⟩
    · subst hv
      have w' : eqS C P A B1 r g U H G K := w.k (fun _ _ _ _ => rfl) (fun i j h => l5 i j (by omega) (by omega))
      rw [zB_s f1, zB_s f2, if_neg n10, if_neg n10]
      have := t_lucky36 g3 (by omega) (hn ▸ ha) zFu 0 A B1 N (by omega) (by unfold zFu; omega) w'
      rw [show nI 0 = (0 : Int32) by decide, Int32.add_zero] at this
      exact this
    · rw [zB_s f1, zB_s f2, if_pos rfl, if_pos rfl]
      exact t_rfsN
  · rw [zB_s g5, if_pos rfl]
    rcases t_isS (v := v0) with ⟨e1, e2, hs, hs2⟩ | ⟨e1, e2⟩
    · rw [zB_s e1, if_neg n10]
      rcases gn with z | ⟨z, z2⟩
      · have h1 := Int32.lt_iff_toInt_lt.mp z
        rw [show (0 : Int32).toInt = 0 by decide] at h1
        omega
      · rw [if_neg z2]
        exact t_rfsN
    · rw [zB_s e1, if_pos rfl]
      exact t_rfsN
