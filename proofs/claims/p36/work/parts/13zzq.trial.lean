/-! calls on a trial list: the class's register C + 158, its pool C + 166, its odds C + 187; the reference's row changed for a while -/
theorem t_rfs3 {C P : Nat} {A B : zMt} {NA NB : zNt} {v v' : Int32} : two (zB (D_X7_refuse C v A) fun e => some (e.1, e.2, NA)) (zB (D_X8_refuse P v' B) fun e => some (e.1, e.2, NB)) (fun a b => a.1 = b.1) :=
  two.l (e := ((-1 : Int32), zu A C 0 v)) rfl (two.r (e := ((-1 : Int32), zu (zu B P 6 (0 : Int32)) P 12 v')) rfl (two.mk rfl))
theorem t_ans3 {C P : Nat} {A B : zMt} {NA NB : zNt} {x y : Int32} (e : x = y) : two (zB (D_X7_answer C x A) fun e => some (e.1, e.2, NA)) (zB (D_X8_gives P y B) fun e => some (e.1, e.2, NB)) (fun a b => a.1 = b.1) :=
  two.l (e := (x, zu A C 0 (0 : Int32))) rfl (two.r (e := (y, zu (zu B P 6 (0 : Int32)) P 12 (0 : Int32))) rfl (two.mk e))
theorem t_rfs4 {C P : Nat} {A B : zMt} {NA NB : zNt} {v v' : Int32} : two (zB (D_X7_refuse C v A) fun e => some ((Int32.toInt64 e.1), e.2, NA)) (zB (D_X8_refuse P v' B) fun e => some ((Int32.toInt64 e.1), e.2, NB)) (fun a b => a.1 = b.1) :=
  two.l (e := ((-1 : Int32), zu A C 0 v)) rfl (two.r (e := ((-1 : Int32), zu (zu B P 6 (0 : Int32)) P 12 v')) rfl (two.mk rfl))
theorem t_ans4 {C P : Nat} {A B : zMt} {NA NB : zNt} {x y : Int64} (e : x = y) : two (zB (D_X7_answerParts C x A) fun e => some (e.1, e.2, NA)) (zB (D_X8_givesLong P y B) fun e => some (e.1, e.2, NB)) (fun a b => a.1 = b.1) :=
  two.l (e := (x, zu A C 0 (0 : Int32))) rfl (two.r (e := (y, zu (zu B P 6 (0 : Int32)) P 12 (0 : Int32))) rfl (two.mk e))
theorem puts_some {P : Nat} : ∀ (u k : Nat) (M : zMt), k ≤ 82 → 82 - k < u → ∃ r, D_X8_putsAside_2 P u (nI k) M = some r ∧ (∀ i j, ¬ i = P + 3 → r i j = M i j) := by
  intro u
  induction u with
  | zero => intro k M _ h; omega
  | succ u ih =>
    intro k M hk hu
    rw [D_X8_putsAside_2]
    by_cases hc : 82 ≤ k
    · rw [if_pos (by exact (leL (x := 82) (a := 82) (by decide) (by decide) (by omega)).mpr hc)]
      exact ⟨M, rfl, fun _ _ _ => rfl⟩
    · rw [if_neg (by intro z; exact hc ((leL (x := 82) (a := 82) (by decide) (by decide) (by omega)).mp z))]
      unfold zI
      rw [if_neg (vp_in_nI (show k < 82 by omega) (by decide)), if_neg (vp_in_nI (show k < 82 by omega) (by decide)), zLt_eq, nI_add1]
      obtain ⟨r, h1, h2⟩ := ih (k + 1) _ (by omega) (by omega)
      exact ⟨r, h1, fun i j h => (h2 i j h).trans (zu_ne (by omega))⟩
theorem puts_all {P : Nat} {M : zMt} : ∃ r, D_X8_putsAside P M = some r ∧ (∀ i j, ¬ i = P + 3 → r i j = M i j) := by
  obtain ⟨r, h, k⟩ := puts_some (P := P) zFu 0 M (by omega) (by unfold zFu; omega)
  rw [show nI 0 = (0 : Int32) by decide] at h
  exact ⟨r, h, k⟩
theorem fr_cg2 {r r' : Nat → Int32} : ∀ n, (∀ x, x < n → r' (10 + x) = r (10 + x)) → fr r' n = fr r n
  | 0, _ => rfl
  | n + 1, h => by
    show fr r' n + (if r' (10 + n) = -1 then 1 else 0) = fr r n + (if r (10 + n) = -1 then 1 else 0)
    rw [fr_cg2 n (fun x hx => h x (by omega)), h n (by omega)]
theorem t_laid3 {Q P U H G : Nat} {A B : zMt} {r g : Nat → Int32} (c1 : U ≤ 5) (c2 : H ≤ 10) (c3 : G ≤ 4) (w1 : ∀ j, j < 82 → B (P + 1) j = r j) (w2 : ∀ h, h < 10 → B (P + 5) h = g h) (w3 : B P 7 = nI U) (w4 : B P 8 = nI H) (w5 : jRow r U H) (h70 : r 70 = nI G) (hg : ∀ h, h < H → g h = 0 ∨ g h = 1) (w7 : cU Q A r U) (w8 : cL Q A r g H G) : ∃ n B1, n = fr r H + G ∧ D_X8_laysApplicants P B = some B1 ∧ gP (tP Q A) n U ∧ gH (tP Q A) n H ∧ mP P B1 (tP Q A) n U ∧ (∀ i j, ¬ (i = P ∧ j = 33) → ¬ (P + 11 ≤ i ∧ i ≤ P + 17) → B1 i j = B i j) ∧ (∀ a, a < n → ∃ base, isBase r H a base ∧ B1 (P + 13) a = nI base) := by
  obtain ⟨f1, f2, f3, f4, f5⟩ := row_facts w5 h70 c3 c2
  obtain ⟨B1, e1, e2, e3⟩ := mm_lays (P := P) (B := B) (r := r) (g := g) c2 c3 (by omega) hg f5 w4 w1 (fun h hh => w2 h (by omega)) h70
  refine ⟨_, B1, rfl, e1, t_view c2 c3 c1 (by omega) w5 f3 w7 w8, t_viewH (U := U) c2 c3 (by omega) f4 w8, t_view8 c2 c3 w7 w8 c1 e2 (fun j hj => (e3 _ _ (by omega) (by omega)).trans (w1 j hj)) ((e3 _ _ (by omega) (by omega)).trans w3), e3, fun a ha => ?_⟩
  obtain ⟨base, b1, b2, b3⟩ := (e2.2 a ha).2.2.1
  exact ⟨base, b1, b3⟩
theorem isBase_u {r : Nat → Int32} {H a b c : Nat} (hb : isBase r H a b) (hc : isBase r H a c) : b = c := by
  rcases hb with ⟨h, y1, y2, y3, y4⟩ | ⟨y1, y2⟩
  · rcases hc with ⟨h', z1, z2, z3, z4⟩ | ⟨z1, z2⟩
    · have := fr_inj y2 z2 (y3.trans z3.symm)
      omega
    · have := fr_lt y1 y2
      omega
  · rcases hc with ⟨h', z1, z2, z3, z4⟩ | ⟨z1, z2⟩
    · have := fr_lt z1 z2
      omega
    · omega
theorem isBase_cg {r r' : Nat → Int32} {H a b : Nat} (h : ∀ x, x < H → r' (10 + x) = r (10 + x)) (hb : isBase r' H a b) : isBase r H a b := by
  have e := fr_cg2 H h
  rcases hb with ⟨x, y1, y2, y3, y4⟩ | ⟨y1, y2⟩
  · exact Or.inl ⟨x, y1, (h x y1).symm.trans y2, (fr_cg2 x (fun z hz => h z (by omega))).symm.trans y3, y4⟩
  · exact Or.inr ⟨by omega, by rw [← e]; exact y2⟩
/-- the list of a trial, counted by all orders on both sides -/
theorem t_tri {C P U H G n : Nat} {A B : zMt} {NA NB : zNt} {r g : Nat → Int32} (w6 : gR (C + 158) A r g U H G) (w1 : ∀ j, j < 82 → B (P + 1) j = r j) (w2 : ∀ h, h < 10 → B (P + 5) h = g h) (w3 : B P 7 = nI U) (w4 : B P 8 = nI H) (w5 : jRow r U H) (hn : n = fr r H + G) (h7 : n ≤ 7) : ∃ A1 A2 N2 T B2 NB2, D_X2_gather (C + 166) (C + 158) A = some A1 ∧ D_X0_reckon (C + 187) (C + 166) A1 NA = some (A2, N2) ∧ D_X8_laysAll P B NB = some (B2, NB2) ∧ gP T n U ∧ gH T n H ∧ (∀ i j, i < 13 → A2 (C + 166 + i) j = T i j) ∧ cL (C + 166) A2 r g H G ∧ cI (C + 187) A2 N2 T U n (lvA T n) ∧ rI P B2 NB2 T U n (lvA T n) ∧ mP P B2 T n U ∧ (∀ i j, ¬ (C + 166 ≤ i ∧ i < C + 200) → A2 i j = A i j) ∧ (∀ i j, ¬ (i = P ∧ (j = 33 ∨ (54 ≤ j ∧ j ≤ 57))) → ¬ (P + 11 ≤ i ∧ i ≤ P + 22) → ¬ i = P + 29 → B2 i j = B i j) ∧ (∀ i j, i < 13 → A1 (C + 166 + i) j = T i j) ∧ (∀ i j, ¬ (i = P ∧ j = 59) → ¬ (P + 24 ≤ i ∧ i ≤ P + 28) → NB2 i j = NB i j) ∧ (∀ a, a < n → ∃ base, isBase r H a base ∧ B2 (P + 13) a = nI base) := by
  have c1 := w6.1.1
  have c2 := w6.1.2.1
  have c3 := w6.1.2.2.1
  have h70 : r 70 = nI G := w6.1.2.2.2.2.2.2
  obtain ⟨f1, f2, f3, f4, f5⟩ := row_facts w5 h70 c3 c2
  obtain ⟨A1, ea, cu, cl, k1⟩ := cc_gather (Q := C + 166) (R := C + 158) w6 (by omega) (by omega) f2 f5
  have hg : ∀ h, h < H → g h = 0 ∨ g h = 1 := fun h hh => (w6.2.2.2.1 h hh).2
  obtain ⟨n', B1, hn', l1, l2, l3, l4, l5, l6⟩ := t_laid3 c1 c2 c3 w1 w2 w3 w4 w5 h70 hg cu cl
  have : n' = n := hn'.trans hn.symm
  subst this
  obtain ⟨A2, N2, e2, i2, k2, -⟩ := cc_reckon (Q := C + 187) (Ap := C + 166) (A := A1) (N := NA) (T := tP (C + 166) A1) l2 h7 (Or.inr (by omega)) (fun _ _ _ => rfl)
  obtain ⟨B2, NB2, g1, g2, g3, g4, g5⟩ := mm_all (N := NB) l2 h7 l4
  have eall : D_X8_laysAll P B NB = some (B2, NB2) := by
    unfold D_X8_laysAll
    rw [zB_s l1, zB_s g1]
  exact ⟨A1, A2, N2, tP (C + 166) A1, B2, NB2, ea, e2, eall, l2, l3, fun i j hi => k2 _ _ (by omega) (by omega), cl.k (fun i j _ _ => k2 _ _ (by omega) (by omega)), i2, g2, g3, fun i j h => (k2 i j (by omega) (by omega)).trans (k1 i j (by omega)), fun i j h1 h2 h3 => (g4 i j (by omega) h3 (by omega)).trans (l5 i j (by omega) (by omega)), fun _ _ _ => rfl, g5, fun a ha => by
    obtain ⟨base, b1, b2⟩ := l6 a ha
    exact ⟨base, b1, (g4 _ _ (by omega) (by omega) (by omega)).trans b2⟩⟩
/-- the row as the trial has it: one number another -/
theorem nd_81 {C P U H G n h a : Nat} {r g : Nat → Int32} {v1 : Int32} (hn : n = fr r H + G) (h7 : n ≤ 7) (hh : h < H) (hH : H ≤ 10) (ha : a < n) (w5 : jRow r U H) : ∀ (u k v : Nat) (r' : Nat → Int32) (A B : zMt) (NA NB : zNt), k ≤ 21 → 21 - k < u → 22 - k < v → (∀ j, j < 82 → ¬ j = h → r' j = r j) → gR (C + 158) A r' g U H G → (∀ j, j < 82 → B (P + 1) j = r' j) → (∀ x, x < 10 → B (P + 5) x = g x) → B P 7 = nI U → B P 8 = nI H → two (D_X7_need_97 C u (nI h) v1 (nI a) (nI k) A NA) (D_X8_need_81 P v (nI h) v1 (nI a) (-1) (nI k) B NB) (fun a b => a.1 = b.1) := by
  intro u
  induction u with
  | zero => intro k v r' A B NA NB _ z; omega
  | succ u ih =>
    intro k v r' A B NA NB hk hu hv hr w6 w1 w2 w3 w4
    obtain ⟨v, rfl⟩ : ∃ y, v = y + 1 := ⟨v - 1, by omega⟩
    rw [D_X7_need_97, D_X8_need_81]
    by_cases hc : 20 < k
    · rw [if_pos (by exact (ltL (x := 20) (a := 20) (by decide) (by decide) (by omega)).mpr hc), if_pos (by exact (ltL (x := 20) (a := 20) (by decide) (by decide) (by omega)).mpr hc)]
      obtain ⟨Bz, hz⟩ := takes_all (P := P) (M := B)
      unfold D_X8_need_137
      refine two.r hz ?_
      rw [if_pos rfl]
      unfold D_X8_need_161
      exact t_rfs3
    · rw [if_neg (by intro z; exact hc ((ltL (x := 20) (a := 20) (by decide) (by decide) (by omega)).mp z)), if_neg (by intro z; exact hc ((ltL (x := 20) (a := 20) (by decide) (by decide) (by omega)).mp z)), if_pos rfl, nI_0p h (by omega)]
      refine two.ir (vp_in_nI (show h < 82 by omega) (by decide)) ?_
      rw [nI_clamp (by omega), zLt_eq, zLt_eq, zwr_nI (show h < 10 by omega) (by decide)]
      have q1 : ∀ j, ¬ j = h → (fun j => if j = h then nI k else r' j) j = r' j := fun j hj => if_neg hj
      have q2 : (fun j => if j = h then nI k else r' j) h = nI k := if_pos rfl
      generalize (fun j => if j = h then nI k else r' j) = r2 at q1 q2
      have g2 : gR (C + 158) (zu A (C + 158 + 2) h (nI k)) r2 g U H G := w6.put (i := 2) (k := h) (x := h) (Or.inl ⟨rfl, by omega, rfl⟩) q2 (fun j _ hj => q1 j hj)
      have o20 : (nI k).toInt = k := nI_toInt (by omega)
      have j2 : jRow r2 U H := w5.pts (by omega) (fun x hx => by
        by_cases z : x = h
        · subst z
          rw [q2, o20]
          omega
        · rw [q1 x z, hr x (by omega) z]
          exact w5.1 x hx) (fun j h1 h2 => (q1 j (by omega)).trans (hr j h2 (by omega)))
      have f2 : fr r2 H = fr r H := fr_cg2 H (fun x hx => (q1 _ (by omega)).trans (hr _ (by omega) (by omega)))
      obtain ⟨A1, A2, N2, T, B2, NB2, e1, e2, e3, l1, l2, l3, l4, l5, l6, l7, l8, l9, -, -, -⟩ := t_tri (n := n) (NA := NA) (NB := NB) (B := zu B (P + 1) h (nI k)) g2 (fun j hj => by
        by_cases z : j = h
        · subst z
          rw [zu_eq, q2]
        · rw [zu_ne (by omega), q1 j z]
          exact w1 j hj) (fun x hx => (zu_ne (by omega)).trans (w2 x hx)) ((zu_ne (by omega)).trans w3) ((zu_ne (by omega)).trans w4) j2 (by rw [f2]; exact hn) h7
      refine two.l e1 (two.l e2 (two.r e3 (two.l (cc_any h7 ha l5) (two.r (mm_chance l1 h7 ha l7 l6) ?_))))
      have w6' : gR (C + 158) A2 r2 g U H G := g2.m (fun i j _ _ => l8 i j (by omega)) (fun _ _ => rfl) (fun _ _ => rfl)
      refine two.ite Iff.rfl (fun _ => ?_) (fun _ => ?_)
      · unfold D_X8_need_129
        rw [nI_add1]
        exact ih (k + 1) v r2 A2 B2 N2 NB2 (by omega) (by omega) (by omega) (fun j hj hne => (q1 j hne).trans (hr j hj hne)) w6' (fun j hj => by
          rw [l9 _ _ (by omega) (by omega) (by omega)]
          by_cases z : j = h
          · subst z
            rw [zu_eq, q2]
          · rw [zu_ne (by omega), q1 j z]
            exact w1 j hj) (fun x hx => (l9 _ _ (by omega) (by omega) (by omega)).trans ((zu_ne (by omega)).trans (w2 x hx))) ((l9 _ _ (by omega) (by omega) (by omega)).trans ((zu_ne (by omega)).trans w3)) ((l9 _ _ (by omega) (by omega) (by omega)).trans ((zu_ne (by omega)).trans w4))
      · obtain ⟨v, rfl⟩ : ∃ y, v = y + 1 := ⟨v - 1, by omega⟩
        have e4 : D_X8_need_129 P (D_X8_need_81 P (v + 1)) (nI h) v1 (nI a) (nI k) (nI k) B2 NB2 = D_X8_need_137 P (nI k) B2 NB2 := by
          unfold D_X8_need_129
          rw [D_X8_need_81, if_neg (nI_ne (k := k) (by omega))]
          split <;> rfl
        rw [e4]
        obtain ⟨Bz, hz⟩ := takes_all (P := P) (M := B2)
        unfold D_X8_need_137
        refine two.r hz ?_
        rw [if_neg (nI_ne (k := k) (by omega))]
        unfold D_X8_need_161
        exact t_ans3 rfl
theorem t_need {C P : Nat} {A B : zMt} {NA NB : zNt} {v0 v1 : Int32} (w0 : eqE C P A B) (_hJ : jJ P B) : two (D_X7_need C v0 v1 A NA) (D_X8_need P v0 v1 B NB) (fun a b => a.1 = b.1) := by
  obtain ⟨r, g, U, H, G, K, w⟩ := w0
  obtain ⟨w1, w2, w3, w4, w5, w6, w7, w8, w9⟩ := id w
  have c2 := w6.1.2.1
  unfold D_X7_need D_X8_need
  rcases t_rng (v := v1) (x := 1000) (y := 1000) (by decide) with ⟨g1, g2, g3, g4, g5⟩ | ⟨gn, g5⟩
  · rw [if_neg g1, if_pos g2, zB_s g5, if_neg n10]
    rcases t_isH (v := v0) w with ⟨e1, e2, h, hh, hv⟩ | ⟨e1, e2⟩
    · subst hv
      have e21 : A (C + 21) h = B (P + 1) (10 + h) := (w6.2.2.2.2.1 h (by omega)).1.trans (w1 (10 + h) (by omega)).symm
      rw [zB_s e1, zB_s e2, if_neg n10, if_neg n10, nI_10h h (by omega), zrd_nI (show h < 10 by omega) (by decide)]
      refine two.ir (vp_in_nI (by omega) (by decide)) ?_
      rw [nI_clamp (by omega)]
      by_cases q : B (P + 1) (10 + h) = -1
      · rw [if_pos (e21.trans q), if_pos q]
        obtain ⟨n, B1, hn, l1, l2, l3, l4, l5⟩ := t_laid w
        obtain ⟨m1, m2⟩ := mm_many7 l2.1 l1 l4.1
        have e91 : A (C + 91) 1 = nI n := l2.2.2.1
        rw [e91]
        by_cases h7 : n ≤ 7
        · rw [if_pos ((nI_7i l2.1).mpr h7)]
          refine two.r (m1 h7) ?_
          rw [if_pos rfl]
          have w' : eqS C P A B1 r g U H G K := w.k (fun _ _ _ _ => rfl) (fun i j h => l5 i j (by omega) (by omega))
          obtain ⟨n', B2, hn', l1', l2', l3', l4', l5'⟩ := t_laid w'
          have : n' = n := hn'.trans hn.symm
          subst this
          refine two.r (mm_apOf l2'.1 l1' l4' l3' c2 hh) ?_
          obtain ⟨B3, e3, k3⟩ := puts_all (P := P) (M := B2)
          refine two.r e3 ?_
          obtain ⟨A1, ea, g158, k6⟩ := w6.take (R := C + 158) (by omega)
          refine two.l ea ?_
          have e95 : A (C + 95) h = nI (aOf (tP (C + 91) A) h) := (l3' h hh).2.1
          rw [zrd_nI (show h < 10 by omega) (by decide), e95]
          have kB : ∀ i j, ¬ (i = P ∧ j = 33) → ¬ (P + 11 ≤ i ∧ i ≤ P + 17) → ¬ i = P + 3 → B3 i j = B i j := fun i j z1 z2 z3 => (k3 i j z3).trans ((l5' i j z1 z2).trans (l5 i j z1 z2))
          have := nd_81 (P := P) (v1 := v1) (NA := NA) (NB := NB) hn' h7 hh c2 (l3' h hh).1 w5 zFu 0 zFu r A1 B3 (by omega) (by unfold zFu; omega) (by unfold zFu; omega) (fun _ _ _ => rfl) g158 (fun j hj => (kB _ _ (by omega) (by omega) (by omega)).trans (w1 j hj)) (fun x hx => (kB _ _ (by omega) (by omega) (by omega)).trans (w2 x hx)) ((kB _ _ (by omega) (by omega) (by omega)).trans w3) ((kB _ _ (by omega) (by omega) (by omega)).trans w4)
          rw [show nI 0 = (0 : Int32) by decide] at this
          exact this
        · rw [if_neg (fun z => h7 ((nI_7i l2.1).mp z))]
          refine two.r (m2 h7) ?_
          rw [if_neg n10]
          exact t_rfs3
      · rw [if_neg (fun z => q (e21.symm.trans z)), if_neg q]
        exact t_rfs3
    · rw [zB_s e1, zB_s e2, if_pos rfl, if_pos rfl]
      exact t_rfs3
  · rw [zB_s g5, if_pos rfl]
    unfold D_X7_need_11
    rcases gn with z | ⟨z1, z2⟩
    · rw [if_pos z]
      exact t_rfs3
    · rw [if_neg z1, if_neg z2]
      exact t_rfs3
