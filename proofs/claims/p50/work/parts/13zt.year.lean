/-! the result of a seed, both; a year goes by -/
theorem t_result {Q S P n U : Nat} {A B B1 T : zMt} {N : zNt} {seed : Int32} (hg : gP T n U) (hT : ∀ i j, i < 13 → A (Q + i) j = T i j) (hd : S + 8 ≤ Q ∨ Q + 13 ≤ S) (hB : D_X8_laysApplicants P B = some B1) (hm : mP P B1 T n U) (hs : 0 ≤ seed.toInt) : two (D_X5_bySeed S Q seed A) (D_X8_laysResult P seed B N) (fun A' r => (∃ l, lnO n n (A' (S + 1)) (r.1 (P + 18)) l ∧ rC S A' (rs T 10 U n l) n U ∧ rM P r.1 (rs T 10 U n l) n U) ∧ mP P r.1 T n U ∧ (∀ i j, ¬ (S + 1 ≤ i ∧ i ≤ S + 7) → A' i j = A i j) ∧ (∀ i j, ¬ (P + 18 ≤ i ∧ i ≤ P + 22) → r.1 i j = B1 i j) ∧ (∀ i j, ¬ (i = P ∧ j = 46) → r.2 i j = N i j)) := by
  have g1 := hg.1
  have g2 := hg.2.1
  unfold D_X5_bySeed D_X8_laysResult
  refine two.bind (t_order (Q := Q) (S := S) hg (hT 0 1 (by omega)) (hT 0 2 (by omega)) (fun a _ => hT 8 a (by omega)) hd hB hm hs) (fun A1 r1 h => ?_)
  obtain ⟨⟨l, hl⟩, k1, k2, k3⟩ := h
  obtain ⟨A2, e1, e2, e3⟩ := cc_settle (Q := Q) (S := S) (A := A1) (T := T) (l := l) hg hd (fun i j hi => (k1 _ j (by omega)).trans (hT i j hi)) (fun k hk => ⟨(hl.1 k hk).1, (hl.1 k hk).2.1⟩)
  have hm1 : mP P r1.1 T n U := hm.m g2 (k2 _ _ (by omega)) (k2 _ _ (by omega)) (fun j _ _ => k2 _ _ (by omega)) (fun i j _ _ => k2 i j (by omega))
  obtain ⟨B2, d1, d2, d3⟩ := mm_results (P := P) (B := r1.1) (T := T) (wo := 10) (v1 := -1) (l := l) hg hm1 (fun a ha => ⟨fun z => absurd z (nI_ne (by omega)), fun z => by omega⟩) (fun k hk => ⟨(hl.1 k hk).1, (hl.1 k hk).2.2⟩)
  refine two.l e1 (two.r d1 (two.mk ⟨⟨l, ⟨fun k hk => ?_, hl.2⟩, e2, d2⟩, ?_, fun i j h => (e3 i j (by omega)).trans (k1 i j (by omega)), fun i j h => (d3 i j (by omega)).trans (k2 i j (by omega)), k3⟩))
  · obtain ⟨q1, q2, q3⟩ := hl.1 k hk
    exact ⟨q1, (e3 _ _ (by omega)).trans q2, (d3 _ _ (by omega)).trans q3⟩
  · exact hm1.m g2 (d3 _ _ (by omega)) (d3 _ _ (by omega)) (fun j _ _ => d3 _ _ (by omega)) (fun i j _ _ => d3 i j (by omega))
/-- what one has is one of its choices -/
def okS (T s : zMt) (n U : Nat) : Prop := ∀ a, a < n → s 0 a = -1 ∨ ∃ k w, k < (T 11 a).toNatClampNeg ∧ w < U ∧ T 12 (3 * a + k) = nI w ∧ s 0 a = nI w
theorem okS_gT {T s : zMt} {n U a k w : Nat} {rd : Int32} (h : okS T s n U) (hk : k < (T 11 a).toNatClampNeg) (hw : w < U) (e : T 12 (3 * a + k) = nI w) : okS T (gT T s a w rd) n U := fun b hb => by
  by_cases q : b = a
  · subst q
    exact Or.inr ⟨k, w, hk, hw, e, gT_0⟩
  · rw [gT_out (by omega) (by omega)]
    exact h b hb
theorem isW.pos {T : zMt} {a U u : Nat} (h : isW T a U) (hu : u < 2147483648) (e : T 12 (3 * a) = nI u) : 0 < (T 11 a).toNatClampNeg := by
  obtain ⟨c, c1, c2, c3, c4⟩ := h
  rw [c2, nI_clamp (by omega)]
  by_cases q : c = 0
  · have := c4 0 (by omega) (by omega)
    have e2 : T 12 (3 * a) = -1 := this
    rw [e] at e2
    exact absurd e2 (nI_ne hu)
  · omega
theorem okS_f1 {T s : zMt} {n U a u wo : Nat} (h : okS T s n U) (hg : gP T n U) (ha : a < n) (hu : u < U) : okS T (f1 T wo u s a) n U := by
  have g2 := hg.2.1
  unfold f1
  by_cases q : ¬ a = wo ∧ T 12 (3 * a) = nI u ∧ T 5 a ≤ s 2 u - T 1 u + T 2 u ∧ T 6 a ≤ s 3 u
  · rw [if_pos q]
    exact okS_gT h (k := 0) (((hg.2.2.2.2.1 a ha).2.2.2).pos (by omega) q.2.1) hu q.2.1
  · rw [if_neg q]; exact h
theorem okS_fA {T : zMt} {n U a wo : Nat} (hg : gP T n U) (ha : a < n) : ∀ (u : Nat) (s : zMt), u ≤ U → okS T s n U → okS T (fA T wo a u s) n U
  | 0, _, _, h => h
  | u + 1, s, hu, h => okS_f1 (okS_fA hg ha u s (by omega) h) hg ha (by omega)
theorem okS_fC {T : zMt} {n U wo : Nat} (hg : gP T n U) : ∀ (r : List Nat) (s : zMt), (∀ x, x ∈ r → x < n) → okS T s n U → okS T (fC T wo U r s) n U
  | [], _, _, h => h
  | a :: r, s, hm, h => okS_fC hg r _ (fun x hx => hm x (List.mem_cons_of_mem _ hx)) (okS_fA hg (hm a List.mem_cons_self) U s (Nat.le_refl U) h)
theorem okS_s2 {T s : zMt} {n U a : Nat} (hg : gP T n U) (ha : a < n) (h : okS T s n U) : ∀ (c k : Nat), k + c ≤ (T 11 a).toNatClampNeg → okS T (s2 T s a c k) n U
  | 0, _, _ => h
  | c + 1, k, hk => by
    show okS T (if T 5 a ≤ s 2 (wu T a k) ∧ T 6 a ≤ s 3 (wu T a k) then gT T s a (wu T a k) 2 else s2 T s a c (k + 1)) n U
    by_cases q : T 5 a ≤ s 2 (wu T a k) ∧ T 6 a ≤ s 3 (wu T a k)
    · rw [if_pos q]
      obtain ⟨x, x1, x2, x3, x4⟩ := (hg.2.2.2.2.1 a ha).2.2.2
      rw [x2, nI_clamp (by omega)] at hk
      obtain ⟨w, hw, ew⟩ := x3 k (by omega)
      have g2 := hg.2.1
      have ewu : wu T a k = w := by
        unfold wu
        rw [ew, nI_clamp (by omega)]
      rw [ewu]
      exact okS_gT h (k := k) (by rw [x2, nI_clamp (by omega)]; omega) hw ew
    · rw [if_neg q]
      exact okS_s2 hg ha h c (k + 1) (by omega)
theorem okS_fS {T : zMt} {n U wo : Nat} (hg : gP T n U) : ∀ (r : List Nat) (s : zMt), (∀ x, x ∈ r → x < n) → okS T s n U → okS T (fS T wo r s) n U
  | [], _, _, h => h
  | a :: r, s, hm, h => okS_fS hg r _ (fun x hx => hm x (List.mem_cons_of_mem _ hx)) (by
    unfold f2
    by_cases q : s 0 a = -1 ∧ ¬ a = wo
    · rw [if_pos q]
      exact okS_s2 hg (hm a List.mem_cons_self) h _ 0 (by omega)
    · rw [if_neg q]; exact h)
theorem rs_ok {T : zMt} {n U wo : Nat} {l : Nat → Nat} (hg : gP T n U) (hl : ∀ k, k < n → l k < n) : okS T (rs T wo U n l) n U := by
  have hmem := lp_mem (l := l) (n := n) n hl
  unfold rs
  exact okS_fS hg _ _ hmem (okS_fC hg _ _ (fun x hx => hmem x (bk_mem 21 x hx).1) (fun a _ => Or.inl rfl))
/-- POINTS behind a result -/
def bh (T s : zMt) (a : Nat) (had : Int32) : Int32 := if T 11 a = 0 then had else if s 0 a = -1 then (if (20 : Int32) < had + 1 then 20 else had + 1) else if s 0 a = T 12 (3 * a) then 0 else had
theorem cc_hasFirst {Q S n U a : Nat} {A T s : zMt} (hn : n ≤ 10) (ha : a < n) (hT : ∀ i j, i < 13 → A (Q + i) j = T i j) (hs : rC S A s n U) : D_X5_hasFirst S Q A (nI a) = some (if s 0 a = -1 then 0 else if s 0 a = T 12 (3 * a) then 1 else 0) := by
  unfold D_X5_hasFirst
  rw [zrd_nI (show a < 10 by omega) (by decide), (hs.1 a ha).1]
  by_cases q : s 0 a = -1
  · rw [if_pos q, if_pos q]
    rfl
  · have ew := cc_wish (Q := Q) (A := A) (T := T) (a := a) (k := 0) (by omega) (by omega) hT
    rw [show nI 0 = (0 : Int32) by decide] at ew
    rw [if_neg q, if_neg q, zB_s ew]
    by_cases q2 : s 0 a = T 12 (3 * a)
    · rw [if_pos (by exact q2), if_pos q2]
      rfl
    · rw [if_neg (by exact q2), if_neg q2]
      rfl
theorem cc_behind {Q S n U a : Nat} {A T s : zMt} {had : Int32} (hn : n ≤ 10) (ha : a < n) (hT : ∀ i j, i < 13 → A (Q + i) j = T i j) (hs : rC S A s n U) : D_X5_scoreBehind S Q A (nI a) had = some (bh T s a had) := by
  unfold D_X5_scoreBehind bh
  rw [zrd_nI (show a < 10 by omega) (by decide), zrd_nI (show a < 10 by omega) (by decide), (hs.1 a ha).1, hT 11 a (by omega)]
  by_cases q0 : T 11 a = 0
  · rw [if_pos q0, if_pos q0]
  · rw [if_neg q0, if_neg q0]
    by_cases q : s 0 a = -1
    · rw [if_pos q, if_pos q]
    · rw [if_neg q, if_neg q, zB_s (cc_hasFirst hn ha hT hs), if_neg q]
      by_cases q2 : s 0 a = T 12 (3 * a)
      · rw [if_pos q2, if_pos q2, if_neg (by decide)]
        rfl
      · rw [if_neg q2, if_neg q2, if_pos rfl]
        rfl
theorem mm_has1 {b : Int32} {h : Nat} (q : bitAt b h) : D_X8_has b (nI h) = some 1 := by
  unfold D_X8_has
  rw [if_pos (by exact q)]
  rfl
theorem mm_has0 {b : Int32} {h : Nat} (q : ¬ bitAt b h) : D_X8_has b (nI h) = some 0 := by
  unfold D_X8_has
  rw [if_neg (by exact q)]
  rfl
theorem nI_0p : ∀ h, h < 10 → (0 : Int32) + nI h = nI h := by decide
theorem i_min {x : Int32} : (if x < 20 then x else 20) = (if (20 : Int32) < x then 20 else x) := by
  by_cases q : x < 20
  · rw [if_pos q, if_neg (by
      intro z
      have h1 := Int32.lt_iff_toInt_lt.mp q
      have h2 := Int32.lt_iff_toInt_lt.mp z
      omega)]
  · rw [if_neg q]
    by_cases q2 : (20 : Int32) < x
    · rw [if_pos q2]
    · rw [if_neg q2]
      have h1 := Int32.le_iff_toInt_le.mp (Int32.not_lt.mp q)
      have h2 := Int32.le_iff_toInt_le.mp (Int32.not_lt.mp q2)
      exact Int32.toInt_inj.mp (by omega)
theorem mm_behind {P n U H h : Nat} {B T s : zMt} (hg : gP T n U) (hm : mP P B T n U) (hs : rM P B s n U) (hh : gH T n H) (hH : H ≤ 10) (hhH : h < H) (ok : okS T s n U) : D_X8_behindNow P B (nI h) = some (bh T s (aOf T h) (B (P + 1) h)) := by
  have g1 := hg.1
  obtain ⟨ha, _, hb⟩ := hh h hhH
  generalize aOf T h = a at ha hb
  have go : ∀ (c u x : Nat), x + c = a → c < u → D_X8_behindNow_2 P B u (nI h) (nI x) = some (bh T s a (B (P + 1) h)) := by
    intro c
    induction c with
    | zero =>
      intro u x hx hu
      obtain ⟨u, rfl⟩ : ∃ y, u = y + 1 := ⟨u - 1, by omega⟩
      have : x = a := by omega
      subst this
      have ix : ¬ (nI x < 0 ∨ 10 ≤ (nI x).toNatClampNeg) := vp_in_nI (by omega) (by decide)
      have ec := mm_choice (k := 0) g1 hm ha (by omega)
      rw [show nI 0 = (0 : Int32) by decide] at ec
      rw [D_X8_behindNow_2]
      unfold zI
      rw [if_neg ix, nI_clamp (by omega), (hm.2.2.1 x ha).1, zB_s (mm_has1 ((hb x ha).mpr rfl)), if_neg (by decide), if_neg (ci (show x < 10 by omega) (by omega)), (hs.1 x ha).1, nI_0p h (by omega), if_neg (vp_in_nI (show h < 82 by omega) (by decide)), nI_clamp (show h < 2147483648 by omega)]
      unfold bh
      by_cases q : s 0 x = -1
      · rw [if_pos q, if_pos q, zB_s (mm_manyC hg hm ha)]
        by_cases q0 : T 11 x = 0
        · rw [if_pos q0, if_pos q0]
          rfl
        · rw [if_neg q0, if_neg q0]
          unfold D_X8_behindNow_93
          rw [if_neg (ci (show h < 82 by omega) (by omega)), i_min]
      · have q0 : ¬ T 11 x = 0 := fun z => by
          rcases ok x ha with w | ⟨k, w, h1, _⟩
          · exact q w
          · rw [z, show (0 : Int32).toNatClampNeg = 0 by decide] at h1
            omega
        rw [if_neg q, if_neg q, if_neg q0, if_neg (ci (show x < 10 by omega) (by omega)), zB_s ec]
        by_cases q2 : s 0 x = T 12 (3 * x)
        · rw [if_pos (by exact q2), if_pos q2]
          rfl
        · rw [if_neg (by exact q2), if_neg q2, if_neg (ci (show h < 82 by omega) (by omega))]
          rfl
    | succ c ih =>
      intro u x hx hu
      obtain ⟨u, rfl⟩ : ∃ y, u = y + 1 := ⟨u - 1, by omega⟩
      rw [D_X8_behindNow_2]
      unfold zI
      rw [if_neg (vp_in_nI (show x < 10 by omega) (by decide)), nI_clamp (by omega), (hm.2.2.1 x (by omega)).1, zB_s (mm_has0 (fun z => by have := (hb x (by omega)).mp z; omega)), if_pos rfl, nI_add1]
      exact ih u (x + 1) (by omega) (by omega)
  have := go a zFu 0 (by omega) (by unfold zFu; omega)
  rw [show nI 0 = (0 : Int32) by decide] at this
  exact this
theorem mm_unitNow {P n U H h : Nat} {B T s : zMt} (hn : n ≤ 10) (hm : mP P B T n U) (hs : rM P B s n U) (hh : gH T n H) (hH : H ≤ 10) (hhH : h < H) : D_X8_unitNow P B (nI h) = some (s 0 (aOf T h)) := by
  obtain ⟨ha, _, hb⟩ := hh h hhH
  generalize aOf T h = a at ha hb
  have go : ∀ (c u x : Nat), x + c = a → c < u → D_X8_unitNow_2 P B u (nI h) (nI x) = some (s 0 a) := by
    intro c
    induction c with
    | zero =>
      intro u x hx hu
      obtain ⟨u, rfl⟩ : ∃ y, u = y + 1 := ⟨u - 1, by omega⟩
      have : x = a := by omega
      subst this
      have ix : ¬ (nI x < 0 ∨ 10 ≤ (nI x).toNatClampNeg) := vp_in_nI (by omega) (by decide)
      rw [D_X8_unitNow_2]
      unfold zI
      rw [if_neg ix, nI_clamp (by omega), (hm.2.2.1 x ha).1, zB_s (mm_has1 ((hb x ha).mpr rfl)), if_neg (by decide), if_neg (ci (show x < 10 by omega) (by omega)), (hs.1 x ha).1]
    | succ c ih =>
      intro u x hx hu
      obtain ⟨u, rfl⟩ : ∃ y, u = y + 1 := ⟨u - 1, by omega⟩
      rw [D_X8_unitNow_2]
      unfold zI
      rw [if_neg (vp_in_nI (show x < 10 by omega) (by decide)), nI_clamp (by omega), (hm.2.2.1 x (by omega)).1, zB_s (mm_has0 (fun z => by have := (hb x (by omega)).mp z; omega)), if_pos rfl, nI_add1]
      exact ih u (x + 1) (by omega) (by omega)
  have := go a zFu 0 (by omega) (by unfold zFu; omega)
  rw [show nI 0 = (0 : Int32) by decide] at this
  exact this
/-- tags given -/
def tg (T s : zMt) : Nat → Int32
  | 0 => 0
  | a + 1 => tg T s a + (if s 0 a = -1 then 0 else T 5 a)
theorem cc_tags {Q S n U : Nat} {A T s : zMt} (hg : gP T n U) (hT : ∀ i j, i < 13 → A (Q + i) j = T i j) (hs : rC S A s n U) : D_X5_tagsGiven S Q A = some (tg T s n) := by
  obtain ⟨g1, g2, g3, g4, g5, g6, g7⟩ := hg
  have e1 : A Q 1 = nI n := (hT 0 1 (by omega)).trans g3
  have go : ∀ (u k : Nat), k ≤ n → n - k < u → D_X5_tagsGiven_4 S Q A u (tg T s k) (nI k) = some (tg T s n) := by
    intro u
    induction u with
    | zero => intro k _ h; omega
    | succ u ih =>
      intro k hk hu
      rw [D_X5_tagsGiven_4, e1]
      by_cases hc : n ≤ k
      · rw [if_pos (by exact (nI_leI (by omega) (by omega)).mpr hc), show k = n by omega]
      · rw [if_neg (by intro z; exact hc ((nI_leI (by omega) (by omega)).mp z)), zrd_nI (show k < 10 by omega) (by decide), (hs.1 k (by omega)).1]
        have := ih (k + 1) (by omega) (by omega)
        have et : tg T s (k + 1) = tg T s k + (if s 0 k = -1 then 0 else T 5 k) := rfl
        by_cases q : s 0 k = -1
        · rw [if_pos q] at et ⊢
          unfold D_X5_tagsGiven_37
          rw [nI_add1, ← et]
          exact this
        · rw [if_neg q] at et ⊢
          unfold D_X5_tagsGiven_37
          rw [zrd_nI (show k < 10 by omega) (by decide), hT 5 k (by omega), nI_add1, ← et]
          exact this
  have := go zFu 0 (by omega) (by unfold zFu; omega)
  rw [show nI 0 = (0 : Int32) by decide] at this
  exact this
theorem mm_tags {P n U : Nat} {B T s : zMt} (hn : n ≤ 10) (hm : mP P B T n U) (hs : rM P B s n U) : D_X8_givenTags P B = some (tg T s n) := by
  have go : ∀ (u k : Nat), k ≤ n → n - k < u → D_X8_givenTags_4 P B u (tg T s k) (nI k) = some (tg T s n) := by
    intro u
    induction u with
    | zero => intro k _ h; omega
    | succ u ih =>
      intro k hk hu
      rw [D_X8_givenTags_4, hm.1]
      by_cases hc : n ≤ k
      · rw [if_pos (by exact (nI_leI (by omega) (by omega)).mpr hc), show k = n by omega]
      · have ik : ¬ (nI k < 0 ∨ 10 ≤ (nI k).toNatClampNeg) := vp_in_nI (by omega) (by decide)
        rw [if_neg (by intro z; exact hc ((nI_leI (by omega) (by omega)).mp z))]
        unfold zI
        rw [if_neg ik, nI_clamp (by omega), (hs.1 k (by omega)).1]
        have := ih (k + 1) (by omega) (by omega)
        have et : tg T s (k + 1) = tg T s k + (if s 0 k = -1 then 0 else T 5 k) := rfl
        by_cases q : s 0 k = -1
        · rw [if_pos q] at et ⊢
          unfold D_X8_givenTags_33
          rw [nI_add1, ← et]
          exact this
        · rw [if_neg q] at et ⊢
          unfold D_X8_givenTags_33
          rw [if_neg (ci (show k < 10 by omega) (by omega)), (hm.2.2.1 k (by omega)).2.2.1, nI_add1, ← et]
          exact this
  have := go zFu 0 (by omega) (by unfold zFu; omega)
  rw [show nI 0 = (0 : Int32) by decide] at this
  exact this
/-- the class lets the year go by in its register -/
theorem cc_live {Q S R n U H : Nat} {T s : zMt} (hg : gP T n U) (hh : gH T n H) (hH : H ≤ 10) (h1 : R + 8 ≤ Q ∨ Q + 13 ≤ R) (h2 : R + 8 ≤ S ∨ S + 8 ≤ R) : ∀ (u k : Nat) (A : zMt), k ≤ H → H - k < u → A R 1 = nI H → (∀ i j, i < 13 → A (Q + i) j = T i j) → rC S A s n U → ∃ A', D_X4_live_2 R Q S u (nI k) A = some A' ∧ (∀ h, k ≤ h → h < H → A' (R + 2) h = bh T s (aOf T h) (A (R + 2) h) ∧ A' (R + 7) h = s 0 (aOf T h)) ∧ (∀ i j, ¬ ((i = R + 2 ∨ i = R + 7) ∧ k ≤ j ∧ j < H) → A' i j = A i j) := by
  have g1 := hg.1
  intro u
  induction u with
  | zero => intro k A _ h; omega
  | succ u ih =>
    intro k A hk hu hR hT hs
    rw [D_X4_live_2, hR]
    by_cases hc : H ≤ k
    · rw [if_pos (by exact (nI_leI (by omega) (by omega)).mpr hc)]
      exact ⟨A, rfl, fun h h3 h4 => by omega, fun _ _ _ => rfl⟩
    · obtain ⟨ha, e4, _⟩ := hh k (by omega)
      rw [if_neg (by intro z; exact hc ((nI_leI (by omega) (by omega)).mp z)), zrd_nI (show k < 10 by omega) (by decide), hT 4 k (by omega), e4, zrd_nI (show k < 10 by omega) (by decide), zB_s (cc_behind g1 ha hT hs), zwr_nI (show k < 10 by omega) (by decide), zLt_eq, zwr_nI (show k < 10 by omega) (by decide), zrd_nI (show aOf T k < 10 by omega) (by decide), zu_ne (show ¬ (S + 2 = R + 2 ∧ aOf T k = k) by omega), (hs.1 _ ha).1, zLt_eq, nI_add1]
      obtain ⟨A', f1, f2, f3⟩ := ih (k + 1) (zu (zu A (R + 2) k (bh T s (aOf T k) (A (R + 2) k))) (R + 7) k (s 0 (aOf T k))) (by omega) (by omega) ((zu_ne (by omega)).trans ((zu_ne (by omega)).trans hR)) (fun i j hi => (zu_ne (by omega)).trans ((zu_ne (by omega)).trans (hT i j hi))) ⟨fun a ha' => by rw [zu_ne (by omega), zu_ne (by omega), zu_ne (by omega), zu_ne (by omega)]; exact hs.1 a ha', fun v hv => by rw [zu_ne (by omega), zu_ne (by omega), zu_ne (by omega), zu_ne (by omega)]; exact hs.2 v hv⟩
      refine ⟨A', f1, fun h h3 h4 => ?_, fun i j h => (f3 i j (by omega)).trans ((zu_ne (by omega)).trans (zu_ne (by omega)))⟩
      by_cases q : h = k
      · subst q
        rw [f3 _ _ (by omega), f3 _ _ (by omega)]
        exact ⟨(zu_ne (by omega)).trans zu_eq, zu_eq⟩
      · obtain ⟨f4, f5⟩ := f2 h (by omega) h4
        rw [zu_ne (show ¬ (R + 2 = R + 7 ∧ h = k) by omega), zu_ne (show ¬ (R + 2 = R + 2 ∧ h = k) by omega)] at f4
        exact ⟨f4, f5⟩
/-- the reference does, in its row -/
theorem mm_gy34 {P H : Nat} {v : Nat → Int32} {N : zNt} (hH : H ≤ 10) : ∀ (u k : Nat) (B : zMt), k ≤ H → H - k < u → B P 8 = nI H → (∀ h, h < H → B (P + 30) h = v h) → ∃ B', D_X8_goesYear_34 P u (nI k) B N = some (B', N) ∧ (∀ h, k ≤ h → h < H → B' (P + 1) h = v h) ∧ (∀ i j, ¬ (i = P + 1 ∧ k ≤ j ∧ j < H) → B' i j = B i j) := by
  intro u
  induction u with
  | zero => intro k B _ h; omega
  | succ u ih =>
    intro k B hk hu h8 hv
    rw [D_X8_goesYear_34, h8]
    by_cases hc : H ≤ k
    · rw [if_pos (by exact (nI_leI (by omega) (by omega)).mpr hc)]
      exact ⟨B, rfl, fun h h3 h4 => by omega, fun _ _ _ => rfl⟩
    · rw [if_neg (by intro z; exact hc ((nI_leI (by omega) (by omega)).mp z)), nI_0p k (by omega)]
      unfold zI
      rw [if_neg (vp_in_nI (show k < 10 by omega) (by decide)), if_neg (vp_in_nI (show k < 82 by omega) (by decide)), nI_clamp (by omega), hv k (by omega), zLt_eq, nI_add1]
      obtain ⟨B', f1, f2, f3⟩ := ih (k + 1) (zu B (P + 1) k (v k)) (by omega) (by omega) ((zu_ne (by omega)).trans h8) (fun h hh => (zu_ne (by omega)).trans (hv h hh))
      refine ⟨B', f1, fun h h3 h4 => ?_, fun i j h => (f3 i j (by omega)).trans (zu_ne (by omega))⟩
      by_cases q : h = k
      · subst q
        rw [f3 _ _ (by omega), zu_eq]
      · exact f2 h (by omega) h4
theorem mm_gy7 {P n U H : Nat} {T s : zMt} {N : zNt} (hg : gP T n U) (hh : gH T n H) (hH : H ≤ 10) (ok : okS T s n U) : ∀ (u k : Nat) (B : zMt), k ≤ H → H - k < u → B P 8 = nI H → mP P B T n U → rM P B s n U → (∀ h, h < k → B (P + 30) h = bh T s (aOf T h) (B (P + 1) h)) → ∃ B', D_X8_goesYear_7 P u (nI k) B N = D_X8_goesYear_34 P zFu (0 : Int32) B' N ∧ (∀ h, h < H → B' (P + 30) h = bh T s (aOf T h) (B (P + 1) h)) ∧ (∀ i j, ¬ i = P + 30 → B' i j = B i j) := by
  have g2 := hg.2.1
  intro u
  induction u with
  | zero => intro k B _ h; omega
  | succ u ih =>
    intro k B hk hu h8 hm hs hv
    rw [D_X8_goesYear_7, h8]
    by_cases hc : H ≤ k
    · rw [if_pos (by exact (nI_leI (by omega) (by omega)).mpr hc)]
      exact ⟨B, rfl, fun h h3 => hv h (by omega), fun _ _ _ => rfl⟩
    · rw [if_neg (by intro z; exact hc ((nI_leI (by omega) (by omega)).mp z)), zB_s (mm_behind hg hm hs hh hH (by omega) ok)]
      unfold zI
      rw [if_neg (vp_in_nI (show k < 10 by omega) (by decide)), nI_clamp (by omega), zLt_eq, nI_add1]
      have kk : ∀ i j, ¬ i = P + 30 → zu B (P + 30) k (bh T s (aOf T k) (B (P + 1) k)) i j = B i j := fun i j h => zu_ne (by omega)
      obtain ⟨B', f1, f2, f3⟩ := ih (k + 1) (zu B (P + 30) k (bh T s (aOf T k) (B (P + 1) k))) (by omega) (by omega) ((kk _ _ (by omega)).trans h8) (hm.m g2 (kk _ _ (by omega)) (kk _ _ (by omega)) (fun j _ _ => kk _ _ (by omega)) (fun i j _ _ => kk i j (by omega))) ⟨fun a ha => by rw [kk _ _ (by omega), kk _ _ (by omega)]; exact hs.1 a ha, fun v hv' => by rw [kk _ _ (by omega), kk _ _ (by omega)]; exact hs.2 v hv'⟩ (fun h hh' => by
        rw [kk (P + 1) h (by omega)]
        by_cases q : h = k
        · subst q; rw [zu_eq]
        · rw [zu_ne (by omega)]; exact hv h (by omega))
      refine ⟨B', f1, fun h h3 => ?_, fun i j h => (f3 i j h).trans (kk i j h)⟩
      rw [f2 h h3, kk (P + 1) h (by omega)]
/-- a year, both -/
theorem t_year {Q S P n U H : Nat} {A B B1 T : zMt} {N : zNt} {seed : Int32} (hg : gP T n U) (hh : gH T n H) (hH : H ≤ 10) (hT : ∀ i j, i < 13 → A (Q + i) j = T i j) (hd : S + 8 ≤ Q ∨ Q + 13 ≤ S) (hB : D_X8_laysApplicants P B = some B1) (hm : mP P B1 T n U) (h8 : B1 P 8 = nI H) (hs : 0 ≤ seed.toInt) : two (D_X5_bySeed S Q seed A) (D_X8_goesYear P seed B N) (fun A' r => (∃ l, (∀ k, k < n → l k < n) ∧ rC S A' (rs T 10 U n l) n U ∧ rM P r.1 (rs T 10 U n l) n U ∧ (∀ h, h < H → r.1 (P + 1) h = bh T (rs T 10 U n l) (aOf T h) (B1 (P + 1) h))) ∧ mP P r.1 T n U ∧ (∀ i j, ¬ (S + 1 ≤ i ∧ i ≤ S + 7) → A' i j = A i j) ∧ (∀ i j, ¬ (P + 18 ≤ i ∧ i ≤ P + 22) → ¬ i = P + 30 → ¬ (i = P + 1 ∧ j < H) → r.1 i j = B1 i j) ∧ (∀ i j, ¬ (i = P ∧ j = 46) → r.2 i j = N i j)) := by
  have g2 := hg.2.1
  unfold D_X8_goesYear
  obtain ⟨A', ea, r, er, ⟨l, hl, hC, hM⟩, hm1, k1, k2, k3⟩ := t_result (Q := Q) (S := S) (N := N) hg hT hd hB hm hs
  have hl' : ∀ k, k < n → l k < n := fun k hk => (hl.1 k hk).1
  have ok := rs_ok (wo := 10) hg hl'
  obtain ⟨B2, b1, b2, b3⟩ := mm_gy7 (N := r.2) hg hh hH ok zFu 0 r.1 (by omega) (by unfold zFu; omega) ((k2 _ _ (by omega)).trans h8) hm1 hM (fun h hh' => absurd hh' (Nat.not_lt_zero h))
  rw [show nI 0 = (0 : Int32) by decide] at b1
  obtain ⟨B3, d1, d2, d3⟩ := mm_gy34 (P := P) (v := fun h => bh T (rs T 10 U n l) (aOf T h) (r.1 (P + 1) h)) (N := r.2) hH zFu 0 B2 (by omega) (by unfold zFu; omega) ((b3 _ _ (by omega)).trans ((k2 _ _ (by omega)).trans h8)) b2
  rw [show nI 0 = (0 : Int32) by decide] at d1
  have kB : ∀ i j, ¬ (P + 18 ≤ i ∧ i ≤ P + 22) → ¬ i = P + 30 → ¬ (i = P + 1 ∧ j < H) → B3 i j = B1 i j := fun i j h1 h2 h3 => (d3 i j (by omega)).trans ((b3 i j h2).trans (k2 i j h1))
  refine ⟨A', ea, (B3, r.2), ?_, ⟨l, hl', hC, ⟨fun a ha => ?_, fun v hv => ?_⟩, fun h h3 => ?_⟩, ?_, k1, kB, k3⟩
  · rw [zB_s er]
    exact b1.trans d1
  · show B3 _ _ = _ ∧ B3 _ _ = _
    rw [d3 _ _ (by omega), d3 _ _ (by omega), b3 _ _ (by omega), b3 _ _ (by omega)]
    exact hM.1 a ha
  · show B3 _ _ = _ ∧ B3 _ _ = _
    rw [d3 _ _ (by omega), d3 _ _ (by omega), b3 _ _ (by omega), b3 _ _ (by omega)]
    exact hM.2 v hv
  · show B3 (P + 1) h = _
    rw [d2 h (Nat.zero_le h) h3, k2 (P + 1) h (by omega)]
  · exact hm.m g2 (kB _ _ (by omega) (by omega) (by omega)) (kB _ _ (by omega) (by omega) (by omega)) (fun j _ _ => kB _ _ (by omega) (by omega) (by omega)) (fun i j _ _ => kB i j (by omega) (by omega) (by omega))
