/-! CHOICES of an APPLICANT become others -/
theorem nI_m3 : ∀ h, h < 10 → nI h * (3 : Int32) = nI (3 * h) := by decide
theorem nI_ad2 {k : Nat} (h : k + 2 < 2147483648) : nI k + (2 : Int32) = nI (k + 2) := by
  rw [show (2 : Int32) = nI 2 by decide, nI_addk h]
theorem cc_wf38 {Q H : Nat} {b u v x c : Int32} (hH : H ≤ 10) : ∀ (f k : Nat) (A : zMt), A Q 1 = nI H → k ≤ H → H - k < f → ∃ A', D_X4_wishFor_38 Q f b u v x c (nI k) A = some A' ∧ (∀ h, k ≤ h → h < H → bitAt b h → A' (Q + 5) h = c ∧ A' (Q + 6) (3 * h) = u ∧ A' (Q + 6) (3 * h + 1) = v ∧ A' (Q + 6) (3 * h + 2) = x) ∧ (∀ h, k ≤ h → h < H → ¬ bitAt b h → A' (Q + 5) h = A (Q + 5) h ∧ ∀ y, y < 3 → A' (Q + 6) (3 * h + y) = A (Q + 6) (3 * h + y)) ∧ (∀ i j, ¬ (i = Q + 5 ∧ k ≤ j ∧ j < H) → ¬ (i = Q + 6 ∧ 3 * k ≤ j ∧ j < 3 * H) → A' i j = A i j) := by
  intro f
  induction f with
  | zero => intro k A _ _ h; omega
  | succ f ih =>
    intro k A h1 hk hu
    rw [D_X4_wishFor_38, h1]
    by_cases hc : H ≤ k
    · rw [if_pos (by exact (nI_leI (by omega) (by omega)).mpr hc)]
      exact ⟨A, rfl, fun h h3 h4 => by omega, fun h h3 h4 => by omega, fun _ _ _ _ => rfl⟩
    · rw [if_neg (by intro z; exact hc ((nI_leI (by omega) (by omega)).mp z)), nI_m3 k (by omega), zwr_nI (show k < 10 by omega) (by decide)]
      by_cases q : bitAt b k
      · rw [if_pos (by exact q), zLt_eq, zwr_nI (show 3 * k < 30 by omega) (by decide), zLt_eq, nI_add1, zwr_nI (show 3 * k + 1 < 30 by omega) (by decide), zLt_eq, nI_ad2 (by omega), zwr_nI (show 3 * k + 2 < 30 by omega) (by decide), zLt_eq]
        unfold D_X4_wishFor_109
        rw [nI_add1]
        have kk : ∀ i j, ¬ (i = Q + 5 ∧ j = k) → ¬ (i = Q + 6 ∧ 3 * k ≤ j ∧ j < 3 * k + 3) → zu (zu (zu (zu A (Q + 5) k c) (Q + 6) (3 * k) u) (Q + 6) (3 * k + 1) v) (Q + 6) (3 * k + 2) x i j = A i j := fun i j h3 h4 => (zu_ne (by omega)).trans ((zu_ne (by omega)).trans ((zu_ne (by omega)).trans (zu_ne (by omega))))
        obtain ⟨A', f1, f2, f3, f4⟩ := ih (k + 1) _ ((kk _ _ (by omega) (by omega)).trans h1) (by omega) (by omega)
        refine ⟨A', f1, fun h h3 h4 hb => ?_, fun h h3 h4 hb => ?_, fun i j h3 h4 => (f4 i j (by omega) (by omega)).trans (kk i j (by omega) (by omega))⟩
        · by_cases z : h = k
          · subst z
            rw [f4 (Q + 5) h (by omega) (by omega), f4 (Q + 6) (3 * h) (by omega) (by omega), f4 (Q + 6) (3 * h + 1) (by omega) (by omega), f4 (Q + 6) (3 * h + 2) (by omega) (by omega)]
            refine ⟨?_, ?_, ?_, zu_eq⟩
            · rw [zu_ne (by omega), zu_ne (by omega), zu_ne (by omega), zu_eq]
            · rw [zu_ne (by omega), zu_ne (by omega), zu_eq]
            · rw [zu_ne (by omega), zu_eq]
          · exact f2 h (by omega) h4 hb
        · have z : ¬ h = k := fun z => hb (z ▸ q)
          obtain ⟨g1, g2⟩ := f3 h (by omega) h4 hb
          exact ⟨g1.trans (kk _ _ (by omega) (by omega)), fun y hy => (g2 y hy).trans (kk _ _ (by omega) (by omega))⟩
      · rw [if_neg (by exact q)]
        unfold D_X4_wishFor_109
        rw [nI_add1]
        obtain ⟨A', f1, f2, f3, f4⟩ := ih (k + 1) A h1 (by omega) (by omega)
        refine ⟨A', f1, fun h h3 h4 hb => ?_, fun h h3 h4 hb => ?_, fun i j h3 h4 => f4 i j (by omega) (by omega)⟩
        · have z : ¬ h = k := fun z => q (z ▸ hb)
          exact f2 h (by omega) h4 hb
        · by_cases z : h = k
          · subst z
            exact ⟨f4 _ _ (by omega) (by omega), fun y hy => f4 _ _ (by omega) (by omega)⟩
          · exact f3 h (by omega) h4 hb
/-- how many are told -/
def wct (u v x : Int32) : Nat := (if u = -1 then 0 else 1) + (if v = -1 then 0 else 1) + (if x = -1 then 0 else 1)
theorem cc_wishFor {Q H : Nat} {b u v x : Int32} {A : zMt} (hH : H ≤ 10) (h1 : A Q 1 = nI H) : ∃ A', D_X4_wishFor Q b u v x A = some A' ∧ (∀ h, h < H → bitAt b h → A' (Q + 5) h = nI (wct u v x) ∧ A' (Q + 6) (3 * h) = u ∧ A' (Q + 6) (3 * h + 1) = v ∧ A' (Q + 6) (3 * h + 2) = x) ∧ (∀ h, h < H → ¬ bitAt b h → A' (Q + 5) h = A (Q + 5) h ∧ ∀ y, y < 3 → A' (Q + 6) (3 * h + y) = A (Q + 6) (3 * h + y)) ∧ (∀ i j, ¬ (i = Q + 5 ∧ j < H) → ¬ (i = Q + 6 ∧ j < 3 * H) → A' i j = A i j) := by
  have go : ∀ c : Int32, c = nI (wct u v x) → ∃ A', D_X4_wishFor_38 Q zFu b u v x c (0 : Int32) A = some A' ∧ (∀ h, h < H → bitAt b h → A' (Q + 5) h = nI (wct u v x) ∧ A' (Q + 6) (3 * h) = u ∧ A' (Q + 6) (3 * h + 1) = v ∧ A' (Q + 6) (3 * h + 2) = x) ∧ (∀ h, h < H → ¬ bitAt b h → A' (Q + 5) h = A (Q + 5) h ∧ ∀ y, y < 3 → A' (Q + 6) (3 * h + y) = A (Q + 6) (3 * h + y)) ∧ (∀ i j, ¬ (i = Q + 5 ∧ j < H) → ¬ (i = Q + 6 ∧ j < 3 * H) → A' i j = A i j) := fun c hc => by
    obtain ⟨A', f1, f2, f3, f4⟩ := cc_wf38 (Q := Q) (b := b) (u := u) (v := v) (x := x) (c := c) hH zFu 0 A h1 (by omega) (by unfold zFu; omega)
    rw [show nI 0 = (0 : Int32) by decide] at f1
    rw [hc] at f2
    exact ⟨A', f1, fun h hh => f2 h (Nat.zero_le h) hh, fun h hh => f3 h (Nat.zero_le h) hh, fun i j h3 h4 => f4 i j (by omega) (by omega)⟩
  unfold D_X4_wishFor D_X4_wishFor_10 D_X4_wishFor_20 D_X4_wishFor_32
  by_cases q1 : u = -1
  · rw [if_pos q1]
    by_cases q2 : v = -1
    · rw [if_pos q2]
      by_cases q3 : x = -1
      · rw [if_pos q3]
        exact go ((0 : Int32) + 0 + 0) (by unfold wct; rw [if_pos q1, if_pos q2, if_pos q3]; decide)
      · rw [if_neg q3]
        exact go ((0 : Int32) + 0 + 1) (by unfold wct; rw [if_pos q1, if_pos q2, if_neg q3]; decide)
    · rw [if_neg q2]
      by_cases q3 : x = -1
      · rw [if_pos q3]
        exact go ((0 : Int32) + 1 + 0) (by unfold wct; rw [if_pos q1, if_neg q2, if_pos q3]; decide)
      · rw [if_neg q3]
        exact go ((0 : Int32) + 1 + 1) (by unfold wct; rw [if_pos q1, if_neg q2, if_neg q3]; decide)
  · rw [if_neg q1]
    by_cases q2 : v = -1
    · rw [if_pos q2]
      by_cases q3 : x = -1
      · rw [if_pos q3]
        exact go ((1 : Int32) + 0 + 0) (by unfold wct; rw [if_neg q1, if_pos q2, if_pos q3]; decide)
      · rw [if_neg q3]
        exact go ((1 : Int32) + 0 + 1) (by unfold wct; rw [if_neg q1, if_pos q2, if_neg q3]; decide)
    · rw [if_neg q2]
      by_cases q3 : x = -1
      · rw [if_pos q3]
        exact go ((1 : Int32) + 1 + 0) (by unfold wct; rw [if_neg q1, if_neg q2, if_pos q3]; decide)
      · rw [if_neg q3]
        exact go ((1 : Int32) + 1 + 1) (by unfold wct; rw [if_neg q1, if_neg q2, if_neg q3]; decide)
theorem wct_ok {u v x : Int32} (h1 : u = -1 → v = -1) (h2 : v = -1 → x = -1) : wct u v x ≤ 3 ∧ (0 < wct u v x ↔ ¬ u = -1) ∧ (1 < wct u v x ↔ ¬ v = -1) ∧ (2 < wct u v x ↔ ¬ x = -1) := by
  unfold wct
  by_cases q3 : x = -1
  · by_cases q2 : v = -1
    · by_cases q1 : u = -1
      · rw [if_pos q1, if_pos q2, if_pos q3]
        exact ⟨by omega, ⟨fun z => by omega, fun z => absurd q1 z⟩, ⟨fun z => by omega, fun z => absurd q2 z⟩, ⟨fun z => by omega, fun z => absurd q3 z⟩⟩
      · rw [if_neg q1, if_pos q2, if_pos q3]
        exact ⟨by omega, ⟨fun _ => q1, fun _ => by omega⟩, ⟨fun z => by omega, fun z => absurd q2 z⟩, ⟨fun z => by omega, fun z => absurd q3 z⟩⟩
    · have q1 : ¬ u = -1 := fun z => q2 (h1 z)
      rw [if_neg q1, if_neg q2, if_pos q3]
      exact ⟨by omega, ⟨fun _ => q1, fun _ => by omega⟩, ⟨fun _ => q2, fun _ => by omega⟩, ⟨fun z => by omega, fun z => absurd q3 z⟩⟩
  · have q2 : ¬ v = -1 := fun z => q3 (h2 z)
    have q1 : ¬ u = -1 := fun z => q2 (h1 z)
    rw [if_neg q1, if_neg q2, if_neg q3]
    exact ⟨by omega, ⟨fun _ => q1, fun _ => by omega⟩, ⟨fun _ => q2, fun _ => by omega⟩, ⟨fun _ => q3, fun _ => by omega⟩⟩
theorem gR.wish {R a base : Nat} {A A' : zMt} {r r' g : Nat → Int32} {U H G c : Nat} {u v x : Int32} (w : gR R A r g U H G) (hb : isBase r H a base) (hb20 : 20 ≤ base)
    (ac : ∀ h, h < H → memb r H a h → A' (R + 5) h = nI c ∧ A' (R + 6) (3 * h) = u ∧ A' (R + 6) (3 * h + 1) = v ∧ A' (R + 6) (3 * h + 2) = x)
    (an : ∀ h, h < H → ¬ memb r H a h → A' (R + 5) h = A (R + 5) h ∧ ∀ k, k < 3 → A' (R + 6) (3 * h + k) = A (R + 6) (3 * h + k))
    (ak : ∀ i j, R ≤ i → i < R + 8 → ¬ i = R + 5 → ¬ i = R + 6 → A' i j = A i j)
    (b0 : r' base = u) (b1 : r' (base + 1) = v) (b2 : r' (base + 2) = x) (hb59 : base ≤ 59) (bk : ∀ j, j < 82 → ¬ (base ≤ j ∧ j < base + 3) → r' j = r j) (hc : c ≤ 3) (h0 : 0 < c ↔ ¬ u = -1) (h1 : 1 < c ↔ ¬ v = -1) (h2 : 2 < c ↔ ¬ x = -1) : gR R A' r' g U H G := by
  obtain ⟨⟨c1, c2, c3, c4, c5, c6, c7⟩, r1, r2, r3, r4, r5, r6, r9, ⟨s1, s2, s3, s4⟩, u3, u4, u5⟩ := w
  have ha4 : a - fr r H < 4 := by
    rcases hb with ⟨h', y1, y2, y3, y4⟩ | ⟨y1, y2⟩
    · have := fr_lt y1 y2
      omega
    · omega
  have new : ∀ h, h < H → memb r H a h → wsR R A' r' h base := fun h hh hm => by
    obtain ⟨e1, e2, e3, e4⟩ := ac h hh hm
    have hk : ∀ k, k < 3 → k = 0 ∨ k = 1 ∨ k = 2 := fun k hk => by omega
    refine ⟨c, hc, e1, fun k h3 => ?_, fun k h3 => ?_⟩
    · rcases hk k h3 with z | z | z <;> subst z
      · exact e2.trans b0.symm
      · exact e3.trans b1.symm
      · exact e4.trans b2.symm
    · rcases hk k h3 with z | z | z <;> subst z
      · show 0 < c ↔ ¬ r' base = -1
        rw [b0]; exact h0
      · rw [b1]; exact h1
      · rw [b2]; exact h2
  have old : ∀ h b', h < H → ¬ memb r H a h → (b' + 3 ≤ base ∨ base + 3 ≤ b') → b' ≤ 59 → wsR R A r h b' → wsR R A' r' h b' := fun h b' hh hm hd h59 q => by
    obtain ⟨e1, e2⟩ := an h hh hm
    exact q.k e1 e2 (fun k hk => bk _ (by omega) (by omega))
  refine ⟨⟨c1, c2, c3, (ak _ _ (by omega) (by omega) (by omega) (by omega)).trans c4, (ak _ _ (by omega) (by omega) (by omega) (by omega)).trans c5, (ak _ _ (by omega) (by omega) (by omega) (by omega)).trans c6, (bk _ (by omega) (by omega)).trans c7⟩, fun u hu => ?_, fun h hh => ?_, fun h hh => ?_, fun h hh => ?_, fun h hh he => ?_, fun h p hh hp he => ?_, fun p hp => ?_, ⟨?_, ?_, ?_, ?_⟩, fun h hh => ?_, fun u hu1 hu2 => ?_, fun h hh1 hh2 => ?_⟩
  · rw [ak _ _ (by omega) (by omega) (by omega) (by omega), bk _ (by omega) (by omega)]; exact r1 u hu
  · rw [ak _ _ (by omega) (by omega) (by omega) (by omega), bk _ (by omega) (by omega)]; exact r2 h hh
  · rw [ak _ _ (by omega) (by omega) (by omega) (by omega)]; exact r3 h hh
  · rw [ak _ _ (by omega) (by omega) (by omega) (by omega), bk _ (by omega) (by omega)]; exact r4 h hh
  · rw [ak _ _ (by omega) (by omega) (by omega) (by omega)] at he
    have hr : r (10 + h) = -1 := (r4 h (by omega)).1.symm.trans he
    by_cases hm : memb r H a h
    · have e : base = 20 + 3 * h := by
        have hlt := fr_lt hh hr
        have hfa : fr r h = a := by
          rcases hm with ⟨_, ⟨_, z⟩ | ⟨_, z⟩⟩
          · exact z
          · exact absurd (z.symm.trans hr) (nI_ne (by omega))
        rcases hb with ⟨h', y1, y2, y3, y4⟩ | ⟨y1, _⟩
        · have := fr_inj y2 hr (y3.trans hfa.symm)
          omega
        · omega
      rw [← e]
      exact new h hh hm
    · refine old h _ hh hm ?_ (by omega) (r5 h hh he)
      rcases hb with ⟨h', y1, y2, y3, y4⟩ | ⟨y1, y2⟩
      · have : h' ≠ h := fun z => hm (by subst z; exact ⟨hh, Or.inl ⟨hr, y3⟩⟩)
        omega
      · omega
  · rw [ak _ _ (by omega) (by omega) (by omega) (by omega)] at he
    have hr : r (10 + h) = nI p := (r4 h (by omega)).1.symm.trans he
    by_cases hm : memb r H a h
    · have e : base = 50 + 3 * p := by
        rcases hm with ⟨_, ⟨z, _⟩ | ⟨z, z2⟩⟩
        · exact absurd (hr.symm.trans z) (nI_ne (by omega))
        · rcases hb with ⟨h', y1, y2, y3, y4⟩ | ⟨y1, y2⟩
          · have := fr_lt y1 y2
            omega
          · have := nI_inj (by omega) (by omega) (hr.symm.trans z2)
            omega
      rw [← e]
      exact new h hh hm
    · refine old h _ hh hm ?_ (by omega) (r6 h p hh hp he)
      rcases hb with ⟨h', y1, y2, y3, y4⟩ | ⟨y1, y2⟩
      · omega
      · have : a - fr r H ≠ p := fun z => hm ⟨hh, Or.inr ⟨y1, by rw [z]; exact hr⟩⟩
        omega
  · obtain ⟨h, z1, z2⟩ := r9 p hp
    exact ⟨h, z1, (ak _ _ (by omega) (by omega) (by omega) (by omega)).trans z2⟩
  · rw [ak _ _ (by omega) (by omega) (by omega) (by omega), bk _ (by omega) (by omega)]; exact s1
  · rw [ak _ _ (by omega) (by omega) (by omega) (by omega), bk _ (by omega) (by omega)]; exact s2
  · rw [ak _ _ (by omega) (by omega) (by omega) (by omega), bk _ (by omega) (by omega)]; exact s3
  · rw [ak _ _ (by omega) (by omega) (by omega) (by omega), bk _ (by omega) (by omega)]; exact s4
  · rw [ak _ _ (by omega) (by omega) (by omega) (by omega), bk _ (by omega) (by omega)]; exact u3 h hh
  · rw [ak _ _ (by omega) (by omega) (by omega) (by omega)]; exact u4 u hu1 hu2
  · rw [ak _ _ (by omega) (by omega) (by omega) (by omega)]; exact u5 h hh1 hh2
/-- where the reference has an applicant's choices -/
theorem t_base {C P U H G K a : Nat} {A B B1 : zMt} {r g : Nat → Int32} (w : eqS C P A B r g U H G K) (e : D_X8_laysApplicants P B = some B1) (ha : a < fr r H + G) : ∃ base, isBase r H a base ∧ 20 ≤ base ∧ base ≤ 59 ∧ B1 (P + 13) a = nI base := by
  obtain ⟨w1, w2, w3, w4, w5, w6, w7, w8, w9⟩ := w
  have c2 := w6.1.2.1
  have c3 := w6.1.2.2.1
  obtain ⟨f1, f2, f3, f4, f5⟩ := row_facts w5 w6.1.2.2.2.2.2.2 c3 c2
  have hg : ∀ h, h < H → g h = 0 ∨ g h = 1 := fun h hh => (w6.2.2.2.1 h hh).2
  obtain ⟨B2, e1, e2, e3⟩ := mm_lays (P := P) (B := B) (r := r) (g := g) c2 c3 (by omega) hg f5 w4 w1 (fun h hh => w2 h (by omega)) w6.1.2.2.2.2.2.2
  rw [e] at e1
  cases e1
  obtain ⟨p1, p2, ⟨base, b1, b2, b3⟩, p4⟩ := e2.2 a ha
  obtain ⟨b4, b5⟩ := base_rng c2 ha c3 b1
  exact ⟨base, b1, b4, b5, b3⟩
theorem t_isUN {C P U H G K : Nat} {A B : zMt} {r g : Nat → Int32} {v : Int32} (w : eqS C P A B r g U H G K) : (D_X7_isUnitOrNone C A v = some 1 ∧ ¬ v < -1 ∧ ¬ nI U ≤ v) ∨ (D_X7_isUnitOrNone C A v = some 0 ∧ (v < -1 ∨ nI U ≤ v)) := by
  have c1 := w.2.2.2.2.2.1.1.1
  unfold D_X7_isUnitOrNone
  by_cases q : v = -1
  · subst q
    refine Or.inl ⟨?_, by decide, fun z => ?_⟩
    · rw [if_pos rfl]; rfl
    · have := Int32.le_iff_toInt_le.mp z
      rw [nI_toInt (by omega), z_m1] at this
      omega
  · rw [if_neg q]
    have o0 : (0 : Int32).toInt = 0 := by decide
    have eA : A (C + 17) 0 = nI U := w.2.2.2.2.2.1.1.2.2.2.1
    rcases inN (v := v) (n := U) (by omega) with ⟨hx, q1, q2, q3, q4⟩ | ⟨q1, q3⟩
    · have e : D_X7_isUnit C A v = some 1 := by
        unfold D_X7_isUnit
        rw [eA, if_neg q1, if_neg q2]
        rfl
      refine Or.inl ⟨?_, fun z => ?_, q2⟩
      · rw [zB_s e, if_neg n10]; rfl
      · have := Int32.lt_iff_toInt_lt.mp z
        rw [z_m1] at this
        omega
    · have e : D_X7_isUnit C A v = some 0 := by
        unfold D_X7_isUnit
        rw [eA]
        by_cases z : v < 0
        · rw [if_pos z]; rfl
        · rw [if_neg z, if_pos (q1.resolve_left z)]; rfl
      refine Or.inr ⟨?_, ?_⟩
      · rw [zB_s e, if_pos rfl]; rfl
      · rcases q1 with z | z
        · refine Or.inl (Int32.lt_iff_toInt_lt.mpr ?_)
          have h1 := Int32.lt_iff_toInt_lt.mp z
          have h2 : ¬ v.toInt = -1 := fun y => q (Int32.toInt_inj.mp (by rw [y, z_m1]))
          rw [z_m1]
          omega
        · exact Or.inr z
theorem ch26 {P : Nat} {a u v x x5 : Int32} {B : zMt} : ∃ y0, D_X8_choose_26 P a u v x x5 B = D_X8_choose_60 P a u v x x5 y0 B := by
  unfold D_X8_choose_26 D_X8_choose_44 D_X8_choose_55 D_X8_choose_59
  by_cases q1 : u = -1
  · rw [if_pos q1]
    by_cases q2 : v = -1
    · rw [if_pos q2]; exact ⟨_, rfl⟩
    · rw [if_neg q2]
      by_cases q6 : v = x
      · rw [if_pos q6]; exact ⟨_, rfl⟩
      · rw [if_neg q6]; exact ⟨_, rfl⟩
  · rw [if_neg q1]
    by_cases q4 : u = v
    · rw [if_pos q4]; exact ⟨_, rfl⟩
    · rw [if_neg q4]
      by_cases q5 : u = x
      · rw [if_pos q5]; exact ⟨_, rfl⟩
      · rw [if_neg q5]
        by_cases q2 : v = -1
        · rw [if_pos q2]; exact ⟨_, rfl⟩
        · rw [if_neg q2]
          by_cases q6 : v = x
          · rw [if_pos q6]; exact ⟨_, rfl⟩
          · rw [if_neg q6]; exact ⟨_, rfl⟩
def chB (u v x : Int32) : Prop := (u = -1 ∧ ¬ v = -1) ∨ (v = -1 ∧ ¬ x = -1) ∨ (¬ u = -1 ∧ (u = v ∨ u = x)) ∨ (¬ v = -1 ∧ v = x)
theorem cc_tree {C : Nat} {a u v x : Int32} {A : zMt} : ((D_X7_choose C a u v x A = zB (D_X7_refuse C (1 : Int32) A) fun e => some (e.1, e.2)) ∧ chB u v x) ∨ (D_X7_choose C a u v x A = D_X7_choose_60 C a u v x A ∧ ¬ chB u v x) := by
  unfold D_X7_choose
  have t43 : (¬ u = -1 → ¬ u = v) → (¬ u = -1 → ¬ u = x) → (u = -1 → v = -1) → (v = -1 → x = -1) → ((D_X7_choose_43 C a u v x A = zB (D_X7_refuse C (1 : Int32) A) fun e => some (e.1, e.2)) ∧ chB u v x) ∨ (D_X7_choose_43 C a u v x A = D_X7_choose_60 C a u v x A ∧ ¬ chB u v x) := fun k1 k2 k3 k4 => by
    unfold D_X7_choose_43
    by_cases q2 : v = -1
    · rw [if_pos q2]
      refine Or.inr ⟨rfl, ?_⟩
      rintro (⟨z1, z2⟩ | ⟨z1, z2⟩ | ⟨z1, z2⟩ | ⟨z1, z2⟩)
      · exact z2 (k3 z1)
      · exact z2 (k4 z1)
      · exact z2.elim (k1 z1) (k2 z1)
      · exact z1 q2
    · rw [if_neg q2]
      by_cases q6 : v = x
      · rw [if_pos q6]
        exact Or.inl ⟨rfl, Or.inr (Or.inr (Or.inr ⟨q2, q6⟩))⟩
      · rw [if_neg q6]
        refine Or.inr ⟨rfl, ?_⟩
        rintro (⟨z1, z2⟩ | ⟨z1, z2⟩ | ⟨z1, z2⟩ | ⟨z1, z2⟩)
        · exact z2 (k3 z1)
        · exact z2 (k4 z1)
        · exact z2.elim (k1 z1) (k2 z1)
        · exact q6 z2
  have t27 : (u = -1 → v = -1) → (v = -1 → x = -1) → ((D_X7_choose_27 C a u v x A = zB (D_X7_refuse C (1 : Int32) A) fun e => some (e.1, e.2)) ∧ chB u v x) ∨ (D_X7_choose_27 C a u v x A = D_X7_choose_60 C a u v x A ∧ ¬ chB u v x) := fun k3 k4 => by
    unfold D_X7_choose_27
    by_cases q1 : u = -1
    · rw [if_pos q1]
      exact t43 (fun z => absurd q1 z) (fun z => absurd q1 z) k3 k4
    · rw [if_neg q1]
      by_cases q4 : u = v
      · rw [if_pos q4]
        exact Or.inl ⟨rfl, Or.inr (Or.inr (Or.inl ⟨q1, Or.inl q4⟩))⟩
      · rw [if_neg q4]
        by_cases q5 : u = x
        · rw [if_pos q5]
          exact Or.inl ⟨rfl, Or.inr (Or.inr (Or.inl ⟨q1, Or.inr q5⟩))⟩
        · rw [if_neg q5]
          exact t43 (fun _ => q4) (fun _ => q5) k3 k4
  have t10 : (u = -1 → v = -1) → ((D_X7_choose_10 C a u v x A = zB (D_X7_refuse C (1 : Int32) A) fun e => some (e.1, e.2)) ∧ chB u v x) ∨ (D_X7_choose_10 C a u v x A = D_X7_choose_60 C a u v x A ∧ ¬ chB u v x) := fun k3 => by
    unfold D_X7_choose_10
    by_cases q2 : v = -1
    · rw [if_pos q2]
      by_cases q3 : x = -1
      · rw [if_pos q3]
        exact t27 k3 (fun _ => q3)
      · rw [if_neg q3]
        exact Or.inl ⟨rfl, Or.inr (Or.inl ⟨q2, q3⟩)⟩
    · rw [if_neg q2]
      exact t27 k3 (fun z => absurd z q2)
  by_cases q1 : u = -1
  · rw [if_pos q1]
    by_cases q2 : v = -1
    · rw [if_pos q2]
      exact t10 (fun _ => q2)
    · rw [if_neg q2]
      exact Or.inl ⟨rfl, Or.inl ⟨q1, q2⟩⟩
  · rw [if_neg q1]
    exact t10 (fun z => absurd z q1)
theorem mm_tree {P : Nat} {a u v x : Int32} {B : zMt} : (chB u v x → ∃ x5 y0, D_X8_choose P a u v x B = D_X8_choose_60 P a u v x x5 y0 B ∧ ¬ (x5 = 0 ∧ y0 = 0)) ∧ (¬ chB u v x → D_X8_choose P a u v x B = D_X8_choose_60 P a u v x 0 0 B) := by
  have n1 : ∀ y : Int32, ¬ ((1 : Int32) = 0 ∧ y = 0) := fun y z => absurd z.1 (by decide)
  have n2 : ∀ y : Int32, ¬ (y = 0 ∧ (1 : Int32) = 0) := fun y z => absurd z.2 (by decide)
  obtain ⟨y1, one⟩ : ∃ y0, D_X8_choose_21 P a u v x B = D_X8_choose_60 P a u v x 1 y0 B := ch26
  have t44 : (¬ u = -1 → ¬ u = v) → (¬ u = -1 → ¬ u = x) → (u = -1 → v = -1) → (v = -1 → x = -1) → (chB u v x → ∃ x5 y0, D_X8_choose_44 P a u v x 0 B = D_X8_choose_60 P a u v x x5 y0 B ∧ ¬ (x5 = 0 ∧ y0 = 0)) ∧ (¬ chB u v x → D_X8_choose_44 P a u v x 0 B = D_X8_choose_60 P a u v x 0 0 B) := fun k1 k2 k3 k4 => by
    unfold D_X8_choose_44
    by_cases q2 : v = -1
    · rw [if_pos q2]
      refine ⟨?_, fun _ => rfl⟩
      rintro (⟨z1, z2⟩ | ⟨z1, z2⟩ | ⟨z1, z2⟩ | ⟨z1, z2⟩)
      · exact absurd (k3 z1) z2
      · exact absurd (k4 z1) z2
      · exact absurd z2 (fun w => w.elim (k1 z1) (k2 z1))
      · exact absurd q2 z1
    · rw [if_neg q2]
      by_cases q6 : v = x
      · rw [if_pos q6]
        exact ⟨fun _ => ⟨0, 1, rfl, n2 0⟩, fun z => absurd (Or.inr (Or.inr (Or.inr ⟨q2, q6⟩))) z⟩
      · rw [if_neg q6]
        refine ⟨?_, fun _ => rfl⟩
        rintro (⟨z1, z2⟩ | ⟨z1, z2⟩ | ⟨z1, z2⟩ | ⟨z1, z2⟩)
        · exact absurd (k3 z1) z2
        · exact absurd (k4 z1) z2
        · exact absurd z2 (fun w => w.elim (k1 z1) (k2 z1))
        · exact absurd z2 q6
  have t26 : (u = -1 → v = -1) → (v = -1 → x = -1) → (chB u v x → ∃ x5 y0, D_X8_choose_26 P a u v x 0 B = D_X8_choose_60 P a u v x x5 y0 B ∧ ¬ (x5 = 0 ∧ y0 = 0)) ∧ (¬ chB u v x → D_X8_choose_26 P a u v x 0 B = D_X8_choose_60 P a u v x 0 0 B) := fun k3 k4 => by
    unfold D_X8_choose_26
    by_cases q1 : u = -1
    · rw [if_pos q1]
      exact t44 (fun z => absurd q1 z) (fun z => absurd q1 z) k3 k4
    · rw [if_neg q1]
      by_cases q4 : u = v
      · rw [if_pos q4]
        exact ⟨fun _ => ⟨0, 1, rfl, n2 0⟩, fun z => absurd (Or.inr (Or.inr (Or.inl ⟨q1, Or.inl q4⟩))) z⟩
      · rw [if_neg q4]
        by_cases q5 : u = x
        · rw [if_pos q5]
          exact ⟨fun _ => ⟨0, 1, rfl, n2 0⟩, fun z => absurd (Or.inr (Or.inr (Or.inl ⟨q1, Or.inr q5⟩))) z⟩
        · rw [if_neg q5]
          exact t44 (fun _ => q4) (fun _ => q5) k3 k4
  have t10 : (u = -1 → v = -1) → (chB u v x → ∃ x5 y0, D_X8_choose_10 P a u v x B = D_X8_choose_60 P a u v x x5 y0 B ∧ ¬ (x5 = 0 ∧ y0 = 0)) ∧ (¬ chB u v x → D_X8_choose_10 P a u v x B = D_X8_choose_60 P a u v x 0 0 B) := fun k3 => by
    unfold D_X8_choose_10
    by_cases q2 : v = -1
    · rw [if_pos q2]
      by_cases q3 : x = -1
      · rw [if_pos q3]
        exact t26 k3 (fun _ => q3)
      · rw [if_neg q3, one]
        exact ⟨fun _ => ⟨1, y1, rfl, n1 y1⟩, fun z => absurd (Or.inr (Or.inl ⟨q2, q3⟩)) z⟩
    · rw [if_neg q2]
      exact t26 k3 (fun z => absurd z q2)
  unfold D_X8_choose
  by_cases q1 : u = -1
  · rw [if_pos q1]
    by_cases q2 : v = -1
    · rw [if_pos q2]
      exact t10 (fun _ => q2)
    · rw [if_neg q2, one]
      exact ⟨fun _ => ⟨1, y1, rfl, n1 y1⟩, fun z => absurd (Or.inl ⟨q1, q2⟩) z⟩
  · rw [if_neg q1]
    exact t10 (fun z => absurd z q1)
theorem ch60_bad {P : Nat} {a u v x x5 y0 : Int32} {B : zMt} (h : ¬ (x5 = 0 ∧ y0 = 0)) : D_X8_choose_60 P a u v x x5 y0 B = zB (D_X8_refuse P (1 : Int32) B) fun e => some (e.1, e.2) := by
  unfold D_X8_choose_60
  by_cases q1 : u < -1
  · rw [if_pos q1]; rfl
  · rw [if_neg q1]
    by_cases q2 : v < -1
    · rw [if_pos q2]; rfl
    · rw [if_neg q2]
      by_cases q3 : x < -1
      · rw [if_pos q3]; rfl
      · rw [if_neg q3]
        by_cases q4 : x5 = 0
        · rw [if_pos q4, if_neg (fun z => h ⟨q4, z⟩)]; rfl
        · rw [if_neg q4]; rfl
/-- where one of the things asked doesn't hold -/
theorem ch60_no {P U : Nat} {a u v x e0 : Int32} {B B1 : zMt} (e : D_X8_isApplicant P a B = some (e0, B1)) (h7 : B1 P 7 = nI U) (h : u < -1 ∨ v < -1 ∨ x < -1 ∨ e0 = 0 ∨ nI U ≤ u ∨ nI U ≤ v ∨ nI U ≤ x) : ∃ st Bx, (Bx = B ∨ Bx = B1) ∧ D_X8_choose_60 P a u v x 0 0 B = zB (D_X8_refuse P st Bx) fun e => some (e.1, e.2) := by
  unfold D_X8_choose_60
  by_cases q1 : u < -1
  · rw [if_pos q1]; exact ⟨1, B, Or.inl rfl, rfl⟩
  · rw [if_neg q1]
    by_cases q2 : v < -1
    · rw [if_pos q2]; exact ⟨1, B, Or.inl rfl, rfl⟩
    · rw [if_neg q2]
      by_cases q3 : x < -1
      · rw [if_pos q3]; exact ⟨1, B, Or.inl rfl, rfl⟩
      · rw [if_neg q3, if_pos rfl, if_pos rfl, zB_s e]
        by_cases q4 : e0 = 0
        · rw [if_pos q4]; exact ⟨2, B1, Or.inr rfl, rfl⟩
        · have h7' : (e0, B1).2 P 7 = nI U := h7
          rw [if_neg q4, h7']
          by_cases q5 : nI U ≤ u
          · rw [if_pos q5]; exact ⟨2, B1, Or.inr rfl, rfl⟩
          · rw [if_neg q5]
            by_cases q6 : nI U ≤ v
            · rw [if_pos q6]; exact ⟨2, B1, Or.inr rfl, rfl⟩
            · rw [if_neg q6]
              by_cases q7 : nI U ≤ x
              · rw [if_neg (Int32.not_lt.mpr q7)]; exact ⟨2, B1, Or.inr rfl, rfl⟩
              · exact absurd h (by
                  rintro (z | z | z | z | z | z | z)
                  · exact q1 z
                  · exact q2 z
                  · exact q3 z
                  · exact q4 z
                  · exact q5 z
                  · exact q6 z
                  · exact q7 z)
/-- the choices are written -/
theorem t_chw {C P U H G K n a base : Nat} {A B : zMt} {r g : Nat → Int32} {u v x : Int32} (w : eqS C P A B r g U H G K) (hn : n = fr r H + G) (ha : a < n) (hgP : gP (tP (C + 91) A) n U) (hm : mP P B (tP (C + 91) A) n U) (hb : isBase r H a base) (hb20 : 20 ≤ base) (hb59 : base ≤ 59) (h1 : u = -1 → v = -1) (h2 : v = -1 → x = -1) (hJ : ∀ b, D_X8_choose_185 P (nI a) u v x (nI base) B = some b → jS P b.2) : two (D_X7_choose_145 C (nI a) u v x A) (D_X8_choose_185 P (nI a) u v x (nI base) B) (acR C P A) := by
  obtain ⟨w1, w2, w3, w4, w5, w6, w7, w8, w9⟩ := id w
  have c1 := w6.1.1
  have c2 := w6.1.2.1
  have hn10 := hgP.1
  have hL : gR (C + 17) A (B (P + 1)) g U H G := w6.m (fun _ _ _ _ => rfl) (fun j hj => w1 j hj) (fun _ _ => rfl)
  obtain ⟨A1, ea, B1, eb, K1, p1, k1, k2⟩ := t_keep hL w9
  have eT : A (C + 102) a = tP (C + 91) A 11 a := rfl
  have em : D_X8_choose_185 P (nI a) u v x (nI base) B = some (A (C + 102) a, zu (zu (zu (zu (zu B1 (P + 1) base u) (P + 1) (base + 1) v) (P + 1) (base + 2) x) P 6 (0 : Int32)) P 12 (0 : Int32)) := by
    unfold D_X8_choose_185 zI
    rw [zB_s (mm_manyC hgP hm ha), zB_s eb, if_neg (vp_in_nI (show base < 82 by omega) (by decide)), nI_clamp (show base < 2147483648 by omega), zLt_eq, nI_add1, if_neg (vp_in_nI (show base + 1 < 82 by omega) (by decide)), nI_clamp (show base + 1 < 2147483648 by omega), zLt_eq, nI_ad2 (by omega), if_neg (vp_in_nI (show base + 2 < 82 by omega) (by decide)), nI_clamp (show base + 2 < 2147483648 by omega), zLt_eq]
    rfl
  have jS1 := hJ _ em
  have kf : ∀ i j, ¬ (i = P ∧ (j = 6 ∨ j = 12)) → zu (zu (zu (zu (zu B1 (P + 1) base u) (P + 1) (base + 1) v) (P + 1) (base + 2) x) P 6 (0 : Int32)) P 12 (0 : Int32) i j = zu (zu (zu B1 (P + 1) base u) (P + 1) (base + 1) v) (P + 1) (base + 2) x i j := fun i j h => (zu_ne (by omega)).trans (zu_ne (by omega))
  have kz : ∀ i j, ¬ (i = P + 1 ∧ base ≤ j ∧ j < base + 3) → ¬ (i = P ∧ j = 9) → ¬ i = P + 4 → zu (zu (zu B1 (P + 1) base u) (P + 1) (base + 1) v) (P + 1) (base + 2) x i j = B i j := fun i j h h3 h4 => (zu_ne (by omega)).trans ((zu_ne (by omega)).trans ((zu_ne (by omega)).trans (k2 i j h3 h4)))
  have h7 : zu (zu (zu B1 (P + 1) base u) (P + 1) (base + 1) v) (P + 1) (base + 2) x P 7 = nI U := (kz _ _ (by omega) (by omega) (by omega)).trans w3
  have h8 : zu (zu (zu B1 (P + 1) base u) (P + 1) (base + 1) v) (P + 1) (base + 2) x P 8 = nI H := (kz _ _ (by omega) (by omega) (by omega)).trans w4
  have jr : jRow (zu (zu (zu B1 (P + 1) base u) (P + 1) (base + 1) v) (P + 1) (base + 2) x (P + 1)) U H := (jS1.row ((kf _ _ (by omega)).trans h7) ((kf _ _ (by omega)).trans h8) c1 c2).congr (by omega) (fun j _ => (kf _ _ (by omega)).symm)
  obtain ⟨A2, f1, f2, f3, f4⟩ := cc_wishFor (Q := C + 17) (H := H) (b := A1 (C + 100) a) (u := u) (v := v) (x := x) (A := A1) c2 ((k1 _ _ (by omega)).trans w6.1.2.2.2.2.1)
  have ebit : A1 (C + 100) a = bv r H a H := (k1 _ _ (by omega)).trans (w8.2.2 a (by omega)).1
  have hbit : ∀ h, h < H → (bitAt (A1 (C + 100) a) h ↔ memb r H a h) := fun h hh => by
    rw [ebit, bv_bit H c2 h (by omega)]
    exact ⟨fun z => z.2, fun z => ⟨hh, z⟩⟩
  obtain ⟨o1, o2, o3, o4⟩ := wct_ok h1 h2
  have g0 : gR (C + 17) A1 r g U H G := w6.m (fun i j _ _ => k1 i j (by omega)) (fun _ _ => rfl) (fun _ _ => rfl)
  have gA : gR (C + 17) A2 (zu (zu (zu B1 (P + 1) base u) (P + 1) (base + 1) v) (P + 1) (base + 2) x (P + 1)) g U H G := g0.wish hb hb20 (fun h hh hm' => f2 h hh ((hbit h hh).mpr hm')) (fun h hh hm' => f3 h hh (fun z => hm' ((hbit h hh).mp z))) (fun i j _ _ z1 z2 => f4 i j (by omega) (by omega)) (by rw [zu_ne (by omega), zu_ne (by omega), zu_eq]) (by rw [zu_ne (by omega), zu_eq]) zu_eq hb59 (fun j hj hj2 => (kz _ _ (by omega) (by omega) (by omega)).trans (w1 j hj)) o1 o2 o3 o4
  have pA : pst (C + 25) P A2 (zu (zu (zu B1 (P + 1) base u) (P + 1) (base + 1) v) (P + 1) (base + 2) x) g U H K1 := p1.k (fun i j _ _ => f4 i j (by omega) (by omega)) (fun i j _ => (zu_ne (by omega)).trans ((zu_ne (by omega)).trans (zu_ne (by omega))))
  obtain ⟨A3, d1, d2, d3, d4⟩ := t_done (v := A (C + 102) a) h7 h8 jr (fun h hh => (kz _ _ (by omega) (by omega) (by omega)).trans (w2 h hh)) gA pA
  rw [em]
  unfold D_X7_choose_145
  rw [zrd_nI (show a < 10 by omega) (by decide)]
  refine two.l ea ?_
  rw [zrd_nI (show a < 10 by omega) (by decide)]
  exact two.l f1 (two.l d1 (two.mk ⟨rfl, ⟨_, _, _, _, _, _, d2.k (fun _ _ _ _ => rfl) (fun i j _ => kf i j (by omega))⟩, Or.inl d3⟩))
theorem t_choose {C P : Nat} {A B : zMt} {a u v x : Int32} (w0 : eqE C P A B) (hJ : jJ P B) : two (D_X7_choose C a u v x A) (D_X8_choose P a u v x B) (acR C P A) := by
  obtain ⟨r, g, U, H, G, K, w⟩ := id w0
  have hmt := mm_tree (P := P) (a := a) (u := u) (v := v) (x := x) (B := B)
  rcases cc_tree (C := C) (a := a) (u := u) (v := v) (x := x) (A := A) with ⟨e1, hb⟩ | ⟨e1, hb⟩
  · obtain ⟨x5, y0, e2, e3⟩ := hmt.1 hb
    rw [e1, e2, ch60_bad e3]
    exact t_ref0 w0
  · have e2 := hmt.2 hb
    have h1 : u = -1 → v = -1 := fun z => Classical.byContradiction fun y => hb (Or.inl ⟨z, y⟩)
    have h2 : v = -1 → x = -1 := fun z => Classical.byContradiction fun y => hb (Or.inr (Or.inl ⟨z, y⟩))
    obtain ⟨n, B1, hn, l1, l2, l3, l4, l5, hA⟩ := t_isA (v := a) w
    have hn10 := l2.1
    have h7 : B1 P 7 = nI U := l4.2.1
    have no : ∀ e0 : Int32, D_X8_isApplicant P a B = some (e0, B1) → (u < -1 ∨ v < -1 ∨ x < -1 ∨ e0 = 0 ∨ nI U ≤ u ∨ nI U ≤ v ∨ nI U ≤ x) → two (D_X7_choose_93 C A) (D_X8_choose P a u v x B) (acR C P A) := fun e0 e h => by
      obtain ⟨st, Bx, hx, ex⟩ := ch60_no e h7 h
      rw [e2, ex]
      rcases hx with z | z
      · subst z; exact t_ref0 w0
      · subst z; exact t_ref w0 l5
    rw [e1]
    unfold D_X7_choose_60
    rcases hA with ⟨q1, q2, a', ha, hv⟩ | ⟨q1, q2⟩
    · rw [zB_s q1, if_neg n10]
      rcases t_isUN (v := u) w with ⟨u1, u2, u3⟩ | ⟨u1, u2⟩
      · rw [zB_s u1, if_neg n10]
        rcases t_isUN (v := v) w with ⟨v1, v2, v3⟩ | ⟨v1, v2⟩
        · rw [zB_s v1, if_neg n10]
          rcases t_isUN (v := x) w with ⟨x1, x2, x3⟩ | ⟨x1, x2⟩
          · rw [zB_s x1, if_neg n10]
            subst hv
            obtain ⟨base, b1, b2, b3, b4⟩ := t_base w l1 (a := a') (by omega)
            obtain ⟨-, -, -, -, -, -, base', b5, b6, b7, b8⟩ := l4.2.2.1 a' ha
            have : base' = base := nI_inj (by omega) (by omega) (b7.symm.trans b4)
            subst this
            have y0 := cc_wish (Q := C + 91) (A := A) (T := tP (C + 91) A) (a := a') (k := 0) (by omega) (by omega) (fun _ _ _ => rfl)
            have y1 := cc_wish (Q := C + 91) (A := A) (T := tP (C + 91) A) (a := a') (k := 1) (by omega) (by omega) (fun _ _ _ => rfl)
            have y2 := cc_wish (Q := C + 91) (A := A) (T := tP (C + 91) A) (a := a') (k := 2) (by omega) (by omega) (fun _ _ _ => rfl)
            rw [show nI 0 = (0 : Int32) by decide] at y0
            rw [show nI 1 = (1 : Int32) by decide] at y1
            rw [show nI 2 = (2 : Int32) by decide] at y2
            rw [zB_s y0, zB_s y1, zB_s y2]
            have em : D_X8_choose P (nI a') u v x B = if tP (C + 91) A 12 (3 * a' + 0) = u then (if tP (C + 91) A 12 (3 * a' + 1) = v then (if tP (C + 91) A 12 (3 * a' + 2) = x then (zB (D_X8_refuse P (4 : Int32) B1) fun e => some (e.1, e.2)) else D_X8_choose_185 P (nI a') u v x (nI base') B1) else D_X8_choose_185 P (nI a') u v x (nI base') B1) else D_X8_choose_185 P (nI a') u v x (nI base') B1 := by
              have h7' : ((1 : Int32), B1).2 P 7 = nI U := h7
              have b4' : ((1 : Int32), B1).2 (P + 13) a' = nI base' := b4
              rw [e2]
              unfold D_X8_choose_60 zI
              rw [if_neg u2, if_neg v2, if_neg x2, if_pos rfl, if_pos rfl, zB_s q2, if_neg n10, h7', if_neg u3, if_neg v3, if_pos (Int32.not_le.mp x3), if_neg (vp_in_nI (show a' < 10 by omega) (by decide)), nI_clamp (show a' < 2147483648 by omega), b4', if_neg (vp_in_nI (show base' < 82 by omega) (by decide)), nI_clamp (show base' < 2147483648 by omega), nI_add1, nI_ad2 (by omega), if_neg (vp_in_nI (show base' + 1 < 82 by omega) (by decide)), nI_clamp (show base' + 1 < 2147483648 by omega), if_neg (vp_in_nI (show base' + 2 < 82 by omega) (by decide)), nI_clamp (show base' + 2 < 2147483648 by omega), show ((1 : Int32), B1).2 (P + 1) (base' + 1) = tP (C + 91) A 12 (3 * a' + 1) from b8 1 (by omega), show ((1 : Int32), B1).2 (P + 1) (base' + 2) = tP (C + 91) A 12 (3 * a' + 2) from b8 2 (by omega), show ((1 : Int32), B1).2 (P + 1) base' = tP (C + 91) A 12 (3 * a' + 0) from b8 0 (by omega)]
            obtain ⟨rb, ev, kb, -, jSv, -⟩ := v_X8_choose (P := P) (v0 := nI a') (v1 := u) (v2 := v) (v3 := x) (M0 := B) hJ.1 hJ.2.1 hJ.2.2.1 hJ.2.2.2.1 hJ.2.2.2.2
            have w' : eqS C P A B1 r g U H G K := w.k (fun _ _ _ _ => rfl) (fun i j _ => l5 i j (by omega) (by omega))
            have wr : D_X8_choose P (nI a') u v x B = D_X8_choose_185 P (nI a') u v x (nI base') B1 → two (D_X7_choose_145 C (nI a') u v x A) (D_X8_choose P (nI a') u v x B) (acR C P A) := fun ee => by
              rw [ee]
              exact t_chw w' hn ha l2 l4 b1 b2 b3 h1 h2 (fun b hb => by
                rw [ee, hb] at ev
                cases ev
                exact jSv)
            by_cases t0 : tP (C + 91) A 12 (3 * a' + 0) = u
            · rw [if_pos t0]
              rw [if_pos t0] at em
              by_cases t1 : tP (C + 91) A 12 (3 * a' + 1) = v
              · rw [if_pos t1]
                rw [if_pos t1] at em
                by_cases t2 : tP (C + 91) A 12 (3 * a' + 2) = x
                · rw [if_pos t2]
                  rw [if_pos t2] at em
                  rw [em]
                  exact t_ref w0 l5
                · rw [if_neg t2]
                  rw [if_neg t2] at em
                  exact wr em
              · rw [if_neg t1]
                rw [if_neg t1] at em
                exact wr em
            · rw [if_neg t0]
              rw [if_neg t0] at em
              exact wr em
          · rw [zB_s x1, if_pos rfl]
            exact no 1 q2 (by rcases x2 with z | z; exact Or.inr (Or.inr (Or.inl z)); exact Or.inr (Or.inr (Or.inr (Or.inr (Or.inr (Or.inr z))))))
        · rw [zB_s v1, if_pos rfl]
          exact no 1 q2 (by rcases v2 with z | z; exact Or.inr (Or.inl z); exact Or.inr (Or.inr (Or.inr (Or.inr (Or.inr (Or.inl z))))))
      · rw [zB_s u1, if_pos rfl]
        exact no 1 q2 (by rcases u2 with z | z; exact Or.inl z; exact Or.inr (Or.inr (Or.inr (Or.inr (Or.inl z)))))
    · rw [zB_s q1, if_pos rfl]
      exact no 0 q2 (Or.inr (Or.inr (Or.inr (Or.inl rfl))))
