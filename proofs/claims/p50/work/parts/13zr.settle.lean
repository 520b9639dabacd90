/-! the class settles a result -/
theorem cc_fits {Q n U a : Nat} {A T : zMt} {x y : Int32} (ha : a < n) (hn : n ≤ 10) (hT : ∀ i j, i < 13 → A (Q + i) j = T i j) : D_X2_fits Q A (nI a) x y = some (if T 5 a ≤ x ∧ T 6 a ≤ y then 1 else 0) := by
  unfold D_X2_fits
  rw [zrd_nI (show a < 10 by omega) (by decide), zrd_nI (show a < 10 by omega) (by decide), hT 5 a (by omega), hT 6 a (by omega)]
  by_cases q : T 5 a ≤ x
  · rw [if_neg (by intro z; exact Int32.not_le.mpr z q)]
    by_cases q2 : T 6 a ≤ y
    · rw [if_neg (by intro z; exact Int32.not_le.mpr z q2), if_pos ⟨q, q2⟩]
      rfl
    · rw [if_pos (by exact Int32.not_le.mp q2), if_neg (fun z => q2 z.2)]
      rfl
  · rw [if_pos (by exact Int32.not_le.mp q), if_neg (fun z => q z.1)]
    rfl
theorem i_neg {x y : Int32} : x + -y = x - y := by rw [Int32.sub_eq_add_neg]
theorem i_lp {x z q p : Int32} : x - z - q + p = x - q + p - z := by
  rw [Int32.sub_eq_add_neg, Int32.sub_eq_add_neg, Int32.sub_eq_add_neg, Int32.sub_eq_add_neg]
  ac_rfl
theorem cc_holdT {Q S n U a w : Nat} {A T s : zMt} {rd : Int32} (ha : a < n) (hn : n ≤ 10) (hw : w < U) (hU : U ≤ 5) (hd : S + 8 ≤ Q ∨ Q + 13 ≤ S) (hT : ∀ i j, i < 13 → A (Q + i) j = T i j) (hs : rC S A s n U) : ∃ A', D_X5_hold S Q (nI a) (nI w) rd A = some A' ∧ rC S A' (gT T s a w rd) n U ∧ (∀ i j, ¬ (S + 2 ≤ i ∧ i ≤ S + 5) → A' i j = A i j) := by
  obtain ⟨hs1, hs2⟩ := hs
  have ha10 : a < 10 := by omega
  have hw5 : w < 5 := by omega
  unfold D_X5_hold
  rw [zwr_nI ha10 (by decide), zLt_eq, zwr_nI ha10 (by decide), zLt_eq, zwr_nI hw5 (by decide), zrd_nI hw5 (by decide), zrd_nI ha10 (by decide), zLt_eq, zwr_nI hw5 (by decide), zrd_nI hw5 (by decide), zrd_nI ha10 (by decide), zLt_eq]
  rw [zu_ne (show ¬ (S + 4 = S + 3 ∧ w = a) by omega), zu_ne (show ¬ (S + 4 = S + 2 ∧ w = a) by omega), zu_ne (show ¬ (Q + 5 = S + 3 ∧ a = a) by omega), zu_ne (show ¬ (Q + 5 = S + 2 ∧ a = a) by omega), zu_ne (show ¬ (S + 5 = S + 4 ∧ w = w) by omega), zu_ne (show ¬ (S + 5 = S + 3 ∧ w = a) by omega), zu_ne (show ¬ (S + 5 = S + 2 ∧ w = a) by omega), zu_ne (show ¬ (Q + 6 = S + 4 ∧ a = w) by omega), zu_ne (show ¬ (Q + 6 = S + 3 ∧ a = a) by omega), zu_ne (show ¬ (Q + 6 = S + 2 ∧ a = a) by omega), hT 5 a (by omega), hT 6 a (by omega), (hs2 w hw).1, (hs2 w hw).2, i_neg, i_neg]
  refine ⟨_, rfl, ⟨fun b hb => ?_, fun u hu => ?_⟩, fun i j h => ?_⟩
  · by_cases q : b = a
    · subst q
      rw [gT_0, gT_1]
      exact ⟨(zu_ne (by omega)).trans ((zu_ne (by omega)).trans ((zu_ne (by omega)).trans zu_eq)), (zu_ne (by omega)).trans ((zu_ne (by omega)).trans zu_eq)⟩
    · rw [gT_out (by omega) (by omega), gT_out (by omega) (by omega)]
      exact ⟨(zu_ne (by omega)).trans ((zu_ne (by omega)).trans ((zu_ne (by omega)).trans ((zu_ne (by omega)).trans (hs1 b hb).1))), (zu_ne (by omega)).trans ((zu_ne (by omega)).trans ((zu_ne (by omega)).trans ((zu_ne (by omega)).trans (hs1 b hb).2)))⟩
  · by_cases q : u = w
    · subst q
      rw [gT_2, gT_3]
      exact ⟨(zu_ne (by omega)).trans zu_eq, zu_eq⟩
    · rw [gT_out (by omega) (by omega), gT_out (by omega) (by omega)]
      exact ⟨(zu_ne (by omega)).trans ((zu_ne (by omega)).trans ((zu_ne (by omega)).trans ((zu_ne (by omega)).trans (hs2 u hu).1))), (zu_ne (by omega)).trans ((zu_ne (by omega)).trans ((zu_ne (by omega)).trans ((zu_ne (by omega)).trans (hs2 u hu).2)))⟩
  · exact (zu_ne (by omega)).trans ((zu_ne (by omega)).trans ((zu_ne (by omega)).trans (zu_ne (by omega))))
theorem cc_wish {Q a k : Nat} {A T : zMt} (ha : a < 10) (hk : k < 3) (hT : ∀ i j, i < 13 → A (Q + i) j = T i j) : D_X2_wish Q A (nI a) (nI k) = some (T 12 (3 * a + k)) := by
  unfold D_X2_wish
  rw [nI_m3k a ha k hk, zrd_nI (by omega) (by decide), hT 12 _ (by omega)]
/-- sorted: one comes in -/
theorem cc_rank32 {Q S n U k a p0 : Nat} {T : zMt} {X Y : List Nat} {k2 : Int32 → zMt → Option zMt} (hn : n ≤ 10) (hk : k < n) (ha : T 7 a = nI p0) (hp0 : p0 ≤ 20) (hd : S + 8 ≤ Q ∨ Q + 13 ≤ S) (hXY : X.length + Y.length = k) (hX : ∀ x, x ∈ X → x < n ∧ ∃ p, p0 ≤ p ∧ p < 21 ∧ T 7 x = nI p) (hY : ∀ x, x ∈ Y → x < n ∧ ∃ p, p < p0 ∧ T 7 x = nI p) : ∀ (u x : Nat) (A : zMt), X.length ≤ x → x ≤ k → x < u → (∀ i j, i < 13 → A (Q + i) j = T i j) → (∀ i y, i < x → (X ++ Y)[i]? = some y → A (S + 7) i = nI y) → (∀ i y, x ≤ i → (X ++ Y)[i]? = some y → A (S + 7) (i + 1) = nI y) → ∃ A', D_X5_rank_32 S Q k2 u (nI k) (nI a) (nI p0) (nI x) A = k2 (nI (k + 1)) A' ∧ (∀ i y, (X ++ a :: Y)[i]? = some y → A' (S + 7) i = nI y) ∧ (∀ i j, ¬ i = S + 7 → A' i j = A i j) := by
  intro u
  induction u with
  | zero => intro x A _ _ h; omega
  | succ u ih =>
    intro x A hx1 hx2 hu hT hlo hhi
    rw [D_X5_rank_32]
    have fin : x = X.length → ∃ A', D_X5_rank_86 S Q k2 (nI k) (nI a) (nI x) A = k2 (nI (k + 1)) A' ∧ (∀ i y, (X ++ a :: Y)[i]? = some y → A' (S + 7) i = nI y) ∧ (∀ i j, ¬ i = S + 7 → A' i j = A i j) := fun hx => by
      unfold D_X5_rank_86
      rw [zwr_nI (show x < 10 by omega) (by decide), zLt_eq, nI_add1]
      refine ⟨_, rfl, fun i y hi => ?_, fun i j h => zu_ne (by omega)⟩
      rw [List.getElem?_append] at hi
      by_cases q1 : i < X.length
      · rw [if_pos q1] at hi
        rw [zu_ne (by omega)]
        exact hlo i y (by omega) (by rw [List.getElem?_append, if_pos q1]; exact hi)
      · rw [if_neg q1] at hi
        by_cases q2 : i = X.length
        · rw [show i - X.length = 0 by omega] at hi
          have : a = y := Option.some.inj hi
          rw [show i = x by omega, zu_eq, this]
        · obtain ⟨d, hd'⟩ : ∃ d, i = X.length + 1 + d := ⟨i - X.length - 1, by omega⟩
          subst hd'
          rw [show X.length + 1 + d - X.length = d + 1 by omega] at hi
          have hi' : Y[d]? = some y := hi
          rw [zu_ne (by omega), show X.length + 1 + d = (X.length + d) + 1 by omega]
          exact hhi (X.length + d) y (by omega) (by rw [List.getElem?_append, if_neg (by omega), show X.length + d - X.length = d by omega]; exact hi')
    by_cases hc : x ≤ 0
    · rw [if_pos (by exact (leR (x := 0) (b := 0) (by decide) (by decide) (by omega)).mpr hc)]
      exact fin (by omega)
    · obtain ⟨x', rfl⟩ : ∃ x', x = x' + 1 := ⟨x - 1, by omega⟩
      rw [if_neg (by intro z; exact hc ((leR (x := 0) (b := 0) (by decide) (by decide) (by omega)).mp z)), nI_sub1 (by omega), zrd_nI (show x' < 10 by omega) (by decide)]
      have hlen : x' < (X ++ Y).length := by rw [List.length_append]; omega
      have hy := List.getElem?_eq_getElem hlen
      generalize (X ++ Y)[x'] = y at hy
      rw [hlo x' y (by omega) hy]
      have hyy : y ∈ X ++ Y := List.mem_of_getElem? hy
      have hyn : y < n := by
        rcases List.mem_append.mp hyy with z | z
        · exact (hX y z).1
        · exact (hY y z).1
      rw [zrd_nI (show y < 10 by omega) (by decide), hT 7 y (by omega)]
      by_cases q : x' + 1 = X.length
      · have hyX : y ∈ X := by
          rw [List.getElem?_append, if_pos (by omega)] at hy
          exact List.mem_of_getElem? hy
        obtain ⟨_, p, h1, h2, h3⟩ := hX y hyX
        rw [h3, if_pos (by exact (nI_leI (by omega) (by omega)).mpr h1)]
        exact fin q
      · have hyY : y ∈ Y := by
          rw [List.getElem?_append, if_neg (by omega)] at hy
          exact List.mem_of_getElem? hy
        obtain ⟨_, p, h1, h3⟩ := hY y hyY
        rw [h3, if_neg (by intro z; exact absurd ((nI_leI (by omega) (by omega)).mp z) (by omega)), zwr_nI (show x' + 1 < 10 by omega) (by decide), zLt_eq]
        have em : nI (x' + 1) + (-1 : Int32) = nI x' := by
          rw [i_neg]
          exact nI_sub1 (by omega)
        rw [em]
        obtain ⟨A', f1, f2, f3⟩ := ih x' (zu A (S + 7) (x' + 1) (nI y)) (by omega) (by omega) (by omega) (fun i j hi => (zu_ne (by omega)).trans (hT i j hi)) (fun i z hi hz => (zu_ne (by omega)).trans (hlo i z (by omega) hz)) (fun i z hi hz => by
          by_cases w : i = x'
          · subst w
            rw [zu_eq]
            rw [hy] at hz
            exact congrArg nI (Option.some.inj hz)
          · rw [zu_ne (by omega)]
            exact hhi i z (by omega) hz)
        exact ⟨A', f1, f2, fun i j h => (f3 i j h).trans (zu_ne (by omega))⟩
theorem cc_rank2 {Q S n U : Nat} {T : zMt} {l : Nat → Nat} (hn : n ≤ 10) (hd : S + 8 ≤ Q ∨ Q + 13 ≤ S) (hl : ∀ k, k < n → l k < n) (hp : ∀ a, a < n → ∃ p, p < 21 ∧ T 7 a = nI p) (hT1 : T 0 1 = nI n) : ∀ (u k : Nat) (A : zMt), k ≤ n → n - k < u → (∀ i j, i < 13 → A (Q + i) j = T i j) → (∀ i, i < n → A (S + 1) i = nI (l i)) → (∀ i y, (bk T (lp l k) 21)[i]? = some y → A (S + 7) i = nI y) → ∃ A', D_X5_rank_2 S Q u (nI k) A = some A' ∧ (∀ i y, (bk T (lp l n) 21)[i]? = some y → A' (S + 7) i = nI y) ∧ (∀ i j, ¬ i = S + 7 → A' i j = A i j) := by
  intro u
  induction u with
  | zero => intro k A _ h; omega
  | succ u ih =>
    intro k A hk hu hT hln hr
    have e1 : A Q 1 = nI n := (hT 0 1 (by omega)).trans hT1
    rw [D_X5_rank_2, e1]
    by_cases hc : n ≤ k
    · have : k = n := by omega
      subst this
      rw [if_pos (by exact (nI_leI (by omega) (by omega)).mpr hc)]
      exact ⟨A, rfl, hr, fun _ _ _ => rfl⟩
    · have hkn : k < n := by omega
      rw [if_neg (by intro z; exact hc ((nI_leI (by omega) (by omega)).mp z)), zrd_nI (show k < 10 by omega) (by decide), hln k hkn]
      have hlk := hl k hkn
      rw [zrd_nI (show l k < 10 by omega) (by decide), hT 7 _ (by omega)]
      obtain ⟨p0, hp0, ep⟩ := hp (l k) hlk
      rw [ep]
      obtain ⟨X, Y, h1, h2, h3, h4⟩ := bk_ins (l := lp l k) ep 21 hp0 (by omega)
      have hlen := bk_len (T := T) (l := l) k (fun i hi => hp (l i) (hl i (by omega)))
      rw [h1, List.length_append] at hlen
      have hmem := lp_mem (l := l) (n := n) k (fun i hi => hl i (by omega))
      rw [h1] at hr
      obtain ⟨A1, f1, f2, f3⟩ := cc_rank32 (Q := Q) (S := S) (U := U) (k2 := D_X5_rank_2 S Q u) (X := X) (Y := Y) hn hkn ep (by omega) hd hlen (fun x hx => ⟨hmem x (h3 x hx).1, (h3 x hx).2⟩) (fun x hx => ⟨hmem x (h4 x hx).1, (h4 x hx).2⟩) zFu k A (by omega) (Nat.le_refl k) (by unfold zFu; omega) hT (fun i y _ hi => hr i y hi) (fun i y hi hy => by
        have := (List.getElem?_eq_some_iff.mp hy).1
        rw [List.length_append] at this
        omega)
      rw [f1]
      rw [← h2] at f2
      obtain ⟨A', g1, g2, g3⟩ := ih (k + 1) A1 (by omega) (by omega) (fun i j hi => (f3 _ j (by omega)).trans (hT i j hi)) (fun i hi => (f3 _ i (by omega)).trans (hln i hi)) f2
      exact ⟨A', g1, g2, fun i j h => (g3 i j h).trans (f3 i j h)⟩
/-- the first round -/
theorem cc_fr7 {Q S n U : Nat} {T : zMt} (hg : gP T n U) (hd : S + 8 ≤ Q ∨ Q + 13 ≤ S) : ∀ (r : List Nat) (u k : Nat) (A s : zMt), r.length < u → k + r.length = n → (∀ i y, r[i]? = some y → A (S + 7) (k + i) = nI y) → (∀ x, x ∈ r → x < n) → rC S A s n U → (∀ u, u < U → A (S + 6) u = s 2 u - T 1 u + T 2 u) → (∀ i j, i < 13 → A (Q + i) j = T i j) → ∃ A', D_X5_firstRound_7 S Q u (nI k) A = some A' ∧ rC S A' (fC T 10 U r s) n U ∧ (∀ i j, ¬ (S + 2 ≤ i ∧ i ≤ S + 6) → A' i j = A i j) := by
  obtain ⟨g1, g2, g3, g4, g5, g6, g7⟩ := hg
  intro r
  induction r with
  | nil =>
    intro u k A s hu hk _ _ hs _ hT
    obtain ⟨u, rfl⟩ : ∃ y, u = y + 1 := ⟨u - 1, by omega⟩
    have e1 : A Q 1 = nI n := (hT 0 1 (by omega)).trans g3
    have hk' : k = n := by
      have : ([] : List Nat).length = 0 := rfl
      omega
    rw [D_X5_firstRound_7, e1, if_pos (by exact (nI_leI (by omega) (by omega)).mpr (by omega))]
    exact ⟨A, rfl, hs, fun _ _ _ => rfl⟩
  | cons a r ih =>
    intro u k A s hu hk hrow hmem hs hlp hT
    rw [List.length_cons] at hu hk
    obtain ⟨u, rfl⟩ : ∃ y, u = y + 1 := ⟨u - 1, by omega⟩
    have e1 : A Q 1 = nI n := (hT 0 1 (by omega)).trans g3
    have ha : a < n := hmem a List.mem_cons_self
    have era : A (S + 7) k = nI a := hrow 0 a rfl
    rw [D_X5_firstRound_7, e1, if_neg (by intro z; exact absurd ((nI_leI (by omega) (by omega)).mp z) (by omega)), zrd_nI (show k < 10 by omega) (by decide), era]
    have ew := cc_wish (Q := Q) (A := A) (T := T) (a := a) (k := 0) (by omega) (by omega) hT
    rw [show nI 0 = (0 : Int32) by decide] at ew
    rw [zB_s ew]
    have next : ∀ A1 s1, rC S A1 s1 n U → (∀ u, u < U → A1 (S + 6) u = s1 2 u - T 1 u + T 2 u) → (∀ i j, ¬ (S + 2 ≤ i ∧ i ≤ S + 6) → A1 i j = A i j) → ∃ A', D_X5_firstRound_91 S Q (D_X5_firstRound_7 S Q u) (nI k) A1 = some A' ∧ rC S A' (fC T 10 U r s1) n U ∧ (∀ i j, ¬ (S + 2 ≤ i ∧ i ≤ S + 6) → A' i j = A i j) := fun A1 s1 h1 h2 h3 => by
      unfold D_X5_firstRound_91
      rw [nI_add1]
      obtain ⟨A', f1, f2, f3⟩ := ih u (k + 1) A1 s1 (by omega) (by omega) (fun i y hi => by
        rw [h3 _ _ (by omega), show k + 1 + i = k + (i + 1) by omega]
        exact hrow (i + 1) y hi) (fun x hx => hmem x (List.mem_cons_of_mem _ hx)) h1 h2 (fun i j hi => (h3 _ j (by omega)).trans (hT i j hi))
      exact ⟨A', f1, f2, fun i j h => (f3 i j h).trans (h3 i j h)⟩
    obtain ⟨c, c1, c2, c3, c4⟩ := (g5 a ha).2.2.2
    show ∃ A', _ = some A' ∧ rC S A' (fC T 10 U r (fA T 10 a U s)) n U ∧ _
    by_cases q : c = 0
    · have e12 : T 12 (3 * a + 0) = -1 := c4 0 (by omega) (by omega)
      rw [e12, if_pos rfl, fA_none U (fun v hv => by
        have : T 12 (3 * a) = -1 := e12
        rw [this]
        exact fun z => nI_ne (by omega) z.symm)]
      exact next A s hs hlp (fun _ _ _ => rfl)
    · obtain ⟨w, hw, ew2⟩ := c3 0 (by omega)
      have ew3 : T 12 (3 * a) = nI w := ew2
      rw [ew2, if_neg (nI_ne (by omega)), zrd_nI (show w < 5 by omega) (by decide), zrd_nI (show w < 5 by omega) (by decide), hlp w hw, (hs.2 w hw).2, zB_s (cc_fits (U := U) ha g1 hT), fA_one ew3 (by omega) U (by omega), if_pos hw]
      unfold f1
      by_cases qf : T 5 a ≤ s 2 w - T 1 w + T 2 w ∧ T 6 a ≤ s 3 w
      · rw [if_pos qf, if_neg (by decide), if_pos ⟨by omega, ew3, qf.1, qf.2⟩, zwr_nI (show w < 5 by omega) (by decide), zrd_nI (show a < 10 by omega) (by decide), hT 5 a (by omega), i_neg, zLt_eq]
        have hs' : rC S (zu A (S + 6) w (s 2 w - T 1 w + T 2 w - T 5 a)) s n U := ⟨fun b hb => by rw [zu_ne (by omega), zu_ne (by omega)]; exact hs.1 b hb, fun v hv => by rw [zu_ne (by omega), zu_ne (by omega)]; exact hs.2 v hv⟩
        obtain ⟨A2, d1, d2, d3⟩ := cc_holdT (Q := Q) (S := S) (a := a) (w := w) (A := zu A (S + 6) w (s 2 w - T 1 w + T 2 w - T 5 a)) (rd := 1) ha g1 hw g2 hd (fun i j hi => (zu_ne (by omega)).trans (hT i j hi)) hs'
        rw [zB_s d1]
        refine next A2 _ d2 (fun v hv => ?_) (fun i j h => (d3 i j (by omega)).trans (zu_ne (by omega)))
        rw [d3 _ _ (by omega)]
        by_cases z : v = w
        · subst z
          rw [zu_eq, gT_2, i_lp]
        · rw [zu_ne (by omega), gT_out (by omega) (by omega)]
          exact hlp v hv
      · rw [if_neg qf, if_pos rfl, if_neg (fun z => qf ⟨z.2.2.1, z.2.2.2⟩)]
        exact next A s hs hlp (fun _ _ _ => rfl)
/-- the second round: one -/
theorem cc_sr48 {Q S n U a k : Nat} {T : zMt} {k2 : Int32 → zMt → Option zMt} (hg : gP T n U) (hd : S + 8 ≤ Q ∨ Q + 13 ≤ S) (ha : a < n) {c : Nat} (hc3 : c ≤ 3) (hc : ∀ k, k < c → ∃ u, u < U ∧ T 12 (3 * a + k) = nI u) : ∀ (d u i : Nat) (A s : zMt), i + d = c → d < u → rC S A s n U → (∀ i j, i < 13 → A (Q + i) j = T i j) → ∃ A', D_X5_secondRound_48 S Q k2 u (nI k) (nI a) (nI c) (nI i) A = k2 (nI (k + 1)) A' ∧ rC S A' (s2 T s a d i) n U ∧ (∀ i j, ¬ (S + 2 ≤ i ∧ i ≤ S + 5) → A' i j = A i j) := by
  obtain ⟨g1, g2, g3, g4, g5, g6, g7⟩ := hg
  intro d
  induction d with
  | zero =>
    intro u i A s hi hu hs hT
    obtain ⟨u, rfl⟩ : ∃ y, u = y + 1 := ⟨u - 1, by omega⟩
    rw [D_X5_secondRound_48, if_pos (by exact (nI_leI (by omega) (by omega)).mpr (by omega))]
    unfold D_X5_secondRound_108
    rw [nI_add1]
    exact ⟨A, rfl, hs, fun _ _ _ => rfl⟩
  | succ d ih =>
    intro u i A s hi hu hs hT
    obtain ⟨u, rfl⟩ : ∃ y, u = y + 1 := ⟨u - 1, by omega⟩
    obtain ⟨w, hw, ew⟩ := hc i (by omega)
    have ewu : wu T a i = w := by
      unfold wu
      rw [ew, nI_clamp (by omega)]
    rw [D_X5_secondRound_48, if_neg (by intro z; exact absurd ((nI_leI (by omega) (by omega)).mp z) (by omega)), zB_s (cc_wish (T := T) (a := a) (k := i) (by omega) (by omega) hT), ew, zrd_nI (show w < 5 by omega) (by decide), zrd_nI (show w < 5 by omega) (by decide), (hs.2 w hw).1, (hs.2 w hw).2, zB_s (cc_fits (U := U) ha g1 hT)]
    show ∃ A', _ = k2 (nI (k + 1)) A' ∧ rC S A' (if T 5 a ≤ s 2 (wu T a i) ∧ T 6 a ≤ s 3 (wu T a i) then gT T s a (wu T a i) 2 else s2 T s a d (i + 1)) n U ∧ _
    rw [ewu]
    by_cases qf : T 5 a ≤ s 2 w ∧ T 6 a ≤ s 3 w
    · rw [if_pos qf, if_neg (by decide), if_pos qf]
      obtain ⟨A2, d1, d2, d3⟩ := cc_holdT (Q := Q) (S := S) (a := a) (w := w) (A := A) (rd := 2) ha g1 hw g2 hd hT hs
      rw [zB_s d1]
      unfold D_X5_secondRound_108
      rw [nI_add1]
      exact ⟨A2, rfl, d2, d3⟩
    · rw [if_neg qf, if_pos rfl, if_neg qf, nI_add1]
      exact ih u (i + 1) A s (by omega) (by omega) hs hT
theorem cc_sr2 {Q S n U : Nat} {T : zMt} {l : Nat → Nat} (hg : gP T n U) (hd : S + 8 ≤ Q ∨ Q + 13 ≤ S) (hl : ∀ k, k < n → l k < n) : ∀ (c u k : Nat) (A s : zMt), k + c = n → c < u → rC S A s n U → (∀ i, i < n → A (S + 1) i = nI (l i)) → (∀ i j, i < 13 → A (Q + i) j = T i j) → ∃ A', D_X5_secondRound_2 S Q u (nI k) A = some A' ∧ rC S A' (fS T 10 (lr l c k) s) n U ∧ (∀ i j, ¬ (S + 2 ≤ i ∧ i ≤ S + 5) → A' i j = A i j) := by
  intro c
  induction c with
  | zero =>
    intro u k A s hk hu hs hln hT
    obtain ⟨g1, g2, g3, g4, g5, g6, g7⟩ := hg
    obtain ⟨u, rfl⟩ : ∃ y, u = y + 1 := ⟨u - 1, by omega⟩
    have e1 : A Q 1 = nI n := (hT 0 1 (by omega)).trans g3
    rw [D_X5_secondRound_2, e1, if_pos (by exact (nI_leI (by omega) (by omega)).mpr (by omega))]
    exact ⟨A, rfl, hs, fun _ _ _ => rfl⟩
  | succ c ih =>
    intro u k A s hk hu hs hln hT
    have hg0 := hg
    obtain ⟨g1, g2, g3, g4, g5, g6, g7⟩ := hg
    obtain ⟨u, rfl⟩ : ∃ y, u = y + 1 := ⟨u - 1, by omega⟩
    have e1 : A Q 1 = nI n := (hT 0 1 (by omega)).trans g3
    have hlk := hl k (by omega)
    have hlk10 : l k < 10 := by omega
    rw [D_X5_secondRound_2, e1, if_neg (by intro z; exact absurd ((nI_leI (by omega) (by omega)).mp z) (by omega)), zrd_nI (show k < 10 by omega) (by decide), hln k (by omega), zrd_nI hlk10 (by decide), zrd_nI hlk10 (by decide), hT 11 _ (by omega), (hs.1 _ hlk).1]
    obtain ⟨x, x1, x2, x3, x4⟩ := (g5 _ hlk).2.2.2
    rw [x2]
    show ∃ A', _ = some A' ∧ rC S A' (fS T 10 (lr l c (k + 1)) (f2 T 10 s (l k))) n U ∧ _
    unfold D_X5_secondRound_43 f2
    rw [x2, nI_clamp (by omega)]
    have go : ∀ A1 s1, rC S A1 s1 n U → (∀ i j, ¬ (S + 2 ≤ i ∧ i ≤ S + 5) → A1 i j = A i j) → ∃ A', D_X5_secondRound_2 S Q u (nI (k + 1)) A1 = some A' ∧ rC S A' (fS T 10 (lr l c (k + 1)) s1) n U ∧ (∀ i j, ¬ (S + 2 ≤ i ∧ i ≤ S + 5) → A' i j = A i j) := fun A1 s1 h1 h2 => by
      obtain ⟨A', f1, f2, f3⟩ := ih u (k + 1) A1 s1 (by omega) (by omega) h1 (fun i hi => (h2 _ _ (by omega)).trans (hln i hi)) (fun i j hi => (h2 _ j (by omega)).trans (hT i j hi))
      exact ⟨A', f1, f2, fun i j h => (f3 i j h).trans (h2 i j h)⟩
    by_cases q : s 0 (l k) = -1
    · rw [if_pos q, if_pos ⟨q, by omega⟩]
      obtain ⟨A1, f1, f2, f3⟩ := cc_sr48 (Q := Q) (S := S) (k := k) (k2 := D_X5_secondRound_2 S Q u) hg0 hd hlk x1 x3 x zFu 0 A s (by omega) (by unfold zFu; omega) hs hT
      rw [show nI 0 = (0 : Int32) by decide] at f1
      rw [f1]
      exact go A1 _ f2 f3
    · rw [if_neg q, if_neg (fun z => q z.1)]
      obtain ⟨A1, f1, f2, f3⟩ := cc_sr48 (Q := Q) (S := S) (k := k) (k2 := D_X5_secondRound_2 S Q u) hg0 hd hlk (c := 0) (by omega) (fun k hk => absurd hk (Nat.not_lt_zero k)) 0 zFu 0 A s (by omega) (by unfold zFu; omega) hs hT
      rw [show nI 0 = (0 : Int32) by decide] at f1
      rw [f1]
      exact go A1 _ f2 f3
/-- nothing is preferred anywhere: the first round gives nothing -/
theorem fC_none {T : zMt} {U n : Nat} (h : ∀ u, u < U → T 2 u ≤ 0) (h5 : ∀ a, a < n → 1 ≤ (T 5 a).toInt) : ∀ (r : List Nat) (s : zMt), (∀ x, x ∈ r → x < n) → (∀ u, u < U → s 2 u = T 1 u) → fC T 10 U r s = s
  | [], _, _, _ => rfl
  | a :: r, s, hm, hs => by
    have hA : ∀ V, V ≤ U → fA T 10 a V s = s := fun V hV => by
      induction V with
      | zero => rfl
      | succ V ih =>
        show f1 T 10 V (fA T 10 a V s) a = s
        rw [ih (by omega)]
        unfold f1
        rw [if_neg]
        rintro ⟨_, _, z, _⟩
        rw [hs V (by omega), Int32.sub_self, Int32.zero_add] at z
        have h1 := Int32.le_iff_toInt_le.mp z
        have h2 := Int32.le_iff_toInt_le.mp (h V (by omega))
        have h3 := h5 a (hm a List.mem_cons_self)
        rw [show (0 : Int32).toInt = 0 by decide] at h2
        omega
    show fC T 10 U r (fA T 10 a U s) = s
    rw [hA U (Nat.le_refl U)]
    exact fC_none h h5 r s (fun x hx => hm x (List.mem_cons_of_mem _ hx)) hs
theorem cc_set2 {Q S n : Nat} {T : zMt} (hn : n ≤ 10) (hd : S + 8 ≤ Q ∨ Q + 13 ≤ S) (hT1 : T 0 1 = nI n) : ∀ (u k : Nat) (A : zMt), k ≤ n → n - k < u → (∀ i j, i < 13 → A (Q + i) j = T i j) → (∀ a, a < k → A (S + 2) a = -1 ∧ A (S + 3) a = 0) → ∃ A', D_X5_settle_2 S Q u (nI k) A = D_X5_settle_36 S Q zFu (0 : Int32) A' ∧ (∀ a, a < n → A' (S + 2) a = -1 ∧ A' (S + 3) a = 0) ∧ (∀ i j, ¬ (S + 2 ≤ i ∧ i ≤ S + 3) → A' i j = A i j) := by
  intro u
  induction u with
  | zero => intro k A _ h; omega
  | succ u ih =>
    intro k A hk hu hT hv
    have e1 : A Q 1 = nI n := (hT 0 1 (by omega)).trans hT1
    rw [D_X5_settle_2, e1]
    by_cases hc : n ≤ k
    · rw [if_pos (by exact (nI_leI (by omega) (by omega)).mpr hc)]
      exact ⟨A, rfl, fun a ha => hv a (by omega), fun _ _ _ => rfl⟩
    · rw [if_neg (by intro z; exact hc ((nI_leI (by omega) (by omega)).mp z)), zwr_nI (show k < 10 by omega) (by decide), zLt_eq, zwr_nI (show k < 10 by omega) (by decide), zLt_eq, nI_add1]
      obtain ⟨A', f1, f2, f3⟩ := ih (k + 1) (zu (zu A (S + 2) k (-1)) (S + 3) k 0) (by omega) (by omega) (fun i j hi => (zu_ne (by omega)).trans ((zu_ne (by omega)).trans (hT i j hi))) (fun a ha => by
        by_cases q : a = k
        · subst q
          exact ⟨(zu_ne (by omega)).trans zu_eq, zu_eq⟩
        · exact ⟨(zu_ne (by omega)).trans ((zu_ne (by omega)).trans (hv a (by omega)).1), (zu_ne (by omega)).trans ((zu_ne (by omega)).trans (hv a (by omega)).2)⟩)
      exact ⟨A', f1, f2, fun i j h => (f3 i j h).trans ((zu_ne (by omega)).trans (zu_ne (by omega)))⟩
theorem cc_set36 {Q S n U : Nat} {T : zMt} (hU : U ≤ 5) (hd : S + 8 ≤ Q ∨ Q + 13 ≤ S) (hT0 : T 0 0 = nI U) : ∀ (u k : Nat) (A : zMt), k ≤ U → U - k < u → (∀ i j, i < 13 → A (Q + i) j = T i j) → (∀ v, v < k → A (S + 4) v = T 1 v ∧ A (S + 5) v = T 3 v ∧ A (S + 6) v = T 2 v) → ∃ A', D_X5_settle_36 S Q u (nI k) A = (if T 0 3 = 0 then D_X5_settle_110 S Q A' else zB (D_X5_firstRound S Q A') fun e => D_X5_settle_110 S Q e) ∧ (∀ v, v < U → A' (S + 4) v = T 1 v ∧ A' (S + 5) v = T 3 v ∧ A' (S + 6) v = T 2 v) ∧ (∀ i j, ¬ (S + 4 ≤ i ∧ i ≤ S + 6) → A' i j = A i j) := by
  intro u
  induction u with
  | zero => intro k A _ h; omega
  | succ u ih =>
    intro k A hk hu hT hv
    have e0 : A Q 0 = nI U := (hT 0 0 (by omega)).trans hT0
    have e3 : A Q 3 = T 0 3 := hT 0 3 (by omega)
    rw [D_X5_settle_36, e0, e3]
    by_cases hc : U ≤ k
    · rw [if_pos (by exact (nI_leI (by omega) (by omega)).mpr hc)]
      exact ⟨A, rfl, fun v hv' => hv v (by omega), fun _ _ _ => rfl⟩
    · have hk5 : k < 5 := by omega
      rw [if_neg (by intro z; exact hc ((nI_leI (by omega) (by omega)).mp z)), zwr_nI hk5 (by decide), zrd_nI hk5 (by decide), zLt_eq, zwr_nI hk5 (by decide), zrd_nI hk5 (by decide), zLt_eq, zwr_nI hk5 (by decide), zrd_nI hk5 (by decide), zLt_eq, nI_add1]
      rw [zu_ne (show ¬ (Q + 2 = S + 4 ∧ k = k) by omega), zu_ne (show ¬ (Q + 3 = S + 6 ∧ k = k) by omega), zu_ne (show ¬ (Q + 3 = S + 4 ∧ k = k) by omega), hT 1 k (by omega), hT 2 k (by omega), hT 3 k (by omega)]
      obtain ⟨A', f1, f2, f3⟩ := ih (k + 1) (zu (zu (zu A (S + 4) k (T 1 k)) (S + 6) k (T 2 k)) (S + 5) k (T 3 k)) (by omega) (by omega) (fun i j hi => (zu_ne (by omega)).trans ((zu_ne (by omega)).trans ((zu_ne (by omega)).trans (hT i j hi)))) (fun v hv' => by
        by_cases q : v = k
        · subst q
          exact ⟨(zu_ne (by omega)).trans ((zu_ne (by omega)).trans zu_eq), zu_eq, (zu_ne (by omega)).trans zu_eq⟩
        · obtain ⟨v1, v2, v3⟩ := hv v (by omega)
          exact ⟨(zu_ne (by omega)).trans ((zu_ne (by omega)).trans ((zu_ne (by omega)).trans v1)), (zu_ne (by omega)).trans ((zu_ne (by omega)).trans ((zu_ne (by omega)).trans v2)), (zu_ne (by omega)).trans ((zu_ne (by omega)).trans ((zu_ne (by omega)).trans v3))⟩)
      exact ⟨A', f1, f2, fun i j h => (f3 i j h).trans ((zu_ne (by omega)).trans ((zu_ne (by omega)).trans (zu_ne (by omega))))⟩
theorem cc_settle {Q S n U : Nat} {A T : zMt} {l : Nat → Nat} (hg : gP T n U) (hd : S + 8 ≤ Q ∨ Q + 13 ≤ S) (hT : ∀ i j, i < 13 → A (Q + i) j = T i j) (hl : ∀ k, k < n → l k < n ∧ A (S + 1) k = nI (l k)) : ∃ A', D_X5_settle S Q A = some A' ∧ rC S A' (rs T 10 U n l) n U ∧ (∀ i j, ¬ (S + 2 ≤ i ∧ i ≤ S + 7) → A' i j = A i j) := by
  have hg0 := hg
  obtain ⟨g1, g2, g3, g4, g5, g6, g7⟩ := hg
  unfold D_X5_settle
  obtain ⟨A1, a1, a2, a3⟩ := cc_set2 (Q := Q) (S := S) (T := T) g1 hd g3 zFu 0 A (by omega) (by unfold zFu; omega) hT (fun a ha => absurd ha (Nat.not_lt_zero a))
  rw [show nI 0 = (0 : Int32) by decide] at a1
  rw [a1]
  obtain ⟨A2, b1, b2, b3⟩ := cc_set36 (Q := Q) (S := S) (n := n) (T := T) g2 hd g4 zFu 0 A1 (by omega) (by unfold zFu; omega) (fun i j hi => (a3 _ j (by omega)).trans (hT i j hi)) (fun v hv => absurd hv (Nat.not_lt_zero v))
  rw [show nI 0 = (0 : Int32) by decide] at b1
  rw [b1]
  have k2 : ∀ i j, ¬ (S + 2 ≤ i ∧ i ≤ S + 6) → A2 i j = A i j := fun i j h => (b3 i j (by omega)).trans (a3 i j (by omega))
  have hT2 : ∀ i j, i < 13 → A2 (Q + i) j = T i j := fun i j hi => (k2 _ j (by omega)).trans (hT i j hi)
  have hr2 : rC S A2 (s0 T) n U := by
    refine ⟨fun a ha => ?_, fun u hu => ?_⟩
    · rw [b3 _ _ (by omega), b3 _ _ (by omega)]
      exact a2 a ha
    · exact ⟨(b2 u hu).1, (b2 u hu).2.1⟩
  have hlr : lp l n = lr l n 0 := by
    have := lp_lr (l := l) n 0
    rw [show (0 : Nat) + n = n by omega] at this
    exact this.symm
  have hmem := lp_mem (l := l) (n := n) n (fun i hi => (hl i hi).1)
  have fin : ∀ A3 s3, rC S A3 s3 n U → (∀ i j, ¬ (S + 2 ≤ i ∧ i ≤ S + 7) → A3 i j = A i j) → s3 = fC T 10 U (bk T (lp l n) 21) (s0 T) → ∃ A', D_X5_settle_110 S Q A3 = some A' ∧ rC S A' (rs T 10 U n l) n U ∧ (∀ i j, ¬ (S + 2 ≤ i ∧ i ≤ S + 7) → A' i j = A i j) := fun A3 s3 h1 h2 h3 => by
    unfold D_X5_settle_110 D_X5_secondRound
    obtain ⟨A4, d1, d2, d3⟩ := cc_sr2 (Q := Q) (S := S) (T := T) (l := l) hg0 hd (fun k hk => (hl k hk).1) n zFu 0 A3 s3 (by omega) (by unfold zFu; omega) h1 (fun i hi => (h2 _ _ (by omega)).trans (hl i hi).2) (fun i j hi => (h2 _ j (by omega)).trans (hT i j hi))
    rw [show nI 0 = (0 : Int32) by decide] at d1
    rw [zB_s d1]
    refine ⟨A4, rfl, ?_, fun i j h => (d3 i j (by omega)).trans (h2 i j h)⟩
    unfold rs
    rw [← h3, hlr]
    exact d2
  by_cases q : T 0 3 = 0
  · rw [if_pos q]
    refine fin A2 (s0 T) hr2 (fun i j h => k2 i j (by omega)) ?_
    rcases g7 with ⟨_, z⟩ | ⟨z, _⟩
    · exact (fC_none z (fun a ha => by have := (g5 a ha).1.i (by omega); omega) _ (s0 T) (fun x hx => hmem x (bk_mem 21 x hx).1) (fun _ _ => rfl)).symm
    · rw [q] at z
      exact absurd z (by decide)
  · rw [if_neg q]
    unfold D_X5_firstRound D_X5_rank
    have hp : ∀ a, a < n → ∃ p, p < 21 ∧ T 7 a = nI p := fun a ha => by
      obtain ⟨p, _, h2, h3⟩ := (g5 a ha).2.1
      exact ⟨p, by omega, h3⟩
    have hb0 : bk T (lp l 0) 21 = [] := by
      have : ∀ m, bk T [] m = [] := fun m => by
        induction m with
        | zero => rfl
        | succ m ih => exact ih
      exact this 21
    obtain ⟨A3, d1, d2, d3⟩ := cc_rank2 (Q := Q) (S := S) (U := U) (T := T) (l := l) g1 hd (fun k hk => (hl k hk).1) hp g3 zFu 0 A2 (by omega) (by unfold zFu; omega) hT2 (fun i hi => (k2 _ _ (by omega)).trans (hl i hi).2) (fun i y hi => by
      rw [hb0] at hi
      exact absurd hi (by rw [List.getElem?_nil]; exact fun z => nomatch z))
    rw [show nI 0 = (0 : Int32) by decide] at d1
    rw [zB_s d1]
    have hlen := bk_len (T := T) (l := l) n (fun i hi => hp (l i) (hl i hi).1)
    obtain ⟨A4, e1, e2, e3⟩ := cc_fr7 (Q := Q) (S := S) hg0 hd (bk T (lp l n) 21) zFu 0 A3 (s0 T) (by rw [hlen]; unfold zFu; omega) (by omega) (fun i y hi => by rw [Nat.zero_add]; exact d2 i y hi) (fun x hx => hmem x (bk_mem 21 x hx).1) ⟨fun a ha => by rw [d3 _ _ (by omega), d3 _ _ (by omega)]; exact hr2.1 a ha, fun u hu => by rw [d3 _ _ (by omega), d3 _ _ (by omega)]; exact hr2.2 u hu⟩ (fun u hu => by
      rw [d3 _ _ (by omega), (b2 u hu).2.2]
      show T 2 u = T 1 u - T 1 u + T 2 u
      rw [Int32.sub_self, Int32.zero_add]) (fun i j hi => (d3 _ j (by omega)).trans (hT2 i j hi))
    rw [show nI 0 = (0 : Int32) by decide] at e1
    rw [zB_s e1]
    exact fin A4 _ e2 (fun i j h => (e3 i j (by omega)).trans ((d3 i j (by omega)).trans (k2 i j (by omega)))) rfl
