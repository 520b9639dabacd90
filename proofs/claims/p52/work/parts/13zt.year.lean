/-- what one has is one of its choices -/
def okS (T s : zMt) (n U : Nat) : Prop := ∀ a, a < n → s 0 a = -1 ∨ ∃ k w, k < (T 11 a).toNatClampNeg ∧ w < U ∧ T 12 (3 * a + k) = nI w ∧ s 0 a = nI w
theorem okS_gT {T s : zMt} {n U a k w : Nat} {rd : Int32} (h : okS T s n U) (hk : k < (T 11 a).toNatClampNeg) (hw : w < U) (e : T 12 (3 * a + k) = nI w) : okS T (gT T s a w rd) n U := fun b hb => by
  by_cases q : b = a
  · subst q
    exact Or.inr ⟨k, w, hk, hw, e, gT_0⟩
  · rw [gT_out (by omega) (by omega)]
    exact h b hb
theorem isW.pos {T : zMt} {a U u : Nat} (h : isW T a U) (hu : u < 2147483648) (e : T 12 (3 * a) = nI u) : 0 < (T 11 a).toNatClampNeg := by
  obtain ⟨c, c1, c2, c3, c4⟩ := h
  rw [c2, nI_clamp (by omega)]
  by_cases q : c = 0
  · have := c4 0 (by omega) (by omega)
    have e2 : T 12 (3 * a) = -1 := this
    rw [e] at e2
    exact absurd e2 (nI_ne hu)
  · omega
theorem okS_f1 {T s : zMt} {n U a u wo : Nat} (h : okS T s n U) (hg : gP T n U) (ha : a < n) (hu : u < U) : okS T (f1 T wo u s a) n U := by
  have g2 := hg.2.1
  unfold f1
  by_cases q : ¬ a = wo ∧ T 12 (3 * a) = nI u ∧ T 5 a ≤ s 2 u - T 1 u + T 2 u ∧ T 6 a ≤ s 3 u
  · rw [if_pos q]
    exact okS_gT h (k := 0) (((hg.2.2.2.2.1 a ha).2.2.2).pos (by omega) q.2.1) hu q.2.1
  · rw [if_neg q]; exact h
theorem okS_fA {T : zMt} {n U a wo : Nat} (hg : gP T n U) (ha : a < n) : ∀ (u : Nat) (s : zMt), u ≤ U → okS T s n U → okS T (fA T wo a u s) n U
  | 0, _, _, h => h
  | u + 1, s, hu, h => okS_f1 (okS_fA hg ha u s (by omega) h) hg ha (by omega)
theorem okS_fC {T : zMt} {n U wo : Nat} (hg : gP T n U) : ∀ (r : List Nat) (s : zMt), (∀ x, x ∈ r → x < n) → okS T s n U → okS T (fC T wo U r s) n U
  | [], _, _, h => h
  | a :: r, s, hm, h => okS_fC hg r _ (fun x hx => hm x (List.mem_cons_of_mem _ hx)) (okS_fA hg (hm a List.mem_cons_self) U s (Nat.le_refl U) h)
theorem okS_s2 {T s : zMt} {n U a : Nat} (hg : gP T n U) (ha : a < n) (h : okS T s n U) : ∀ (c k : Nat), k + c ≤ (T 11 a).toNatClampNeg → okS T (s2 T s a c k) n U
  | 0, _, _ => h
  | c + 1, k, hk => by
    show okS T (if T 5 a ≤ s 2 (wu T a k) ∧ T 6 a ≤ s 3 (wu T a k) then gT T s a (wu T a k) 2 else s2 T s a c (k + 1)) n U
    by_cases q : T 5 a ≤ s 2 (wu T a k) ∧ T 6 a ≤ s 3 (wu T a k)
    · rw [if_pos q]
      obtain ⟨x, x1, x2, x3, x4⟩ := (hg.2.2.2.2.1 a ha).2.2.2
      rw [x2, nI_clamp (by omega)] at hk
      obtain ⟨w, hw, ew⟩ := x3 k (by omega)
      have g2 := hg.2.1
      have ewu : wu T a k = w := by
        unfold wu
        rw [ew, nI_clamp (by omega)]
      rw [ewu]
      exact okS_gT h (k := k) (by rw [x2, nI_clamp (by omega)]; omega) hw ew
    · rw [if_neg q]
      exact okS_s2 hg ha h c (k + 1) (by omega)
theorem okS_fS {T : zMt} {n U wo : Nat} (hg : gP T n U) : ∀ (r : List Nat) (s : zMt), (∀ x, x ∈ r → x < n) → okS T s n U → okS T (fS T wo r s) n U
  | [], _, _, h => h
  | a :: r, s, hm, h => okS_fS hg r _ (fun x hx => hm x (List.mem_cons_of_mem _ hx)) (by
    unfold f2
    by_cases q : s 0 a = -1 ∧ ¬ a = wo
    · rw [if_pos q]
      exact okS_s2 hg (hm a List.mem_cons_self) h _ 0 (by omega)
    · rw [if_neg q]; exact h)
theorem rs_ok {T : zMt} {n U wo : Nat} {l : Nat → Nat} (hg : gP T n U) (hl : ∀ k, k < n → l k < n) : okS T (rs T wo U n l) n U := by
  have hmem := lp_mem (l := l) (n := n) n hl
  unfold rs
  exact okS_fS hg _ _ hmem (okS_fC hg _ _ (fun x hx => hmem x (bk_mem 21 x hx).1) (fun a _ => Or.inl rfl))
/-- POINTS behind a result -/
def bh (T s : zMt) (a : Nat) (had : Int32) : Int32 := if T 11 a = 0 then had else if s 0 a = -1 then (if (20 : Int32) < had + 1 then 20 else had + 1) else if s 0 a = T 12 (3 * a) then 0 else had
theorem cc_hasFirst {Q S n U a : Nat} {A T s : zMt} (hn : n ≤ 10) (ha : a < n) (hT : ∀ i j, i < 13 → A (Q + i) j = T i j) (hs : rC S A s n U) : D_X5_hasFirst S Q A (nI a) = some (if s 0 a = -1 then 0 else if s 0 a = T 12 (3 * a) then 1 else 0) := by
  unfold D_X5_hasFirst
  rw [zrd_nI (show a < 10 by omega) (by decide), (hs.1 a ha).1]
  by_cases q : s 0 a = -1
  · rw [if_pos q, if_pos q]
    rfl
  · have ew := cc_wish (Q := Q) (A := A) (T := T) (a := a) (k := 0) (by omega) (by omega) hT
    rw [show nI 0 = (0 : Int32) by decide] at ew
    rw [if_neg q, if_neg q, zB_s ew]
    by_cases q2 : s 0 a = T 12 (3 * a)
    · rw [if_pos (by exact q2), if_pos q2]
      rfl
    · rw [if_neg (by exact q2), if_neg q2]
      rfl
theorem cc_behind {Q S n U a : Nat} {A T s : zMt} {had : Int32} (hn : n ≤ 10) (ha : a < n) (hT : ∀ i j, i < 13 → A (Q + i) j = T i j) (hs : rC S A s n U) : D_X5_scoreBehind S Q A (nI a) had = some (bh T s a had) := by
  unfold D_X5_scoreBehind bh
  rw [zrd_nI (show a < 10 by omega) (by decide), zrd_nI (show a < 10 by omega) (by decide), (hs.1 a ha).1, hT 11 a (by omega)]
  by_cases q0 : T 11 a = 0
  · rw [if_pos q0, if_pos q0]
  · rw [if_neg q0, if_neg q0]
    by_cases q : s 0 a = -1
    · rw [if_pos q, if_pos q]
    · rw [if_neg q, if_neg q, zB_s (cc_hasFirst hn ha hT hs), if_neg q]
      by_cases q2 : s 0 a = T 12 (3 * a)
      · rw [if_pos q2, if_pos q2, if_neg (by decide)]
        rfl
      · rw [if_neg q2, if_neg q2, if_pos rfl]
        rfl
