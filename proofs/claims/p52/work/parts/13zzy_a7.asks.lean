/-- wishes are written at those of a word of bits alone -/
theorem k_wish38 {R H : Nat} {x1 x2 x3 x4 x5 : Int32} (hH : H ≤ 10) : ∀ (u k : Nat) (A : zMt), A R 1 = nI H → k ≤ H → H - k < u → ∃ A', D_X4_wishFor_38 R u x1 x2 x3 x4 x5 (nI k) A = some A' ∧ (∀ h, h < 10 → ¬ bitAt x1 h → A' (R + 5) h = A (R + 5) h) ∧ (∀ i j, ¬ (R + 5 ≤ i ∧ i ≤ R + 6) → A' i j = A i j) := by
  intro u
  induction u with
  | zero => intro k A _ _ h; omega
  | succ u ih =>
    intro k A h1 hk hu
    rw [D_X4_wishFor_38, h1]
    by_cases c : H ≤ k
    · rw [if_pos ((nI_leI (by omega) (by omega)).mpr c)]
      exact ⟨_, rfl, fun _ _ _ => rfl, fun _ _ _ => rfl⟩
    · rw [if_neg (fun q => c ((nI_leI (by omega) (by omega)).mp q))]
      by_cases b : bitAt x1 k
      · rw [if_pos (show ((x1 >>> (nI k &&& 31)) &&& (1 : Int32)) = (1 : Int32) from b), zLt_eq, zLt_eq, zLt_eq, zLt_eq]
        unfold D_X4_wishFor_109
        rw [nI_add1]
        have e5 : ∀ i j, ¬ i = R + 6 → zwr (zwr (zwr (zwr A (R + 5) 10 (nI k) x5) (R + 6) 30 (nI k * (3 : Int32)) x2) (R + 6) 30 (nI k * (3 : Int32) + (1 : Int32)) x3) (R + 6) 30 (nI k * (3 : Int32) + (2 : Int32)) x4 i j = zu A (R + 5) k x5 i j := fun i j z => by
          rw [congrFun (zwr_row z) j, congrFun (zwr_row z) j, congrFun (zwr_row z) j, zwr_nI (by omega) (by omega)]
        obtain ⟨A', e, a1, a2⟩ := ih (k + 1) (zwr (zwr (zwr (zwr A (R + 5) 10 (nI k) x5) (R + 6) 30 (nI k * (3 : Int32)) x2) (R + 6) 30 (nI k * (3 : Int32) + (1 : Int32)) x3) (R + 6) 30 (nI k * (3 : Int32) + (2 : Int32)) x4) (by rw [e5 _ _ (by omega), zu_ne (by omega)]; exact h1) (by omega) (by omega)
        refine ⟨A', e, fun h hh nb => ?_, fun i j z => ?_⟩
        · have : ¬ h = k := fun q => by subst q; exact nb b
          rw [a1 h hh nb, e5 _ _ (by omega), zu_ne (by omega)]
        · rw [a2 i j z, e5 _ _ (by omega), zu_ne (by omega)]
      · rw [if_neg (show ¬ ((x1 >>> (nI k &&& 31)) &&& (1 : Int32)) = (1 : Int32) from b)]
        unfold D_X4_wishFor_109
        rw [nI_add1]
        exact ih (k + 1) A h1 (by omega) (by omega)
theorem k_wishFor {R H : Nat} {v0 v1 v2 v3 : Int32} {A : zMt} (hH : H ≤ 10) (h1 : A R 1 = nI H) : ∃ A', D_X4_wishFor R v0 v1 v2 v3 A = some A' ∧ (∀ h, h < 10 → ¬ bitAt v0 h → A' (R + 5) h = A (R + 5) h) ∧ (∀ i j, ¬ (R + 5 ≤ i ∧ i ≤ R + 6) → A' i j = A i j) := by
  have L : ∀ x5, ∃ A', D_X4_wishFor_38 R zFu v0 v1 v2 v3 x5 (0 : Int32) A = some A' ∧ (∀ h, h < 10 → ¬ bitAt v0 h → A' (R + 5) h = A (R + 5) h) ∧ (∀ i j, ¬ (R + 5 ≤ i ∧ i ≤ R + 6) → A' i j = A i j) := fun x5 => k_wish38 hH zFu 0 A h1 (by omega) (by unfold zFu; omega)
  unfold D_X4_wishFor D_X4_wishFor_10 D_X4_wishFor_20 D_X4_wishFor_32
  by_cases q1 : v1 = (-1 : Int32)
  · rw [if_pos q1]
    by_cases q2 : v2 = (-1 : Int32)
    · rw [if_pos q2]
      by_cases q3 : v3 = (-1 : Int32)
      · rw [if_pos q3]; exact L _
      · rw [if_neg q3]; exact L _
    · rw [if_neg q2]
      by_cases q3 : v3 = (-1 : Int32)
      · rw [if_pos q3]; exact L _
      · rw [if_neg q3]; exact L _
  · rw [if_neg q1]
    by_cases q2 : v2 = (-1 : Int32)
    · rw [if_pos q2]
      by_cases q3 : v3 = (-1 : Int32)
      · rw [if_pos q3]; exact L _
      · rw [if_neg q3]; exact L _
    · rw [if_neg q2]
      by_cases q3 : v3 = (-1 : Int32)
      · rw [if_pos q3]; exact L _
      · rw [if_neg q3]; exact L _
/-- the word of bits of who asks: only those of the party, or the one hunter -/
theorem k_asker55 {Q H U G n : Nat} {t : Nat → Int32} {A : zMt} {N : zNt} (w : iv Q n t A N U H G) : ∀ (u k : Nat) (r : Int32), k ≤ H → H - k < u → ∃ r', D_X3_asker_55 Q A N u (nI 0) r (nI k) = some r' ∧ (∀ h, h < 10 → bitAt r h → bitAt r' h) ∧ (∀ h, k ≤ h → h < H → A (Q + 5) h = 0 → A (Q + 6) h = 0 → bitAt r' h) ∧ (∀ h, h < 10 → bitAt r' h → bitAt r h ∨ A (Q + 5) h = 0) := by
  have hH := w.2.2.1
  intro u
  induction u with
  | zero => intro k r _ h; omega
  | succ u ih =>
    intro k r hk hu
    rw [D_X3_asker_55, if_neg (nI_ne (by omega)), w.2.2.2.2.2.1]
    by_cases c : H ≤ k
    · rw [if_pos ((nI_leI (by omega) (by omega)).mpr c)]
      exact ⟨r, rfl, fun _ _ q => q, fun h q1 q2 => by omega, fun _ _ q => Or.inl q⟩
    · rw [if_neg (fun q => c ((nI_leI (by omega) (by omega)).mp q)), zrd_nI (by omega) (by omega), zrd_nI (by omega) (by omega)]
      unfold D_X3_asker_110
      rw [nI_add1]
      by_cases q5 : A (Q + 5) k = nI 0
      · rw [if_pos q5]
        by_cases q6 : A (Q + 6) k = 0
        · rw [if_pos q6]
          obtain ⟨r', e, b1, b2, b3⟩ := ih (k + 1) (r ||| ((1 : Int32) <<< (nI k &&& 31))) (by omega) (by omega)
          refine ⟨r', e, fun h hh q => b1 h hh ((bitK_or (by omega) hh).mpr (Or.inl q)), fun h h1 h2 h3 h4 => ?_, fun h hh q => ?_⟩
          · by_cases z : h = k
            · subst z; exact b1 h (by omega) ((bitK_or (by omega) (by omega)).mpr (Or.inr rfl))
            · exact b2 h (by omega) h2 h3 h4
          · rcases b3 h hh q with z | z
            · rcases (bitK_or (by omega) hh).mp z with z | z
              · exact Or.inl z
              · subst z; exact Or.inr q5
            · exact Or.inr z
        · rw [if_neg q6]
          obtain ⟨r', e, b1, b2, b3⟩ := ih (k + 1) r (by omega) (by omega)
          exact ⟨r', e, b1, fun h h1 h2 h3 h4 => by
            by_cases z : h = k
            · subst z; exact absurd h4 q6
            · exact b2 h (by omega) h2 h3 h4, b3⟩
      · rw [if_neg q5]
        obtain ⟨r', e, b1, b2, b3⟩ := ih (k + 1) r (by omega) (by omega)
        exact ⟨r', e, b1, fun h h1 h2 h3 h4 => by
          by_cases z : h = k
          · subst z; exact absurd h3 q5
          · exact b2 h (by omega) h2 h3 h4, b3⟩
theorem k_askerH {Q n U H G h : Nat} {t : Nat → Int32} {A : zMt} {N : zNt} (w : iv Q n t A N U H G) (hh : h < H) (h8 : N Q 8 = nm (217 + h)) (f1 : A (Q + 5) h = -1) (f2 : A (Q + 6) h = 0) : ∃ r, D_X3_asker Q A N = some r ∧ ¬ r = 0 ∧ ∀ k, k < 10 → bitAt r k → k = h := by
  have hH := w.2.2.1
  unfold D_X3_asker
  rw [zB_s (k_hunter w hh h8), zB_s (k_free (by omega) f1 f2), if_neg (by decide)]
  exact ⟨_, rfl, bitK_ne ((bitK_one (k := h) (h := h) (by omega) (by omega)).mpr rfl), fun k hk q => ((bitK_one (by omega) hk).mp q).symm⟩
theorem k_askerP {Q n U H : Nat} {t : Nat → Int32} {A : zMt} {N : zNt} (w : iv Q n t A N U H 1) (hh : 1 < H) (h8 : N Q 8 = nm 16) (f1 : A (Q + 5) 1 = 0) (f2 : A (Q + 6) 1 = 0) : ∃ r, D_X3_asker Q A N = some r ∧ ¬ r = 0 ∧ ∀ k, k < 10 → bitAt r k → A (Q + 5) k = 0 := by
  obtain ⟨r', e, -, b2, b3⟩ := k_asker55 w zFu 0 0 (by omega) (by have := w.2.2.1; unfold zFu; omega)
  obtain ⟨w0, w1, w2, w3, w4, w5, w6, w7, w8, w9⟩ := w
  unfold D_X3_asker
  rw [w5, w6, h8, zB_s (k_find0 (by omega) (by omega) (fun i hi q => by have := nm_inj (by omega) (by omega) ((w8 i hi).symm.trans q); omega))]
  unfold D_X3_isFree D_X3_isFree_38 D_X3_isFree_39
  rw [if_pos rfl, zB_s rfl, if_pos rfl, zB_s (k_find1 (i := 0) (by omega) (by omega) (by omega) (w9 0 (by omega)) (fun j hj _ => by omega))]
  exact ⟨r', e, bitK_ne (b2 1 (by omega) hh f1 f2), fun k hk q => (b3 k hk q).resolve_left bitAt_0⟩

