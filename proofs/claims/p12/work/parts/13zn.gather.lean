/-! the class gathers its pool out of a register -/
theorem cc_gU15 {Q R U : Nat} {r : Nat → Int32} (hU : U ≤ 5) (hd : R + 8 ≤ Q ∨ Q + 13 ≤ R) : ∀ (u k : Nat) (A : zMt), A Q 0 = nI U → (∀ u, u < 5 → A (R + 1) u = r (62 + u)) → A R 4 = r 68 → A R 5 = r 69 → k ≤ U → U - k < u → (∀ i, i < k → A (Q + 1) i = r (62 + i) ∧ A (Q + 2) i = r (62 + i) * r 68 / 100 ∧ A (Q + 3) i = r (62 + i) * r 69 / 100) → ((A Q 3 = 0 ∧ ∀ i, i < k → A (Q + 2) i ≤ 0) ∨ (A Q 3 = 1 ∧ ∃ i, i < k ∧ ¬ A (Q + 2) i ≤ 0)) → ∃ A', D_X2_gatherUnits_15 Q R u (nI k) A = some A' ∧ cU Q A' r U ∧ (∀ i j, ¬ (i = Q ∧ j = 3) → ¬ (Q + 1 ≤ i ∧ i ≤ Q + 3) → A' i j = A i j) := by
  intro u
  induction u with
  | zero => intro k A _ _ _ _ _ h; omega
  | succ u ih =>
    intro k A h0 hq h4 h5 hk hu hv han
    rw [D_X2_gatherUnits_15, h0]
    by_cases hc : U ≤ k
    · have : k = U := by omega
      subst this
      rw [if_pos (by exact (nI_leI (by omega) (by omega)).mpr hc)]
      exact ⟨A, rfl, ⟨h0, hv, han⟩, fun _ _ _ _ => rfl⟩
    · have hk5 : k < 5 := by omega
      rw [if_neg (by intro z; exact hc ((nI_leI (by omega) (by omega)).mp z)), zrd_nI hk5 (by decide), hq k hk5, zwr_nI hk5 (by decide), zLt_eq]
      generalize hA1 : zu A (Q + 1) k (r (62 + k)) = A1
      have k1 : ∀ i j, ¬ (i = Q + 1 ∧ j = k) → A1 i j = A i j := fun i j h => by rw [← hA1]; exact zu_ne h
      have v1 : A1 (Q + 1) k = r (62 + k) := by rw [← hA1]; exact zu_eq
      rw [zwr_nI hk5 (by decide), k1 R 4 (by omega), h4, zLt_eq]
      generalize hA2 : zu A1 (Q + 2) k (r (62 + k) * r 68 / 100) = A2
      have k2 : ∀ i j, ¬ (i = Q + 2 ∧ j = k) → A2 i j = A1 i j := fun i j h => by rw [← hA2]; exact zu_ne h
      have v2 : A2 (Q + 2) k = r (62 + k) * r 68 / 100 := by rw [← hA2]; exact zu_eq
      rw [zwr_nI hk5 (by decide), k2 R 5 (by omega), k1 R 5 (by omega), h5, zLt_eq]
      generalize hA3 : zu A2 (Q + 3) k (r (62 + k) * r 69 / 100) = A3
      have k3 : ∀ i j, ¬ (i = Q + 3 ∧ j = k) → A3 i j = A2 i j := fun i j h => by rw [← hA3]; exact zu_ne h
      have v3 : A3 (Q + 3) k = r (62 + k) * r 69 / 100 := by rw [← hA3]; exact zu_eq
      have kk : ∀ i j, ¬ (Q + 1 ≤ i ∧ i ≤ Q + 3 ∧ j = k) → A3 i j = A i j := fun i j h => by rw [k3 i j (by omega), k2 i j (by omega), k1 i j (by omega)]
      have w1 : A3 (Q + 1) k = r (62 + k) := by rw [k3 _ _ (by omega), k2 _ _ (by omega), v1]
      have w2 : A3 (Q + 2) k = r (62 + k) * r 68 / 100 := by rw [k3 _ _ (by omega), v2]
      rw [zrd_nI hk5 (by decide)]
      have go : ∀ y : Int32, ((y = 0 ∧ A3 (Q + 2) k ≤ 0) ∨ (y = 1 ∧ ¬ A3 (Q + 2) k ≤ 0)) → ∃ A', D_X2_gatherUnits_96 Q R (D_X2_gatherUnits_15 Q R u) (nI k) (A3 Q 3) y A3 = some A' ∧ cU Q A' r U ∧ (∀ i j, ¬ (i = Q ∧ j = 3) → ¬ (Q + 1 ≤ i ∧ i ≤ Q + 3) → A' i j = A i j) := fun y hy => by
        unfold D_X2_gatherUnits_96
        have e3 : A3 Q 3 = A Q 3 := kk Q 3 (by omega)
        have hz : ∃ z : Int32, A3 Q 3 ||| y = z ∧ (z = 0 ∨ z = 1) ∧ ((z = 0 ∧ ∀ i, i < k + 1 → A3 (Q + 2) i ≤ 0) ∨ (z = 1 ∧ ∃ i, i < k + 1 ∧ ¬ A3 (Q + 2) i ≤ 0)) := by
          rw [e3]
          have old : ∀ i, i < k → A3 (Q + 2) i = A (Q + 2) i := fun i hi => kk _ _ (by omega)
          rcases han with ⟨a0, al⟩ | ⟨a1, i0, hi0, hn⟩
          · rcases hy with ⟨y0, yl⟩ | ⟨y1, yn⟩
            · refine ⟨0, by rw [a0, y0]; decide, Or.inl rfl, Or.inl ⟨rfl, fun i hi => ?_⟩⟩
              by_cases q : i = k
              · subst q; exact yl
              · rw [old i (by omega)]; exact al i (by omega)
            · exact ⟨1, by rw [a0, y1]; decide, Or.inr rfl, Or.inr ⟨rfl, k, by omega, yn⟩⟩
          · have e1 : A Q 3 ||| y = 1 := by
              rcases hy with ⟨y0, _⟩ | ⟨y1, _⟩
              · rw [a1, y0]; decide
              · rw [a1, y1]; decide
            exact ⟨1, e1, Or.inr rfl, Or.inr ⟨rfl, i0, by omega, by rw [old i0 hi0]; exact hn⟩⟩
        obtain ⟨z, ez, hz1, hz2⟩ := hz
        rw [ez]
        unfold zO
        rw [if_pos hz1, zLt_eq, nI_add1]
        have k4 : ∀ i j, ¬ (i = Q ∧ j = 3) → zu A3 Q 3 z i j = A3 i j := fun i j h => zu_ne h
        have k5 : ∀ i j, ¬ (i = Q ∧ j = 3) → ¬ (Q + 1 ≤ i ∧ i ≤ Q + 3 ∧ j = k) → zu A3 Q 3 z i j = A i j := fun i j h1 h2 => (k4 i j h1).trans (kk i j h2)
        obtain ⟨A', f1, f2, f3⟩ := ih (k + 1) (zu A3 Q 3 z) ((k5 Q 0 (by omega) (by omega)).trans h0) (fun i hi => (k5 _ _ (by omega) (by omega)).trans (hq i hi)) ((k5 _ _ (by omega) (by omega)).trans h4) ((k5 _ _ (by omega) (by omega)).trans h5) (by omega) (by omega) (fun i hi => by
          by_cases q : i = k
          · subst q
            rw [k4 _ _ (by omega), k4 _ _ (by omega), k4 _ _ (by omega)]
            exact ⟨w1, w2, v3⟩
          · rw [k5 _ _ (by omega) (by omega), k5 _ _ (by omega) (by omega), k5 _ _ (by omega) (by omega)]
            exact hv i (by omega)) (by
          rcases hz2 with ⟨z0, al⟩ | ⟨z1, i0, h1, h2⟩
          · exact Or.inl ⟨zu_eq.trans z0, fun i hi => by rw [k4 _ _ (by omega)]; exact al i hi⟩
          · exact Or.inr ⟨zu_eq.trans z1, i0, h1, by rw [k4 _ _ (by omega)]; exact h2⟩)
        exact ⟨A', f1, f2, fun i j h1 h2 => (f3 i j h1 h2).trans (k5 i j h1 (by omega))⟩
      by_cases q : A3 (Q + 2) k ≤ 0
      · rw [if_pos q]
        exact go 0 (Or.inl ⟨rfl, q⟩)
      · rw [if_neg q]
        exact go 1 (Or.inr ⟨rfl, q⟩)
theorem cc_gunits {Q R U H G : Nat} {A : zMt} {r g : Nat → Int32} (w : gR R A r g U H G) (hd : R + 8 ≤ Q ∨ Q + 13 ≤ R) : ∃ A', D_X2_gatherUnits Q R A = some A' ∧ cU Q A' r U ∧ (∀ i j, ¬ (i = Q ∧ (j = 0 ∨ j = 3)) → ¬ (Q + 1 ≤ i ∧ i ≤ Q + 3) → A' i j = A i j) := by
  obtain ⟨⟨c1, c2, c3, c4, c5, c6, c7⟩, r1, r2, r3, r4, r5, r6, r9, ⟨s1, s2, s3, s4⟩, u3⟩ := w
  unfold D_X2_gatherUnits
  rw [zLt_eq, c4, zLt_eq]
  have k1 : ∀ i j, ¬ (i = Q ∧ (j = 0 ∨ j = 3)) → zu (zu A Q 0 (nI U)) Q 3 (0 : Int32) i j = A i j := fun i j h => (zu_ne (by omega)).trans (zu_ne (by omega))
  obtain ⟨A', f1, f2, f3⟩ := cc_gU15 (r := r) c1 hd zFu 0 (zu (zu A Q 0 (nI U)) Q 3 (0 : Int32)) ((zu_ne (by omega)).trans zu_eq) (fun u hu => (k1 _ _ (by omega)).trans (r1 u hu)) ((k1 _ _ (by omega)).trans s2) ((k1 _ _ (by omega)).trans s3) (by omega) (by unfold zFu; omega) (fun i hi => absurd hi (Nat.not_lt_zero i)) (Or.inl ⟨zu_eq, fun i hi => absurd hi (Nat.not_lt_zero i)⟩)
  rw [show nI 0 = (0 : Int32) by decide] at f1
  exact ⟨A', f1, f2, fun i j h1 h2 => (f3 i j (by omega) h2).trans (k1 i j h1)⟩
theorem cc_open {Q n : Nat} {A : zMt} {v : Int32} (hn : n < 10) (h1 : A Q 1 = nI n) : ∃ A', D_X2_open Q v A = some A' ∧ A' Q 1 = nI (n + 1) ∧ A' (Q + 5) n = 0 ∧ A' (Q + 6) n = 0 ∧ A' (Q + 7) n = 0 ∧ A' (Q + 9) n = 0 ∧ A' (Q + 10) n = v ∧ (∀ i j, ¬ (i = Q ∧ j = 1) → ¬ (Q + 5 ≤ i ∧ i ≤ Q + 10 ∧ j = n) → A' i j = A i j) := by
  unfold D_X2_open
  rw [h1, zwr_nI hn (by decide), zLt_eq]
  generalize hA1 : zu A (Q + 5) n (0 : Int32) = A1
  have k1 : ∀ i j, ¬ (i = Q + 5 ∧ j = n) → A1 i j = A i j := fun i j h => by rw [← hA1]; exact zu_ne h
  have v1 : A1 (Q + 5) n = 0 := by rw [← hA1]; exact zu_eq
  rw [k1 Q 1 (by omega), h1, zwr_nI hn (by decide), zLt_eq]
  generalize hA2 : zu A1 (Q + 6) n (0 : Int32) = A2
  have k2 : ∀ i j, ¬ (i = Q + 6 ∧ j = n) → A2 i j = A1 i j := fun i j h => by rw [← hA2]; exact zu_ne h
  have v2 : A2 (Q + 6) n = 0 := by rw [← hA2]; exact zu_eq
  rw [k2 Q 1 (by omega), k1 Q 1 (by omega), h1, zwr_nI hn (by decide), zLt_eq]
  generalize hA3 : zu A2 (Q + 7) n (0 : Int32) = A3
  have k3 : ∀ i j, ¬ (i = Q + 7 ∧ j = n) → A3 i j = A2 i j := fun i j h => by rw [← hA3]; exact zu_ne h
  have v3 : A3 (Q + 7) n = 0 := by rw [← hA3]; exact zu_eq
  rw [k3 Q 1 (by omega), k2 Q 1 (by omega), k1 Q 1 (by omega), h1, zwr_nI hn (by decide), zLt_eq]
  generalize hA4 : zu A3 (Q + 9) n (0 : Int32) = A4
  have k4 : ∀ i j, ¬ (i = Q + 9 ∧ j = n) → A4 i j = A3 i j := fun i j h => by rw [← hA4]; exact zu_ne h
  have v4 : A4 (Q + 9) n = 0 := by rw [← hA4]; exact zu_eq
  rw [k4 Q 1 (by omega), k3 Q 1 (by omega), k2 Q 1 (by omega), k1 Q 1 (by omega), h1, zwr_nI hn (by decide), zLt_eq]
  generalize hA5 : zu A4 (Q + 10) n v = A5
  have k5 : ∀ i j, ¬ (i = Q + 10 ∧ j = n) → A5 i j = A4 i j := fun i j h => by rw [← hA5]; exact zu_ne h
  have v5 : A5 (Q + 10) n = v := by rw [← hA5]; exact zu_eq
  have e1 : A5 Q 1 = nI n := by rw [k5 Q 1 (by omega), k4 Q 1 (by omega), k3 Q 1 (by omega), k2 Q 1 (by omega), k1 Q 1 (by omega), h1]
  rw [e1, zLt_eq, nI_add1]
  have k6 : ∀ i j, ¬ (i = Q ∧ j = 1) → zu A5 Q 1 (nI (n + 1)) i j = A5 i j := fun i j h => zu_ne h
  refine ⟨_, rfl, zu_eq, ?_, ?_, ?_, ?_, ?_, fun i j h2 h3 => ?_⟩
  · rw [k6 _ _ (by omega), k5 _ _ (by omega), k4 _ _ (by omega), k3 _ _ (by omega), k2 _ _ (by omega), v1]
  · rw [k6 _ _ (by omega), k5 _ _ (by omega), k4 _ _ (by omega), k3 _ _ (by omega), v2]
  · rw [k6 _ _ (by omega), k5 _ _ (by omega), k4 _ _ (by omega), v3]
  · rw [k6 _ _ (by omega), k5 _ _ (by omega), v4]
  · rw [k6 _ _ (by omega), v5]
  · rw [k6 i j h2, k5 i j (by omega), k4 i j (by omega), k3 i j (by omega), k2 i j (by omega), k1 i j (by omega)]
theorem nI_m3k : ∀ a, a < 10 → ∀ k, k < 3 → nI a * (3 : Int32) + nI k = nI (3 * a + k) := by decide
theorem nI_sub1 {a : Nat} (ha : a < 2147483647) : nI (a + 1) - (1 : Int32) = nI a := by
  rw [show (1 : Int32) = nI 1 by decide]
  exact nI_subn (by omega) (by omega)
theorem cc_join87 {Q R a h : Nat} (ha : a < 10) (hh : h < 10) (hd : R + 8 ≤ Q ∨ Q + 13 ≤ R) : ∀ (u k : Nat) (A : zMt), k ≤ 3 → 3 - k < u → ∃ A', D_X2_join_87 Q R u (nI h) (nI a) (nI k) A = some A' ∧ (∀ x, k ≤ x → x < 3 → A' (Q + 12) (3 * a + x) = A (R + 6) (3 * h + x)) ∧ (∀ i j, ¬ (i = Q + 12 ∧ 3 * a + k ≤ j ∧ j < 3 * a + 3) → A' i j = A i j) := by
  intro u
  induction u with
  | zero => intro k A _ h; omega
  | succ u ih =>
    intro k A hk hu
    rw [D_X2_join_87]
    by_cases hc : 3 ≤ k
    · rw [if_pos (by exact (leL (x := 3) (a := 3) (by decide) (by decide) (by omega)).mpr hc)]
      exact ⟨A, rfl, fun x h1 h2 => by omega, fun _ _ _ => rfl⟩
    · rw [if_neg (by intro z; exact hc ((leL (x := 3) (a := 3) (by decide) (by decide) (by omega)).mp z)), nI_m3k a ha k (by omega), nI_m3k h hh k (by omega), zrd_nI (by omega) (by decide), zwr_nI (by omega) (by decide), zLt_eq, nI_add1]
      obtain ⟨A', f1, f2, f3⟩ := ih (k + 1) (zu A (Q + 12) (3 * a + k) (A (R + 6) (3 * h + k))) (by omega) (by omega)
      refine ⟨A', f1, fun x h1 h2 => ?_, fun i j h => (f3 i j (by omega)).trans (zu_ne (by omega))⟩
      by_cases q : x = k
      · subst q
        rw [f3 _ _ (by omega), zu_eq]
      · rw [f2 x (by omega) h2, zu_ne (by omega)]
theorem cc_join {Q R a h : Nat} {A : zMt} (ha : a < 10) (hh : h < 10) (h1 : A Q 1 = nI (a + 1)) (hd : R + 8 ≤ Q ∨ Q + 13 ≤ R) : ∃ A', D_X2_join Q R (nI h) A = some A' ∧ A' (Q + 4) h = nI a ∧ A' (Q + 5) a = A (Q + 5) a + 1 ∧ A' (Q + 6) a = A (Q + 6) a + A (R + 3) h ∧ A' (Q + 7) a = A (Q + 7) a + A (R + 2) h ∧ A' (Q + 9) a = A (Q + 9) a + ((1 : Int32) <<< (nI h &&& 31)) ∧ A' (Q + 11) a = A (R + 5) h ∧ (∀ k, k < 3 → A' (Q + 12) (3 * a + k) = A (R + 6) (3 * h + k)) ∧ (∀ i j, ¬ (i = Q + 4 ∧ j = h) → ¬ (Q + 5 ≤ i ∧ i ≤ Q + 11 ∧ ¬ i = Q + 10 ∧ j = a) → ¬ (i = Q + 12 ∧ 3 * a ≤ j ∧ j < 3 * a + 3) → A' i j = A i j) := by
  unfold D_X2_join
  rw [h1, nI_sub1 (by omega), zwr_nI hh (by decide), zLt_eq]
  generalize hA1 : zu A (Q + 4) h (nI a) = A1
  have k1 : ∀ i j, ¬ (i = Q + 4 ∧ j = h) → A1 i j = A i j := fun i j h => by rw [← hA1]; exact zu_ne h
  have v1 : A1 (Q + 4) h = nI a := by rw [← hA1]; exact zu_eq
  rw [zrd_nI ha (by decide), zwr_nI ha (by decide), zLt_eq, k1 _ _ (by omega)]
  generalize hA2 : zu A1 (Q + 5) a (A (Q + 5) a + 1) = A2
  have k2 : ∀ i j, ¬ (i = Q + 5 ∧ j = a) → A2 i j = A1 i j := fun i j h => by rw [← hA2]; exact zu_ne h
  have v2 : A2 (Q + 5) a = A (Q + 5) a + 1 := by rw [← hA2]; exact zu_eq
  have x2 : ∀ i j, ¬ (i = Q + 4 ∧ j = h) → ¬ (i = Q + 5 ∧ j = a) → A2 i j = A i j := fun i j p q => (k2 i j q).trans (k1 i j p)
  rw [zrd_nI ha (by decide), zrd_nI hh (by decide), zwr_nI ha (by decide), zLt_eq, x2 (Q + 6) a (by omega) (by omega), x2 (R + 3) h (by omega) (by omega)]
  generalize hA3 : zu A2 (Q + 6) a (A (Q + 6) a + A (R + 3) h) = A3
  have k3 : ∀ i j, ¬ (i = Q + 6 ∧ j = a) → A3 i j = A2 i j := fun i j h => by rw [← hA3]; exact zu_ne h
  have v3 : A3 (Q + 6) a = A (Q + 6) a + A (R + 3) h := by rw [← hA3]; exact zu_eq
  have x3 : ∀ i j, ¬ (i = Q + 4 ∧ j = h) → ¬ (i = Q + 5 ∧ j = a) → ¬ (i = Q + 6 ∧ j = a) → A3 i j = A i j := fun i j p q s => (k3 i j s).trans (x2 i j p q)
  rw [zrd_nI ha (by decide), zrd_nI hh (by decide), zwr_nI ha (by decide), zLt_eq, x3 (Q + 7) a (by omega) (by omega) (by omega), x3 (R + 2) h (by omega) (by omega) (by omega)]
  generalize hA4 : zu A3 (Q + 7) a (A (Q + 7) a + A (R + 2) h) = A4
  have k4 : ∀ i j, ¬ (i = Q + 7 ∧ j = a) → A4 i j = A3 i j := fun i j h => by rw [← hA4]; exact zu_ne h
  have v4 : A4 (Q + 7) a = A (Q + 7) a + A (R + 2) h := by rw [← hA4]; exact zu_eq
  have x4 : ∀ i j, ¬ (i = Q + 4 ∧ j = h) → ¬ (Q + 5 ≤ i ∧ i ≤ Q + 7 ∧ j = a) → A4 i j = A i j := fun i j p q => (k4 i j (by omega)).trans (x3 i j p (by omega) (by omega))
  rw [zrd_nI ha (by decide), zwr_nI ha (by decide), zLt_eq, x4 (Q + 9) a (by omega) (by omega)]
  generalize hA5 : zu A4 (Q + 9) a (A (Q + 9) a + ((1 : Int32) <<< (nI h &&& 31))) = A5
  have k5 : ∀ i j, ¬ (i = Q + 9 ∧ j = a) → A5 i j = A4 i j := fun i j h => by rw [← hA5]; exact zu_ne h
  have v5 : A5 (Q + 9) a = A (Q + 9) a + ((1 : Int32) <<< (nI h &&& 31)) := by rw [← hA5]; exact zu_eq
  have x5 : ∀ i j, ¬ (i = Q + 4 ∧ j = h) → ¬ (Q + 5 ≤ i ∧ i ≤ Q + 9 ∧ j = a) → A5 i j = A i j := fun i j p q => (k5 i j (by omega)).trans (x4 i j p (by omega))
  rw [zrd_nI hh (by decide), zwr_nI ha (by decide), zLt_eq, x5 (R + 5) h (by omega) (by omega)]
  generalize hA6 : zu A5 (Q + 11) a (A (R + 5) h) = A6
  have k6 : ∀ i j, ¬ (i = Q + 11 ∧ j = a) → A6 i j = A5 i j := fun i j h => by rw [← hA6]; exact zu_ne h
  have v6 : A6 (Q + 11) a = A (R + 5) h := by rw [← hA6]; exact zu_eq
  have x6 : ∀ i j, ¬ (i = Q + 4 ∧ j = h) → ¬ (Q + 5 ≤ i ∧ i ≤ Q + 11 ∧ ¬ i = Q + 10 ∧ j = a) → A6 i j = A i j := fun i j p q => (k6 i j (by omega)).trans (x5 i j p (by omega))
  obtain ⟨A', f1, f2, f3⟩ := cc_join87 (Q := Q) (R := R) ha hh hd zFu 0 A6 (by omega) (by unfold zFu; omega)
  rw [show nI 0 = (0 : Int32) by decide] at f1
  refine ⟨A', f1, ?_, ?_, ?_, ?_, ?_, ?_, fun k hk => ?_, fun i j p q s => (f3 i j (by omega)).trans (x6 i j p q)⟩
  · rw [f3 _ _ (by omega), k6 _ _ (by omega), k5 _ _ (by omega), k4 _ _ (by omega), k3 _ _ (by omega), k2 _ _ (by omega), v1]
  · rw [f3 _ _ (by omega), k6 _ _ (by omega), k5 _ _ (by omega), k4 _ _ (by omega), k3 _ _ (by omega), v2]
  · rw [f3 _ _ (by omega), k6 _ _ (by omega), k5 _ _ (by omega), k4 _ _ (by omega), v3]
  · rw [f3 _ _ (by omega), k6 _ _ (by omega), k5 _ _ (by omega), v4]
  · rw [f3 _ _ (by omega), k6 _ _ (by omega), v5]
  · rw [f3 _ _ (by omega), v6]
  · rw [f2 k (Nat.zero_le k) hk, x6 _ _ (by omega) (by omega)]
/-- an applicant, gathered but not closed -/
def rawC (Q : Nat) (A : zMt) (r g : Nat → Int32) (H a : Nat) : Prop := A (Q + 9) a = bv r H a H ∧ A (Q + 10) a = (if a < fr r H then -1 else nI (a - fr r H)) ∧ (∀ base, isBase r H a base → wsC Q A r a base) ∧ A (Q + 5) a = sN r H a ∧ A (Q + 6) a = sG g r H a ∧ A (Q + 7) a = sm r r H a H ∧ (∀ h, memb r H a h → A (Q + 4) h = nI a)
theorem wsC.k {Q : Nat} {A A' : zMt} {r : Nat → Int32} {a base : Nat} (w : wsC Q A r a base) (k1 : A' (Q + 11) a = A (Q + 11) a) (k2 : ∀ j, 3 * a ≤ j → j < 3 * a + 3 → A' (Q + 12) j = A (Q + 12) j) : wsC Q A' r a base := by
  obtain ⟨c, h1, h2, h3, h4⟩ := w
  exact ⟨c, h1, k1.trans h2, fun k hk => (k2 _ (by omega) (by omega)).trans (h3 k hk), h4⟩
theorem rawC.k {Q : Nat} {A A' : zMt} {r g : Nat → Int32} {H a : Nat} (w : rawC Q A r g H a) (k1 : ∀ i, Q + 5 ≤ i → i ≤ Q + 11 → A' i a = A i a) (k2 : ∀ j, 3 * a ≤ j → j < 3 * a + 3 → A' (Q + 12) j = A (Q + 12) j) (k3 : ∀ h, memb r H a h → A' (Q + 4) h = A (Q + 4) h) : rawC Q A' r g H a := by
  obtain ⟨h1, h2, h3, h4, h5, h6, h7⟩ := w
  exact ⟨(k1 _ (by omega) (by omega)).trans h1, (k1 _ (by omega) (by omega)).trans h2, fun base hb => (h3 base hb).k (k1 _ (by omega) (by omega)) k2, (k1 _ (by omega) (by omega)).trans h4, (k1 _ (by omega) (by omega)).trans h5, (k1 _ (by omega) (by omega)).trans h6, fun h hm => (k3 h hm).trans (h7 h hm)⟩
theorem wsR.c {Q R : Nat} {A A' : zMt} {r : Nat → Int32} {h a base : Nat} (w : wsR R A r h base) (k1 : A' (Q + 11) a = A (R + 5) h) (k2 : ∀ k, k < 3 → A' (Q + 12) (3 * a + k) = A (R + 6) (3 * h + k)) : wsC Q A' r a base := by
  obtain ⟨c, h1, h2, h3, h4⟩ := w
  exact ⟨c, h1, k1.trans h2, fun k hk => (k2 k hk).trans (h3 k hk), h4⟩
/-- one hunter stands in one applicant -/
theorem memb_one {r : Nat → Int32} {H a b h : Nat} (ha : memb r H a h) (hb : memb r H b h) (hA : a < fr r H + 4) (hB : b < fr r H + 4) : a = b := by
  obtain ⟨h1, p⟩ := ha
  obtain ⟨_, q⟩ := hb
  rcases p with ⟨p1, p2⟩ | ⟨p1, p2⟩
  · rcases q with ⟨q1, q2⟩ | ⟨q1, q2⟩
    · omega
    · rw [p1] at q2
      exact absurd q2.symm (nI_ne (by omega))
  · rcases q with ⟨q1, q2⟩ | ⟨q1, q2⟩
    · rw [q1] at p2
      exact absurd p2.symm (nI_ne (by omega))
    · rw [p2] at q2
      have := nI_inj (by omega) (by omega) q2
      omega
theorem sm_1 {f r : Nat → Int32} {H h : Nat} (hh : h < H) (e : r (10 + h) = -1) : sm f r H (fr r h) H = f h := by rw [sm_free hh e H (Nat.le_refl H), if_pos hh]
/-- the free hunters -/
theorem cc_g12 {Q R U H G : Nat} {r g : Nat → Int32} (hd : R + 8 ≤ Q ∨ Q + 13 ≤ R) (hH : H ≤ 10) : ∀ (u k : Nat) (A : zMt), gR R A r g U H G → A Q 1 = nI (fr r k) → k ≤ H → H - k < u → (∀ a, a < fr r k → rawC Q A r g H a) → ∃ A', D_X2_gather_12 Q R u (nI k) A = D_X2_gather_51 Q R zFu (0 : Int32) A' ∧ A' Q 1 = nI (fr r H) ∧ (∀ a, a < fr r H → rawC Q A' r g H a) ∧ (∀ i j, ¬ (i = Q ∧ j = 1) → ¬ (Q + 4 ≤ i ∧ i ≤ Q + 12) → A' i j = A i j) := by
  intro u
  induction u with
  | zero => intro k A _ _ _ h; omega
  | succ u ih =>
    intro k A w h1 hk hu hA
    have hle := fr_le r k
    have w0 := w
    obtain ⟨⟨c1, c2, c3, c4, c5, c6, c7⟩, r1, r2, r3, r4, r5, r6, r9, s, u3⟩ := w
    rw [D_X2_gather_12, c5]
    by_cases hc : H ≤ k
    · have : k = H := by omega
      subst this
      rw [if_pos (by exact (nI_leI (by omega) (by omega)).mpr hc)]
      exact ⟨A, rfl, h1, hA, fun _ _ _ _ => rfl⟩
    · have efr : fr r (k + 1) = fr r k + (if r (10 + k) = -1 then 1 else 0) := rfl
      rw [if_neg (by intro z; exact hc ((nI_leI (by omega) (by omega)).mp z)), zrd_nI (show k < 10 by omega) (by decide), (r4 k (by omega)).1]
      by_cases q : r (10 + k) = -1
      · rw [if_pos q]
        obtain ⟨A1, f1, f2, f3, f4, f5, f6, f7, f8⟩ := cc_open (Q := Q) (n := fr r k) (A := A) (v := -1) (by omega) h1
        rw [zB_s f1]
        obtain ⟨A2, e1, e2, e3, e4, e5, e6, e7, e8, e9⟩ := cc_join (Q := Q) (R := R) (a := fr r k) (h := k) (A := A1) (by omega) (by omega) f2 hd
        rw [zB_s e1]
        unfold D_X2_gather_43
        rw [nI_add1]
        have fr1 : ∀ i j, R ≤ i → i < R + 8 → A1 i j = A i j := fun i j h2 h3 => f8 i j (by omega) (by omega)
        have fr2 : ∀ i j, R ≤ i → i < R + 8 → A2 i j = A i j := fun i j h2 h3 => (e9 i j (by omega) (by omega) (by omega)).trans (fr1 i j h2 h3)
        have hlt := fr_lt (show k < H by omega) q
        have kk : ∀ i j, ¬ (i = Q ∧ j = 1) → ¬ (Q + 4 ≤ i ∧ i ≤ Q + 12) → A2 i j = A i j := fun i j p s => (e9 i j (by omega) (by omega) (by omega)).trans (f8 i j p (by omega))
        have new : rawC Q A2 r g H (fr r k) := by
          refine ⟨?_, ?_, fun base hb => ?_, ?_, ?_, ?_, fun h hm => ?_⟩
          · rw [e6, f6, bv_free hH (by omega) q H (Nat.le_refl H), if_pos (by omega), Int32.zero_add]
          · rw [e9 _ _ (by omega) (by omega) (by omega), f7, if_pos hlt]
          · have hb' : base = 20 + 3 * k := by
              rcases hb with ⟨h', h2, h3, h4, h5⟩ | ⟨h2, _⟩
              · rw [h5, fr_inj h3 q h4]
              · omega
            rw [hb']
            exact (r5 k (by omega) ((r4 k (by omega)).1.trans q)).c (e7.trans (fr1 _ _ (by omega) (by omega))) (fun x hx => (e8 x hx).trans (fr1 _ _ (by omega) (by omega)))
          · rw [e3, f3]
            unfold sN
            rw [sm_1 (by omega) q, Int32.zero_add]
          · rw [e4, f4, fr1 _ _ (by omega) (by omega), (r3 k (by omega)).1]
            unfold sG
            rw [sm_1 (by omega) q, Int32.zero_add]
          · rw [e5, f5, fr1 _ _ (by omega) (by omega), r2 k (by omega), sm_1 (by omega) q, Int32.zero_add]
          · rw [(memb_free (by omega) q).mp hm]
            exact e2
        obtain ⟨A', g1, g2, g3, g4⟩ := ih (k + 1) A2 (w0.m fr2 (fun _ _ => rfl) (fun _ _ => rfl)) (by rw [efr, if_pos q, e9 _ _ (by omega) (by omega) (by omega)]; exact f2) (by omega) (by omega) (fun a ha => by
          rw [efr, if_pos q] at ha
          by_cases z : a = fr r k
          · rw [z]; exact new
          · refine (hA a (by omega)).k (fun i h2 h3 => (e9 i a (by omega) (by omega) (by omega)).trans (f8 i a (by omega) (by omega))) (fun j h2 h3 => (e9 _ j (by omega) (by omega) (by omega)).trans (f8 _ j (by omega) (by omega))) (fun h hm => ?_)
            have hne : ¬ h = k := fun y => by
              rw [y] at hm
              exact z (memb_one hm ((memb_free (by omega) q).mpr rfl) (by omega) (by omega))
            exact (e9 _ h (by omega) (by omega) (by omega)).trans (f8 _ h (by omega) (by omega)))
        exact ⟨A', g1, g2, g3, fun i j p s => (g4 i j p s).trans (kk i j p s)⟩
      · rw [if_neg q]
        unfold D_X2_gather_43
        rw [nI_add1]
        exact ih (k + 1) A w0 (by rw [efr, if_neg q]; exact h1) (by omega) (by omega) (fun a ha => by
          rw [efr, if_neg q] at ha
          exact hA a ha)
/-- one party -/
def rawP (Q : Nat) (A : zMt) (r g : Nat → Int32) (H a k : Nat) : Prop := A (Q + 9) a = bv r H a k ∧ A (Q + 10) a = nI (a - fr r H) ∧ ((∃ h, h < k ∧ memb r H a h) → wsC Q A r a (50 + 3 * (a - fr r H))) ∧ A (Q + 5) a = sm (fun _ => 1) r H a k ∧ A (Q + 6) a = sm g r H a k ∧ A (Q + 7) a = sm r r H a k ∧ (∀ h, h < k → memb r H a h → A (Q + 4) h = nI a)
theorem cc_g66 {Q R U H G p : Nat} {r g : Nat → Int32} {k51 : Int32 → zMt → Option zMt} (hd : R + 8 ≤ Q ∨ Q + 13 ≤ R) (hH : H ≤ 10) (hp : p < G) (hFp : fr r H + p < 10) : ∀ (u k : Nat) (A : zMt), gR R A r g U H G → A Q 1 = nI (fr r H + p + 1) → k ≤ H → H - k < u → (∀ a, a < fr r H + p → rawC Q A r g H a) → rawP Q A r g H (fr r H + p) k → ∃ A', D_X2_gather_66 Q R k51 u (nI p) (nI k) A = k51 (nI (p + 1)) A' ∧ A' Q 1 = nI (fr r H + p + 1) ∧ (∀ a, a < fr r H + p → rawC Q A' r g H a) ∧ rawP Q A' r g H (fr r H + p) H ∧ (∀ i j, ¬ (i = Q ∧ j = 1) → ¬ (Q + 4 ≤ i ∧ i ≤ Q + 12) → A' i j = A i j) := by
  intro u
  induction u with
  | zero => intro k A _ _ _ h; omega
  | succ u ih =>
    intro k A w h1 hk hu hA hP
    have w0 := w
    have hP0 := hP
    obtain ⟨⟨c1, c2, c3, c4, c5, c6, c7⟩, r1, r2, r3, r4, r5, r6, r9, s, u3⟩ := w
    obtain ⟨p1, p2, p3, p4, p5, p6, p7⟩ := hP
    rw [D_X2_gather_66, c5]
    by_cases hc : H ≤ k
    · have : k = H := by omega
      subst this
      rw [if_pos (by exact (nI_leI (by omega) (by omega)).mpr hc), nI_add1]
      exact ⟨A, rfl, h1, hA, hP0, fun _ _ _ _ => rfl⟩
    · have hm : memb r H (fr r H + p) k ↔ r (10 + k) = nI p := memb_party (by omega) (by omega)
      rw [if_neg (by intro z; exact hc ((nI_leI (by omega) (by omega)).mp z)), zrd_nI (show k < 10 by omega) (by decide), (r4 k (by omega)).1]
      have b1 : bv r H (fr r H + p) (k + 1) = if memb r H (fr r H + p) k then bv r H (fr r H + p) k ||| ((1 : Int32) <<< (nI k &&& 31)) else bv r H (fr r H + p) k := rfl
      have b2 : ∀ f : Nat → Int32, sm f r H (fr r H + p) (k + 1) = if memb r H (fr r H + p) k then sm f r H (fr r H + p) k + f k else sm f r H (fr r H + p) k := fun _ => rfl
      by_cases q : r (10 + k) = nI p
      · rw [if_pos q]
        obtain ⟨A2, e1, e2, e3, e4, e5, e6, e7, e8, e9⟩ := cc_join (Q := Q) (R := R) (a := fr r H + p) (h := k) (A := A) (by omega) (by omega) h1 hd
        rw [zB_s e1]
        unfold D_X2_gather_92
        rw [nI_add1]
        have hmk := hm.mpr q
        have fr2 : ∀ i j, R ≤ i → i < R + 8 → A2 i j = A i j := fun i j h2 h3 => e9 i j (by omega) (by omega) (by omega)
        have kk : ∀ i j, ¬ (i = Q ∧ j = 1) → ¬ (Q + 4 ≤ i ∧ i ≤ Q + 12) → A2 i j = A i j := fun i j p s => e9 i j (by omega) (by omega) (by omega)
        have sb : fr r H + p - fr r H = p := by omega
        obtain ⟨A', g1, g2, g3, g4, g5⟩ := ih (k + 1) A2 (w0.m fr2 (fun _ _ => rfl) (fun _ _ => rfl)) ((e9 _ _ (by omega) (by omega) (by omega)).trans h1) (by omega) (by omega) (fun a ha => by
          refine (hA a ha).k (fun i h2 h3 => e9 i a (by omega) (by omega) (by omega)) (fun j h2 h3 => e9 _ j (by omega) (by omega) (by omega)) (fun h hmh => ?_)
          have hne : ¬ h = k := fun y => by
            rw [y] at hmh
            have := memb_one hmh hmk (by omega) (by omega)
            omega
          exact e9 _ h (by omega) (by omega) (by omega)) ⟨by rw [e6, p1, b1, if_pos hmk, bv_add (by omega)], (e9 _ _ (by omega) (by omega) (by omega)).trans p2, fun _ => by
            rw [sb]
            exact (r6 k p (by omega) hp ((r4 k (by omega)).1.trans q)).c e7 e8, by rw [e3, p4, b2, if_pos hmk], by rw [e4, p5, (r3 k (by omega)).1, b2, if_pos hmk], by rw [e5, p6, r2 k (by omega), b2, if_pos hmk], fun h hh hmh => by
            by_cases y : h = k
            · rw [y]; exact e2
            · exact (e9 _ h (by omega) (by omega) (by omega)).trans (p7 h (by omega) hmh)⟩
        exact ⟨A', g1, g2, g3, g4, fun i j p s => (g5 i j p s).trans (kk i j p s)⟩
      · rw [if_neg q]
        unfold D_X2_gather_92
        rw [nI_add1]
        have hmk : ¬ memb r H (fr r H + p) k := fun z => q (hm.mp z)
        exact ih (k + 1) A w0 h1 (by omega) (by omega) hA ⟨by rw [p1, b1, if_neg hmk], p2, fun ⟨h, h2, h3⟩ => p3 ⟨h, by
          by_cases y : h = k
          · rw [y] at h3; exact absurd h3 hmk
          · omega, h3⟩, by rw [p4, b2, if_neg hmk], by rw [p5, b2, if_neg hmk], by rw [p6, b2, if_neg hmk], fun h hh hmh => p7 h (by
          by_cases y : h = k
          · rw [y] at hmh; exact absurd hmh hmk
          · omega) hmh⟩
/-- the parties -/
theorem cc_g51 {Q R U H G : Nat} {r g : Nat → Int32} (hd : R + 8 ≤ Q ∨ Q + 13 ≤ R) (hH : H ≤ 10) (hG : G ≤ 4) (hFG : fr r H + G ≤ 10) : ∀ (u p : Nat) (A : zMt), gR R A r g U H G → A Q 1 = nI (fr r H + p) → p ≤ G → G - p < u → (∀ a, a < fr r H + p → rawC Q A r g H a) → ∃ A', D_X2_gather_51 Q R u (nI p) A = D_X2_gather_111 Q R zFu (0 : Int32) (zu A' Q 2 (0 : Int32)) ∧ A' Q 1 = nI (fr r H + G) ∧ (∀ a, a < fr r H + G → rawC Q A' r g H a) ∧ (∀ i j, ¬ (i = Q ∧ j = 1) → ¬ (Q + 4 ≤ i ∧ i ≤ Q + 12) → A' i j = A i j) := by
  intro u
  induction u with
  | zero => intro p A _ _ _ h; omega
  | succ u ih =>
    intro p A w h1 hp hu hA
    have w0 := w
    obtain ⟨⟨c1, c2, c3, c4, c5, c6, c7⟩, r1, r2, r3, r4, r5, r6, r9, s, u3⟩ := w
    rw [D_X2_gather_51, c6]
    by_cases hc : G ≤ p
    · have : p = G := by omega
      subst this
      rw [if_pos (by exact (nI_leI (by omega) (by omega)).mpr hc), zLt_eq]
      exact ⟨A, rfl, h1, hA, fun _ _ _ _ => rfl⟩
    · rw [if_neg (by intro z; exact hc ((nI_leI (by omega) (by omega)).mp z))]
      obtain ⟨A1, f1, f2, f3, f4, f5, f6, f7, f8⟩ := cc_open (Q := Q) (n := fr r H + p) (A := A) (v := nI p) (by omega) h1
      rw [zB_s f1]
      have fr1 : ∀ i j, R ≤ i → i < R + 8 → A1 i j = A i j := fun i j h2 h3 => f8 i j (by omega) (by omega)
      obtain ⟨A2, e1, e2, e3, e4, e5⟩ := cc_g66 (k51 := D_X2_gather_51 Q R u) hd hH (show p < G by omega) (by omega) zFu 0 A1 (w0.m fr1 (fun _ _ => rfl) (fun _ _ => rfl)) f2 (by omega) (by unfold zFu; omega) (fun a ha => (hA a ha).k (fun i h2 h3 => f8 i a (by omega) (by omega)) (fun j h2 h3 => f8 _ j (by omega) (by omega)) (fun h _ => f8 _ h (by omega) (by omega))) ⟨f6, by rw [f7, show fr r H + p - fr r H = p by omega], fun ⟨h, h2, _⟩ => absurd h2 (Nat.not_lt_zero h), f3, f4, f5, fun h hh _ => absurd hh (Nat.not_lt_zero h)⟩
      rw [show nI 0 = (0 : Int32) by decide] at e1
      rw [e1]
      have k2 : ∀ i j, ¬ (i = Q ∧ j = 1) → ¬ (Q + 4 ≤ i ∧ i ≤ Q + 12) → A2 i j = A i j := fun i j p s => (e5 i j p s).trans (f8 i j p (by omega))
      have new : rawC Q A2 r g H (fr r H + p) := by
        obtain ⟨q1, q2, q3, q4, q5, q6, q7⟩ := e4
        refine ⟨q1, by rw [q2, if_neg (by omega)], fun base hb => ?_, q4, q5, q6, fun h hm => q7 h hm.1 hm⟩
        have hb' : base = 50 + 3 * (fr r H + p - fr r H) := by
          rcases hb with ⟨h', h2, h3, h4, h5⟩ | ⟨_, h2⟩
          · have := fr_lt h2 h3
            omega
          · exact h2
        rw [hb']
        obtain ⟨h, hh, he⟩ := r9 p (by omega)
        exact q3 ⟨h, hh, (memb_party (by omega) hh).mpr (((r4 h (by omega)).1).symm.trans he)⟩
      obtain ⟨A', g1, g2, g3, g4⟩ := ih (p + 1) A2 (w0.m (fun i j h2 h3 => k2 i j (by omega) (by omega)) (fun _ _ => rfl) (fun _ _ => rfl)) (by rw [e2]; rfl) (by omega) (by omega) (fun a ha => by
        by_cases z : a = fr r H + p
        · rw [z]; exact new
        · exact e3 a (by omega))
      exact ⟨A', g1, g2, g3, fun i j p s => (g4 i j p s).trans (k2 i j p s)⟩
/-- closed -/
theorem cc_close {Q a : Nat} {A : zMt} {r : Nat → Int32} {H : Nat} (ha : a < 10) (hn : A (Q + 5) a = sN r H a) (hs : A (Q + 7) a = sm r r H a H) (hne : ¬ sN r H a = 0) (hlaw : r 67 = 0 ∨ r 67 = 1 ∨ r 67 = 2) : ∃ A', D_X2_close Q (nI a) (r 67) A = some A' ∧ A' (Q + 7) a = sP r H a ∧ A' (Q + 8) a = sT r H a ∧ (∀ i j, ¬ ((i = Q + 7 ∨ i = Q + 8) ∧ j = a) → A' i j = A i j) := by
  unfold D_X2_close
  rw [zrd_nI ha (by decide), zrd_nI ha (by decide), hn, hs, if_neg hne]
  unfold zZ
  rw [if_neg hne]
  unfold D_X2_close_27
  rw [zwr_nI ha (by decide), zLt_eq]
  have ep : sm r r H a H / sN r H a = sP r H a := rfl
  rw [ep]
  have fin : ∀ v : Int32, v = sT r H a → ∃ A', D_X2_close_72 Q (nI a) v (zu A (Q + 7) a (sP r H a)) = some A' ∧ A' (Q + 7) a = sP r H a ∧ A' (Q + 8) a = sT r H a ∧ (∀ i j, ¬ ((i = Q + 7 ∨ i = Q + 8) ∧ j = a) → A' i j = A i j) := fun v hv => by
    unfold D_X2_close_72
    rw [zwr_nI ha (by decide), zLt_eq]
    exact ⟨_, rfl, (zu_ne (by omega)).trans zu_eq, zu_eq.trans hv, fun i j h => (zu_ne (by omega)).trans (zu_ne (by omega))⟩
  rcases hlaw with z | z | z
  · rw [if_neg (by rw [z]; decide), if_neg (by rw [z]; decide)]
    exact fin _ (by unfold sT; rw [if_pos z])
  · rw [if_neg (by rw [z]; decide), if_pos z]
    exact fin _ (by unfold sT; rw [if_neg (by rw [z]; decide), if_pos z])
  · rw [if_pos z]
    exact fin _ (by unfold sT; rw [if_neg (by rw [z]; decide), if_neg (by rw [z]; decide)])
theorem cc_g111 {Q R H T : Nat} {r g : Nat → Int32} (hd : R + 8 ≤ Q ∨ Q + 13 ≤ R) (hT : T ≤ 10) (hlaw : r 67 = 0 ∨ r 67 = 1 ∨ r 67 = 2) (hne : ∀ a, a < T → ¬ sN r H a = 0) : ∀ (u i : Nat) (A : zMt), A R 3 = r 67 → A Q 1 = nI T → A Q 2 = sTs r H i → i ≤ T → T - i < u → (∀ a, i ≤ a → a < T → rawC Q A r g H a) → (∀ a, a < i → A (Q + 9) a = bv r H a H ∧ A (Q + 10) a = (if a < fr r H then -1 else nI (a - fr r H)) ∧ (∀ base, isBase r H a base → wsC Q A r a base) ∧ A (Q + 5) a = sN r H a ∧ A (Q + 6) a = sG g r H a ∧ A (Q + 7) a = sP r H a ∧ A (Q + 8) a = sT r H a ∧ (∀ h, memb r H a h → A (Q + 4) h = nI a)) → ∃ A', D_X2_gather_111 Q R u (nI i) A = some A' ∧ A' Q 1 = nI T ∧ A' Q 2 = sTs r H T ∧ (∀ a, a < T → A' (Q + 9) a = bv r H a H ∧ A' (Q + 10) a = (if a < fr r H then -1 else nI (a - fr r H)) ∧ (∀ base, isBase r H a base → wsC Q A' r a base) ∧ A' (Q + 5) a = sN r H a ∧ A' (Q + 6) a = sG g r H a ∧ A' (Q + 7) a = sP r H a ∧ A' (Q + 8) a = sT r H a ∧ (∀ h, memb r H a h → A' (Q + 4) h = nI a)) ∧ (∀ i j, ¬ (i = Q ∧ j = 2) → ¬ (Q + 7 ≤ i ∧ i ≤ Q + 8) → A' i j = A i j) := by
  intro u
  induction u with
  | zero => intro i A _ _ _ _ h; omega
  | succ u ih =>
    intro i A h3 h1 h2 hi hu hr hv
    rw [D_X2_gather_111, h1]
    by_cases hc : T ≤ i
    · have : i = T := by omega
      subst this
      rw [if_pos (by exact (nI_leI (by omega) (by omega)).mpr hc)]
      exact ⟨A, rfl, h1, h2, hv, fun _ _ _ _ => rfl⟩
    · rw [if_neg (by intro z; exact hc ((nI_leI (by omega) (by omega)).mp z)), h3]
      obtain ⟨q1, q2, q3, q4, q5, q6, q7⟩ := hr i (Nat.le_refl i) (by omega)
      obtain ⟨A1, e1, e2, e3, e4⟩ := cc_close (Q := Q) (a := i) (A := A) (r := r) (H := H) (by omega) q4 q6 (hne i (by omega)) hlaw
      rw [zB_s e1, zrd_nI (show i < 10 by omega) (by decide), e3, e4 Q 2 (by omega), h2, zLt_eq, nI_add1]
      have k1 : ∀ x j, ¬ (x = Q ∧ j = 2) → ¬ ((x = Q + 7 ∨ x = Q + 8) ∧ j = i) → zu A1 Q 2 (sTs r H i + sT r H i) x j = A x j := fun x j p q => (zu_ne p).trans (e4 x j q)
      obtain ⟨A', f1, f2, f3, f4, f5⟩ := ih (i + 1) (zu A1 Q 2 (sTs r H i + sT r H i)) ((k1 _ _ (by omega) (by omega)).trans h3) ((k1 _ _ (by omega) (by omega)).trans h1) zu_eq (by omega) (by omega) (fun a h4 h5 => (hr a (by omega) h5).k (fun x _ _ => k1 x a (by omega) (by omega)) (fun j _ _ => k1 _ j (by omega) (by omega)) (fun h _ => k1 _ h (by omega) (by omega))) (fun a ha => by
        by_cases z : a = i
        · subst z
          refine ⟨(k1 _ _ (by omega) (by omega)).trans q1, (k1 _ _ (by omega) (by omega)).trans q2, fun base hb => (q3 base hb).k (k1 _ _ (by omega) (by omega)) (fun j _ _ => k1 _ j (by omega) (by omega)), (k1 _ _ (by omega) (by omega)).trans q4, (k1 _ _ (by omega) (by omega)).trans q5, (zu_ne (by omega)).trans e2, (zu_ne (by omega)).trans e3, fun h hm => (k1 _ _ (by omega) (by omega)).trans (q7 h hm)⟩
        · obtain ⟨v1, v2, v3, v4, v5, v6, v7, v8⟩ := hv a (by omega)
          refine ⟨(k1 _ _ (by omega) (by omega)).trans v1, (k1 _ _ (by omega) (by omega)).trans v2, fun base hb => (v3 base hb).k (k1 _ _ (by omega) (by omega)) (fun j _ _ => k1 _ j (by omega) (by omega)), (k1 _ _ (by omega) (by omega)).trans v4, (k1 _ _ (by omega) (by omega)).trans v5, (k1 _ _ (by omega) (by omega)).trans v6, (k1 _ _ (by omega) (by omega)).trans v7, fun h hm => (k1 _ _ (by omega) (by omega)).trans (v8 h hm)⟩)
      exact ⟨A', f1, f2, f3, f4, fun x j p s => (f5 x j p s).trans (k1 x j p (by omega))⟩
/-- all of it -/
theorem cc_gather {Q R U H G : Nat} {A : zMt} {r g : Nat → Int32} (w : gR R A r g U H G) (hd : R + 8 ≤ Q ∨ Q + 13 ≤ R) (hFG : fr r H + G ≤ 10) (hlaw : r 67 = 0 ∨ r 67 = 1 ∨ r 67 = 2) (hne : ∀ a, a < fr r H + G → ¬ sN r H a = 0) : ∃ A', D_X2_gather Q R A = some A' ∧ cU Q A' r U ∧ cL Q A' r g H G ∧ (∀ i j, (i < Q ∨ Q + 13 ≤ i) → A' i j = A i j) := by
  have w0 := w
  obtain ⟨⟨c1, c2, c3, c4, c5, c6, c7⟩, r1, r2, r3, r4, r5, r6, r9, s, u3⟩ := w
  unfold D_X2_gather
  obtain ⟨A1, f1, f2, f3⟩ := cc_gunits w0 hd
  rw [zB_s f1, zLt_eq]
  have k1 : ∀ i j, ¬ (i = Q ∧ j = 1) → zu A1 Q 1 (0 : Int32) i j = A1 i j := fun i j h => zu_ne h
  have k2 : ∀ i j, ¬ i = Q → ¬ (Q + 1 ≤ i ∧ i ≤ Q + 3) → zu A1 Q 1 (0 : Int32) i j = A i j := fun i j h h' => (k1 i j (by omega)).trans (f3 i j (by omega) h')
  have w1 := w0.m (A' := zu A1 Q 1 (0 : Int32)) (fun i j h2 h3 => k2 i j (by omega) (by omega)) (fun _ _ => rfl) (fun _ _ => rfl)
  obtain ⟨A2, g1, g2, g3, g4⟩ := cc_g12 (r := r) (g := g) hd c2 zFu 0 (zu A1 Q 1 (0 : Int32)) w1 (zu_eq.trans (show (0 : Int32) = nI 0 by decide)) (by omega) (by unfold zFu; omega) (fun a ha => absurd ha (Nat.not_lt_zero a))
  rw [show nI 0 = (0 : Int32) by decide] at g1
  rw [g1]
  have w2 := w1.m (A' := A2) (fun i j h2 h3 => g4 i j (by omega) (by omega)) (fun _ _ => rfl) (fun _ _ => rfl)
  obtain ⟨A3, i1, i2, i3, i4⟩ := cc_g51 (r := r) (g := g) hd c2 c3 hFG zFu 0 A2 w2 g2 (by omega) (by unfold zFu; omega) g3
  rw [show nI 0 = (0 : Int32) by decide] at i1
  rw [i1]
  have w3 := w2.m (A' := A3) (fun i j h2 h3 => i4 i j (by omega) (by omega)) (fun _ _ => rfl) (fun _ _ => rfl)
  have k3 : ∀ i j, ¬ (i = Q ∧ j = 2) → zu A3 Q 2 (0 : Int32) i j = A3 i j := fun i j h => zu_ne h
  obtain ⟨A4, j1, j2, j3, j4, j5⟩ := cc_g111 (Q := Q) (R := R) (H := H) (T := fr r H + G) (r := r) (g := g) hd hFG hlaw hne zFu 0 (zu A3 Q 2 (0 : Int32)) ((k3 _ _ (by omega)).trans w3.2.2.2.2.2.2.2.2.1.1) ((k3 _ _ (by omega)).trans i2) zu_eq (by omega) (by unfold zFu; omega) (fun a _ ha => (i3 a ha).k (fun x _ _ => k3 x a (by omega)) (fun j _ _ => k3 _ j (by omega)) (fun h _ => k3 _ h (by omega))) (fun a ha => absurd ha (Nat.not_lt_zero a))
  rw [show nI 0 = (0 : Int32) by decide] at j1
  have kf : ∀ i j, ¬ (i = Q ∧ (j = 1 ∨ j = 2)) → ¬ (Q + 4 ≤ i ∧ i ≤ Q + 12) → A4 i j = A1 i j := fun i j p q => by
    rw [j5 i j (by omega) (by omega), k3 i j (by omega), i4 i j (by omega) q, g4 i j (by omega) q, k1 i j (by omega)]
  refine ⟨A4, j1, ?_, ⟨j2, j3, j4⟩, fun i j h => (kf i j (by omega) (by omega)).trans (f3 i j (by omega) (by omega))⟩
  obtain ⟨u1, u2, u4⟩ := f2
  refine ⟨(kf _ _ (by omega) (by omega)).trans u1, fun u hu => ?_, ?_⟩
  · rw [kf _ _ (by omega) (by omega), kf _ _ (by omega) (by omega), kf _ _ (by omega) (by omega)]
    exact u2 u hu
  · rcases u4 with ⟨z0, al⟩ | ⟨z1, i0, h1, h2⟩
    · exact Or.inl ⟨(kf _ _ (by omega) (by omega)).trans z0, fun i hi => by rw [kf _ _ (by omega) (by omega)]; exact al i hi⟩
    · exact Or.inr ⟨(kf _ _ (by omega) (by omega)).trans z1, i0, h1, by rw [kf _ _ (by omega) (by omega)]; exact h2⟩
/-! THE POOL'S VIEW: T i j is what the class's pool keeps in its row i; gP says what it can be, mP that the reference has laid the same -/
abbrev tP (Q : Nat) (A : zMt) : zMt := fun i j => A (Q + i) j
/-- small whole numbers -/
def isN (x : Int32) (lo hi : Nat) : Prop := ∃ v : Nat, lo ≤ v ∧ v ≤ hi ∧ x = nI v
theorem isN.i {x : Int32} {lo hi : Nat} (h : isN x lo hi) (hh : hi < 2147483648) : (lo : Int) ≤ x.toInt ∧ x.toInt ≤ hi := by
  obtain ⟨v, h1, h2, h3⟩ := h
  rw [h3, nI_toInt (by omega)]
  omega
theorem isN.of {x : Int32} {lo hi : Nat} (h1 : (lo : Int) ≤ x.toInt) (h2 : x.toInt ≤ hi) : isN x lo hi := by
  have hlt := Int32.toInt_lt x
  refine ⟨x.toInt.toNat, by omega, by omega, Int32.toInt_inj.mp ?_⟩
  rw [nI_toInt (by omega)]
  omega
/-- choices: c of them, units below U, the others none -/
def isW (T : zMt) (a U : Nat) : Prop := ∃ c, c ≤ 3 ∧ T 11 a = nI c ∧ (∀ k, k < c → ∃ u, u < U ∧ T 12 (3 * a + k) = nI u) ∧ (∀ k, c ≤ k → k < 3 → T 12 (3 * a + k) = -1)
def gP (T : zMt) (n U : Nat) : Prop := n ≤ 10 ∧ U ≤ 5 ∧ T 0 1 = nI n ∧ T 0 0 = nI U ∧ (∀ a, a < n → isN (T 5 a) 1 10 ∧ isN (T 7 a) 0 20 ∧ isN (T 8 a) 1 401 ∧ isW T a U) ∧ (T 0 2).toInt = St (T 8) 0 n ∧ ((T 0 3 = 0 ∧ ∀ u, u < U → T 2 u ≤ 0) ∨ (T 0 3 = 1 ∧ ∃ u, u < U ∧ ¬ T 2 u ≤ 0))
def mP (P : Nat) (B : zMt) (T : zMt) (n U : Nat) : Prop := B P 33 = nI n ∧ B P 7 = nI U ∧ (∀ a, a < n → B (P + 11) a = T 9 a ∧ B (P + 12) a = T 10 a ∧ B (P + 14) a = T 5 a ∧ B (P + 15) a = T 6 a ∧ B (P + 16) a = T 7 a ∧ B (P + 17) a = T 8 a ∧ ∃ base, 20 ≤ base ∧ base < 62 ∧ B (P + 13) a = nI base ∧ ∀ k, k < 3 → B (P + 1) (base + k) = T 12 (3 * a + k)) ∧ (∀ u, u < U → B (P + 1) (62 + u) = T 1 u ∧ B (P + 1) (62 + u) * B (P + 1) 68 / 100 = T 2 u ∧ B (P + 1) (62 + u) * B (P + 1) 69 / 100 = T 3 u)
theorem mP.m {P : Nat} {B B' T : zMt} {n U : Nat} (hU5 : U ≤ 5) (w : mP P B T n U) (h0 : B' P 33 = B P 33) (h7 : B' P 7 = B P 7) (h1 : ∀ j, 20 ≤ j → j < 70 → B' (P + 1) j = B (P + 1) j) (k : ∀ i j, P + 11 ≤ i → i ≤ P + 17 → B' i j = B i j) : mP P B' T n U := by
  obtain ⟨w1, w2, w3, w4⟩ := w
  refine ⟨h0.trans w1, h7.trans w2, fun a ha => ?_, fun u hu => ?_⟩
  · obtain ⟨v1, v2, v3, v4, v5, v6, base, b0, b1, b2, b3⟩ := w3 a ha
    exact ⟨(k _ _ (by omega) (by omega)).trans v1, (k _ _ (by omega) (by omega)).trans v2, (k _ _ (by omega) (by omega)).trans v3, (k _ _ (by omega) (by omega)).trans v4, (k _ _ (by omega) (by omega)).trans v5, (k _ _ (by omega) (by omega)).trans v6, base, b0, b1, (k _ _ (by omega) (by omega)).trans b2, fun x hx => (h1 _ (by omega) (by omega)).trans (b3 x hx)⟩
  · rw [h1 (62 + u) (by omega) (by omega), h1 68 (by omega) (by omega), h1 69 (by omega) (by omega)]
    exact w4 u hu
theorem fr_ex {r : Nat → Int32} {a : Nat} : ∀ n, a < fr r n → ∃ h, h < n ∧ r (10 + h) = -1 ∧ fr r h = a
  | 0, ha => absurd ha (Nat.not_lt_zero a)
  | n + 1, ha => by
    have e : fr r (n + 1) = fr r n + (if r (10 + n) = -1 then 1 else 0) := rfl
    by_cases q : a < fr r n
    · obtain ⟨h, h1, h2, h3⟩ := fr_ex n q
      exact ⟨h, by omega, h2, h3⟩
    · by_cases z : r (10 + n) = -1
      · rw [e, if_pos z] at ha
        exact ⟨n, by omega, z, by omega⟩
      · rw [e, if_neg z] at ha
        omega
theorem ap_ex {r : Nat → Int32} {H G a : Nat} (ha : a < fr r H + G) (hG : G ≤ 4) (hp : ∀ p, p < G → ∃ h, h < H ∧ r (10 + h) = nI p) : ∃ h, memb r H a h := by
  by_cases q : a < fr r H
  · obtain ⟨h, h1, h2, h3⟩ := fr_ex H q
    exact ⟨h, h1, Or.inl ⟨h2, h3⟩⟩
  · obtain ⟨h, h1, h2⟩ := hp (a - fr r H) (by omega)
    exact ⟨h, h1, Or.inr ⟨by omega, h2⟩⟩
theorem base_ex {r : Nat → Int32} {H G a : Nat} (hH : H ≤ 10) (ha : a < fr r H + G) (hG : G ≤ 4) : ∃ base, isBase r H a base ∧ 20 ≤ base ∧ base ≤ 59 := by
  by_cases q : a < fr r H
  · obtain ⟨h, h1, h2, h3⟩ := fr_ex H q
    exact ⟨20 + 3 * h, Or.inl ⟨h, h1, h2, h3, rfl⟩, by omega, by omega⟩
  · exact ⟨50 + 3 * (a - fr r H), Or.inr ⟨by omega, rfl⟩, by omega, by omega⟩
theorem base_rng {r : Nat → Int32} {H G a base : Nat} (hH : H ≤ 10) (ha : a < fr r H + G) (hG : G ≤ 4) (hb : isBase r H a base) : 20 ≤ base ∧ base ≤ 59 := by
  rcases hb with ⟨h, h1, h2, h3, h4⟩ | ⟨h1, h2⟩ <;> omega
theorem sm_pts {r : Nat → Int32} {H a : Nat} (hr : ∀ h, h < 10 → 0 ≤ (r h).toInt ∧ (r h).toInt ≤ 20) : ∀ n, n ≤ 10 → 0 ≤ (sm r r H a n).toInt ∧ (sm r r H a n).toInt ≤ 20 * (cnt r H a n)
  | 0, _ => by
    show 0 ≤ (0 : Int32).toInt ∧ (0 : Int32).toInt ≤ 20 * ((0 : Nat) : Int)
    decide
  | n + 1, hn => by
    have ih := sm_pts (H := H) (a := a) hr n (by omega)
    have hc := cnt_le r H a n
    have h0 := hr n (by omega)
    have e1 : sm r r H a (n + 1) = if memb r H a n then sm r r H a n + r n else sm r r H a n := rfl
    have e2 : cnt r H a (n + 1) = if memb r H a n then cnt r H a n + 1 else cnt r H a n := rfl
    rw [e1, e2]
    by_cases q : memb r H a n
    · rw [if_pos q, if_pos q, z_add (by omega) (by omega)]
      omega
    · rw [if_neg q, if_neg q]
      exact ih
theorem sN_rng {r : Nat → Int32} {H a h : Nat} (hm : memb r H a h) (hH : H ≤ 10) : isN (sN r H a) 1 10 := by
  unfold sN
  rw [sm_one]
  have h1 := cnt_pos hm H hm.1
  have h2 := cnt_le r H a H
  exact ⟨_, h1, by omega, rfl⟩
theorem sP_rng {r : Nat → Int32} {H a h : Nat} (hm : memb r H a h) (hH : H ≤ 10) (hr : ∀ h, h < 10 → 0 ≤ (r h).toInt ∧ (r h).toInt ≤ 20) : isN (sP r H a) 0 20 := by
  have h1 := cnt_pos hm H hm.1
  have h2 := cnt_le r H a H
  have h3 := sm_pts (H := H) (a := a) hr H hH
  have e : (sN r H a).toInt = cnt r H a H := by
    unfold sN
    rw [sm_one, nI_toInt (by omega)]
  have := z_div (x := sm r r H a H) (y := sN r H a) (c := 20) h3.1 (by omega) (by rw [e]; exact h3.2) (by omega)
  exact isN.of (by show ((0 : Nat) : Int) ≤ _; exact this.1) this.2
theorem sT_rng {r : Nat → Int32} {H a h : Nat} (hm : memb r H a h) (hH : H ≤ 10) (hr : ∀ h, h < 10 → 0 ≤ (r h).toInt ∧ (r h).toInt ≤ 20) : isN (sT r H a) 1 401 := by
  obtain ⟨p, _, h2, h3⟩ := sP_rng hm hH hr
  have h4 : ∀ p, p ≤ 20 → isN (1 + nI p) 1 401 ∧ isN (1 + nI p * nI p) 1 401 := fun p hp => by
    have e1 : (nI p).toInt = p := nI_toInt (by omega)
    have o1 : (1 : Int32).toInt = 1 := by decide
    have hpp : (p : Int) * (p : Int) ≤ 400 := by
      have := Nat.mul_le_mul hp hp
      have e : ((p * p : Nat) : Int) = (p : Int) * (p : Int) := by exact_mod_cast rfl
      omega
    have hp0 : 0 ≤ (p : Int) * (p : Int) := by
      have e : ((p * p : Nat) : Int) = (p : Int) * (p : Int) := by exact_mod_cast rfl
      omega
    have e2 : (nI p * nI p).toInt = (p : Int) * (p : Int) := by rw [z_mul (by rw [e1]; omega) (by rw [e1]; omega), e1]
    constructor
    · refine isN.of ?_ ?_ <;> rw [z_add (by omega) (by omega), o1, e1] <;> omega
    · refine isN.of ?_ ?_ <;> rw [z_add (by omega) (by omega), o1, e2] <;> omega
  unfold sT
  rw [h3]
  by_cases q0 : r 67 = 0
  · rw [if_pos q0]; exact ⟨1, by omega, by omega, by decide⟩
  · rw [if_neg q0]
    by_cases q1 : r 67 = 1
    · rw [if_pos q1]; exact (h4 p h2).1
    · rw [if_neg q1]; exact (h4 p h2).2
theorem sTs_St {r t : Nat → Int32} {H : Nat} : ∀ n, n ≤ 10 → (∀ a, a < n → t a = sT r H a ∧ isN (t a) 1 401) → (sTs r H n).toInt = St t 0 n
  | 0, _, _ => by show (0 : Int32).toInt = 0; decide
  | n + 1, hn, h => by
    have ih := sTs_St (r := r) (H := H) n (by omega) (fun a ha => h a (by omega))
    obtain ⟨h1, h2⟩ := h n (by omega)
    have h3 := h2.i (by omega)
    have h4 := St_le (t := t) (b := 0) n (fun a ha => by
      have := (h a (by omega)).2.i (by omega)
      omega)
    show (sTs r H n + sT r H n).toInt = St t 0 n + _
    rw [if_neg bit_0, ← h1, z_add (by omega) (by omega), ih]
theorem St_congr {t t' : Nat → Int32} {b : Int32} : ∀ n, (∀ a, a < n → t a = t' a) → St t b n = St t' b n
  | 0, _ => rfl
  | n + 1, h => by
    show St t b n + _ = St t' b n + _
    rw [St_congr n (fun a ha => h a (by omega)), h n (by omega)]
theorem t_view {Q U H G : Nat} {A : zMt} {r g : Nat → Int32} (hH : H ≤ 10) (hG : G ≤ 4) (hU : U ≤ 5) (hFG : fr r H + G ≤ 10) (hR : jRow r U H) (hp : ∀ p, p < G → ∃ h, h < H ∧ r (10 + h) = nI p) (cu : cU Q A r U) (cl : cL Q A r g H G) : gP (tP Q A) (fr r H + G) U := by
  obtain ⟨u1, u2, u3⟩ := cu
  obtain ⟨l1, l2, l3⟩ := cl
  have hT : ∀ a, a < fr r H + G → isN (sT r H a) 1 401 := fun a ha => by
    obtain ⟨h, hm⟩ := ap_ex ha hG hp
    exact sT_rng hm hH hR.1
  refine ⟨hFG, hU, l1, u1, fun a ha => ?_, ?_, u3⟩
  · obtain ⟨h, hm⟩ := ap_ex ha hG hp
    obtain ⟨q1, q2, q3, q4, q5, q6, q7, q8⟩ := l3 a ha
    refine ⟨?_, ?_, ?_, ?_⟩
    · show isN (A (Q + 5) a) 1 10
      rw [q4]; exact sN_rng hm hH
    · show isN (A (Q + 7) a) 0 20
      rw [q6]; exact sP_rng hm hH hR.1
    · show isN (A (Q + 8) a) 1 401
      rw [q7]; exact hT a ha
    · obtain ⟨base, b1, b2, b3⟩ := base_ex hH ha hG
      obtain ⟨c, c1, c2, c3, c4⟩ := q3 base b1
      refine ⟨c, c1, c2, fun k hk => ?_, fun k hk hk3 => ?_⟩
      · have h1 := hR.2.2.1 (base + k) (by omega) (by omega)
        have h2 := (c4 k (by omega)).mp hk
        have h3 : ¬ (r (base + k)).toInt = -1 := fun z => h2 (Int32.toInt_inj.mp (by rw [z]; decide))
        obtain ⟨v, v1, v2, v3⟩ := isN.of (x := r (base + k)) (lo := 0) (hi := U - 1) (by show ((0 : Nat) : Int) ≤ _; omega) (by omega)
        exact ⟨v, by omega, (c3 k (by omega)).trans v3⟩
      · show A (Q + 12) (3 * a + k) = -1
        rw [c3 k hk3]
        by_cases z : r (base + k) = -1
        · exact z
        · have := (c4 k hk3).mpr z
          omega
  · show (A Q 2).toInt = St (A (Q + 8)) 0 (fr r H + G)
    rw [l2]
    exact sTs_St _ hFG (fun a ha => ⟨(l3 a ha).2.2.2.2.2.2.1, by rw [(l3 a ha).2.2.2.2.2.2.1]; exact hT a ha⟩)
theorem t_view8 {Q P U H G : Nat} {A B : zMt} {r g : Nat → Int32} (hH : H ≤ 10) (hG : G ≤ 4) (cu : cU Q A r U) (cl : cL Q A r g H G) (hU : U ≤ 5) (ml : mL P B r g H G) (hr : ∀ j, j < 82 → B (P + 1) j = r j) (h7 : B P 7 = nI U) : mP P B (tP Q A) (fr r H + G) U := by
  obtain ⟨u1, u2, u3⟩ := cu
  obtain ⟨l1, l2, l3⟩ := cl
  obtain ⟨m1, m2⟩ := ml
  refine ⟨m1, h7, fun a ha => ?_, fun u hu => ?_⟩
  · obtain ⟨q1, q2, q3, q4, q5, q6, q7, q8⟩ := l3 a ha
    obtain ⟨p1, p2, ⟨base, b1, b2, b3⟩, p4, p5, p6, p7⟩ := m2 a ha
    refine ⟨p1.trans q1.symm, p2.trans q2.symm, p4.trans q4.symm, p5.trans q5.symm, p6.trans q6.symm, p7.trans q7.symm, base, (base_rng hH ha hG b1).1, b2, b3, fun k hk => ?_⟩
    obtain ⟨c, c1, c2, c3, c4⟩ := q3 base b1
    rw [hr _ (by omega)]
    exact (c3 k hk).symm
  · obtain ⟨v1, v2, v3⟩ := u2 u hu
    rw [hr _ (by omega), hr 68 (by omega), hr 69 (by omega)]
    exact ⟨v1.symm, v2.symm, v3.symm⟩
/-- which applicant a hunter stands in -/
def aOf (T : zMt) (h : Nat) : Nat := (T 4 h).toNatClampNeg
def gH (T : zMt) (n H : Nat) : Prop := ∀ h, h < H → aOf T h < n ∧ T 4 h = nI (aOf T h) ∧ ∀ b, b < n → (bitAt (T 9 b) h ↔ b = aOf T h)
theorem t_viewH {Q U H G : Nat} {A : zMt} {r g : Nat → Int32} (hH : H ≤ 10) (hG : G ≤ 4) (hFG : fr r H + G ≤ 10) (hr : ∀ h, h < H → r (10 + h) = -1 ∨ ∃ p, p < G ∧ r (10 + h) = nI p) (cl : cL Q A r g H G) : gH (tP Q A) (fr r H + G) H := by
  obtain ⟨l1, l2, l3⟩ := cl
  intro h hh
  have hex : ∃ a, a < fr r H + G ∧ memb r H a h := by
    rcases hr h hh with z | ⟨p, hp, z⟩
    · have := fr_lt hh z
      exact ⟨fr r h, by omega, hh, Or.inl ⟨z, rfl⟩⟩
    · exact ⟨fr r H + p, by omega, (memb_party (by omega) hh).mpr z⟩
  obtain ⟨a, ha, hm⟩ := hex
  have e4 : A (Q + 4) h = nI a := (l3 a ha).2.2.2.2.2.2.2 h hm
  have ea : aOf (tP Q A) h = a := by
    show (A (Q + 4) h).toNatClampNeg = a
    rw [e4, nI_clamp (by omega)]
  rw [ea]
  refine ⟨ha, e4, fun b hb => ?_⟩
  show bitAt (A (Q + 9) b) h ↔ b = a
  rw [(l3 b hb).1, bv_bit H hH h (by omega)]
  constructor
  · rintro ⟨_, z⟩
    exact memb_one z hm (by omega) (by omega)
  · intro z
    subst z
    exact ⟨hh, hm⟩
/-! THE ORDER of a seed, both side by side -/
theorem St_find {t : Nat → Int32} {b : Int32} {L : Int} : ∀ n, 0 ≤ L → L < St t b n → ∃ y, y < n ∧ St t b y ≤ L ∧ L < St t b (y + 1)
  | 0, h0, h1 => by
    have : St t b 0 = 0 := rfl
    omega
  | n + 1, h0, h1 => by
    by_cases q : L < St t b n
    · obtain ⟨y, h2, h3, h4⟩ := St_find n h0 q
      exact ⟨y, by omega, h3, h4⟩
    · exact ⟨n, by omega, by omega, h1⟩
theorem St_s {t : Nat → Int32} {b : Int32} {n : Nat} : St t b (n + 1) = St t b n + (if ((b >>> (nI n &&& 31)) &&& 1) = 1 then 0 else (t n).toInt) := rfl
theorem cc_hold {Q n y : Nat} {A : zMt} {t : Nat → Int32} {b w d : Int32} (hn : n ≤ 10) (h1 : A Q 1 = nI n) (ht : ∀ a, a < n → A (Q + 8) a = t a ∧ 1 ≤ (t a).toInt ∧ (t a).toInt ≤ 401) (hw : ∀ a, a < n → (bitAt w a ↔ ¬ bitAt b a)) (hy : y < n) (h2 : St t b y ≤ d.toInt) (h3 : d.toInt < St t b (y + 1)) : ∀ (u x : Nat) (above : Int32), x ≤ y → y - x < u → above.toInt = St t b x → D_X5_holderOf_5 Q A u w d above (nI x) = some (nI y) := by
  intro u
  induction u with
  | zero => intro x above _ h; omega
  | succ u ih =>
    intro x above hx hu hab
    have hSx := St_le (t := t) (b := b) x (fun a ha => (ht a (by omega)).2)
    have hm : ∀ m, m ≤ y → St t b m ≤ St t b y := fun m hm => St_mono (fun a ha => (ht a (by omega)).2.1) m hm
    rw [D_X5_holderOf_5, h1, if_neg (by intro z; exact absurd ((nI_leI (by omega) (by omega)).mp z) (by omega))]
    have hwx := hw x (by omega)
    have hss := St_s (t := t) (b := b) (n := x)
    by_cases hb : bitAt b x
    · rw [if_neg (by intro z; exact hwx.mp z hb)]
      rw [if_pos (by exact hb)] at hss
      have hxy : x ≠ y := fun z => by
        subst z
        omega
      unfold D_X5_holderOf_44
      rw [nI_add1]
      exact ih (x + 1) above (by omega) (by omega) (by rw [hab, hss]; omega)
    · rw [if_neg (by exact hb)] at hss
      have htx := ht x (by omega)
      have ea : (above + t x).toInt = St t b (x + 1) := by rw [z_add (by omega) (by omega), hab, hss]
      rw [if_pos (by exact hwx.mpr hb), zrd_nI (show x < 10 by omega) (by decide), htx.1]
      by_cases q : x = y
      · subst q
        rw [if_neg (by intro z; have := Int32.le_iff_toInt_le.mp z; omega)]
      · rw [if_pos (by
          have := hm (x + 1) (by omega)
          exact Int32.le_iff_toInt_le.mpr (by omega))]
        unfold D_X5_holderOf_44
        rw [nI_add1]
        exact ih (x + 1) (above + t x) (by omega) (by omega) ea
theorem mm_hold {P n y i : Nat} {M : zMt} {N : zNt} {t : Nat → Int32} {b sum : Int32} {d : Int64} {k45 : Int32 → Int32 → Int32 → zMt → zNt → Option (zMt × zNt)} (hn : n ≤ 10) (hi : i < 10) (ht : ∀ a, a < n → M (P + 17) a = t a ∧ 1 ≤ (t a).toInt ∧ (t a).toInt ≤ 401) (hy : y < n) (h2 : St t b y ≤ d.toInt) (h3 : d.toInt < St t b (y + 1)) : ∀ (v x : Nat) (a : Int32) (up : Int64), x ≤ y + 1 → y + 1 - x < v → a.toInt = (x : Int) - 1 → up.toInt = St t b x → D_X8_laysOrder_67 P k45 v b sum (nI i) d a up M N = k45 (b ||| ((1 : Int32) <<< (nI y &&& 31))) (sum - t y) (nI (i + 1)) (zu M (P + 18) i (nI y)) N := by
  intro v
  induction v with
  | zero => intro x a up _ h; omega
  | succ v ih =>
    intro x a up hx hv ha hup
    have hm : ∀ m, m ≤ y → St t b m ≤ St t b y := fun m hm => St_mono (fun a ha => (ht a (by omega)).2.1) m hm
    rw [D_X8_laysOrder_67]
    by_cases q : x = y + 1
    · subst q
      have hay : a = nI y := Int32.toInt_inj.mp (by rw [nI_toInt (by omega)]; omega)
      subst hay
      rw [if_pos (by exact lgc_gt.mpr (by omega))]
      unfold zI
      rw [if_neg (vp_in_nI hi (by decide)), nI_clamp (by omega), zLt_eq, if_neg (vp_in_nI (by omega) (by decide)), nI_clamp (by omega), nI_add1, zu_ne (by omega), (ht y hy).1]
    · have hSx := St_le (t := t) (b := b) x (fun a ha => (ht a (by omega)).2)
      have h5 := hm x (by omega)
      have o1 : (1 : Int32).toInt = 1 := by decide
      have ea : (a + 1).toInt = x := by rw [z_add (by omega) (by omega), o1, ha]; omega
      have hax : a + 1 = nI x := Int32.toInt_inj.mp (by rw [nI_toInt (by omega)]; omega)
      have hnx : (nI x).toInt = ((x + 1 : Nat) : Int) - 1 := by rw [nI_toInt (by omega)]; omega
      have hss := St_s (t := t) (b := b) (n := x)
      rw [if_neg (by intro z; have := lgc_gt.mp z; omega), hax]
      obtain ⟨e, he, hq⟩ := v_X8_has (v0 := b) (v1 := nI x)
      rw [zB_s he]
      have htx := ht x (by omega)
      by_cases hb : bitAt b x
      · have he0 : ¬ e = 0 := fun z => by
          rcases hq.2 with ⟨w, _⟩ | ⟨_, w⟩
          · rw [z] at w; exact absurd w (by decide)
          · exact w hb
        rw [if_neg he0]
        rw [if_pos (by exact hb)] at hss
        unfold D_X8_laysOrder_101
        rw [Int64.add_zero]
        exact ih (x + 1) (nI x) up (by omega) (by omega) hnx (by rw [hup, hss]; omega)
      · have he0 : e = 0 := by
          rcases hq.2 with ⟨_, w⟩ | ⟨w, _⟩
          · exact absurd w hb
          · exact w
        rw [if_pos he0]
        rw [if_neg (by exact hb)] at hss
        unfold zI
        rw [if_neg (vp_in_nI (by omega) (by decide)), nI_clamp (by omega), htx.1]
        unfold D_X8_laysOrder_101
        exact ih (x + 1) (nI x) _ (by omega) (by omega) hnx (by rw [Int64.toInt_add, Int32.toInt_toInt64, hup, Int.bmod_def, hss]; omega)
/-- the line that is laid, as far as i -/
def lnO (i n : Nat) (f g : Nat → Int32) (l : Nat → Nat) : Prop := (∀ k, k < i → l k < n ∧ f k = nI (l k) ∧ g k = nI (l k)) ∧ (∀ k k', k < i → k' < i → l k = l k' → k = k')
/-- the next x, and what is drawn -/
def xN (x : Int64) : Int64 := ((1103515245 : Int64) * x + 12345) - ((1103515245 : Int64) * x + 12345) / 2147483648 * 2147483648
def xD (x : Int64) (s : Int32) : Int64 := xN x / 65536 - xN x / 65536 / s.toInt64 * s.toInt64
theorem xN_rng {x : Int64} (h0 : 0 ≤ x.toInt) (h1 : x.toInt < 2147483648) : 0 ≤ (xN x).toInt ∧ (xN x).toInt < 2147483648 := by
  have e0 : ((1103515245 : Int64) * x).toInt = 1103515245 * x.toInt := by
    rw [Int64.toInt_mul, show (1103515245 : Int64).toInt = 1103515245 by decide, Int.bmod_def]
    omega
  have e1 : 0 ≤ ((1103515245 : Int64) * x + 12345).toInt := by
    rw [Int64.toInt_add, e0, show (12345 : Int64).toInt = 12345 by decide, Int.bmod_def]
    have hp : 0 ≤ 1103515245 * x.toInt ∧ 1103515245 * x.toInt ≤ 2369780945000000000 := by omega
    generalize 1103515245 * x.toInt = pp at hp
    omega
  have h2 := l_modr (y := 2147483648) e1 (by decide)
  rw [show (2147483648 : Int64).toInt = 2147483648 by decide] at h2
  exact h2
theorem xD_rng {x : Int64} {s : Int32} (h0 : 0 ≤ x.toInt) (h1 : x.toInt < 2147483648) (hs : 1 ≤ s.toInt) : 0 ≤ (xD x s).toInt ∧ (xD x s).toInt < s.toInt := by
  have h2 := xN_rng h0 h1
  have e0 : s.toInt64.toInt = s.toInt := Int32.toInt_toInt64 s
  have h3 := l_modr (x := xN x / 65536) (y := s.toInt64) (l_div0 h2.1) (by omega)
  exact ⟨h3.1, by rw [← e0]; exact h3.2⟩
theorem bitK_not {w : Int32} {k h : Nat} (hk : k < 10) (hh : h < 10) : bitAt (w &&& (((1 : Int32) <<< (nI k &&& 31)) ^^^ (-1 : Int32))) h ↔ bitAt w h ∧ ¬ k = h := by
  have h1 := bitK_one hk hh
  rw [bitAt_iff hh] at h1 ⊢
  rw [bitAt_iff hh]
  show ((w.toBitVec &&& (((1 : Int32) <<< (nI k &&& 31)).toBitVec ^^^ (-1 : Int32).toBitVec)).getLsbD h = true) ↔ _
  have hm1 : (-1 : Int32).toBitVec.getLsbD h = true := (show ∀ h, h < 10 → (-1 : Int32).toBitVec.getLsbD h = true by decide) h hh
  rw [BitVec.getLsbD_and, BitVec.getLsbD_xor, hm1]
  cases w.toBitVec.getLsbD h <;> cases q : ((1 : Int32) <<< (nI k &&& 31)).toBitVec.getLsbD h <;> rw [q] at h1 <;> simp_all
/-- the loop, side by side -/
theorem t_ord45 {Q S P n : Nat} {t : Nat → Int32} (hn : n ≤ 10) (hd : S + 8 ≤ Q ∨ Q + 13 ≤ S) (ht : ∀ a, a < n → 1 ≤ (t a).toInt ∧ (t a).toInt ≤ 401) : ∀ (c u v i : Nat) (x : Int64) (s w b : Int32) (A B : zMt) (N : zNt) (l : Nat → Nat), i + c = n → c < u → c < v → N P 46 = x → 0 ≤ x.toInt → x.toInt < 2147483648 → s.toInt = St t b n → (∀ a, a < n → (bitAt w a ↔ ¬ bitAt b a)) → cn b n = i → A Q 1 = nI n → (∀ a, a < n → A (Q + 8) a = t a) → B P 33 = nI n → (∀ a, a < n → B (P + 17) a = t a) → lnO i n (A (S + 1)) (B (P + 18)) l → (∀ k, k < i → bitAt b (l k)) → two (D_X5_lineUp_22 S Q u x s w (nI i) A) (D_X8_laysOrder_45 P v b s (nI i) B N) (fun A' r => (∃ l', lnO n n (A' (S + 1)) (r.1 (P + 18)) l') ∧ (∀ i j, ¬ i = S + 1 → A' i j = A i j) ∧ (∀ i j, ¬ i = P + 18 → r.1 i j = B i j) ∧ (∀ i j, ¬ (i = P ∧ j = 46) → r.2 i j = N i j)) := by
  intro c
  induction c with
  | zero =>
    intro u v i x s w b A B N l hi hu hv _ _ _ _ _ _ h1 _ h33 _ hl _
    obtain ⟨u, rfl⟩ : ∃ y, u = y + 1 := ⟨u - 1, by omega⟩
    obtain ⟨v, rfl⟩ : ∃ y, v = y + 1 := ⟨v - 1, by omega⟩
    have : i = n := by omega
    subst this
    rw [D_X5_lineUp_22, h1, if_pos (by exact (nI_leI (by omega) (by omega)).mpr (Nat.le_refl i)), D_X8_laysOrder_45, h33, if_pos (by exact (nI_leI (by omega) (by omega)).mpr (Nat.le_refl i))]
    exact two.mk ⟨⟨l, hl⟩, fun _ _ _ => rfl, fun _ _ _ => rfl, fun _ _ _ => rfl⟩
  | succ c ih =>
    intro u v i x s w b A B N l hi hu hv hN hx0 hx1 hs hw hc h1 ht1 h33 ht8 hl hlb
    obtain ⟨u, rfl⟩ : ∃ y, u = y + 1 := ⟨u - 1, by omega⟩
    obtain ⟨v, rfl⟩ : ∃ y, v = y + 1 := ⟨v - 1, by omega⟩
    have hSg := St_ge (t := t) (b := b) n (fun a ha => (ht a ha).1)
    rw [hc] at hSg
    have hs1 : 1 ≤ s.toInt := by omega
    have hS64 : ¬ Int32.toInt64 s = 0 := fun z => by
      have e0 : s.toInt64.toInt = s.toInt := Int32.toInt_toInt64 s
      rw [z, show (0 : Int64).toInt = 0 by decide] at e0
      omega
    have dd := xD_rng hx0 hx1 hs1
    have xx := xN_rng hx0 hx1
    obtain ⟨d, hd1⟩ : ∃ d, d = xD x s := ⟨_, rfl⟩
    obtain ⟨xn, hxn⟩ : ∃ y, y = xN x := ⟨_, rfl⟩
    rw [← hd1, hs] at dd
    rw [← hxn] at xx
    obtain ⟨d0, d1⟩ := dd
    obtain ⟨x0, x1⟩ := xx
    obtain ⟨y, hy, hy1, hy2⟩ := St_find n d0 d1
    have hTm := St_le (t := t) (b := b) n ht
    have e32 : (Int64.toInt32 d).toInt = d.toInt := by
      have hb : 0 ≤ d.toInt ∧ d.toInt < 2147483648 := by omega
      rw [Int64.toInt_toInt32]
      generalize d.toInt = z at hb
      rw [show (2 : Nat) ^ 32 = 4294967296 by decide, Int.bmod_def]
      omega
    have hby : ¬ bitAt b y := fun z => by
      have := St_s (t := t) (b := b) (n := y)
      rw [if_pos (by exact z)] at this
      omega
    have e0 : D_X5_holderOf Q A w (Int64.toInt32 d) = some (nI y) := by
      have := cc_hold (Q := Q) (A := A) (t := t) (b := b) (w := w) (d := Int64.toInt32 d) hn h1 (fun a ha => ⟨ht1 a ha, ht a ha⟩) hw hy (by rw [e32]; exact hy1) (by rw [e32]; exact hy2) zFu 0 0 (by omega) (by unfold zFu; omega) (by show (0 : Int32).toInt = 0; decide)
      rw [show nI 0 = (0 : Int32) by decide] at this
      exact this
    have ed : D_X8_draws P s N = some (xD x s, zu N P 46 (xN x)) := by
      unfold D_X8_draws
      rw [hN, zLt_eq]
      unfold zZl
      rw [if_neg hS64, zu_eq]
      rfl
    rw [D_X5_lineUp_22, h1, if_neg (by intro z; exact absurd ((nI_leI (by omega) (by omega)).mp z) (by omega)), if_neg (by intro z; have := Int32.le_iff_toInt_le.mp z; rw [show (0 : Int32).toInt = 0 by decide] at this; omega), D_X8_laysOrder_45, h33, if_neg (by intro z; exact absurd ((nI_leI (by omega) (by omega)).mp z) (by omega))]
    unfold zZl
    rw [if_neg hS64]
    refine two.l (e := nI y) (by rw [hd1] at e0; exact e0) ?_
    refine two.r ed ?_
    show two (zLt (zwr A (S + 1) 10 (nI i) (nI y)) fun M => D_X5_lineUp_22 S Q u (xN x) (s - (zrd 0 (M (Q + 8)) 10 (nI y))) (w &&& (((1 : Int32) <<< (nI y &&& 31)) ^^^ (-1 : Int32))) (nI i + 1) M) (D_X8_laysOrder_67 P (D_X8_laysOrder_45 P v) zFu b s (nI i) (xD x s) (-1 : Int32) (0 : Int64) B (zu N P 46 (xN x))) _
    rw [← hd1, ← hxn]
    rw [mm_hold (t := t) hn (by omega) (fun a ha => ⟨ht8 a ha, ht a ha⟩) hy hy1 hy2 zFu 0 (-1) 0 (by omega) (by unfold zFu; omega) (by decide) (by rw [show (0 : Int64).toInt = 0 by decide]; rfl)]
    rw [zwr_nI (show i < 10 by omega) (by decide), zLt_eq, zrd_nI (show y < 10 by omega) (by decide), zu_ne (by omega), ht1 y hy, nI_add1]
    have hso := St_or (t := t) (a := y) (by omega) hby n (by omega)
    have hco := cn_or (a := y) (by omega) hby n (by omega)
    rw [if_pos (by omega)] at hso hco
    have hTy := ht y hy
    have hbo : ∀ a, a < n → (bitAt (b ||| ((1 : Int32) <<< (nI y &&& 31))) a ↔ bitAt b a ∨ y = a) := fun a ha => bitK_or (by omega) (by omega)
    refine (ih u v (i + 1) xn (s - t y) (w &&& (((1 : Int32) <<< (nI y &&& 31)) ^^^ (-1 : Int32))) (b ||| ((1 : Int32) <<< (nI y &&& 31))) (zu A (S + 1) i (nI y)) (zu B (P + 18) i (nI y)) (zu N P 46 xn) (fun k => if k = i then y else l k) (by omega) (by omega) (by omega) zu_eq x0 x1 ?_ (fun a ha => ?_) (by rw [hco, hc]) ((zu_ne (by omega)).trans h1) (fun a ha => (zu_ne (by omega)).trans (ht1 a ha)) ((zu_ne (by omega)).trans h33) (fun a ha => (zu_ne (by omega)).trans (ht8 a ha)) ⟨fun k hk => ?_, fun k k' hk hk' he => ?_⟩ (fun k hk => ?_)).imp (fun A' r h => ⟨h.1, fun i' j h' => (h.2.1 i' j h').trans (zu_ne (by omega)), fun i' j h' => (h.2.2.1 i' j h').trans (zu_ne (by omega)), fun i' j h' => (h.2.2.2 i' j h').trans (zu_ne h')⟩)
    · rw [hso, z_sub (by omega) (by omega), hs]
    · rw [bitK_not (by omega) (by omega), hw a ha, hbo a ha]
      constructor
      · rintro ⟨z1, z2⟩ (z | z)
        · exact z1 z
        · exact z2 z
      · intro z
        exact ⟨fun q => z (Or.inl q), fun q => z (Or.inr q)⟩
    · show (if k = i then y else l k) < n ∧ _ = nI (if k = i then y else l k) ∧ _ = nI (if k = i then y else l k)
      by_cases q : k = i
      · subst q
        rw [if_pos rfl, zu_eq, zu_eq]
        exact ⟨hy, rfl, rfl⟩
      · rw [if_neg q, zu_ne (by omega), zu_ne (by omega)]
        exact hl.1 k (by omega)
    · have he2 : (if k = i then y else l k) = (if k' = i then y else l k') := he
      by_cases q : k = i
      · by_cases q' : k' = i
        · omega
        · rw [if_pos q, if_neg q'] at he2
          exact absurd (hlb k' (by omega)) (by rw [← he2]; exact hby)
      · by_cases q' : k' = i
        · rw [if_neg q, if_pos q'] at he2
          exact absurd (hlb k (by omega)) (by rw [he2]; exact hby)
        · rw [if_neg q, if_neg q'] at he2
          exact hl.2 k k' (by omega) (by omega) he2
    · show bitAt _ (if k = i then y else l k)
      by_cases q : k = i
      · rw [if_pos q]
        exact (hbo y hy).mpr (Or.inr rfl)
      · rw [if_neg q]
        exact (hbo _ (hl.1 k (by omega)).1).mpr (Or.inl (hlb k (by omega)))
theorem bits_all : ∀ n, n ≤ 10 → ∀ a, a < n → ((((((1 : Int32) <<< (nI n &&& 31)) - 1) >>> (nI a &&& 31)) &&& 1) = 1) := by decide +kernel
/-- the reference adds the tickets -/
theorem mm_ord17 {P n : Nat} {t : Nat → Int32} {B : zMt} {N : zNt} {tot : Int32} (hn : n ≤ 10) (ht : ∀ a, a < n → B (P + 17) a = t a ∧ 1 ≤ (t a).toInt ∧ (t a).toInt ≤ 401) (h33 : B P 33 = nI n) (htot : tot.toInt = St t 0 n) : ∀ (u i : Nat) (sum : Int32), i ≤ n → n - i < u → sum.toInt = St t 0 i → D_X8_laysOrder_17 P u (0 : Int32) sum (nI i) B N = D_X8_laysOrder_45 P zFu (0 : Int32) tot (0 : Int32) B N := by
  intro u
  induction u with
  | zero => intro i sum _ h; omega
  | succ u ih =>
    intro i sum hi hu hs
    rw [D_X8_laysOrder_17, h33]
    by_cases hc : n ≤ i
    · have : i = n := by omega
      subst this
      rw [if_pos (by exact (nI_leI (by omega) (by omega)).mpr hc)]
      rw [show sum = tot from Int32.toInt_inj.mp (hs.trans htot.symm)]
    · rw [if_neg (by intro z; exact hc ((nI_leI (by omega) (by omega)).mp z))]
      unfold zI
      have hti := ht i (by omega)
      have hSi := St_le (t := t) (b := 0) i (fun a ha => (ht a (by omega)).2)
      rw [if_neg (vp_in_nI (by omega) (by decide)), nI_clamp (by omega), hti.1, nI_add1]
      refine ih (i + 1) _ (by omega) (by omega) ?_
      show _ = St t 0 i + _
      rw [if_neg bit_0, z_add (by omega) (by omega), hs]
theorem t_order {Q S P n U : Nat} {A B B1 T : zMt} {N : zNt} {seed : Int32} (hg : gP T n U) (h1 : A Q 1 = T 0 1) (h2 : A Q 2 = T 0 2) (h8 : ∀ a, a < n → A (Q + 8) a = T 8 a) (hd : S + 8 ≤ Q ∨ Q + 13 ≤ S) (hB : D_X8_laysApplicants P B = some B1) (hm : mP P B1 T n U) (hs : 0 ≤ seed.toInt) : two (D_X5_lineUp S Q seed A) (D_X8_laysOrder P seed B N) (fun A' r => (∃ l, lnO n n (A' (S + 1)) (r.1 (P + 18)) l) ∧ (∀ i j, ¬ i = S + 1 → A' i j = A i j) ∧ (∀ i j, ¬ i = P + 18 → r.1 i j = B1 i j) ∧ (∀ i j, ¬ (i = P ∧ j = 46) → r.2 i j = N i j)) := by
  obtain ⟨g1, g2, g3, g4, g5, g6, g7⟩ := hg
  obtain ⟨m1, m2, m3, m4⟩ := hm
  have ht : ∀ a, a < n → 1 ≤ (T 8 a).toInt ∧ (T 8 a).toInt ≤ 401 := fun a ha => by
    have := (g5 a ha).2.2.1.i (by omega)
    omega
  unfold D_X5_lineUp D_X8_laysOrder
  refine two.r hB ?_
  rw [zLt_eq, h1, g3, h2]
  have e := mm_ord17 (P := P) (t := T 8) (B := B1) (N := zu N P 46 (Int32.toInt64 seed)) (tot := T 0 2) g1 (fun a ha => ⟨(m3 a ha).2.2.2.2.2.1, ht a ha⟩) m1 g6 zFu 0 0 (by omega) (by unfold zFu; omega) (by show (0 : Int32).toInt = 0; decide)
  rw [show nI 0 = (0 : Int32) by decide] at e
  rw [e]
  have hlt := Int32.toInt_lt seed
  have := t_ord45 (Q := Q) (S := S) (P := P) (t := T 8) g1 hd ht n zFu zFu 0 (Int32.toInt64 seed) (T 0 2) (((1 : Int32) <<< (nI n &&& 31)) - 1) 0 A B1 (zu N P 46 (Int32.toInt64 seed)) (fun _ => 0) (by omega) (by unfold zFu; omega) (by unfold zFu; omega) zu_eq (by rw [Int32.toInt_toInt64]; exact hs) (by rw [Int32.toInt_toInt64]; omega) g6 (fun a ha => ⟨fun _ => bitAt_0, fun _ => bits_all n g1 a ha⟩) (cn_0 n) (h1.trans g3) h8 m1 (fun a ha => (m3 a ha).2.2.2.2.2.1) ⟨fun k hk => absurd hk (Nat.not_lt_zero k), fun k k' hk => absurd hk (Nat.not_lt_zero k)⟩ (fun k hk => absurd hk (Nat.not_lt_zero k))
  rw [show nI 0 = (0 : Int32) by decide] at this
  exact this.imp (fun A' r h => ⟨h.1, h.2.1, h.2.2.1, fun i j hj => (h.2.2.2 i j hj).trans (zu_ne hj)⟩)
/-! THE RESULT, told out of a pool's view T: s 0 a is what a has, s 1 a its round, s 2 u what is left of u, s 3 u what is left for guests; wo is one who asks for nothing -/
def gT (T s : zMt) (a u : Nat) (rd : Int32) : zMt := zu (zu (zu (zu s 0 a (nI u)) 1 a rd) 2 u (s 2 u - T 5 a)) 3 u (s 3 u - T 6 a)
/-- the first round: one applicant at one unit -/
def f1 (T : zMt) (wo u : Nat) (s : zMt) (a : Nat) : zMt := if ¬ a = wo ∧ T 12 (3 * a) = nI u ∧ T 5 a ≤ s 2 u - T 1 u + T 2 u ∧ T 6 a ≤ s 3 u then gT T s a u 1 else s
theorem gT_0 {T s : zMt} {a u : Nat} {rd : Int32} : gT T s a u rd 0 a = nI u := by unfold gT; rw [zu_ne (by omega), zu_ne (by omega), zu_ne (by omega), zu_eq]
theorem gT_1 {T s : zMt} {a u : Nat} {rd : Int32} : gT T s a u rd 1 a = rd := by unfold gT; rw [zu_ne (by omega), zu_ne (by omega), zu_eq]
theorem gT_2 {T s : zMt} {a u : Nat} {rd : Int32} : gT T s a u rd 2 u = s 2 u - T 5 a := by unfold gT; rw [zu_ne (by omega), zu_eq]
theorem gT_3 {T s : zMt} {a u : Nat} {rd : Int32} : gT T s a u rd 3 u = s 3 u - T 6 a := by unfold gT; rw [zu_eq]
theorem gT_out {T s : zMt} {a u i j : Nat} {rd : Int32} (h1 : ¬ ((i = 0 ∨ i = 1) ∧ j = a)) (h2 : ¬ ((i = 2 ∨ i = 3) ∧ j = u)) : gT T s a u rd i j = s i j := by
  unfold gT
  rw [zu_ne (by omega), zu_ne (by omega), zu_ne (by omega), zu_ne (by omega)]
theorem f1_out {T s : zMt} {wo a u i j : Nat} (h1 : ¬ ((i = 0 ∨ i = 1) ∧ j = a)) (h2 : ¬ ((i = 2 ∨ i = 3) ∧ j = u)) : f1 T wo u s a i j = s i j := by
  unfold f1
  by_cases q : ¬ a = wo ∧ T 12 (3 * a) = nI u ∧ T 5 a ≤ s 2 u - T 1 u + T 2 u ∧ T 6 a ≤ s 3 u
  · rw [if_pos q]; exact gT_out h1 h2
  · rw [if_neg q]
theorem f1_dep {T s s' : zMt} {wo a u : Nat} (h0 : s' 0 a = s 0 a) (h1 : s' 1 a = s 1 a) (h2 : s' 2 u = s 2 u) (h3 : s' 3 u = s 3 u) : f1 T wo u s' a 0 a = f1 T wo u s a 0 a ∧ f1 T wo u s' a 1 a = f1 T wo u s a 1 a ∧ f1 T wo u s' a 2 u = f1 T wo u s a 2 u ∧ f1 T wo u s' a 3 u = f1 T wo u s a 3 u := by
  unfold f1
  rw [h2, h3]
  by_cases q : ¬ a = wo ∧ T 12 (3 * a) = nI u ∧ T 5 a ≤ s 2 u - T 1 u + T 2 u ∧ T 6 a ≤ s 3 u
  · rw [if_pos q, if_pos q, gT_0, gT_0, gT_1, gT_1, gT_2, gT_2, gT_3, gT_3, h2, h3]
    exact ⟨rfl, rfl, rfl, rfl⟩
  · rw [if_neg q, if_neg q]
    exact ⟨h0, h1, h2, h3⟩
theorem f1_id {T s : zMt} {wo a u : Nat} (h : ¬ T 12 (3 * a) = nI u) : f1 T wo u s a = s := by
  unfold f1
  rw [if_neg (fun z => h z.2.1)]
theorem f1_comm {T s : zMt} {wo u v a b : Nat} (hu : u < 2147483648) (hv : v < 2147483648) (h : ¬ u = v) : f1 T wo u (f1 T wo v s b) a = f1 T wo v (f1 T wo u s a) b := by
  by_cases qa : T 12 (3 * a) = nI u
  · by_cases qb : T 12 (3 * b) = nI v
    · have hab : ¬ a = b := fun z => by
        subst z
        rw [qa] at qb
        exact h (nI_inj hu hv qb)
      have da := f1_dep (T := T) (s := s) (s' := f1 T wo v s b) (wo := wo) (a := a) (u := u) (f1_out (by omega) (by omega)) (f1_out (by omega) (by omega)) (f1_out (by omega) (by omega)) (f1_out (by omega) (by omega))
      have db := f1_dep (T := T) (s := s) (s' := f1 T wo u s a) (wo := wo) (a := b) (u := v) (f1_out (by omega) (by omega)) (f1_out (by omega) (by omega)) (f1_out (by omega) (by omega)) (f1_out (by omega) (by omega))
      funext i j
      by_cases c1 : (i = 0 ∨ i = 1) ∧ j = a
      · rw [f1_out (u := v) (a := b) (by omega) (by omega)]
        obtain ⟨c | c, d⟩ := c1
        · subst c; subst d; exact da.1
        · subst c; subst d; exact da.2.1
      · by_cases c2 : (i = 2 ∨ i = 3) ∧ j = u
        · rw [f1_out (u := v) (a := b) (by omega) (by omega)]
          obtain ⟨c | c, d⟩ := c2
          · subst c; subst d; exact da.2.2.1
          · subst c; subst d; exact da.2.2.2
        · rw [f1_out (u := u) (a := a) c1 c2]
          by_cases c3 : (i = 0 ∨ i = 1) ∧ j = b
          · obtain ⟨c | c, d⟩ := c3
            · subst c; subst d; exact db.1.symm
            · subst c; subst d; exact db.2.1.symm
          · by_cases c4 : (i = 2 ∨ i = 3) ∧ j = v
            · obtain ⟨c | c, d⟩ := c4
              · subst c; subst d; exact db.2.2.1.symm
              · subst c; subst d; exact db.2.2.2.symm
            · rw [f1_out (u := v) (a := b) c3 c4, f1_out (u := v) (a := b) c3 c4, f1_out (u := u) (a := a) c1 c2]
    · rw [f1_id qb, f1_id qb]
  · rw [f1_id qa, f1_id qa]
/-- one applicant at all units below U; one unit for all; all units for all -/
def fA (T : zMt) (wo : Nat) (a : Nat) : Nat → zMt → zMt
  | 0, s => s
  | u + 1, s => f1 T wo u (fA T wo a u s) a
def fL (T : zMt) (wo u : Nat) : List Nat → zMt → zMt
  | [], s => s
  | a :: l, s => fL T wo u l (f1 T wo u s a)
def fU (T : zMt) (wo : Nat) (l : List Nat) : Nat → zMt → zMt
  | 0, s => s
  | u + 1, s => fL T wo u l (fU T wo l u s)
def fC (T : zMt) (wo U : Nat) : List Nat → zMt → zMt
  | [], s => s
  | a :: l, s => fC T wo U l (fA T wo a U s)
theorem fL_comm {T : zMt} {wo u v a : Nat} (hu : u < 2147483648) (hv : v < 2147483648) (h : ¬ u = v) : ∀ (l : List Nat) (s : zMt), f1 T wo v (fL T wo u l s) a = fL T wo u l (f1 T wo v s a)
  | [], _ => rfl
  | b :: l, s => by
    show f1 T wo v (fL T wo u l (f1 T wo u s b)) a = fL T wo u l (f1 T wo u (f1 T wo v s a) b)
    rw [fL_comm hu hv h l, f1_comm hu hv h]
theorem fU_comm {T : zMt} {wo v a : Nat} {l : List Nat} (hv : v < 2147483648) : ∀ (u : Nat) (s : zMt), u ≤ v → f1 T wo v (fU T wo l u s) a = fU T wo l u (f1 T wo v s a)
  | 0, _, _ => rfl
  | u + 1, s, h => by
    show f1 T wo v (fL T wo u l (fU T wo l u s)) a = fL T wo u l (fU T wo l u (f1 T wo v s a))
    rw [fL_comm (by omega) hv (by omega), fU_comm hv u s (by omega)]
theorem fU_cons {T : zMt} {wo a : Nat} {l : List Nat} : ∀ (u : Nat) (s : zMt), u < 2147483648 → fU T wo (a :: l) u s = fU T wo l u (fA T wo a u s)
  | 0, _, _ => rfl
  | u + 1, s, h => by
    show fL T wo u l (f1 T wo u (fU T wo (a :: l) u s) a) = fL T wo u l (fU T wo l u (f1 T wo u (fA T wo a u s) a))
    rw [fU_cons u s (by omega), fU_comm (by omega) u _ (Nat.le_refl u)]
theorem fU_fC {T : zMt} {wo U : Nat} (hU : U < 2147483648) : ∀ (l : List Nat) (s : zMt), fU T wo l U s = fC T wo U l s
  | [], s => by
    have : ∀ u, fU T wo [] u s = s := fun u => by
      induction u with
      | zero => rfl
      | succ u ih => exact ih
    exact this U
  | a :: l, s => by
    rw [fU_cons U s hU]
    exact fU_fC hU l _
theorem fL_app {T : zMt} {wo u : Nat} : ∀ (l l' : List Nat) (s : zMt), fL T wo u (l ++ l') s = fL T wo u l' (fL T wo u l s)
  | [], _, _ => rfl
  | a :: l, l', s => fL_app l l' _
/-- who asks for nothing does nothing; who asks for w does it there -/
theorem fA_none {T : zMt} {wo a : Nat} {s : zMt} : ∀ U, (∀ u, u < U → ¬ T 12 (3 * a) = nI u) → fA T wo a U s = s
  | 0, _ => rfl
  | U + 1, h => by
    show f1 T wo U (fA T wo a U s) a = s
    rw [f1_id (h U (by omega)), fA_none U (fun u hu => h u (by omega))]
theorem fA_wo {T : zMt} {a : Nat} {s : zMt} : ∀ U, fA T a a U s = s
  | 0 => rfl
  | U + 1 => by
    show f1 T a U (fA T a a U s) a = s
    unfold f1
    rw [if_neg (fun z => z.1 rfl), fA_wo U]
theorem fA_one {T : zMt} {wo a w : Nat} {s : zMt} (hw : T 12 (3 * a) = nI w) (hw5 : w < 2147483648) : ∀ U, U < 2147483648 → fA T wo a U s = if w < U then f1 T wo w s a else s
  | 0, _ => by rw [if_neg (by omega)]; rfl
  | U + 1, h => by
    show f1 T wo U (fA T wo a U s) a = _
    rw [fA_one hw hw5 U (by omega)]
    by_cases q : w = U
    · subst q
      rw [if_neg (by omega), if_pos (by omega)]
    · rw [f1_id (by rw [hw]; exact fun z => q (nI_inj hw5 (by omega) z))]
      by_cases z : w < U
      · rw [if_pos z, if_pos (by omega)]
      · rw [if_neg z, if_neg (by omega)]
/-- the line as lists -/
def lr (l : Nat → Nat) : Nat → Nat → List Nat
  | 0, _ => []
  | c + 1, k => l k :: lr l c (k + 1)
def lp (l : Nat → Nat) : Nat → List Nat
  | 0 => []
  | k + 1 => lp l k ++ [l k]
theorem lp_lr {l : Nat → Nat} : ∀ c i, lp l i ++ lr l c i = lp l (i + c)
  | 0, i => by
    show lp l i ++ [] = lp l i
    rw [List.append_nil]
  | c + 1, i => by
    have e : lp l i ++ lr l (c + 1) i = lp l (i + 1) ++ lr l c (i + 1) := by
      show lp l i ++ (l i :: lr l c (i + 1)) = (lp l i ++ [l i]) ++ lr l c (i + 1)
      rw [List.append_assoc]
      rfl
    rw [e, lp_lr c (i + 1), show i + 1 + c = i + (c + 1) by omega]
theorem lp_len {l : Nat → Nat} : ∀ k, (lp l k).length = k
  | 0 => rfl
  | k + 1 => by
    show (lp l k ++ [l k]).length = k + 1
    rw [List.length_append, lp_len k]
    rfl
theorem lp_mem {l : Nat → Nat} {n : Nat} : ∀ k, (∀ i, i < k → l i < n) → ∀ x, x ∈ lp l k → x < n
  | 0, _, x, hx => absurd hx (List.not_mem_nil)
  | k + 1, h, x, hx => by
    have hx' : x ∈ lp l k ++ [l k] := hx
    rcases List.mem_append.mp hx' with z | z
    · exact lp_mem k (fun i hi => h i (by omega)) x z
    · rw [List.mem_singleton.mp z]
      exact h k (by omega)
/-- those with POINTS below m, those with more ahead, in their order else -/
def pf (T : zMt) (p : Nat) : List Nat → List Nat
  | [] => []
  | a :: l => if T 7 a = nI p then a :: pf T p l else pf T p l
def bk (T : zMt) (l : List Nat) : Nat → List Nat
  | 0 => []
  | p + 1 => pf T p l ++ bk T l p
theorem pf_app {T : zMt} {p : Nat} : ∀ l l' : List Nat, pf T p (l ++ l') = pf T p l ++ pf T p l'
  | [], _ => rfl
  | a :: l, l' => by
    show (if T 7 a = nI p then a :: pf T p (l ++ l') else pf T p (l ++ l')) = (if T 7 a = nI p then a :: pf T p l else pf T p l) ++ pf T p l'
    by_cases q : T 7 a = nI p
    · rw [if_pos q, if_pos q, pf_app l l']
      rfl
    · rw [if_neg q, if_neg q, pf_app l l']
theorem pf_mem {T : zMt} {p : Nat} : ∀ (l : List Nat) (x : Nat), x ∈ pf T p l → x ∈ l ∧ T 7 x = nI p
  | [], x, hx => absurd hx (List.not_mem_nil)
  | a :: l, x, hx => by
    have hx' : x ∈ (if T 7 a = nI p then a :: pf T p l else pf T p l) := hx
    by_cases q : T 7 a = nI p
    · rw [if_pos q] at hx'
      rcases List.mem_cons.mp hx' with z | z
      · subst z
        exact ⟨List.mem_cons_self, q⟩
      · have := pf_mem l x z
        exact ⟨List.mem_cons_of_mem _ this.1, this.2⟩
    · rw [if_neg q] at hx'
      have := pf_mem l x hx'
      exact ⟨List.mem_cons_of_mem _ this.1, this.2⟩
theorem bk_mem {T : zMt} {l : List Nat} : ∀ (m : Nat) (x : Nat), x ∈ bk T l m → x ∈ l ∧ ∃ p, p < m ∧ T 7 x = nI p
  | 0, x, hx => absurd hx (List.not_mem_nil)
  | m + 1, x, hx => by
    have hx' : x ∈ pf T m l ++ bk T l m := hx
    rcases List.mem_append.mp hx' with z | z
    · have := pf_mem l x z
      exact ⟨this.1, m, by omega, this.2⟩
    · obtain ⟨h1, p, h2, h3⟩ := bk_mem m x z
      exact ⟨h1, p, by omega, h3⟩
theorem bk_low {T : zMt} {l : List Nat} {a p0 : Nat} (ha : T 7 a = nI p0) (hp : p0 < 2147483648) : ∀ m, m ≤ p0 → bk T (l ++ [a]) m = bk T l m
  | 0, _ => rfl
  | m + 1, h => by
    show pf T m (l ++ [a]) ++ bk T (l ++ [a]) m = pf T m l ++ bk T l m
    rw [pf_app, bk_low ha hp m (by omega)]
    have e : pf T m [a] = [] := by
      show (if T 7 a = nI m then [a] else []) = []
      rw [if_neg (by rw [ha]; exact fun z => absurd (nI_inj hp (by omega) z) (by omega))]
    rw [e, List.append_nil]
/-- where a new one comes into the row -/
theorem bk_ins {T : zMt} {l : List Nat} {a p0 : Nat} (ha : T 7 a = nI p0) : ∀ m, p0 < m → m < 2147483648 → ∃ X Y, bk T l m = X ++ Y ∧ bk T (l ++ [a]) m = X ++ a :: Y ∧ (∀ x, x ∈ X → x ∈ l ∧ ∃ p, p0 ≤ p ∧ p < m ∧ T 7 x = nI p) ∧ (∀ x, x ∈ Y → x ∈ l ∧ ∃ p, p < p0 ∧ T 7 x = nI p)
  | 0, h, _ => absurd h (Nat.not_lt_zero p0)
  | m + 1, h, hm => by
    by_cases q : p0 = m
    · subst q
      refine ⟨pf T p0 l, bk T l p0, rfl, ?_, fun x hx => ?_, fun x hx => bk_mem p0 x hx⟩
      · show pf T p0 (l ++ [a]) ++ bk T (l ++ [a]) p0 = _
        rw [pf_app, bk_low ha (by omega) p0 (Nat.le_refl p0)]
        have e : pf T p0 [a] = [a] := by
          show (if T 7 a = nI p0 then [a] else []) = [a]
          rw [if_pos ha]
        rw [e, List.append_assoc]
        rfl
      · have := pf_mem l x hx
        exact ⟨this.1, p0, Nat.le_refl p0, by omega, this.2⟩
    · obtain ⟨X, Y, h1, h2, h3, h4⟩ := bk_ins ha m (by omega) (by omega)
      refine ⟨pf T m l ++ X, Y, ?_, ?_, fun x hx => ?_, h4⟩
      · show pf T m l ++ bk T l m = _
        rw [h1, List.append_assoc]
      · show pf T m (l ++ [a]) ++ bk T (l ++ [a]) m = _
        have e : pf T m [a] = [] := by
          show (if T 7 a = nI m then [a] else []) = []
          rw [if_neg (by rw [ha]; exact fun z => q (nI_inj (by omega) (by omega) z))]
        rw [pf_app, e, List.append_nil, h2, List.append_assoc]
      · rcases List.mem_append.mp hx with z | z
        · have := pf_mem l x z
          exact ⟨this.1, m, by omega, by omega, this.2⟩
        · obtain ⟨h5, p, h6, h7, h8⟩ := h3 x z
          exact ⟨h5, p, h6, by omega, h8⟩
theorem bk_len {T : zMt} {l : Nat → Nat} : ∀ k, (∀ i, i < k → ∃ p, p < 21 ∧ T 7 (l i) = nI p) → (bk T (lp l k) 21).length = k
  | 0, _ => by
    have : ∀ m, bk T [] m = [] := fun m => by
      induction m with
      | zero => rfl
      | succ m ih => exact ih
    show (bk T [] 21).length = 0
    rw [this]
    rfl
  | k + 1, h => by
    have ih := bk_len (T := T) (l := l) k (fun i hi => h i (by omega))
    obtain ⟨p, h1, h2⟩ := h k (by omega)
    obtain ⟨X, Y, h3, h4, _⟩ := bk_ins (l := lp l k) h2 21 h1 (by omega)
    show (bk T (lp l k ++ [l k]) 21).length = k + 1
    rw [h3, List.length_append] at ih
    rw [h4, List.length_append, List.length_cons]
    omega
/-- the second round -/
def wu (T : zMt) (a k : Nat) : Nat := (T 12 (3 * a + k)).toNatClampNeg
def s2 (T s : zMt) (a : Nat) : Nat → Nat → zMt
  | 0, _ => s
  | c + 1, k => if T 5 a ≤ s 2 (wu T a k) ∧ T 6 a ≤ s 3 (wu T a k) then gT T s a (wu T a k) 2 else s2 T s a c (k + 1)
def f2 (T : zMt) (wo : Nat) (s : zMt) (a : Nat) : zMt := if s 0 a = -1 ∧ ¬ a = wo then s2 T s a (T 11 a).toNatClampNeg 0 else s
def fS (T : zMt) (wo : Nat) : List Nat → zMt → zMt
  | [], s => s
  | a :: l, s => fS T wo l (f2 T wo s a)
def s0 (T : zMt) : zMt := fun i j => if i = 0 then -1 else if i = 1 then 0 else if i = 2 then T 1 j else T 3 j
/-- all of it -/
def rs (T : zMt) (wo U n : Nat) (l : Nat → Nat) : zMt := fS T wo (lp l n) (fC T wo U (bk T (lp l n) 21) (s0 T))
/-- what it is in the class, and in the reference -/
def rC (S : Nat) (A s : zMt) (n U : Nat) : Prop := (∀ a, a < n → A (S + 2) a = s 0 a ∧ A (S + 3) a = s 1 a) ∧ (∀ u, u < U → A (S + 4) u = s 2 u ∧ A (S + 5) u = s 3 u)
def rM (P : Nat) (B s : zMt) (n U : Nat) : Prop := (∀ a, a < n → B (P + 19) a = s 0 a ∧ B (P + 20) a = s 1 a) ∧ (∀ u, u < U → B (P + 21) u = s 2 u ∧ B (P + 22) u = s 3 u)
/-! the class settles a result -/
theorem cc_fits {Q n U a : Nat} {A T : zMt} {x y : Int32} (ha : a < n) (hn : n ≤ 10) (hT : ∀ i j, i < 13 → A (Q + i) j = T i j) : D_X2_fits Q A (nI a) x y = some (if T 5 a ≤ x ∧ T 6 a ≤ y then 1 else 0) := by
  unfold D_X2_fits
  rw [zrd_nI (show a < 10 by omega) (by decide), zrd_nI (show a < 10 by omega) (by decide), hT 5 a (by omega), hT 6 a (by omega)]
  by_cases q : T 5 a ≤ x
  · rw [if_neg (by intro z; exact Int32.not_le.mpr z q)]
    by_cases q2 : T 6 a ≤ y
    · rw [if_neg (by intro z; exact Int32.not_le.mpr z q2), if_pos ⟨q, q2⟩]
      rfl
    · rw [if_pos (by exact Int32.not_le.mp q2), if_neg (fun z => q2 z.2)]
      rfl
  · rw [if_pos (by exact Int32.not_le.mp q), if_neg (fun z => q z.1)]
    rfl
theorem i_neg {x y : Int32} : x + -y = x - y := by rw [Int32.sub_eq_add_neg]
theorem i_lp {x z q p : Int32} : x - z - q + p = x - q + p - z := by
  rw [Int32.sub_eq_add_neg, Int32.sub_eq_add_neg, Int32.sub_eq_add_neg, Int32.sub_eq_add_neg]
  ac_rfl
theorem cc_holdT {Q S n U a w : Nat} {A T s : zMt} {rd : Int32} (ha : a < n) (hn : n ≤ 10) (hw : w < U) (hU : U ≤ 5) (hd : S + 8 ≤ Q ∨ Q + 13 ≤ S) (hT : ∀ i j, i < 13 → A (Q + i) j = T i j) (hs : rC S A s n U) : ∃ A', D_X5_hold S Q (nI a) (nI w) rd A = some A' ∧ rC S A' (gT T s a w rd) n U ∧ (∀ i j, ¬ (S + 2 ≤ i ∧ i ≤ S + 5) → A' i j = A i j) := by
  obtain ⟨hs1, hs2⟩ := hs
  have ha10 : a < 10 := by omega
  have hw5 : w < 5 := by omega
  unfold D_X5_hold
  rw [zwr_nI ha10 (by decide), zLt_eq, zwr_nI ha10 (by decide), zLt_eq, zwr_nI hw5 (by decide), zrd_nI hw5 (by decide), zrd_nI ha10 (by decide), zLt_eq, zwr_nI hw5 (by decide), zrd_nI hw5 (by decide), zrd_nI ha10 (by decide), zLt_eq]
  rw [zu_ne (show ¬ (S + 4 = S + 3 ∧ w = a) by omega), zu_ne (show ¬ (S + 4 = S + 2 ∧ w = a) by omega), zu_ne (show ¬ (Q + 5 = S + 3 ∧ a = a) by omega), zu_ne (show ¬ (Q + 5 = S + 2 ∧ a = a) by omega), zu_ne (show ¬ (S + 5 = S + 4 ∧ w = w) by omega), zu_ne (show ¬ (S + 5 = S + 3 ∧ w = a) by omega), zu_ne (show ¬ (S + 5 = S + 2 ∧ w = a) by omega), zu_ne (show ¬ (Q + 6 = S + 4 ∧ a = w) by omega), zu_ne (show ¬ (Q + 6 = S + 3 ∧ a = a) by omega), zu_ne (show ¬ (Q + 6 = S + 2 ∧ a = a) by omega), hT 5 a (by omega), hT 6 a (by omega), (hs2 w hw).1, (hs2 w hw).2, i_neg, i_neg]
  refine ⟨_, rfl, ⟨fun b hb => ?_, fun u hu => ?_⟩, fun i j h => ?_⟩
  · by_cases q : b = a
    · subst q
      rw [gT_0, gT_1]
      exact ⟨(zu_ne (by omega)).trans ((zu_ne (by omega)).trans ((zu_ne (by omega)).trans zu_eq)), (zu_ne (by omega)).trans ((zu_ne (by omega)).trans zu_eq)⟩
    · rw [gT_out (by omega) (by omega), gT_out (by omega) (by omega)]
      exact ⟨(zu_ne (by omega)).trans ((zu_ne (by omega)).trans ((zu_ne (by omega)).trans ((zu_ne (by omega)).trans (hs1 b hb).1))), (zu_ne (by omega)).trans ((zu_ne (by omega)).trans ((zu_ne (by omega)).trans ((zu_ne (by omega)).trans (hs1 b hb).2)))⟩
  · by_cases q : u = w
    · subst q
      rw [gT_2, gT_3]
      exact ⟨(zu_ne (by omega)).trans zu_eq, zu_eq⟩
    · rw [gT_out (by omega) (by omega), gT_out (by omega) (by omega)]
      exact ⟨(zu_ne (by omega)).trans ((zu_ne (by omega)).trans ((zu_ne (by omega)).trans ((zu_ne (by omega)).trans (hs2 u hu).1))), (zu_ne (by omega)).trans ((zu_ne (by omega)).trans ((zu_ne (by omega)).trans ((zu_ne (by omega)).trans (hs2 u hu).2)))⟩
  · exact (zu_ne (by omega)).trans ((zu_ne (by omega)).trans ((zu_ne (by omega)).trans (zu_ne (by omega))))
theorem cc_wish {Q a k : Nat} {A T : zMt} (ha : a < 10) (hk : k < 3) (hT : ∀ i j, i < 13 → A (Q + i) j = T i j) : D_X2_wish Q A (nI a) (nI k) = some (T 12 (3 * a + k)) := by
  unfold D_X2_wish
  rw [nI_m3k a ha k hk, zrd_nI (by omega) (by decide), hT 12 _ (by omega)]
/-- sorted: one comes in -/
theorem cc_rank32 {Q S n U k a p0 : Nat} {T : zMt} {X Y : List Nat} {k2 : Int32 → zMt → Option zMt} (hn : n ≤ 10) (hk : k < n) (ha : T 7 a = nI p0) (hp0 : p0 ≤ 20) (hd : S + 8 ≤ Q ∨ Q + 13 ≤ S) (hXY : X.length + Y.length = k) (hX : ∀ x, x ∈ X → x < n ∧ ∃ p, p0 ≤ p ∧ p < 21 ∧ T 7 x = nI p) (hY : ∀ x, x ∈ Y → x < n ∧ ∃ p, p < p0 ∧ T 7 x = nI p) : ∀ (u x : Nat) (A : zMt), X.length ≤ x → x ≤ k → x < u → (∀ i j, i < 13 → A (Q + i) j = T i j) → (∀ i y, i < x → (X ++ Y)[i]? = some y → A (S + 7) i = nI y) → (∀ i y, x ≤ i → (X ++ Y)[i]? = some y → A (S + 7) (i + 1) = nI y) → ∃ A', D_X5_rank_32 S Q k2 u (nI k) (nI a) (nI p0) (nI x) A = k2 (nI (k + 1)) A' ∧ (∀ i y, (X ++ a :: Y)[i]? = some y → A' (S + 7) i = nI y) ∧ (∀ i j, ¬ i = S + 7 → A' i j = A i j) := by
  intro u
  induction u with
  | zero => intro x A _ _ h; omega
  | succ u ih =>
    intro x A hx1 hx2 hu hT hlo hhi
    rw [D_X5_rank_32]
    have fin : x = X.length → ∃ A', D_X5_rank_86 S Q k2 (nI k) (nI a) (nI x) A = k2 (nI (k + 1)) A' ∧ (∀ i y, (X ++ a :: Y)[i]? = some y → A' (S + 7) i = nI y) ∧ (∀ i j, ¬ i = S + 7 → A' i j = A i j) := fun hx => by
      unfold D_X5_rank_86
      rw [zwr_nI (show x < 10 by omega) (by decide), zLt_eq, nI_add1]
      refine ⟨_, rfl, fun i y hi => ?_, fun i j h => zu_ne (by omega)⟩
      rw [List.getElem?_append] at hi
      by_cases q1 : i < X.length
      · rw [if_pos q1] at hi
        rw [zu_ne (by omega)]
        exact hlo i y (by omega) (by rw [List.getElem?_append, if_pos q1]; exact hi)
      · rw [if_neg q1] at hi
        by_cases q2 : i = X.length
        · rw [show i - X.length = 0 by omega] at hi
          have : a = y := Option.some.inj hi
          rw [show i = x by omega, zu_eq, this]
        · obtain ⟨d, hd'⟩ : ∃ d, i = X.length + 1 + d := ⟨i - X.length - 1, by omega⟩
          subst hd'
          rw [show X.length + 1 + d - X.length = d + 1 by omega] at hi
          have hi' : Y[d]? = some y := hi
          rw [zu_ne (by omega), show X.length + 1 + d = (X.length + d) + 1 by omega]
          exact hhi (X.length + d) y (by omega) (by rw [List.getElem?_append, if_neg (by omega), show X.length + d - X.length = d by omega]; exact hi')
    by_cases hc : x ≤ 0
    · rw [if_pos (by exact (leR (x := 0) (b := 0) (by decide) (by decide) (by omega)).mpr hc)]
      exact fin (by omega)
    · obtain ⟨x', rfl⟩ : ∃ x', x = x' + 1 := ⟨x - 1, by omega⟩
      rw [if_neg (by intro z; exact hc ((leR (x := 0) (b := 0) (by decide) (by decide) (by omega)).mp z)), nI_sub1 (by omega), zrd_nI (show x' < 10 by omega) (by decide)]
      have hlen : x' < (X ++ Y).length := by rw [List.length_append]; omega
      have hy := List.getElem?_eq_getElem hlen
      generalize (X ++ Y)[x'] = y at hy
      rw [hlo x' y (by omega) hy]
      have hyy : y ∈ X ++ Y := List.mem_of_getElem? hy
      have hyn : y < n := by
        rcases List.mem_append.mp hyy with z | z
        · exact (hX y z).1
        · exact (hY y z).1
      rw [zrd_nI (show y < 10 by omega) (by decide), hT 7 y (by omega)]
      by_cases q : x' + 1 = X.length
      · have hyX : y ∈ X := by
          rw [List.getElem?_append, if_pos (by omega)] at hy
          exact List.mem_of_getElem? hy
        obtain ⟨_, p, h1, h2, h3⟩ := hX y hyX
        rw [h3, if_pos (by exact (nI_leI (by omega) (by omega)).mpr h1)]
        exact fin q
      · have hyY : y ∈ Y := by
          rw [List.getElem?_append, if_neg (by omega)] at hy
          exact List.mem_of_getElem? hy
        obtain ⟨_, p, h1, h3⟩ := hY y hyY
        rw [h3, if_neg (by intro z; exact absurd ((nI_leI (by omega) (by omega)).mp z) (by omega)), zwr_nI (show x' + 1 < 10 by omega) (by decide), zLt_eq]
        have em : nI (x' + 1) + (-1 : Int32) = nI x' := by
          rw [i_neg]
          exact nI_sub1 (by omega)
        rw [em]
        obtain ⟨A', f1, f2, f3⟩ := ih x' (zu A (S + 7) (x' + 1) (nI y)) (by omega) (by omega) (by omega) (fun i j hi => (zu_ne (by omega)).trans (hT i j hi)) (fun i z hi hz => (zu_ne (by omega)).trans (hlo i z (by omega) hz)) (fun i z hi hz => by
          by_cases w : i = x'
          · subst w
            rw [zu_eq]
            rw [hy] at hz
            exact congrArg nI (Option.some.inj hz)
          · rw [zu_ne (by omega)]
            exact hhi i z (by omega) hz)
        exact ⟨A', f1, f2, fun i j h => (f3 i j h).trans (zu_ne (by omega))⟩
theorem cc_rank2 {Q S n U : Nat} {T : zMt} {l : Nat → Nat} (hn : n ≤ 10) (hd : S + 8 ≤ Q ∨ Q + 13 ≤ S) (hl : ∀ k, k < n → l k < n) (hp : ∀ a, a < n → ∃ p, p < 21 ∧ T 7 a = nI p) (hT1 : T 0 1 = nI n) : ∀ (u k : Nat) (A : zMt), k ≤ n → n - k < u → (∀ i j, i < 13 → A (Q + i) j = T i j) → (∀ i, i < n → A (S + 1) i = nI (l i)) → (∀ i y, (bk T (lp l k) 21)[i]? = some y → A (S + 7) i = nI y) → ∃ A', D_X5_rank_2 S Q u (nI k) A = some A' ∧ (∀ i y, (bk T (lp l n) 21)[i]? = some y → A' (S + 7) i = nI y) ∧ (∀ i j, ¬ i = S + 7 → A' i j = A i j) := by
  intro u
  induction u with
  | zero => intro k A _ h; omega
  | succ u ih =>
    intro k A hk hu hT hln hr
    have e1 : A Q 1 = nI n := (hT 0 1 (by omega)).trans hT1
    rw [D_X5_rank_2, e1]
    by_cases hc : n ≤ k
    · have : k = n := by omega
      subst this
      rw [if_pos (by exact (nI_leI (by omega) (by omega)).mpr hc)]
      exact ⟨A, rfl, hr, fun _ _ _ => rfl⟩
    · have hkn : k < n := by omega
      rw [if_neg (by intro z; exact hc ((nI_leI (by omega) (by omega)).mp z)), zrd_nI (show k < 10 by omega) (by decide), hln k hkn]
      have hlk := hl k hkn
      rw [zrd_nI (show l k < 10 by omega) (by decide), hT 7 _ (by omega)]
      obtain ⟨p0, hp0, ep⟩ := hp (l k) hlk
      rw [ep]
      obtain ⟨X, Y, h1, h2, h3, h4⟩ := bk_ins (l := lp l k) ep 21 hp0 (by omega)
      have hlen := bk_len (T := T) (l := l) k (fun i hi => hp (l i) (hl i (by omega)))
      rw [h1, List.length_append] at hlen
      have hmem := lp_mem (l := l) (n := n) k (fun i hi => hl i (by omega))
      rw [h1] at hr
      obtain ⟨A1, f1, f2, f3⟩ := cc_rank32 (Q := Q) (S := S) (U := U) (k2 := D_X5_rank_2 S Q u) (X := X) (Y := Y) hn hkn ep (by omega) hd hlen (fun x hx => ⟨hmem x (h3 x hx).1, (h3 x hx).2⟩) (fun x hx => ⟨hmem x (h4 x hx).1, (h4 x hx).2⟩) zFu k A (by omega) (Nat.le_refl k) (by unfold zFu; omega) hT (fun i y _ hi => hr i y hi) (fun i y hi hy => by
        have := (List.getElem?_eq_some_iff.mp hy).1
        rw [List.length_append] at this
        omega)
      rw [f1]
      rw [← h2] at f2
      obtain ⟨A', g1, g2, g3⟩ := ih (k + 1) A1 (by omega) (by omega) (fun i j hi => (f3 _ j (by omega)).trans (hT i j hi)) (fun i hi => (f3 _ i (by omega)).trans (hln i hi)) f2
      exact ⟨A', g1, g2, fun i j h => (g3 i j h).trans (f3 i j h)⟩
/-- the first round -/
theorem cc_fr7 {Q S n U : Nat} {T : zMt} (hg : gP T n U) (hd : S + 8 ≤ Q ∨ Q + 13 ≤ S) : ∀ (r : List Nat) (u k : Nat) (A s : zMt), r.length < u → k + r.length = n → (∀ i y, r[i]? = some y → A (S + 7) (k + i) = nI y) → (∀ x, x ∈ r → x < n) → rC S A s n U → (∀ u, u < U → A (S + 6) u = s 2 u - T 1 u + T 2 u) → (∀ i j, i < 13 → A (Q + i) j = T i j) → ∃ A', D_X5_firstRound_7 S Q u (nI k) A = some A' ∧ rC S A' (fC T 10 U r s) n U ∧ (∀ i j, ¬ (S + 2 ≤ i ∧ i ≤ S + 6) → A' i j = A i j) := by
  obtain ⟨g1, g2, g3, g4, g5, g6, g7⟩ := hg
  intro r
  induction r with
  | nil =>
    intro u k A s hu hk _ _ hs _ hT
    obtain ⟨u, rfl⟩ : ∃ y, u = y + 1 := ⟨u - 1, by omega⟩
    have e1 : A Q 1 = nI n := (hT 0 1 (by omega)).trans g3
    have hk' : k = n := by
      have : ([] : List Nat).length = 0 := rfl
      omega
    rw [D_X5_firstRound_7, e1, if_pos (by exact (nI_leI (by omega) (by omega)).mpr (by omega))]
    exact ⟨A, rfl, hs, fun _ _ _ => rfl⟩
  | cons a r ih =>
    intro u k A s hu hk hrow hmem hs hlp hT
    rw [List.length_cons] at hu hk
    obtain ⟨u, rfl⟩ : ∃ y, u = y + 1 := ⟨u - 1, by omega⟩
    have e1 : A Q 1 = nI n := (hT 0 1 (by omega)).trans g3
    have ha : a < n := hmem a List.mem_cons_self
    have era : A (S + 7) k = nI a := hrow 0 a rfl
    rw [D_X5_firstRound_7, e1, if_neg (by intro z; exact absurd ((nI_leI (by omega) (by omega)).mp z) (by omega)), zrd_nI (show k < 10 by omega) (by decide), era]
    have ew := cc_wish (Q := Q) (A := A) (T := T) (a := a) (k := 0) (by omega) (by omega) hT
    rw [show nI 0 = (0 : Int32) by decide] at ew
    rw [zB_s ew]
    have next : ∀ A1 s1, rC S A1 s1 n U → (∀ u, u < U → A1 (S + 6) u = s1 2 u - T 1 u + T 2 u) → (∀ i j, ¬ (S + 2 ≤ i ∧ i ≤ S + 6) → A1 i j = A i j) → ∃ A', D_X5_firstRound_91 S Q (D_X5_firstRound_7 S Q u) (nI k) A1 = some A' ∧ rC S A' (fC T 10 U r s1) n U ∧ (∀ i j, ¬ (S + 2 ≤ i ∧ i ≤ S + 6) → A' i j = A i j) := fun A1 s1 h1 h2 h3 => by
      unfold D_X5_firstRound_91
      rw [nI_add1]
      obtain ⟨A', f1, f2, f3⟩ := ih u (k + 1) A1 s1 (by omega) (by omega) (fun i y hi => by
        rw [h3 _ _ (by omega), show k + 1 + i = k + (i + 1) by omega]
        exact hrow (i + 1) y hi) (fun x hx => hmem x (List.mem_cons_of_mem _ hx)) h1 h2 (fun i j hi => (h3 _ j (by omega)).trans (hT i j hi))
      exact ⟨A', f1, f2, fun i j h => (f3 i j h).trans (h3 i j h)⟩
    obtain ⟨c, c1, c2, c3, c4⟩ := (g5 a ha).2.2.2
    show ∃ A', _ = some A' ∧ rC S A' (fC T 10 U r (fA T 10 a U s)) n U ∧ _
    by_cases q : c = 0
    · have e12 : T 12 (3 * a + 0) = -1 := c4 0 (by omega) (by omega)
      rw [e12, if_pos rfl, fA_none U (fun v hv => by
        have : T 12 (3 * a) = -1 := e12
        rw [this]
        exact fun z => nI_ne (by omega) z.symm)]
      exact next A s hs hlp (fun _ _ _ => rfl)
    · obtain ⟨w, hw, ew2⟩ := c3 0 (by omega)
      have ew3 : T 12 (3 * a) = nI w := ew2
      rw [ew2, if_neg (nI_ne (by omega)), zrd_nI (show w < 5 by omega) (by decide), zrd_nI (show w < 5 by omega) (by decide), hlp w hw, (hs.2 w hw).2, zB_s (cc_fits (U := U) ha g1 hT), fA_one ew3 (by omega) U (by omega), if_pos hw]
      unfold f1
      by_cases qf : T 5 a ≤ s 2 w - T 1 w + T 2 w ∧ T 6 a ≤ s 3 w
      · rw [if_pos qf, if_neg (by decide), if_pos ⟨by omega, ew3, qf.1, qf.2⟩, zwr_nI (show w < 5 by omega) (by decide), zrd_nI (show a < 10 by omega) (by decide), hT 5 a (by omega), i_neg, zLt_eq]
        have hs' : rC S (zu A (S + 6) w (s 2 w - T 1 w + T 2 w - T 5 a)) s n U := ⟨fun b hb => by rw [zu_ne (by omega), zu_ne (by omega)]; exact hs.1 b hb, fun v hv => by rw [zu_ne (by omega), zu_ne (by omega)]; exact hs.2 v hv⟩
        obtain ⟨A2, d1, d2, d3⟩ := cc_holdT (Q := Q) (S := S) (a := a) (w := w) (A := zu A (S + 6) w (s 2 w - T 1 w + T 2 w - T 5 a)) (rd := 1) ha g1 hw g2 hd (fun i j hi => (zu_ne (by omega)).trans (hT i j hi)) hs'
        rw [zB_s d1]
        refine next A2 _ d2 (fun v hv => ?_) (fun i j h => (d3 i j (by omega)).trans (zu_ne (by omega)))
        rw [d3 _ _ (by omega)]
        by_cases z : v = w
        · subst z
          rw [zu_eq, gT_2, i_lp]
        · rw [zu_ne (by omega), gT_out (by omega) (by omega)]
          exact hlp v hv
      · rw [if_neg qf, if_pos rfl, if_neg (fun z => qf ⟨z.2.2.1, z.2.2.2⟩)]
        exact next A s hs hlp (fun _ _ _ => rfl)
/-- the second round: one -/
theorem cc_sr48 {Q S n U a k : Nat} {T : zMt} {k2 : Int32 → zMt → Option zMt} (hg : gP T n U) (hd : S + 8 ≤ Q ∨ Q + 13 ≤ S) (ha : a < n) {c : Nat} (hc3 : c ≤ 3) (hc : ∀ k, k < c → ∃ u, u < U ∧ T 12 (3 * a + k) = nI u) : ∀ (d u i : Nat) (A s : zMt), i + d = c → d < u → rC S A s n U → (∀ i j, i < 13 → A (Q + i) j = T i j) → ∃ A', D_X5_secondRound_48 S Q k2 u (nI k) (nI a) (nI c) (nI i) A = k2 (nI (k + 1)) A' ∧ rC S A' (s2 T s a d i) n U ∧ (∀ i j, ¬ (S + 2 ≤ i ∧ i ≤ S + 5) → A' i j = A i j) := by
  obtain ⟨g1, g2, g3, g4, g5, g6, g7⟩ := hg
  intro d
  induction d with
  | zero =>
    intro u i A s hi hu hs hT
    obtain ⟨u, rfl⟩ : ∃ y, u = y + 1 := ⟨u - 1, by omega⟩
    rw [D_X5_secondRound_48, if_pos (by exact (nI_leI (by omega) (by omega)).mpr (by omega))]
    unfold D_X5_secondRound_108
    rw [nI_add1]
    exact ⟨A, rfl, hs, fun _ _ _ => rfl⟩
  | succ d ih =>
    intro u i A s hi hu hs hT
    obtain ⟨u, rfl⟩ : ∃ y, u = y + 1 := ⟨u - 1, by omega⟩
    obtain ⟨w, hw, ew⟩ := hc i (by omega)
    have ewu : wu T a i = w := by
      unfold wu
      rw [ew, nI_clamp (by omega)]
    rw [D_X5_secondRound_48, if_neg (by intro z; exact absurd ((nI_leI (by omega) (by omega)).mp z) (by omega)), zB_s (cc_wish (T := T) (a := a) (k := i) (by omega) (by omega) hT), ew, zrd_nI (show w < 5 by omega) (by decide), zrd_nI (show w < 5 by omega) (by decide), (hs.2 w hw).1, (hs.2 w hw).2, zB_s (cc_fits (U := U) ha g1 hT)]
    show ∃ A', _ = k2 (nI (k + 1)) A' ∧ rC S A' (if T 5 a ≤ s 2 (wu T a i) ∧ T 6 a ≤ s 3 (wu T a i) then gT T s a (wu T a i) 2 else s2 T s a d (i + 1)) n U ∧ _
    rw [ewu]
    by_cases qf : T 5 a ≤ s 2 w ∧ T 6 a ≤ s 3 w
    · rw [if_pos qf, if_neg (by decide), if_pos qf]
      obtain ⟨A2, d1, d2, d3⟩ := cc_holdT (Q := Q) (S := S) (a := a) (w := w) (A := A) (rd := 2) ha g1 hw g2 hd hT hs
      rw [zB_s d1]
      unfold D_X5_secondRound_108
      rw [nI_add1]
      exact ⟨A2, rfl, d2, d3⟩
    · rw [if_neg qf, if_pos rfl, if_neg qf, nI_add1]
      exact ih u (i + 1) A s (by omega) (by omega) hs hT
theorem cc_sr2 {Q S n U : Nat} {T : zMt} {l : Nat → Nat} (hg : gP T n U) (hd : S + 8 ≤ Q ∨ Q + 13 ≤ S) (hl : ∀ k, k < n → l k < n) : ∀ (c u k : Nat) (A s : zMt), k + c = n → c < u → rC S A s n U → (∀ i, i < n → A (S + 1) i = nI (l i)) → (∀ i j, i < 13 → A (Q + i) j = T i j) → ∃ A', D_X5_secondRound_2 S Q u (nI k) A = some A' ∧ rC S A' (fS T 10 (lr l c k) s) n U ∧ (∀ i j, ¬ (S + 2 ≤ i ∧ i ≤ S + 5) → A' i j = A i j) := by
  intro c
  induction c with
  | zero =>
    intro u k A s hk hu hs hln hT
    obtain ⟨g1, g2, g3, g4, g5, g6, g7⟩ := hg
    obtain ⟨u, rfl⟩ : ∃ y, u = y + 1 := ⟨u - 1, by omega⟩
    have e1 : A Q 1 = nI n := (hT 0 1 (by omega)).trans g3
    rw [D_X5_secondRound_2, e1, if_pos (by exact (nI_leI (by omega) (by omega)).mpr (by omega))]
    exact ⟨A, rfl, hs, fun _ _ _ => rfl⟩
  | succ c ih =>
    intro u k A s hk hu hs hln hT
    have hg0 := hg
    obtain ⟨g1, g2, g3, g4, g5, g6, g7⟩ := hg
    obtain ⟨u, rfl⟩ : ∃ y, u = y + 1 := ⟨u - 1, by omega⟩
    have e1 : A Q 1 = nI n := (hT 0 1 (by omega)).trans g3
    have hlk := hl k (by omega)
    have hlk10 : l k < 10 := by omega
    rw [D_X5_secondRound_2, e1, if_neg (by intro z; exact absurd ((nI_leI (by omega) (by omega)).mp z) (by omega)), zrd_nI (show k < 10 by omega) (by decide), hln k (by omega), zrd_nI hlk10 (by decide), zrd_nI hlk10 (by decide), hT 11 _ (by omega), (hs.1 _ hlk).1]
    obtain ⟨x, x1, x2, x3, x4⟩ := (g5 _ hlk).2.2.2
    rw [x2]
    show ∃ A', _ = some A' ∧ rC S A' (fS T 10 (lr l c (k + 1)) (f2 T 10 s (l k))) n U ∧ _
    unfold D_X5_secondRound_43 f2
    rw [x2, nI_clamp (by omega)]
    have go : ∀ A1 s1, rC S A1 s1 n U → (∀ i j, ¬ (S + 2 ≤ i ∧ i ≤ S + 5) → A1 i j = A i j) → ∃ A', D_X5_secondRound_2 S Q u (nI (k + 1)) A1 = some A' ∧ rC S A' (fS T 10 (lr l c (k + 1)) s1) n U ∧ (∀ i j, ¬ (S + 2 ≤ i ∧ i ≤ S + 5) → A' i j = A i j) := fun A1 s1 h1 h2 => by
      obtain ⟨A', f1, f2, f3⟩ := ih u (k + 1) A1 s1 (by omega) (by omega) h1 (fun i hi => (h2 _ _ (by omega)).trans (hln i hi)) (fun i j hi => (h2 _ j (by omega)).trans (hT i j hi))
      exact ⟨A', f1, f2, fun i j h => (f3 i j h).trans (h2 i j h)⟩
    by_cases q : s 0 (l k) = -1
    · rw [if_pos q, if_pos ⟨q, by omega⟩]
      obtain ⟨A1, f1, f2, f3⟩ := cc_sr48 (Q := Q) (S := S) (k := k) (k2 := D_X5_secondRound_2 S Q u) hg0 hd hlk x1 x3 x zFu 0 A s (by omega) (by unfold zFu; omega) hs hT
      rw [show nI 0 = (0 : Int32) by decide] at f1
      rw [f1]
      exact go A1 _ f2 f3
    · rw [if_neg q, if_neg (fun z => q z.1)]
      obtain ⟨A1, f1, f2, f3⟩ := cc_sr48 (Q := Q) (S := S) (k := k) (k2 := D_X5_secondRound_2 S Q u) hg0 hd hlk (c := 0) (by omega) (fun k hk => absurd hk (Nat.not_lt_zero k)) 0 zFu 0 A s (by omega) (by unfold zFu; omega) hs hT
      rw [show nI 0 = (0 : Int32) by decide] at f1
      rw [f1]
      exact go A1 _ f2 f3
/-- nothing is preferred anywhere: the first round gives nothing -/
theorem fC_none {T : zMt} {U n : Nat} (h : ∀ u, u < U → T 2 u ≤ 0) (h5 : ∀ a, a < n → 1 ≤ (T 5 a).toInt) : ∀ (r : List Nat) (s : zMt), (∀ x, x ∈ r → x < n) → (∀ u, u < U → s 2 u = T 1 u) → fC T 10 U r s = s
  | [], _, _, _ => rfl
  | a :: r, s, hm, hs => by
    have hA : ∀ V, V ≤ U → fA T 10 a V s = s := fun V hV => by
      induction V with
      | zero => rfl
      | succ V ih =>
        show f1 T 10 V (fA T 10 a V s) a = s
        rw [ih (by omega)]
        unfold f1
        rw [if_neg]
        rintro ⟨_, _, z, _⟩
        rw [hs V (by omega), Int32.sub_self, Int32.zero_add] at z
        have h1 := Int32.le_iff_toInt_le.mp z
        have h2 := Int32.le_iff_toInt_le.mp (h V (by omega))
        have h3 := h5 a (hm a List.mem_cons_self)
        rw [show (0 : Int32).toInt = 0 by decide] at h2
        omega
    show fC T 10 U r (fA T 10 a U s) = s
    rw [hA U (Nat.le_refl U)]
    exact fC_none h h5 r s (fun x hx => hm x (List.mem_cons_of_mem _ hx)) hs
theorem cc_set2 {Q S n : Nat} {T : zMt} (hn : n ≤ 10) (hd : S + 8 ≤ Q ∨ Q + 13 ≤ S) (hT1 : T 0 1 = nI n) : ∀ (u k : Nat) (A : zMt), k ≤ n → n - k < u → (∀ i j, i < 13 → A (Q + i) j = T i j) → (∀ a, a < k → A (S + 2) a = -1 ∧ A (S + 3) a = 0) → ∃ A', D_X5_settle_2 S Q u (nI k) A = D_X5_settle_36 S Q zFu (0 : Int32) A' ∧ (∀ a, a < n → A' (S + 2) a = -1 ∧ A' (S + 3) a = 0) ∧ (∀ i j, ¬ (S + 2 ≤ i ∧ i ≤ S + 3) → A' i j = A i j) := by
  intro u
  induction u with
  | zero => intro k A _ h; omega
  | succ u ih =>
    intro k A hk hu hT hv
    have e1 : A Q 1 = nI n := (hT 0 1 (by omega)).trans hT1
    rw [D_X5_settle_2, e1]
    by_cases hc : n ≤ k
    · rw [if_pos (by exact (nI_leI (by omega) (by omega)).mpr hc)]
      exact ⟨A, rfl, fun a ha => hv a (by omega), fun _ _ _ => rfl⟩
    · rw [if_neg (by intro z; exact hc ((nI_leI (by omega) (by omega)).mp z)), zwr_nI (show k < 10 by omega) (by decide), zLt_eq, zwr_nI (show k < 10 by omega) (by decide), zLt_eq, nI_add1]
      obtain ⟨A', f1, f2, f3⟩ := ih (k + 1) (zu (zu A (S + 2) k (-1)) (S + 3) k 0) (by omega) (by omega) (fun i j hi => (zu_ne (by omega)).trans ((zu_ne (by omega)).trans (hT i j hi))) (fun a ha => by
        by_cases q : a = k
        · subst q
          exact ⟨(zu_ne (by omega)).trans zu_eq, zu_eq⟩
        · exact ⟨(zu_ne (by omega)).trans ((zu_ne (by omega)).trans (hv a (by omega)).1), (zu_ne (by omega)).trans ((zu_ne (by omega)).trans (hv a (by omega)).2)⟩)
      exact ⟨A', f1, f2, fun i j h => (f3 i j h).trans ((zu_ne (by omega)).trans (zu_ne (by omega)))⟩
theorem cc_set36 {Q S n U : Nat} {T : zMt} (hU : U ≤ 5) (hd : S + 8 ≤ Q ∨ Q + 13 ≤ S) (hT0 : T 0 0 = nI U) : ∀ (u k : Nat) (A : zMt), k ≤ U → U - k < u → (∀ i j, i < 13 → A (Q + i) j = T i j) → (∀ v, v < k → A (S + 4) v = T 1 v ∧ A (S + 5) v = T 3 v ∧ A (S + 6) v = T 2 v) → ∃ A', D_X5_settle_36 S Q u (nI k) A = (if T 0 3 = 0 then D_X5_settle_110 S Q A' else zB (D_X5_firstRound S Q A') fun e => D_X5_settle_110 S Q e) ∧ (∀ v, v < U → A' (S + 4) v = T 1 v ∧ A' (S + 5) v = T 3 v ∧ A' (S + 6) v = T 2 v) ∧ (∀ i j, ¬ (S + 4 ≤ i ∧ i ≤ S + 6) → A' i j = A i j) := by
  intro u
  induction u with
  | zero => intro k A _ h; omega
  | succ u ih =>
    intro k A hk hu hT hv
    have e0 : A Q 0 = nI U := (hT 0 0 (by omega)).trans hT0
    have e3 : A Q 3 = T 0 3 := hT 0 3 (by omega)
    rw [D_X5_settle_36, e0, e3]
    by_cases hc : U ≤ k
    · rw [if_pos (by exact (nI_leI (by omega) (by omega)).mpr hc)]
      exact ⟨A, rfl, fun v hv' => hv v (by omega), fun _ _ _ => rfl⟩
    · have hk5 : k < 5 := by omega
      rw [if_neg (by intro z; exact hc ((nI_leI (by omega) (by omega)).mp z)), zwr_nI hk5 (by decide), zrd_nI hk5 (by decide), zLt_eq, zwr_nI hk5 (by decide), zrd_nI hk5 (by decide), zLt_eq, zwr_nI hk5 (by decide), zrd_nI hk5 (by decide), zLt_eq, nI_add1]
      rw [zu_ne (show ¬ (Q + 2 = S + 4 ∧ k = k) by omega), zu_ne (show ¬ (Q + 3 = S + 6 ∧ k = k) by omega), zu_ne (show ¬ (Q + 3 = S + 4 ∧ k = k) by omega), hT 1 k (by omega), hT 2 k (by omega), hT 3 k (by omega)]
      obtain ⟨A', f1, f2, f3⟩ := ih (k + 1) (zu (zu (zu A (S + 4) k (T 1 k)) (S + 6) k (T 2 k)) (S + 5) k (T 3 k)) (by omega) (by omega) (fun i j hi => (zu_ne (by omega)).trans ((zu_ne (by omega)).trans ((zu_ne (by omega)).trans (hT i j hi)))) (fun v hv' => by
        by_cases q : v = k
        · subst q
          exact ⟨(zu_ne (by omega)).trans ((zu_ne (by omega)).trans zu_eq), zu_eq, (zu_ne (by omega)).trans zu_eq⟩
        · obtain ⟨v1, v2, v3⟩ := hv v (by omega)
          exact ⟨(zu_ne (by omega)).trans ((zu_ne (by omega)).trans ((zu_ne (by omega)).trans v1)), (zu_ne (by omega)).trans ((zu_ne (by omega)).trans ((zu_ne (by omega)).trans v2)), (zu_ne (by omega)).trans ((zu_ne (by omega)).trans ((zu_ne (by omega)).trans v3))⟩)
      exact ⟨A', f1, f2, fun i j h => (f3 i j h).trans ((zu_ne (by omega)).trans ((zu_ne (by omega)).trans (zu_ne (by omega))))⟩
theorem cc_settle {Q S n U : Nat} {A T : zMt} {l : Nat → Nat} (hg : gP T n U) (hd : S + 8 ≤ Q ∨ Q + 13 ≤ S) (hT : ∀ i j, i < 13 → A (Q + i) j = T i j) (hl : ∀ k, k < n → l k < n ∧ A (S + 1) k = nI (l k)) : ∃ A', D_X5_settle S Q A = some A' ∧ rC S A' (rs T 10 U n l) n U ∧ (∀ i j, ¬ (S + 2 ≤ i ∧ i ≤ S + 7) → A' i j = A i j) := by
  have hg0 := hg
  obtain ⟨g1, g2, g3, g4, g5, g6, g7⟩ := hg
  unfold D_X5_settle
  obtain ⟨A1, a1, a2, a3⟩ := cc_set2 (Q := Q) (S := S) (T := T) g1 hd g3 zFu 0 A (by omega) (by unfold zFu; omega) hT (fun a ha => absurd ha (Nat.not_lt_zero a))
  rw [show nI 0 = (0 : Int32) by decide] at a1
  rw [a1]
  obtain ⟨A2, b1, b2, b3⟩ := cc_set36 (Q := Q) (S := S) (n := n) (T := T) g2 hd g4 zFu 0 A1 (by omega) (by unfold zFu; omega) (fun i j hi => (a3 _ j (by omega)).trans (hT i j hi)) (fun v hv => absurd hv (Nat.not_lt_zero v))
  rw [show nI 0 = (0 : Int32) by decide] at b1
  rw [b1]
  have k2 : ∀ i j, ¬ (S + 2 ≤ i ∧ i ≤ S + 6) → A2 i j = A i j := fun i j h => (b3 i j (by omega)).trans (a3 i j (by omega))
  have hT2 : ∀ i j, i < 13 → A2 (Q + i) j = T i j := fun i j hi => (k2 _ j (by omega)).trans (hT i j hi)
  have hr2 : rC S A2 (s0 T) n U := by
    refine ⟨fun a ha => ?_, fun u hu => ?_⟩
    · rw [b3 _ _ (by omega), b3 _ _ (by omega)]
      exact a2 a ha
    · exact ⟨(b2 u hu).1, (b2 u hu).2.1⟩
  have hlr : lp l n = lr l n 0 := by
    have := lp_lr (l := l) n 0
    rw [show (0 : Nat) + n = n by omega] at this
    exact this.symm
  have hmem := lp_mem (l := l) (n := n) n (fun i hi => (hl i hi).1)
  have fin : ∀ A3 s3, rC S A3 s3 n U → (∀ i j, ¬ (S + 2 ≤ i ∧ i ≤ S + 7) → A3 i j = A i j) → s3 = fC T 10 U (bk T (lp l n) 21) (s0 T) → ∃ A', D_X5_settle_110 S Q A3 = some A' ∧ rC S A' (rs T 10 U n l) n U ∧ (∀ i j, ¬ (S + 2 ≤ i ∧ i ≤ S + 7) → A' i j = A i j) := fun A3 s3 h1 h2 h3 => by
    unfold D_X5_settle_110 D_X5_secondRound
    obtain ⟨A4, d1, d2, d3⟩ := cc_sr2 (Q := Q) (S := S) (T := T) (l := l) hg0 hd (fun k hk => (hl k hk).1) n zFu 0 A3 s3 (by omega) (by unfold zFu; omega) h1 (fun i hi => (h2 _ _ (by omega)).trans (hl i hi).2) (fun i j hi => (h2 _ j (by omega)).trans (hT i j hi))
    rw [show nI 0 = (0 : Int32) by decide] at d1
    rw [zB_s d1]
    refine ⟨A4, rfl, ?_, fun i j h => (d3 i j (by omega)).trans (h2 i j h)⟩
    unfold rs
    rw [← h3, hlr]
    exact d2
  by_cases q : T 0 3 = 0
  · rw [if_pos q]
    refine fin A2 (s0 T) hr2 (fun i j h => k2 i j (by omega)) ?_
    rcases g7 with ⟨_, z⟩ | ⟨z, _⟩
    · exact (fC_none z (fun a ha => by have := (g5 a ha).1.i (by omega); omega) _ (s0 T) (fun x hx => hmem x (bk_mem 21 x hx).1) (fun _ _ => rfl)).symm
    · rw [q] at z
      exact absurd z (by decide)
  · rw [if_neg q]
    unfold D_X5_firstRound D_X5_rank
    have hp : ∀ a, a < n → ∃ p, p < 21 ∧ T 7 a = nI p := fun a ha => by
      obtain ⟨p, _, h2, h3⟩ := (g5 a ha).2.1
      exact ⟨p, by omega, h3⟩
    have hb0 : bk T (lp l 0) 21 = [] := by
      have : ∀ m, bk T [] m = [] := fun m => by
        induction m with
        | zero => rfl
        | succ m ih => exact ih
      exact this 21
    obtain ⟨A3, d1, d2, d3⟩ := cc_rank2 (Q := Q) (S := S) (U := U) (T := T) (l := l) g1 hd (fun k hk => (hl k hk).1) hp g3 zFu 0 A2 (by omega) (by unfold zFu; omega) hT2 (fun i hi => (k2 _ _ (by omega)).trans (hl i hi).2) (fun i y hi => by
      rw [hb0] at hi
      exact absurd hi (by rw [List.getElem?_nil]; exact fun z => nomatch z))
    rw [show nI 0 = (0 : Int32) by decide] at d1
    rw [zB_s d1]
    have hlen := bk_len (T := T) (l := l) n (fun i hi => hp (l i) (hl i hi).1)
    obtain ⟨A4, e1, e2, e3⟩ := cc_fr7 (Q := Q) (S := S) hg0 hd (bk T (lp l n) 21) zFu 0 A3 (s0 T) (by rw [hlen]; unfold zFu; omega) (by omega) (fun i y hi => by rw [Nat.zero_add]; exact d2 i y hi) (fun x hx => hmem x (bk_mem 21 x hx).1) ⟨fun a ha => by rw [d3 _ _ (by omega), d3 _ _ (by omega)]; exact hr2.1 a ha, fun u hu => by rw [d3 _ _ (by omega), d3 _ _ (by omega)]; exact hr2.2 u hu⟩ (fun u hu => by
      rw [d3 _ _ (by omega), (b2 u hu).2.2]
      show T 2 u = T 1 u - T 1 u + T 2 u
      rw [Int32.sub_self, Int32.zero_add]) (fun i j hi => (d3 _ j (by omega)).trans (hT2 i j hi))
    rw [show nI 0 = (0 : Int32) by decide] at e1
    rw [zB_s e1]
    exact fin A4 _ e2 (fun i j h => (e3 i j (by omega)).trans ((d3 i j (by omega)).trans (k2 i j (by omega)))) rfl
/-! the reference works the same result out -/
theorem mm_choice {P n U a k : Nat} {B T : zMt} (hn : n ≤ 10) (hm : mP P B T n U) (ha : a < n) (hk : k < 3) : D_X8_choiceOf P B (nI a) (nI k) = some (T 12 (3 * a + k)) := by
  obtain ⟨m1, m2, m3, m4⟩ := hm
  obtain ⟨_, _, _, _, _, _, base, _, b1, b2, b3⟩ := m3 a ha
  unfold D_X8_choiceOf
  rw [if_neg (by intro z; exact absurd ((leL (x := 3) (a := 3) (by decide) (by decide) (by omega)).mp z) (by omega))]
  unfold zI
  rw [if_neg (vp_in_nI (by omega) (by decide)), nI_clamp (by omega), b2, nI_addk (by omega), if_neg (vp_in_nI (by omega) (by decide)), nI_clamp (by omega), b3 k hk]
  rfl
theorem mm_choice3 {P k : Nat} {B : zMt} {x : Int32} (hk : 3 ≤ k) (hk2 : k < 2147483648) : D_X8_choiceOf P B x (nI k) = some (-1) := by
  unfold D_X8_choiceOf
  rw [if_pos (by exact (leL (x := 3) (a := 3) (by decide) (by decide) (by omega)).mpr hk)]
  rfl
theorem mm_many2 {P n U a c : Nat} {B T : zMt} (hn : n ≤ 10) (hm : mP P B T n U) (ha : a < n) (hc3 : c ≤ 3) (hU : U ≤ 5) (h1 : ∀ k, k < c → ∃ u, u < U ∧ T 12 (3 * a + k) = nI u) (h2 : ∀ k, c ≤ k → k < 3 → T 12 (3 * a + k) = -1) : ∀ (d u k : Nat), k + d = c → d < u → D_X8_choiceMany_2 P B u (nI a) (nI k) = some (nI c) := by
  intro d
  induction d with
  | zero =>
    intro u k hk hu
    obtain ⟨u, rfl⟩ : ∃ y, u = y + 1 := ⟨u - 1, by omega⟩
    rw [D_X8_choiceMany_2]
    have e : D_X8_choiceOf P B (nI a) (nI k) = some (-1) := by
      by_cases q : k < 3
      · rw [mm_choice hn hm ha q, h2 k (by omega) q]
      · exact mm_choice3 (by omega) (by omega)
    rw [zB_s e, if_pos rfl, show k = c by omega]
  | succ d ih =>
    intro u k hk hu
    obtain ⟨u, rfl⟩ : ∃ y, u = y + 1 := ⟨u - 1, by omega⟩
    obtain ⟨w, hw, ew⟩ := h1 k (by omega)
    rw [D_X8_choiceMany_2, zB_s (mm_choice hn hm ha (show k < 3 by omega)), ew, if_neg (nI_ne (by omega)), nI_add1]
    exact ih u (k + 1) (by omega) (by omega)
theorem mm_manyC {P n U a : Nat} {B T : zMt} (hg : gP T n U) (hm : mP P B T n U) (ha : a < n) : D_X8_choiceMany P B (nI a) = some (T 11 a) := by
  obtain ⟨g1, g2, g3, g4, g5, g6, g7⟩ := hg
  obtain ⟨c, c1, c2, c3, c4⟩ := (g5 a ha).2.2.2
  unfold D_X8_choiceMany
  have := mm_many2 g1 hm ha c1 g2 c3 c4 c zFu 0 (by omega) (by unfold zFu; omega)
  rw [show nI 0 = (0 : Int32) by decide] at this
  rw [this, c2]
theorem mm_fits {P n U a w : Nat} {B T s : zMt} {x : Int32} (hn : n ≤ 10) (hU : U ≤ 5) (hm : mP P B T n U) (hs : rM P B s n U) (ha : a < n) (hw : w < U) : D_X8_fits P B (nI a) (nI w) x = some (if T 5 a ≤ x ∧ T 6 a ≤ s 3 w then 1 else 0) := by
  obtain ⟨m1, m2, m3, m4⟩ := hm
  obtain ⟨_, _, e5, e6, _⟩ := m3 a ha
  unfold D_X8_fits zI
  rw [if_neg (vp_in_nI (by omega) (by decide)), nI_clamp (by omega), e5]
  by_cases q : T 5 a ≤ x
  · rw [if_neg (by intro z; exact Int32.not_le.mpr z q), if_neg (ci (show a < 10 by omega) (by omega)), if_neg (vp_in_nI (show w < 5 by omega) (by decide)), nI_clamp (by omega), e6, (hs.2 w hw).2]
    by_cases q2 : T 6 a ≤ s 3 w
    · rw [if_neg (by intro z; exact Int32.not_le.mpr z q2), if_pos ⟨q, q2⟩]
      rfl
    · rw [if_pos (by exact Int32.not_le.mp q2), if_neg (fun z => q2 z.2)]
      rfl
  · rw [if_pos (by exact Int32.not_le.mp q), if_neg (fun z => q z.1)]
    rfl
theorem mm_gets {P n U a w : Nat} {B T s : zMt} {rd : Int32} (hn : n ≤ 10) (hU : U ≤ 5) (hm : mP P B T n U) (hs : rM P B s n U) (ha : a < n) (hw : w < U) : ∃ B', D_X8_gets P (nI a) (nI w) rd B = some B' ∧ rM P B' (gT T s a w rd) n U ∧ (∀ i j, ¬ (P + 19 ≤ i ∧ i ≤ P + 22) → B' i j = B i j) := by
  obtain ⟨m1, m2, m3, m4⟩ := hm
  obtain ⟨_, _, e5, e6, _⟩ := m3 a ha
  obtain ⟨hs1, hs2⟩ := hs
  have ia : ¬ (nI a < 0 ∨ 10 ≤ (nI a).toNatClampNeg) := vp_in_nI (by omega) (by decide)
  have iw : ¬ (nI w < 0 ∨ 5 ≤ (nI w).toNatClampNeg) := vp_in_nI (by omega) (by decide)
  have ia2 : ¬ (nI a < 0 ∨ 10 ≤ a) := ci (by omega) (by omega)
  have iw2 : ¬ (nI w < 0 ∨ 5 ≤ w) := ci (by omega) (by omega)
  unfold D_X8_gets zI
  rw [if_neg ia, nI_clamp (show a < 2147483648 by omega), zLt_eq, if_neg ia2, zLt_eq, if_neg iw, if_neg ia2, if_neg iw, nI_clamp (show w < 2147483648 by omega), zLt_eq, if_neg iw2, if_neg ia2, if_neg iw2, zLt_eq]
  rw [zu_ne (show ¬ (P + 21 = P + 20 ∧ w = a) by omega), zu_ne (show ¬ (P + 21 = P + 19 ∧ w = a) by omega), zu_ne (show ¬ (P + 14 = P + 20 ∧ a = a) by omega), zu_ne (show ¬ (P + 14 = P + 19 ∧ a = a) by omega), zu_ne (show ¬ (P + 22 = P + 21 ∧ w = w) by omega), zu_ne (show ¬ (P + 22 = P + 20 ∧ w = a) by omega), zu_ne (show ¬ (P + 22 = P + 19 ∧ w = a) by omega), zu_ne (show ¬ (P + 15 = P + 21 ∧ a = w) by omega), zu_ne (show ¬ (P + 15 = P + 20 ∧ a = a) by omega), zu_ne (show ¬ (P + 15 = P + 19 ∧ a = a) by omega), e5, e6, (hs2 w hw).1, (hs2 w hw).2]
  refine ⟨_, rfl, ⟨fun b hb => ?_, fun u hu => ?_⟩, fun i j h => ?_⟩
  · by_cases q : b = a
    · subst q
      rw [gT_0, gT_1]
      exact ⟨(zu_ne (by omega)).trans ((zu_ne (by omega)).trans ((zu_ne (by omega)).trans zu_eq)), (zu_ne (by omega)).trans ((zu_ne (by omega)).trans zu_eq)⟩
    · rw [gT_out (by omega) (by omega), gT_out (by omega) (by omega)]
      exact ⟨(zu_ne (by omega)).trans ((zu_ne (by omega)).trans ((zu_ne (by omega)).trans ((zu_ne (by omega)).trans (hs1 b hb).1))), (zu_ne (by omega)).trans ((zu_ne (by omega)).trans ((zu_ne (by omega)).trans ((zu_ne (by omega)).trans (hs1 b hb).2)))⟩
  · by_cases q : u = w
    · subst q
      rw [gT_2, gT_3]
      exact ⟨(zu_ne (by omega)).trans zu_eq, zu_eq⟩
    · rw [gT_out (by omega) (by omega), gT_out (by omega) (by omega)]
      exact ⟨(zu_ne (by omega)).trans ((zu_ne (by omega)).trans ((zu_ne (by omega)).trans ((zu_ne (by omega)).trans (hs2 u hu).1))), (zu_ne (by omega)).trans ((zu_ne (by omega)).trans ((zu_ne (by omega)).trans ((zu_ne (by omega)).trans (hs2 u hu).2)))⟩
  · exact (zu_ne (by omega)).trans ((zu_ne (by omega)).trans ((zu_ne (by omega)).trans (zu_ne (by omega))))
theorem nI_62 : ∀ u, u < 5 → (62 : Int32) + nI u = nI (62 + u) := by decide
theorem mm_pref {P n U u : Nat} {B T : zMt} (hU : U ≤ 5) (hm : mP P B T n U) (hu : u < U) : D_X8_preferred P B (nI u) = some (T 2 u) ∧ D_X8_forGuests P B (nI u) = some (T 3 u) := by
  obtain ⟨m1, m2, m3, m4⟩ := hm
  obtain ⟨e1, e2, e3⟩ := m4 u hu
  constructor
  · unfold D_X8_preferred zI
    rw [nI_62 u (by omega), if_neg (vp_in_nI (by omega) (by decide)), if_neg (by decide), nI_clamp (by omega), show (68 : Int32).toNatClampNeg = 68 by decide, e2]
  · unfold D_X8_forGuests zI
    rw [nI_62 u (by omega), if_neg (vp_in_nI (by omega) (by decide)), if_neg (by decide), nI_clamp (by omega), show (69 : Int32).toNatClampNeg = 69 by decide, e3]
/-- one unit, those with so many points -/
theorem mm_fr10 {P n U u p : Nat} {T : zMt} {wo : Nat} {v1 : Int32} {l : Nat → Nat} {k3 : Int32 → Int32 → Int32 → zMt → Option zMt} (hg : gP T n U) (hu : u < U) (hv : ∀ a, a < n → (nI a = v1 ↔ a = wo)) (hl : ∀ k, k < n → l k < n) (hp : p ≤ 20) : ∀ (c f i : Nat) (B s : zMt), i + c = n → c < f → mP P B T n U → rM P B s n U → (∀ k, k < n → B (P + 18) k = nI (l k)) → ∃ B', D_X8_firstRound_10 P k3 f (nI u) v1 (nI p) (nI i) B = k3 (nI u) v1 (nI p + (-1)) B' ∧ rM P B' (fL T wo u (pf T p (lr l c i)) s) n U ∧ (∀ i j, ¬ (P + 19 ≤ i ∧ i ≤ P + 22) → B' i j = B i j) := by
  obtain ⟨g1, g2, g3, g4, g5, g6, g7⟩ := hg
  intro c
  induction c with
  | zero =>
    intro f i B s hi hf hm hs _
    obtain ⟨f, rfl⟩ : ∃ y, f = y + 1 := ⟨f - 1, by omega⟩
    rw [D_X8_firstRound_10, hm.1, if_pos (by exact (nI_leI (by omega) (by omega)).mpr (by omega))]
    exact ⟨B, rfl, hs, fun _ _ _ => rfl⟩
  | succ c ih =>
    intro f i B s hi hf hm hs hln
    obtain ⟨f, rfl⟩ : ∃ y, f = y + 1 := ⟨f - 1, by omega⟩
    have hli := hl i (by omega)
    rw [D_X8_firstRound_10, hm.1, if_neg (by intro z; exact absurd ((nI_leI (by omega) (by omega)).mp z) (by omega))]
    unfold zI
    rw [if_neg (vp_in_nI (by omega) (by decide)), nI_clamp (by omega), hln i (by omega)]
    have next : ∀ B1 s1, rM P B1 s1 n U → (∀ i j, ¬ (P + 19 ≤ i ∧ i ≤ P + 22) → B1 i j = B i j) → s1 = (if T 7 (l i) = nI p then f1 T wo u s (l i) else s) → ∃ B', D_X8_firstRound_10 P k3 f (nI u) v1 (nI p) (nI i + 1) B1 = k3 (nI u) v1 (nI p + (-1)) B' ∧ rM P B' (fL T wo u (pf T p (lr l (c + 1) i)) s) n U ∧ (∀ i j, ¬ (P + 19 ≤ i ∧ i ≤ P + 22) → B' i j = B i j) := fun B1 s1 h1 h2 h3 => by
      rw [nI_add1]
      obtain ⟨B', b1, b2, b3⟩ := ih f (i + 1) B1 s1 (by omega) (by omega) (hm.m g2 (h2 _ _ (by omega)) (h2 _ _ (by omega)) (fun j _ _ => h2 _ _ (by omega)) (fun i j _ _ => h2 i j (by omega))) h1 (fun k hk => (h2 _ _ (by omega)).trans (hln k hk))
      refine ⟨B', b1, ?_, fun i j h => (b3 i j h).trans (h2 i j h)⟩
      have e : fL T wo u (pf T p (lr l (c + 1) i)) s = fL T wo u (pf T p (lr l c (i + 1))) s1 := by
        show fL T wo u (if T 7 (l i) = nI p then l i :: pf T p (lr l c (i + 1)) else pf T p (lr l c (i + 1))) s = _
        by_cases q : T 7 (l i) = nI p
        · rw [if_pos q] at h3 ⊢
          rw [h3]
          rfl
        · rw [if_neg q] at h3 ⊢
          rw [h3]
      rw [e]
      exact b2
    have skip : (if T 7 (l i) = nI p then f1 T wo u s (l i) else s) = s → ∃ B', D_X8_firstRound_60 P k3 (D_X8_firstRound_10 P k3 f) (nI u) v1 (nI p) (nI i) (nI (l i)) B = k3 (nI u) v1 (nI p + (-1)) B' ∧ rM P B' (fL T wo u (pf T p (lr l (c + 1) i)) s) n U ∧ (∀ i j, ¬ (P + 19 ≤ i ∧ i ≤ P + 22) → B' i j = B i j) := fun h => by
      unfold D_X8_firstRound_60 D_X8_firstRound_61
      rw [if_pos rfl]
      exact next B s hs (fun _ _ _ => rfl) h.symm
    by_cases qv : nI (l i) = v1
    · rw [if_pos qv]
      have hw := (hv _ hli).mp qv
      refine skip ?_
      by_cases q : T 7 (l i) = nI p
      · rw [if_pos q]
        unfold f1
        rw [if_neg (fun z => z.1 hw)]
      · rw [if_neg q]
    · rw [if_neg qv]
      have ec := mm_choice (k := 0) g1 hm hli (by omega)
      rw [show nI 0 = (0 : Int32) by decide] at ec
      rw [zB_s ec]
      by_cases qc : T 12 (3 * l i + 0) = nI u
      · have qc' : T 12 (3 * l i) = nI u := qc
        rw [if_pos qc, if_neg (vp_in_nI (show l i < 10 by omega) (by decide)), nI_clamp (show l i < 2147483648 by omega), (hm.2.2.1 _ hli).2.2.2.2.1]
        by_cases qp : T 7 (l i) = nI p
        · rw [if_pos qp]
          unfold D_X8_firstRound_61 zI
          rw [if_neg (by decide), if_neg (vp_in_nI (show u < 5 by omega) (by decide)), nI_62 u (by omega), if_neg (vp_in_nI (show 62 + u < 82 by omega) (by decide)), nI_clamp (show u < 2147483648 by omega), nI_clamp (show 62 + u < 2147483648 by omega), zB_s (mm_pref g2 hm hu).1, (hs.2 u hu).1, (hm.2.2.2 u hu).1, zB_s (mm_fits g1 g2 hm hs hli hu)]
          by_cases qf : T 5 (l i) ≤ s 2 u - T 1 u + T 2 u ∧ T 6 (l i) ≤ s 3 u
          · rw [if_pos qf, if_neg (by decide)]
            obtain ⟨B1, b1, b2, b3⟩ := mm_gets (rd := 1) g1 g2 hm hs hli hu
            rw [zB_s b1]
            refine next B1 _ b2 b3 ?_
            rw [if_pos qp]
            unfold f1
            rw [if_pos ⟨fun z => qv ((hv _ hli).mpr z), qc', qf.1, qf.2⟩]
          · rw [if_neg qf, if_pos rfl]
            refine next B s hs (fun _ _ _ => rfl) ?_
            rw [if_pos qp]
            unfold f1
            rw [if_neg (fun z => qf ⟨z.2.2.1, z.2.2.2⟩)]
        · rw [if_neg qp]
          exact skip (if_neg qp)
      · rw [if_neg qc]
        refine skip ?_
        rw [f1_id qc]
        by_cases q : T 7 (l i) = nI p
        · rw [if_pos q]
        · rw [if_neg q]
theorem mm_fr3 {P n U u : Nat} {T : zMt} {wo : Nat} {v1 : Int32} {l : Nat → Nat} (hg : gP T n U) (hu : u < U) (hv : ∀ a, a < n → (nI a = v1 ↔ a = wo)) (hl : ∀ k, k < n → l k < n) : ∀ (m f : Nat) (B s : zMt), m ≤ 21 → m < f → mP P B T n U → rM P B s n U → (∀ k, k < n → B (P + 18) k = nI (l k)) → ∃ B', D_X8_firstRound_3 P f (nI u) v1 (nI m + (-1)) B = some B' ∧ rM P B' (fL T wo u (bk T (lp l n) m) s) n U ∧ (∀ i j, ¬ (P + 19 ≤ i ∧ i ≤ P + 22) → B' i j = B i j) := by
  intro m
  induction m with
  | zero =>
    intro f B s _ hf hm hs _
    obtain ⟨f, rfl⟩ : ∃ y, f = y + 1 := ⟨f - 1, by omega⟩
    rw [D_X8_firstRound_3, if_pos (by decide)]
    exact ⟨B, rfl, hs, fun _ _ _ => rfl⟩
  | succ m ih =>
    intro f B s hm21 hf hm hs hln
    have g2 := hg.2.1
    obtain ⟨f, rfl⟩ : ∃ y, f = y + 1 := ⟨f - 1, by omega⟩
    have em : nI (m + 1) + (-1 : Int32) = nI m := by
      rw [i_neg]
      exact nI_sub1 (by omega)
    have hlr : lp l n = lr l n 0 := by
      have := lp_lr (l := l) n 0
      rw [show (0 : Nat) + n = n by omega] at this
      exact this.symm
    rw [D_X8_firstRound_3, em, if_neg (by intro z; exact absurd ((ltR (x := 0) (b := 0) (by decide) (by decide) (by omega)).mp z) (by omega))]
    obtain ⟨B1, b1, b2, b3⟩ := mm_fr10 (k3 := D_X8_firstRound_3 P f) (p := m) hg hu hv hl (by omega) n zFu 0 B s (by omega) (by have := hg.1; unfold zFu; omega) hm hs hln
    rw [show nI 0 = (0 : Int32) by decide] at b1
    rw [b1]
    obtain ⟨B2, d1, d2, d3⟩ := ih f B1 _ (by omega) (by omega) (hm.m g2 (b3 _ _ (by omega)) (b3 _ _ (by omega)) (fun j _ _ => b3 _ _ (by omega)) (fun i j _ _ => b3 i j (by omega))) b2 (fun k hk => (b3 _ _ (by omega)).trans (hln k hk))
    refine ⟨B2, d1, ?_, fun i j h => (d3 i j h).trans (b3 i j h)⟩
    show rM P B2 (fL T wo u (pf T m (lp l n) ++ bk T (lp l n) m) s) n U
    rw [fL_app, hlr]
    rw [hlr] at d2
    exact d2
theorem mm_r74 {P n U : Nat} {T : zMt} {wo : Nat} {v1 : Int32} {l : Nat → Nat} (hg : gP T n U) (hv : ∀ a, a < n → (nI a = v1 ↔ a = wo)) (hl : ∀ k, k < n → l k < n) : ∀ (f u : Nat) (B s : zMt), u ≤ U → U - u < f → mP P B T n U → rM P B (fU T wo (bk T (lp l n) 21) u s) n U → (∀ k, k < n → B (P + 18) k = nI (l k)) → ∃ B', D_X8_results_74 P f v1 (nI u) B = D_X8_results_96 P zFu v1 (0 : Int32) B' ∧ rM P B' (fU T wo (bk T (lp l n) 21) U s) n U ∧ (∀ i j, ¬ (P + 19 ≤ i ∧ i ≤ P + 22) → B' i j = B i j) := by
  intro f
  induction f with
  | zero => intro u B s _ h; omega
  | succ f ih =>
    intro u B s hu hf hm hs hln
    have g2 := hg.2.1
    rw [D_X8_results_74, hm.2.1]
    by_cases hc : U ≤ u
    · have : u = U := by omega
      subst this
      rw [if_pos (by exact (nI_leI (by omega) (by omega)).mpr hc)]
      exact ⟨B, rfl, hs, fun _ _ _ => rfl⟩
    · rw [if_neg (by intro z; exact hc ((nI_leI (by omega) (by omega)).mp z))]
      obtain ⟨B1, b1, b2, b3⟩ := mm_fr3 hg (show u < U by omega) hv hl 21 zFu B _ (by omega) (by unfold zFu; omega) hm hs hln
      have e1 : D_X8_firstRound P (nI u) v1 B = some B1 := by
        unfold D_X8_firstRound
        rw [show nI 21 + (-1 : Int32) = (20 : Int32) by decide] at b1
        exact b1
      rw [zB_s e1, nI_add1]
      obtain ⟨B2, d1, d2, d3⟩ := ih (u + 1) B1 s (by omega) (by omega) (hm.m g2 (b3 _ _ (by omega)) (b3 _ _ (by omega)) (fun j _ _ => b3 _ _ (by omega)) (fun i j _ _ => b3 i j (by omega))) b2 (fun k hk => (b3 _ _ (by omega)).trans (hln k hk))
      exact ⟨B2, d1, d2, fun i j h => (d3 i j h).trans (b3 i j h)⟩
/-- the second round: one -/
theorem mm_r114 {P n U a k : Nat} {T : zMt} {wo : Nat} {v1 : Int32} {k96 : Int32 → Int32 → zMt → Option zMt} (hg : gP T n U) (hv : ∀ a, a < n → (nI a = v1 ↔ a = wo)) (ha : a < n) : ∀ (c f i d : Nat) (B s : zMt), d = (T 11 a).toNatClampNeg → i + c = d → c + 1 < f → mP P B T n U → rM P B s n U → ∃ B', D_X8_results_114 P k96 f v1 (nI k) (nI a) (nI i) B = k96 v1 (nI (k + 1)) B' ∧ rM P B' (if s 0 a = -1 ∧ ¬ a = wo then s2 T s a c i else s) n U ∧ (∀ i j, ¬ (P + 19 ≤ i ∧ i ≤ P + 22) → B' i j = B i j) := by
  have hg0 := hg
  obtain ⟨g1, g2, g3, g4, g5, g6, g7⟩ := hg
  obtain ⟨x, x1, x2, x3, x4⟩ := (g5 a ha).2.2.2
  intro c
  induction c with
  | zero =>
    intro f i d B s hd hi hf hm hs
    obtain ⟨f, rfl⟩ : ∃ y, f = y + 1 := ⟨f - 1, by omega⟩
    rw [x2, nI_clamp (by omega)] at hd
    rw [D_X8_results_114, zB_s (mm_manyC hg0 hm ha), x2, if_pos (by exact (nI_leI (by omega) (by omega)).mpr (by omega))]
    unfold D_X8_results_185
    rw [nI_add1]
    refine ⟨B, rfl, ?_, fun _ _ _ => rfl⟩
    by_cases q : s 0 a = -1 ∧ ¬ a = wo
    · rw [if_pos q]; exact hs
    · rw [if_neg q]; exact hs
  | succ c ih =>
    intro f i d B s hd hi hf hm hs
    obtain ⟨f, rfl⟩ : ∃ y, f = y + 1 := ⟨f - 1, by omega⟩
    have hd' := hd
    rw [x2, nI_clamp (by omega)] at hd
    rw [D_X8_results_114, zB_s (mm_manyC hg0 hm ha), x2, if_neg (by intro z; exact absurd ((nI_leI (by omega) (by omega)).mp z) (by omega))]
    unfold zI
    rw [if_neg (vp_in_nI (show a < 10 by omega) (by decide)), nI_clamp (show a < 2147483648 by omega), (hs.1 a ha).1]
    by_cases q : s 0 a = -1
    · rw [if_pos q]
      by_cases qw : a = wo
      · rw [if_pos ((hv a ha).mpr qw), if_neg (fun z => z.2 qw)]
        unfold D_X8_results_185
        rw [nI_add1]
        exact ⟨B, rfl, hs, fun _ _ _ => rfl⟩
      · obtain ⟨w, hw, ew⟩ := x3 i (by omega)
        have ec := mm_choice (k := i) g1 hm ha (by omega)
        rw [ew] at ec
        have ewu : wu T a i = w := by
          unfold wu
          rw [ew, nI_clamp (by omega)]
        rw [if_neg (fun z => qw ((hv a ha).mp z)), if_pos ⟨q, qw⟩, zB_s ec, zB_s ec, if_neg (vp_in_nI (show w < 5 by omega) (by decide)), nI_clamp (show w < 2147483648 by omega), (hs.2 w hw).1, zB_s (mm_fits g1 g2 hm hs ha hw)]
        show ∃ B', _ = k96 v1 (nI (k + 1)) B' ∧ rM P B' (if T 5 a ≤ s 2 (wu T a i) ∧ T 6 a ≤ s 3 (wu T a i) then gT T s a (wu T a i) 2 else s2 T s a c (i + 1)) n U ∧ _
        rw [ewu]
        by_cases qf : T 5 a ≤ s 2 w ∧ T 6 a ≤ s 3 w
        · rw [if_pos qf, if_neg (by decide), if_pos qf, zB_s ec]
          obtain ⟨B1, b1, b2, b3⟩ := mm_gets (rd := 2) g1 g2 hm hs ha hw
          rw [zB_s b1]
          unfold D_X8_results_179
          rw [nI_add1]
          obtain ⟨B', e1, e2, e3⟩ := ih f (i + 1) d B1 _ hd' (by omega) (by omega) (hm.m g2 (b3 _ _ (by omega)) (b3 _ _ (by omega)) (fun j _ _ => b3 _ _ (by omega)) (fun i j _ _ => b3 i j (by omega))) b2
          rw [if_neg (fun z => by
            have := z.1
            rw [gT_0] at this
            exact nI_ne (by omega) this)] at e2
          exact ⟨B', e1, e2, fun i j h => (e3 i j h).trans (b3 i j h)⟩
        · rw [if_neg qf, if_pos rfl, if_neg qf]
          unfold D_X8_results_179
          rw [nI_add1]
          obtain ⟨B', e1, e2, e3⟩ := ih f (i + 1) d B s hd' (by omega) (by omega) hm hs
          rw [if_pos ⟨q, qw⟩] at e2
          exact ⟨B', e1, e2, e3⟩
    · rw [if_neg q, if_neg (fun z => q z.1)]
      unfold D_X8_results_185
      rw [nI_add1]
      exact ⟨B, rfl, hs, fun _ _ _ => rfl⟩
theorem mm_r96 {P n U : Nat} {T : zMt} {wo : Nat} {v1 : Int32} {l : Nat → Nat} (hg : gP T n U) (hv : ∀ a, a < n → (nI a = v1 ↔ a = wo)) (hl : ∀ k, k < n → l k < n) : ∀ (c f k : Nat) (B s : zMt), k + c = n → c < f → mP P B T n U → rM P B s n U → (∀ k, k < n → B (P + 18) k = nI (l k)) → ∃ B', D_X8_results_96 P f v1 (nI k) B = some B' ∧ rM P B' (fS T wo (lr l c k) s) n U ∧ (∀ i j, ¬ (P + 19 ≤ i ∧ i ≤ P + 22) → B' i j = B i j) := by
  have hg0 := hg
  obtain ⟨g1, g2, g3, g4, g5, g6, g7⟩ := hg
  intro c
  induction c with
  | zero =>
    intro f k B s hk hf hm hs _
    obtain ⟨f, rfl⟩ : ∃ y, f = y + 1 := ⟨f - 1, by omega⟩
    rw [D_X8_results_96, hm.1, if_pos (by exact (nI_leI (by omega) (by omega)).mpr (by omega))]
    exact ⟨B, rfl, hs, fun _ _ _ => rfl⟩
  | succ c ih =>
    intro f k B s hk hf hm hs hln
    obtain ⟨f, rfl⟩ : ∃ y, f = y + 1 := ⟨f - 1, by omega⟩
    have hlk := hl k (by omega)
    rw [D_X8_results_96, hm.1, if_neg (by intro z; exact absurd ((nI_leI (by omega) (by omega)).mp z) (by omega))]
    unfold zI
    rw [if_neg (vp_in_nI (show k < 10 by omega) (by decide)), nI_clamp (by omega), hln k (by omega)]
    obtain ⟨x, x1, x2, x3, x4⟩ := (g5 _ hlk).2.2.2
    obtain ⟨B1, b1, b2, b3⟩ := mm_r114 (k := k) (k96 := D_X8_results_96 P f) hg0 hv hlk x zFu 0 x B s (by rw [x2, nI_clamp (by omega)]) (by omega) (by unfold zFu; omega) hm hs
    rw [show nI 0 = (0 : Int32) by decide] at b1
    rw [b1]
    obtain ⟨B2, d1, d2, d3⟩ := ih f (k + 1) B1 _ (by omega) (by omega) (hm.m g2 (b3 _ _ (by omega)) (b3 _ _ (by omega)) (fun j _ _ => b3 _ _ (by omega)) (fun i j _ _ => b3 i j (by omega))) b2 (fun k hk => (b3 _ _ (by omega)).trans (hln k hk))
    refine ⟨B2, d1, ?_, fun i j h => (d3 i j h).trans (b3 i j h)⟩
    show rM P B2 (fS T wo (lr l c (k + 1)) (f2 T wo s (l k))) n U
    unfold f2
    rw [x2, nI_clamp (by omega)]
    exact d2
theorem mm_r2 {P n U : Nat} {T : zMt} {v1 : Int32} (hn : n ≤ 10) : ∀ (f k : Nat) (B : zMt), k ≤ n → n - k < f → B P 33 = nI n → (∀ a, a < k → B (P + 19) a = -1 ∧ B (P + 20) a = 0) → ∃ B', D_X8_results_2 P f v1 (nI k) B = D_X8_results_32 P zFu v1 (0 : Int32) B' ∧ (∀ a, a < n → B' (P + 19) a = -1 ∧ B' (P + 20) a = 0) ∧ (∀ i j, ¬ (P + 19 ≤ i ∧ i ≤ P + 22) → B' i j = B i j) := by
  intro f
  induction f with
  | zero => intro k B _ h; omega
  | succ f ih =>
    intro k B hk hf h33 hv
    rw [D_X8_results_2, h33]
    by_cases hc : n ≤ k
    · rw [if_pos (by exact (nI_leI (by omega) (by omega)).mpr hc)]
      exact ⟨B, rfl, fun a ha => hv a (by omega), fun _ _ _ => rfl⟩
    · have ik : ¬ (nI k < 0 ∨ 10 ≤ (nI k).toNatClampNeg) := vp_in_nI (by omega) (by decide)
      rw [if_neg (by intro z; exact hc ((nI_leI (by omega) (by omega)).mp z))]
      unfold zI
      rw [if_neg ik, nI_clamp (by omega), zLt_eq, if_neg (ci (show k < 10 by omega) (by omega)), zLt_eq, nI_add1]
      obtain ⟨B', b1, b2, b3⟩ := ih (k + 1) (zu (zu B (P + 19) k (-1)) (P + 20) k 0) (by omega) (by omega) ((zu_ne (by omega)).trans ((zu_ne (by omega)).trans h33)) (fun a ha => by
        by_cases q : a = k
        · subst q
          exact ⟨(zu_ne (by omega)).trans zu_eq, zu_eq⟩
        · exact ⟨(zu_ne (by omega)).trans ((zu_ne (by omega)).trans (hv a (by omega)).1), (zu_ne (by omega)).trans ((zu_ne (by omega)).trans (hv a (by omega)).2)⟩)
      exact ⟨B', b1, b2, fun i j h => (b3 i j h).trans ((zu_ne (by omega)).trans (zu_ne (by omega)))⟩
theorem mm_r32 {P n U : Nat} {T : zMt} {v1 : Int32} (hn : n ≤ 10) (hU : U ≤ 5) : ∀ (f k : Nat) (B : zMt), k ≤ U → U - k < f → mP P B T n U → (∀ v, v < k → B (P + 21) v = T 1 v ∧ B (P + 22) v = T 3 v) → ∃ B', D_X8_results_32 P f v1 (nI k) B = D_X8_results_74 P zFu v1 (0 : Int32) B' ∧ (∀ v, v < U → B' (P + 21) v = T 1 v ∧ B' (P + 22) v = T 3 v) ∧ (∀ i j, ¬ (P + 21 ≤ i ∧ i ≤ P + 22) → B' i j = B i j) := by
  intro f
  induction f with
  | zero => intro k B _ h; omega
  | succ f ih =>
    intro k B hk hf hm hv
    rw [D_X8_results_32, hm.2.1]
    by_cases hc : U ≤ k
    · rw [if_pos (by exact (nI_leI (by omega) (by omega)).mpr hc)]
      exact ⟨B, rfl, fun a ha => hv a (by omega), fun _ _ _ => rfl⟩
    · have ik : ¬ (nI k < 0 ∨ 5 ≤ (nI k).toNatClampNeg) := vp_in_nI (by omega) (by decide)
      rw [if_neg (by intro z; exact hc ((nI_leI (by omega) (by omega)).mp z)), nI_62 k (by omega)]
      unfold zI
      rw [if_neg (vp_in_nI (show 62 + k < 82 by omega) (by decide)), if_neg ik, nI_clamp (show k < 2147483648 by omega), nI_clamp (show 62 + k < 2147483648 by omega), (hm.2.2.2 k (by omega)).1, zLt_eq]
      have hm1 : mP P (zu B (P + 21) k (T 1 k)) T n U := hm.m hU (zu_ne (by omega)) (zu_ne (by omega)) (fun j _ _ => zu_ne (by omega)) (fun i j _ _ => zu_ne (by omega))
      rw [zB_s (mm_pref hU hm1 (show k < U by omega)).2, if_neg (ci (show k < 5 by omega) (by omega)), zLt_eq, nI_add1]
      obtain ⟨B', b1, b2, b3⟩ := ih (k + 1) (zu (zu B (P + 21) k (T 1 k)) (P + 22) k (T 3 k)) (by omega) (by omega) (hm1.m hU (zu_ne (by omega)) (zu_ne (by omega)) (fun j _ _ => zu_ne (by omega)) (fun i j _ _ => zu_ne (by omega))) (fun v hv' => by
        by_cases q : v = k
        · subst q
          exact ⟨(zu_ne (by omega)).trans zu_eq, zu_eq⟩
        · exact ⟨(zu_ne (by omega)).trans ((zu_ne (by omega)).trans (hv v (by omega)).1), (zu_ne (by omega)).trans ((zu_ne (by omega)).trans (hv v (by omega)).2)⟩)
      exact ⟨B', b1, b2, fun i j h => (b3 i j h).trans ((zu_ne (by omega)).trans (zu_ne (by omega)))⟩
theorem mm_results {P n U : Nat} {B T : zMt} {wo : Nat} {v1 : Int32} {l : Nat → Nat} (hg : gP T n U) (hm : mP P B T n U) (hv : ∀ a, a < n → (nI a = v1 ↔ a = wo)) (hl : ∀ k, k < n → l k < n ∧ B (P + 18) k = nI (l k)) : ∃ B', D_X8_results P v1 B = some B' ∧ rM P B' (rs T wo U n l) n U ∧ (∀ i j, ¬ (P + 19 ≤ i ∧ i ≤ P + 22) → B' i j = B i j) := by
  have g1 := hg.1
  have g2 := hg.2.1
  unfold D_X8_results
  obtain ⟨B1, a1, a2, a3⟩ := mm_r2 (P := P) (U := U) (T := T) (v1 := v1) g1 zFu 0 B (by omega) (by unfold zFu; omega) hm.1 (fun a ha => absurd ha (Nat.not_lt_zero a))
  rw [show nI 0 = (0 : Int32) by decide] at a1
  rw [a1]
  have hm1 : mP P B1 T n U := hm.m g2 (a3 _ _ (by omega)) (a3 _ _ (by omega)) (fun j _ _ => a3 _ _ (by omega)) (fun i j _ _ => a3 i j (by omega))
  obtain ⟨B2, b1, b2, b3⟩ := mm_r32 (P := P) (v1 := v1) g1 g2 zFu 0 B1 (by omega) (by unfold zFu; omega) hm1 (fun v hv => absurd hv (Nat.not_lt_zero v))
  rw [show nI 0 = (0 : Int32) by decide] at b1
  rw [b1]
  have k2 : ∀ i j, ¬ (P + 19 ≤ i ∧ i ≤ P + 22) → B2 i j = B i j := fun i j h => (b3 i j (by omega)).trans (a3 i j h)
  have hm2 : mP P B2 T n U := hm.m g2 (k2 _ _ (by omega)) (k2 _ _ (by omega)) (fun j _ _ => k2 _ _ (by omega)) (fun i j _ _ => k2 i j (by omega))
  have hr2 : rM P B2 (s0 T) n U := by
    refine ⟨fun a ha => ?_, fun u hu => b2 u hu⟩
    rw [b3 _ _ (by omega), b3 _ _ (by omega)]
    exact a2 a ha
  obtain ⟨B3, d1, d2, d3⟩ := mm_r74 (P := P) (wo := wo) (v1 := v1) (l := l) hg hv (fun k hk => (hl k hk).1) zFu 0 B2 (s0 T) (by omega) (by unfold zFu; omega) hm2 hr2 (fun k hk => (k2 _ _ (by omega)).trans (hl k hk).2)
  rw [show nI 0 = (0 : Int32) by decide] at d1
  rw [d1]
  have k3 : ∀ i j, ¬ (P + 19 ≤ i ∧ i ≤ P + 22) → B3 i j = B i j := fun i j h => (d3 i j h).trans (k2 i j h)
  obtain ⟨B4, e1, e2, e3⟩ := mm_r96 (P := P) (wo := wo) (v1 := v1) (l := l) hg hv (fun k hk => (hl k hk).1) n zFu 0 B3 _ (by omega) (by unfold zFu; omega) (hm.m g2 (k3 _ _ (by omega)) (k3 _ _ (by omega)) (fun j _ _ => k3 _ _ (by omega)) (fun i j _ _ => k3 i j (by omega))) d2 (fun k hk => (k3 _ _ (by omega)).trans (hl k hk).2)
  rw [show nI 0 = (0 : Int32) by decide] at e1
  refine ⟨B4, e1, ?_, fun i j h => (e3 i j h).trans (k3 i j h)⟩
  have hlr : lp l n = lr l n 0 := by
    have := lp_lr (l := l) n 0
    rw [show (0 : Nat) + n = n by omega] at this
    exact this.symm
  rw [fU_fC (by omega)] at e2
  unfold rs
  rw [← hlr] at e2
  exact e2
/-! the result of a seed, both; a year goes by -/
theorem t_result {Q S P n U : Nat} {A B B1 T : zMt} {N : zNt} {seed : Int32} (hg : gP T n U) (hT : ∀ i j, i < 13 → A (Q + i) j = T i j) (hd : S + 8 ≤ Q ∨ Q + 13 ≤ S) (hB : D_X8_laysApplicants P B = some B1) (hm : mP P B1 T n U) (hs : 0 ≤ seed.toInt) : two (D_X5_bySeed S Q seed A) (D_X8_laysResult P seed B N) (fun A' r => (∃ l, lnO n n (A' (S + 1)) (r.1 (P + 18)) l ∧ rC S A' (rs T 10 U n l) n U ∧ rM P r.1 (rs T 10 U n l) n U) ∧ mP P r.1 T n U ∧ (∀ i j, ¬ (S + 1 ≤ i ∧ i ≤ S + 7) → A' i j = A i j) ∧ (∀ i j, ¬ (P + 18 ≤ i ∧ i ≤ P + 22) → r.1 i j = B1 i j) ∧ (∀ i j, ¬ (i = P ∧ j = 46) → r.2 i j = N i j)) := by
  have g1 := hg.1
  have g2 := hg.2.1
  unfold D_X5_bySeed D_X8_laysResult
  refine two.bind (t_order (Q := Q) (S := S) hg (hT 0 1 (by omega)) (hT 0 2 (by omega)) (fun a _ => hT 8 a (by omega)) hd hB hm hs) (fun A1 r1 h => ?_)
  obtain ⟨⟨l, hl⟩, k1, k2, k3⟩ := h
  obtain ⟨A2, e1, e2, e3⟩ := cc_settle (Q := Q) (S := S) (A := A1) (T := T) (l := l) hg hd (fun i j hi => (k1 _ j (by omega)).trans (hT i j hi)) (fun k hk => ⟨(hl.1 k hk).1, (hl.1 k hk).2.1⟩)
  have hm1 : mP P r1.1 T n U := hm.m g2 (k2 _ _ (by omega)) (k2 _ _ (by omega)) (fun j _ _ => k2 _ _ (by omega)) (fun i j _ _ => k2 i j (by omega))
  obtain ⟨B2, d1, d2, d3⟩ := mm_results (P := P) (B := r1.1) (T := T) (wo := 10) (v1 := -1) (l := l) hg hm1 (fun a ha => ⟨fun z => absurd z (nI_ne (by omega)), fun z => by omega⟩) (fun k hk => ⟨(hl.1 k hk).1, (hl.1 k hk).2.2⟩)
  refine two.l e1 (two.r d1 (two.mk ⟨⟨l, ⟨fun k hk => ?_, hl.2⟩, e2, d2⟩, ?_, fun i j h => (e3 i j (by omega)).trans (k1 i j (by omega)), fun i j h => (d3 i j (by omega)).trans (k2 i j (by omega)), k3⟩))
  · obtain ⟨q1, q2, q3⟩ := hl.1 k hk
    exact ⟨q1, (e3 _ _ (by omega)).trans q2, (d3 _ _ (by omega)).trans q3⟩
  · exact hm1.m g2 (d3 _ _ (by omega)) (d3 _ _ (by omega)) (fun j _ _ => d3 _ _ (by omega)) (fun i j _ _ => d3 i j (by omega))
/-- what one has is one of its choices -/
def okS (T s : zMt) (n U : Nat) : Prop := ∀ a, a < n → s 0 a = -1 ∨ ∃ k w, k < (T 11 a).toNatClampNeg ∧ w < U ∧ T 12 (3 * a + k) = nI w ∧ s 0 a = nI w
theorem okS_gT {T s : zMt} {n U a k w : Nat} {rd : Int32} (h : okS T s n U) (hk : k < (T 11 a).toNatClampNeg) (hw : w < U) (e : T 12 (3 * a + k) = nI w) : okS T (gT T s a w rd) n U := fun b hb => by
  by_cases q : b = a
  · subst q
    exact Or.inr ⟨k, w, hk, hw, e, gT_0⟩
  · rw [gT_out (by omega) (by omega)]
    exact h b hb
theorem isW.pos {T : zMt} {a U u : Nat} (h : isW T a U) (hu : u < 2147483648) (e : T 12 (3 * a) = nI u) : 0 < (T 11 a).toNatClampNeg := by
  obtain ⟨c, c1, c2, c3, c4⟩ := h
  rw [c2, nI_clamp (by omega)]
  by_cases q : c = 0
  · have := c4 0 (by omega) (by omega)
    have e2 : T 12 (3 * a) = -1 := this
    rw [e] at e2
    exact absurd e2 (nI_ne hu)
  · omega
theorem okS_f1 {T s : zMt} {n U a u wo : Nat} (h : okS T s n U) (hg : gP T n U) (ha : a < n) (hu : u < U) : okS T (f1 T wo u s a) n U := by
  have g2 := hg.2.1
  unfold f1
  by_cases q : ¬ a = wo ∧ T 12 (3 * a) = nI u ∧ T 5 a ≤ s 2 u - T 1 u + T 2 u ∧ T 6 a ≤ s 3 u
  · rw [if_pos q]
    exact okS_gT h (k := 0) (((hg.2.2.2.2.1 a ha).2.2.2).pos (by omega) q.2.1) hu q.2.1
  · rw [if_neg q]; exact h
theorem okS_fA {T : zMt} {n U a wo : Nat} (hg : gP T n U) (ha : a < n) : ∀ (u : Nat) (s : zMt), u ≤ U → okS T s n U → okS T (fA T wo a u s) n U
  | 0, _, _, h => h
  | u + 1, s, hu, h => okS_f1 (okS_fA hg ha u s (by omega) h) hg ha (by omega)
theorem okS_fC {T : zMt} {n U wo : Nat} (hg : gP T n U) : ∀ (r : List Nat) (s : zMt), (∀ x, x ∈ r → x < n) → okS T s n U → okS T (fC T wo U r s) n U
  | [], _, _, h => h
  | a :: r, s, hm, h => okS_fC hg r _ (fun x hx => hm x (List.mem_cons_of_mem _ hx)) (okS_fA hg (hm a List.mem_cons_self) U s (Nat.le_refl U) h)
theorem okS_s2 {T s : zMt} {n U a : Nat} (hg : gP T n U) (ha : a < n) (h : okS T s n U) : ∀ (c k : Nat), k + c ≤ (T 11 a).toNatClampNeg → okS T (s2 T s a c k) n U
  | 0, _, _ => h
  | c + 1, k, hk => by
    show okS T (if T 5 a ≤ s 2 (wu T a k) ∧ T 6 a ≤ s 3 (wu T a k) then gT T s a (wu T a k) 2 else s2 T s a c (k + 1)) n U
    by_cases q : T 5 a ≤ s 2 (wu T a k) ∧ T 6 a ≤ s 3 (wu T a k)
    · rw [if_pos q]
      obtain ⟨x, x1, x2, x3, x4⟩ := (hg.2.2.2.2.1 a ha).2.2.2
      rw [x2, nI_clamp (by omega)] at hk
      obtain ⟨w, hw, ew⟩ := x3 k (by omega)
      have g2 := hg.2.1
      have ewu : wu T a k = w := by
        unfold wu
        rw [ew, nI_clamp (by omega)]
      rw [ewu]
      exact okS_gT h (k := k) (by rw [x2, nI_clamp (by omega)]; omega) hw ew
    · rw [if_neg q]
      exact okS_s2 hg ha h c (k + 1) (by omega)
theorem okS_fS {T : zMt} {n U wo : Nat} (hg : gP T n U) : ∀ (r : List Nat) (s : zMt), (∀ x, x ∈ r → x < n) → okS T s n U → okS T (fS T wo r s) n U
  | [], _, _, h => h
  | a :: r, s, hm, h => okS_fS hg r _ (fun x hx => hm x (List.mem_cons_of_mem _ hx)) (by
    unfold f2
    by_cases q : s 0 a = -1 ∧ ¬ a = wo
    · rw [if_pos q]
      exact okS_s2 hg (hm a List.mem_cons_self) h _ 0 (by omega)
    · rw [if_neg q]; exact h)
theorem rs_ok {T : zMt} {n U wo : Nat} {l : Nat → Nat} (hg : gP T n U) (hl : ∀ k, k < n → l k < n) : okS T (rs T wo U n l) n U := by
  have hmem := lp_mem (l := l) (n := n) n hl
  unfold rs
  exact okS_fS hg _ _ hmem (okS_fC hg _ _ (fun x hx => hmem x (bk_mem 21 x hx).1) (fun a _ => Or.inl rfl))
/-- POINTS behind a result -/
def bh (T s : zMt) (a : Nat) (had : Int32) : Int32 := if T 11 a = 0 then had else if s 0 a = -1 then (if (20 : Int32) < had + 1 then 20 else had + 1) else if s 0 a = T 12 (3 * a) then 0 else had
theorem cc_hasFirst {Q S n U a : Nat} {A T s : zMt} (hn : n ≤ 10) (ha : a < n) (hT : ∀ i j, i < 13 → A (Q + i) j = T i j) (hs : rC S A s n U) : D_X5_hasFirst S Q A (nI a) = some (if s 0 a = -1 then 0 else if s 0 a = T 12 (3 * a) then 1 else 0) := by
  unfold D_X5_hasFirst
  rw [zrd_nI (show a < 10 by omega) (by decide), (hs.1 a ha).1]
  by_cases q : s 0 a = -1
  · rw [if_pos q, if_pos q]
    rfl
  · have ew := cc_wish (Q := Q) (A := A) (T := T) (a := a) (k := 0) (by omega) (by omega) hT
    rw [show nI 0 = (0 : Int32) by decide] at ew
    rw [if_neg q, if_neg q, zB_s ew]
    by_cases q2 : s 0 a = T 12 (3 * a)
    · rw [if_pos (by exact q2), if_pos q2]
      rfl
    · rw [if_neg (by exact q2), if_neg q2]
      rfl
theorem cc_behind {Q S n U a : Nat} {A T s : zMt} {had : Int32} (hn : n ≤ 10) (ha : a < n) (hT : ∀ i j, i < 13 → A (Q + i) j = T i j) (hs : rC S A s n U) : D_X5_scoreBehind S Q A (nI a) had = some (bh T s a had) := by
  unfold D_X5_scoreBehind bh
  rw [zrd_nI (show a < 10 by omega) (by decide), zrd_nI (show a < 10 by omega) (by decide), (hs.1 a ha).1, hT 11 a (by omega)]
  by_cases q0 : T 11 a = 0
  · rw [if_pos q0, if_pos q0]
  · rw [if_neg q0, if_neg q0]
    by_cases q : s 0 a = -1
    · rw [if_pos q, if_pos q]
    · rw [if_neg q, if_neg q, zB_s (cc_hasFirst hn ha hT hs), if_neg q]
      by_cases q2 : s 0 a = T 12 (3 * a)
      · rw [if_pos q2, if_pos q2, if_neg (by decide)]
        rfl
      · rw [if_neg q2, if_neg q2, if_pos rfl]
        rfl
theorem mm_has1 {b : Int32} {h : Nat} (q : bitAt b h) : D_X8_has b (nI h) = some 1 := by
  unfold D_X8_has
  rw [if_pos (by exact q)]
  rfl
theorem mm_has0 {b : Int32} {h : Nat} (q : ¬ bitAt b h) : D_X8_has b (nI h) = some 0 := by
  unfold D_X8_has
  rw [if_neg (by exact q)]
  rfl
theorem nI_0p : ∀ h, h < 10 → (0 : Int32) + nI h = nI h := by decide
theorem i_min {x : Int32} : (if x < 20 then x else 20) = (if (20 : Int32) < x then 20 else x) := by
  by_cases q : x < 20
  · rw [if_pos q, if_neg (by
      intro z
      have h1 := Int32.lt_iff_toInt_lt.mp q
      have h2 := Int32.lt_iff_toInt_lt.mp z
      omega)]
  · rw [if_neg q]
    by_cases q2 : (20 : Int32) < x
    · rw [if_pos q2]
    · rw [if_neg q2]
      have h1 := Int32.le_iff_toInt_le.mp (Int32.not_lt.mp q)
      have h2 := Int32.le_iff_toInt_le.mp (Int32.not_lt.mp q2)
      exact Int32.toInt_inj.mp (by omega)
theorem mm_behind {P n U H h : Nat} {B T s : zMt} (hg : gP T n U) (hm : mP P B T n U) (hs : rM P B s n U) (hh : gH T n H) (hH : H ≤ 10) (hhH : h < H) (ok : okS T s n U) : D_X8_behindNow P B (nI h) = some (bh T s (aOf T h) (B (P + 1) h)) := by
  have g1 := hg.1
  obtain ⟨ha, _, hb⟩ := hh h hhH
  generalize aOf T h = a at ha hb
  have go : ∀ (c u x : Nat), x + c = a → c < u → D_X8_behindNow_2 P B u (nI h) (nI x) = some (bh T s a (B (P + 1) h)) := by
    intro c
    induction c with
    | zero =>
      intro u x hx hu
      obtain ⟨u, rfl⟩ : ∃ y, u = y + 1 := ⟨u - 1, by omega⟩
      have : x = a := by omega
      subst this
      have ix : ¬ (nI x < 0 ∨ 10 ≤ (nI x).toNatClampNeg) := vp_in_nI (by omega) (by decide)
      have ec := mm_choice (k := 0) g1 hm ha (by omega)
      rw [show nI 0 = (0 : Int32) by decide] at ec
      rw [D_X8_behindNow_2]
      unfold zI
      rw [if_neg ix, nI_clamp (by omega), (hm.2.2.1 x ha).1, zB_s (mm_has1 ((hb x ha).mpr rfl)), if_neg (by decide), if_neg (ci (show x < 10 by omega) (by omega)), (hs.1 x ha).1, nI_0p h (by omega), if_neg (vp_in_nI (show h < 82 by omega) (by decide)), nI_clamp (show h < 2147483648 by omega)]
      unfold bh
      by_cases q : s 0 x = -1
      · rw [if_pos q, if_pos q, zB_s (mm_manyC hg hm ha)]
        by_cases q0 : T 11 x = 0
        · rw [if_pos q0, if_pos q0]
          rfl
        · rw [if_neg q0, if_neg q0]
          unfold D_X8_behindNow_93
          rw [if_neg (ci (show h < 82 by omega) (by omega)), i_min]
      · have q0 : ¬ T 11 x = 0 := fun z => by
          rcases ok x ha with w | ⟨k, w, h1, _⟩
          · exact q w
          · rw [z, show (0 : Int32).toNatClampNeg = 0 by decide] at h1
            omega
        rw [if_neg q, if_neg q, if_neg q0, if_neg (ci (show x < 10 by omega) (by omega)), zB_s ec]
        by_cases q2 : s 0 x = T 12 (3 * x)
        · rw [if_pos (by exact q2), if_pos q2]
          rfl
        · rw [if_neg (by exact q2), if_neg q2, if_neg (ci (show h < 82 by omega) (by omega))]
          rfl
    | succ c ih =>
      intro u x hx hu
      obtain ⟨u, rfl⟩ : ∃ y, u = y + 1 := ⟨u - 1, by omega⟩
      rw [D_X8_behindNow_2]
      unfold zI
      rw [if_neg (vp_in_nI (show x < 10 by omega) (by decide)), nI_clamp (by omega), (hm.2.2.1 x (by omega)).1, zB_s (mm_has0 (fun z => by have := (hb x (by omega)).mp z; omega)), if_pos rfl, nI_add1]
      exact ih u (x + 1) (by omega) (by omega)
  have := go a zFu 0 (by omega) (by unfold zFu; omega)
  rw [show nI 0 = (0 : Int32) by decide] at this
  exact this
theorem mm_unitNow {P n U H h : Nat} {B T s : zMt} (hn : n ≤ 10) (hm : mP P B T n U) (hs : rM P B s n U) (hh : gH T n H) (hH : H ≤ 10) (hhH : h < H) : D_X8_unitNow P B (nI h) = some (s 0 (aOf T h)) := by
  obtain ⟨ha, _, hb⟩ := hh h hhH
  generalize aOf T h = a at ha hb
  have go : ∀ (c u x : Nat), x + c = a → c < u → D_X8_unitNow_2 P B u (nI h) (nI x) = some (s 0 a) := by
    intro c
    induction c with
    | zero =>
      intro u x hx hu
      obtain ⟨u, rfl⟩ : ∃ y, u = y + 1 := ⟨u - 1, by omega⟩
      have : x = a := by omega
      subst this
      have ix : ¬ (nI x < 0 ∨ 10 ≤ (nI x).toNatClampNeg) := vp_in_nI (by omega) (by decide)
      rw [D_X8_unitNow_2]
      unfold zI
      rw [if_neg ix, nI_clamp (by omega), (hm.2.2.1 x ha).1, zB_s (mm_has1 ((hb x ha).mpr rfl)), if_neg (by decide), if_neg (ci (show x < 10 by omega) (by omega)), (hs.1 x ha).1]
    | succ c ih =>
      intro u x hx hu
      obtain ⟨u, rfl⟩ : ∃ y, u = y + 1 := ⟨u - 1, by omega⟩
      rw [D_X8_unitNow_2]
      unfold zI
      rw [if_neg (vp_in_nI (show x < 10 by omega) (by decide)), nI_clamp (by omega), (hm.2.2.1 x (by omega)).1, zB_s (mm_has0 (fun z => by have := (hb x (by omega)).mp z; omega)), if_pos rfl, nI_add1]
      exact ih u (x + 1) (by omega) (by omega)
  have := go a zFu 0 (by omega) (by unfold zFu; omega)
  rw [show nI 0 = (0 : Int32) by decide] at this
  exact this
/-- tags given -/
def tg (T s : zMt) : Nat → Int32
  | 0 => 0
  | a + 1 => tg T s a + (if s 0 a = -1 then 0 else T 5 a)
theorem cc_tags {Q S n U : Nat} {A T s : zMt} (hg : gP T n U) (hT : ∀ i j, i < 13 → A (Q + i) j = T i j) (hs : rC S A s n U) : D_X5_tagsGiven S Q A = some (tg T s n) := by
  obtain ⟨g1, g2, g3, g4, g5, g6, g7⟩ := hg
  have e1 : A Q 1 = nI n := (hT 0 1 (by omega)).trans g3
  have go : ∀ (u k : Nat), k ≤ n → n - k < u → D_X5_tagsGiven_4 S Q A u (tg T s k) (nI k) = some (tg T s n) := by
    intro u
    induction u with
    | zero => intro k _ h; omega
    | succ u ih =>
      intro k hk hu
      rw [D_X5_tagsGiven_4, e1]
      by_cases hc : n ≤ k
      · rw [if_pos (by exact (nI_leI (by omega) (by omega)).mpr hc), show k = n by omega]
      · rw [if_neg (by intro z; exact hc ((nI_leI (by omega) (by omega)).mp z)), zrd_nI (show k < 10 by omega) (by decide), (hs.1 k (by omega)).1]
        have := ih (k + 1) (by omega) (by omega)
        have et : tg T s (k + 1) = tg T s k + (if s 0 k = -1 then 0 else T 5 k) := rfl
        by_cases q : s 0 k = -1
        · rw [if_pos q] at et ⊢
          unfold D_X5_tagsGiven_37
          rw [nI_add1, ← et]
          exact this
        · rw [if_neg q] at et ⊢
          unfold D_X5_tagsGiven_37
          rw [zrd_nI (show k < 10 by omega) (by decide), hT 5 k (by omega), nI_add1, ← et]
          exact this
  have := go zFu 0 (by omega) (by unfold zFu; omega)
  rw [show nI 0 = (0 : Int32) by decide] at this
  exact this
theorem mm_tags {P n U : Nat} {B T s : zMt} (hn : n ≤ 10) (hm : mP P B T n U) (hs : rM P B s n U) : D_X8_givenTags P B = some (tg T s n) := by
  have go : ∀ (u k : Nat), k ≤ n → n - k < u → D_X8_givenTags_4 P B u (tg T s k) (nI k) = some (tg T s n) := by
    intro u
    induction u with
    | zero => intro k _ h; omega
    | succ u ih =>
      intro k hk hu
      rw [D_X8_givenTags_4, hm.1]
      by_cases hc : n ≤ k
      · rw [if_pos (by exact (nI_leI (by omega) (by omega)).mpr hc), show k = n by omega]
      · have ik : ¬ (nI k < 0 ∨ 10 ≤ (nI k).toNatClampNeg) := vp_in_nI (by omega) (by decide)
        rw [if_neg (by intro z; exact hc ((nI_leI (by omega) (by omega)).mp z))]
        unfold zI
        rw [if_neg ik, nI_clamp (by omega), (hs.1 k (by omega)).1]
        have := ih (k + 1) (by omega) (by omega)
        have et : tg T s (k + 1) = tg T s k + (if s 0 k = -1 then 0 else T 5 k) := rfl
        by_cases q : s 0 k = -1
        · rw [if_pos q] at et ⊢
          unfold D_X8_givenTags_33
          rw [nI_add1, ← et]
          exact this
        · rw [if_neg q] at et ⊢
          unfold D_X8_givenTags_33
          rw [if_neg (ci (show k < 10 by omega) (by omega)), (hm.2.2.1 k (by omega)).2.2.1, nI_add1, ← et]
          exact this
  have := go zFu 0 (by omega) (by unfold zFu; omega)
  rw [show nI 0 = (0 : Int32) by decide] at this
  exact this
/-- the class lets the year go by in its register -/
theorem cc_live {Q S R n U H : Nat} {T s : zMt} (hg : gP T n U) (hh : gH T n H) (hH : H ≤ 10) (h1 : R + 8 ≤ Q ∨ Q + 13 ≤ R) (h2 : R + 8 ≤ S ∨ S + 8 ≤ R) : ∀ (u k : Nat) (A : zMt), k ≤ H → H - k < u → A R 1 = nI H → (∀ i j, i < 13 → A (Q + i) j = T i j) → rC S A s n U → ∃ A', D_X4_live_2 R Q S u (nI k) A = some A' ∧ (∀ h, k ≤ h → h < H → A' (R + 2) h = bh T s (aOf T h) (A (R + 2) h) ∧ A' (R + 7) h = s 0 (aOf T h)) ∧ (∀ i j, ¬ ((i = R + 2 ∨ i = R + 7) ∧ k ≤ j ∧ j < H) → A' i j = A i j) := by
  have g1 := hg.1
  intro u
  induction u with
  | zero => intro k A _ h; omega
  | succ u ih =>
    intro k A hk hu hR hT hs
    rw [D_X4_live_2, hR]
    by_cases hc : H ≤ k
    · rw [if_pos (by exact (nI_leI (by omega) (by omega)).mpr hc)]
      exact ⟨A, rfl, fun h h3 h4 => by omega, fun _ _ _ => rfl⟩
    · obtain ⟨ha, e4, _⟩ := hh k (by omega)
      rw [if_neg (by intro z; exact hc ((nI_leI (by omega) (by omega)).mp z)), zrd_nI (show k < 10 by omega) (by decide), hT 4 k (by omega), e4, zrd_nI (show k < 10 by omega) (by decide), zB_s (cc_behind g1 ha hT hs), zwr_nI (show k < 10 by omega) (by decide), zLt_eq, zwr_nI (show k < 10 by omega) (by decide), zrd_nI (show aOf T k < 10 by omega) (by decide), zu_ne (show ¬ (S + 2 = R + 2 ∧ aOf T k = k) by omega), (hs.1 _ ha).1, zLt_eq, nI_add1]
      obtain ⟨A', f1, f2, f3⟩ := ih (k + 1) (zu (zu A (R + 2) k (bh T s (aOf T k) (A (R + 2) k))) (R + 7) k (s 0 (aOf T k))) (by omega) (by omega) ((zu_ne (by omega)).trans ((zu_ne (by omega)).trans hR)) (fun i j hi => (zu_ne (by omega)).trans ((zu_ne (by omega)).trans (hT i j hi))) ⟨fun a ha' => by rw [zu_ne (by omega), zu_ne (by omega), zu_ne (by omega), zu_ne (by omega)]; exact hs.1 a ha', fun v hv => by rw [zu_ne (by omega), zu_ne (by omega), zu_ne (by omega), zu_ne (by omega)]; exact hs.2 v hv⟩
      refine ⟨A', f1, fun h h3 h4 => ?_, fun i j h => (f3 i j (by omega)).trans ((zu_ne (by omega)).trans (zu_ne (by omega)))⟩
      by_cases q : h = k
      · subst q
        rw [f3 _ _ (by omega), f3 _ _ (by omega)]
        exact ⟨(zu_ne (by omega)).trans zu_eq, zu_eq⟩
      · obtain ⟨f4, f5⟩ := f2 h (by omega) h4
        rw [zu_ne (show ¬ (R + 2 = R + 7 ∧ h = k) by omega), zu_ne (show ¬ (R + 2 = R + 2 ∧ h = k) by omega)] at f4
        exact ⟨f4, f5⟩
/-- the reference does, in its row -/
theorem mm_gy34 {P H : Nat} {v : Nat → Int32} {N : zNt} (hH : H ≤ 10) : ∀ (u k : Nat) (B : zMt), k ≤ H → H - k < u → B P 8 = nI H → (∀ h, h < H → B (P + 30) h = v h) → ∃ B', D_X8_goesYear_34 P u (nI k) B N = some (B', N) ∧ (∀ h, k ≤ h → h < H → B' (P + 1) h = v h) ∧ (∀ i j, ¬ (i = P + 1 ∧ k ≤ j ∧ j < H) → B' i j = B i j) := by
  intro u
  induction u with
  | zero => intro k B _ h; omega
  | succ u ih =>
    intro k B hk hu h8 hv
    rw [D_X8_goesYear_34, h8]
    by_cases hc : H ≤ k
    · rw [if_pos (by exact (nI_leI (by omega) (by omega)).mpr hc)]
      exact ⟨B, rfl, fun h h3 h4 => by omega, fun _ _ _ => rfl⟩
    · rw [if_neg (by intro z; exact hc ((nI_leI (by omega) (by omega)).mp z)), nI_0p k (by omega)]
      unfold zI
      rw [if_neg (vp_in_nI (show k < 10 by omega) (by decide)), if_neg (vp_in_nI (show k < 82 by omega) (by decide)), nI_clamp (by omega), hv k (by omega), zLt_eq, nI_add1]
      obtain ⟨B', f1, f2, f3⟩ := ih (k + 1) (zu B (P + 1) k (v k)) (by omega) (by omega) ((zu_ne (by omega)).trans h8) (fun h hh => (zu_ne (by omega)).trans (hv h hh))
      refine ⟨B', f1, fun h h3 h4 => ?_, fun i j h => (f3 i j (by omega)).trans (zu_ne (by omega))⟩
      by_cases q : h = k
      · subst q
        rw [f3 _ _ (by omega), zu_eq]
      · exact f2 h (by omega) h4
theorem mm_gy7 {P n U H : Nat} {T s : zMt} {N : zNt} (hg : gP T n U) (hh : gH T n H) (hH : H ≤ 10) (ok : okS T s n U) : ∀ (u k : Nat) (B : zMt), k ≤ H → H - k < u → B P 8 = nI H → mP P B T n U → rM P B s n U → (∀ h, h < k → B (P + 30) h = bh T s (aOf T h) (B (P + 1) h)) → ∃ B', D_X8_goesYear_7 P u (nI k) B N = D_X8_goesYear_34 P zFu (0 : Int32) B' N ∧ (∀ h, h < H → B' (P + 30) h = bh T s (aOf T h) (B (P + 1) h)) ∧ (∀ i j, ¬ i = P + 30 → B' i j = B i j) := by
  have g2 := hg.2.1
  intro u
  induction u with
  | zero => intro k B _ h; omega
  | succ u ih =>
    intro k B hk hu h8 hm hs hv
    rw [D_X8_goesYear_7, h8]
    by_cases hc : H ≤ k
    · rw [if_pos (by exact (nI_leI (by omega) (by omega)).mpr hc)]
      exact ⟨B, rfl, fun h h3 => hv h (by omega), fun _ _ _ => rfl⟩
    · rw [if_neg (by intro z; exact hc ((nI_leI (by omega) (by omega)).mp z)), zB_s (mm_behind hg hm hs hh hH (by omega) ok)]
      unfold zI
      rw [if_neg (vp_in_nI (show k < 10 by omega) (by decide)), nI_clamp (by omega), zLt_eq, nI_add1]
      have kk : ∀ i j, ¬ i = P + 30 → zu B (P + 30) k (bh T s (aOf T k) (B (P + 1) k)) i j = B i j := fun i j h => zu_ne (by omega)
      obtain ⟨B', f1, f2, f3⟩ := ih (k + 1) (zu B (P + 30) k (bh T s (aOf T k) (B (P + 1) k))) (by omega) (by omega) ((kk _ _ (by omega)).trans h8) (hm.m g2 (kk _ _ (by omega)) (kk _ _ (by omega)) (fun j _ _ => kk _ _ (by omega)) (fun i j _ _ => kk i j (by omega))) ⟨fun a ha => by rw [kk _ _ (by omega), kk _ _ (by omega)]; exact hs.1 a ha, fun v hv' => by rw [kk _ _ (by omega), kk _ _ (by omega)]; exact hs.2 v hv'⟩ (fun h hh' => by
        rw [kk (P + 1) h (by omega)]
        by_cases q : h = k
        · subst q; rw [zu_eq]
        · rw [zu_ne (by omega)]; exact hv h (by omega))
      refine ⟨B', f1, fun h h3 => ?_, fun i j h => (f3 i j h).trans (kk i j h)⟩
      rw [f2 h h3, kk (P + 1) h (by omega)]
/-- a year, both -/
theorem t_year {Q S P n U H : Nat} {A B B1 T : zMt} {N : zNt} {seed : Int32} (hg : gP T n U) (hh : gH T n H) (hH : H ≤ 10) (hT : ∀ i j, i < 13 → A (Q + i) j = T i j) (hd : S + 8 ≤ Q ∨ Q + 13 ≤ S) (hB : D_X8_laysApplicants P B = some B1) (hm : mP P B1 T n U) (h8 : B1 P 8 = nI H) (hs : 0 ≤ seed.toInt) : two (D_X5_bySeed S Q seed A) (D_X8_goesYear P seed B N) (fun A' r => (∃ l, (∀ k, k < n → l k < n) ∧ rC S A' (rs T 10 U n l) n U ∧ rM P r.1 (rs T 10 U n l) n U ∧ (∀ h, h < H → r.1 (P + 1) h = bh T (rs T 10 U n l) (aOf T h) (B1 (P + 1) h))) ∧ mP P r.1 T n U ∧ (∀ i j, ¬ (S + 1 ≤ i ∧ i ≤ S + 7) → A' i j = A i j) ∧ (∀ i j, ¬ (P + 18 ≤ i ∧ i ≤ P + 22) → ¬ i = P + 30 → ¬ (i = P + 1 ∧ j < H) → r.1 i j = B1 i j) ∧ (∀ i j, ¬ (i = P ∧ j = 46) → r.2 i j = N i j)) := by
  have g2 := hg.2.1
  unfold D_X8_goesYear
  obtain ⟨A', ea, r, er, ⟨l, hl, hC, hM⟩, hm1, k1, k2, k3⟩ := t_result (Q := Q) (S := S) (N := N) hg hT hd hB hm hs
  have hl' : ∀ k, k < n → l k < n := fun k hk => (hl.1 k hk).1
  have ok := rs_ok (wo := 10) hg hl'
  obtain ⟨B2, b1, b2, b3⟩ := mm_gy7 (N := r.2) hg hh hH ok zFu 0 r.1 (by omega) (by unfold zFu; omega) ((k2 _ _ (by omega)).trans h8) hm1 hM (fun h hh' => absurd hh' (Nat.not_lt_zero h))
  rw [show nI 0 = (0 : Int32) by decide] at b1
  obtain ⟨B3, d1, d2, d3⟩ := mm_gy34 (P := P) (v := fun h => bh T (rs T 10 U n l) (aOf T h) (r.1 (P + 1) h)) (N := r.2) hH zFu 0 B2 (by omega) (by unfold zFu; omega) ((b3 _ _ (by omega)).trans ((k2 _ _ (by omega)).trans h8)) b2
  rw [show nI 0 = (0 : Int32) by decide] at d1
  have kB : ∀ i j, ¬ (P + 18 ≤ i ∧ i ≤ P + 22) → ¬ i = P + 30 → ¬ (i = P + 1 ∧ j < H) → B3 i j = B1 i j := fun i j h1 h2 h3 => (d3 i j (by omega)).trans ((b3 i j h2).trans (k2 i j h1))
  refine ⟨A', ea, (B3, r.2), ?_, ⟨l, hl', hC, ⟨fun a ha => ?_, fun v hv => ?_⟩, fun h h3 => ?_⟩, ?_, k1, kB, k3⟩
  · rw [zB_s er]
    exact b1.trans d1
  · show B3 _ _ = _ ∧ B3 _ _ = _
    rw [d3 _ _ (by omega), d3 _ _ (by omega), b3 _ _ (by omega), b3 _ _ (by omega)]
    exact hM.1 a ha
  · show B3 _ _ = _ ∧ B3 _ _ = _
    rw [d3 _ _ (by omega), d3 _ _ (by omega), b3 _ _ (by omega), b3 _ _ (by omega)]
    exact hM.2 v hv
  · show B3 (P + 1) h = _
    rw [d2 h (Nat.zero_le h) h3, k2 (P + 1) h (by omega)]
  · exact hm.m g2 (kB _ _ (by omega) (by omega) (by omega)) (kB _ _ (by omega) (by omega) (by omega)) (fun j _ _ => kB _ _ (by omega) (by omega) (by omega)) (fun i j _ _ => kB i j (by omega) (by omega) (by omega))
/-! what a row that stands for a list gives; a call that has changed the list ends -/
theorem row_facts {r : Nat → Int32} {U H G : Nat} (hR : jRow r U H) (h70 : r 70 = nI G) (hG : G ≤ 4) (hH : H ≤ 10) : fr r H + G ≤ H ∧ (r 67 = 0 ∨ r 67 = 1 ∨ r 67 = 2) ∧ (∀ p, p < G → ∃ h, h < H ∧ r (10 + h) = nI p) ∧ (∀ h, h < H → r (10 + h) = -1 ∨ ∃ p, p < G ∧ r (10 + h) = nI p) ∧ (∀ a, a < fr r H + G → ¬ sN r H a = 0) := by
  obtain ⟨h1, h2, h3, h4, h5, h6⟩ := hR
  have e70 : (r 70).toInt = G := by rw [h70, nI_toInt (by omega)]
  have hmem : ∀ p, p < G → ∃ h, h < H ∧ r (10 + h) = nI p := fun p hp => by
    obtain ⟨h, q1, q2⟩ := h6 p (by omega)
    exact ⟨h, by omega, Int32.toInt_inj.mp (by rw [q2, nI_toInt (by omega)])⟩
  refine ⟨?_, ?_, hmem, fun h hh => ?_, fun a ha => ?_⟩
  · have hp := fr_pig r H (fun p => decide (p < G)) (fun p _ hs => by
      obtain ⟨h, q1, q2⟩ := h6 p (by have := of_decide_eq_true hs; omega)
      exact ⟨h, by omega, q2⟩)
    simp only [decide_eq_true_eq] at hp
    revert hp
    (repeat' split) <;> intro hp <;> omega
  · obtain ⟨v, _, q2, q3⟩ := isN.of (x := r 67) (lo := 0) (hi := 2) (by show ((0 : Nat) : Int) ≤ _; omega) (by omega)
    have hc : v = 0 ∨ v = 1 ∨ v = 2 := by omega
    rcases hc with z | z | z
    · exact Or.inl (by rw [q3, z]; decide)
    · exact Or.inr (Or.inl (by rw [q3, z]; decide))
    · exact Or.inr (Or.inr (by rw [q3, z]; decide))
  · obtain ⟨q1, q2, _⟩ := h2 h (by omega)
    by_cases z : (r (10 + h)).toInt = -1
    · exact Or.inl (Int32.toInt_inj.mp (by rw [z]; decide))
    · obtain ⟨v, _, v2, v3⟩ := isN.of (x := r (10 + h)) (lo := 0) (hi := G - 1) (by show ((0 : Nat) : Int) ≤ _; omega) (by omega)
      exact Or.inr ⟨v, by omega, v3⟩
  · obtain ⟨h, hm⟩ := ap_ex ha hG hmem
    exact sN_ne hm hH
theorem cc_changed {C U H G : Nat} {A : zMt} {r g : Nat → Int32} {v : Int32} (w : gR (C + 17) A r g U H G) (hR : jRow r U H) : ∃ A', D_X7_changed C v A = some (v, A') ∧ cU (C + 91) A' r U ∧ cL (C + 91) A' r g H G ∧ A' C 0 = 0 ∧ A' C 3 = 0 ∧ (∀ i j, ¬ (i = C ∧ (j = 0 ∨ j = 3)) → (i < C + 91 ∨ C + 104 ≤ i) → A' i j = A i j) := by
  have c2 := w.1.2.1
  have c3 := w.1.2.2.1
  obtain ⟨f1, f2, f3, f4, f5⟩ := row_facts hR w.1.2.2.2.2.2.2 c3 c2
  unfold D_X7_changed
  obtain ⟨A1, e1, e2, e3, e4⟩ := cc_gather (Q := C + 91) w (by omega) (by omega) f2 f5
  rw [zB_s e1, zLt_eq]
  have ea : D_X7_answer C v (zu A1 C 3 (0 : Int32)) = some (v, zu (zu A1 C 3 (0 : Int32)) C 0 (0 : Int32)) := rfl
  rw [zB_s ea]
  have kk : ∀ i j, ¬ (i = C ∧ (j = 0 ∨ j = 3)) → zu (zu A1 C 3 (0 : Int32)) C 0 (0 : Int32) i j = A1 i j := fun i j h => (zu_ne (by omega)).trans (zu_ne (by omega))
  refine ⟨zu (zu A1 C 3 (0 : Int32)) C 0 (0 : Int32), rfl, ?_, ?_, zu_eq, (zu_ne (by omega)).trans zu_eq, fun i j h1 h2 => (kk i j h1).trans (e4 i j (by omega))⟩
  · obtain ⟨u1, u2, u3⟩ := e2
    refine ⟨(kk _ _ (by omega)).trans u1, fun u hu => ?_, ?_⟩
    · rw [kk _ _ (by omega), kk _ _ (by omega), kk _ _ (by omega)]
      exact u2 u hu
    · rcases u3 with ⟨z0, al⟩ | ⟨z1, i0, h1, h2⟩
      · exact Or.inl ⟨(kk _ _ (by omega)).trans z0, fun i hi => by rw [kk _ _ (by omega)]; exact al i hi⟩
      · exact Or.inr ⟨(kk _ _ (by omega)).trans z1, i0, h1, by rw [kk _ _ (by omega)]; exact h2⟩
  · obtain ⟨l1, l2, l3⟩ := e3
    refine ⟨(kk _ _ (by omega)).trans l1, (kk _ _ (by omega)).trans l2, fun a ha => ?_⟩
    obtain ⟨q1, q2, q3, q4, q5, q6, q7, q8⟩ := l3 a ha
    exact ⟨(kk _ _ (by omega)).trans q1, (kk _ _ (by omega)).trans q2, fun base hb => (q3 base hb).k (kk _ _ (by omega)) (fun j _ _ => kk _ _ (by omega)), (kk _ _ (by omega)).trans q4, (kk _ _ (by omega)).trans q5, (kk _ _ (by omega)).trans q6, (kk _ _ (by omega)).trans q7, fun h hm => (kk _ _ (by omega)).trans (q8 h hm)⟩
/-! THE STATES: the class's at C, the reference's at P, between two calls -/
theorem cU.k {Q : Nat} {A A' : zMt} {r : Nat → Int32} {U : Nat} (h : cU Q A r U) (k : ∀ i j, Q ≤ i → i < Q + 13 → A' i j = A i j) : cU Q A' r U := by
  have e : ∀ i, i < 13 → A' (Q + i) = A (Q + i) := fun i hi => funext fun j => k _ j (by omega) (by omega)
  have e0 : A' Q = A Q := e 0 (by omega)
  unfold cU
  rw [e0, e 1 (by omega), e 2 (by omega), e 3 (by omega)]
  exact h
theorem cL.k {Q : Nat} {A A' : zMt} {r g : Nat → Int32} {H G : Nat} (h : cL Q A r g H G) (k : ∀ i j, Q ≤ i → i < Q + 13 → A' i j = A i j) : cL Q A' r g H G := by
  have e : ∀ i, i < 13 → A' (Q + i) = A (Q + i) := fun i hi => funext fun j => k _ j (by omega) (by omega)
  have e0 : A' Q = A Q := e 0 (by omega)
  unfold cL wsC
  rw [e0, e 4 (by omega), e 5 (by omega), e 6 (by omega), e 7 (by omega), e 8 (by omega), e 9 (by omega), e 10 (by omega), e 11 (by omega), e 12 (by omega)]
  exact h
theorem pst.k {Q P : Nat} {A A' B B' : zMt} {g : Nat → Int32} {U H K : Nat} (w : pst Q P A B g U H K) (a : ∀ i j, Q ≤ i → i < Q + 66 → A' i j = A i j) (b : ∀ i j, ((i = P ∧ j = 9) ∨ i = P + 4) → B' i j = B i j) : pst Q P A' B' g U H K := by
  obtain ⟨hK, a0, b9, nw, hn, a1, he⟩ := w
  refine ⟨hK, (a _ _ (by omega) (by omega)).trans a0, (b _ _ (by omega)).trans b9, nw, hn, (a _ _ (by omega) (by omega)).trans a1, fun k hk => ?_⟩
  obtain ⟨G, hg⟩ := he k hk
  have h1 : Q + 2 ≤ ent Q nw K k := by unfold ent; omega
  have h2 : ent Q nw K k ≤ Q + 58 := by unfold ent; omega
  exact ⟨G, hg.m (fun i j _ _ => a i j (by omega) (by omega)) (fun j _ => b (P + 4) (82 * k + j) (by omega)) (fun _ _ => rfl)⟩
def eqS (C P : Nat) (A B : zMt) (r g : Nat → Int32) (U H G K : Nat) : Prop := (∀ j, j < 82 → B (P + 1) j = r j) ∧ (∀ h, h < 10 → B (P + 5) h = g h) ∧ B P 7 = nI U ∧ B P 8 = nI H ∧ jRow r U H ∧ gR (C + 17) A r g U H G ∧ cU (C + 91) A r U ∧ cL (C + 91) A r g H G ∧ pst (C + 25) P A B g U H K
def eqE (C P : Nat) (A B : zMt) : Prop := ∃ r g U H G K, eqS C P A B r g U H G K
theorem eqS.k {C P : Nat} {A A' B B' : zMt} {r g : Nat → Int32} {U H G K : Nat} (w : eqS C P A B r g U H G K) (a : ∀ i j, C + 17 ≤ i → i < C + 104 → A' i j = A i j) (b : ∀ i j, ((i = P ∧ (j = 7 ∨ j = 8 ∨ j = 9)) ∨ (i = P + 1 ∧ j < 82) ∨ i = P + 4 ∨ i = P + 5) → B' i j = B i j) : eqS C P A' B' r g U H G K := by
  obtain ⟨w1, w2, w3, w4, w5, w6, w7, w8, w9⟩ := w
  exact ⟨fun j hj => (b _ _ (by omega)).trans (w1 j hj), fun h hh => (b _ _ (by omega)).trans (w2 h hh), (b _ _ (by omega)).trans w3, (b _ _ (by omega)).trans w4, w5, w6.m (fun i j _ _ => a i j (by omega) (by omega)) (fun _ _ => rfl) (fun _ _ => rfl), w7.k (fun i j _ _ => a i j (by omega) (by omega)), w8.k (fun i j _ _ => a i j (by omega) (by omega)), w9.k (fun i j _ _ => a i j (by omega) (by omega)) (fun i j _ => b i j (by omega))⟩
theorem eqE.k {C P : Nat} {A A' B B' : zMt} (w : eqE C P A B) (a : ∀ i j, C + 17 ≤ i → i < C + 104 → A' i j = A i j) (b : ∀ i j, ((i = P ∧ (j = 7 ∨ j = 8 ∨ j = 9)) ∨ (i = P + 1 ∧ j < 82) ∨ i = P + 4 ∨ i = P + 5) → B' i j = B i j) : eqE C P A' B' := by
  obtain ⟨r, g, U, H, G, K, w⟩ := w
  exact ⟨r, g, U, H, G, K, w.k a b⟩
theorem jS.row {P U H : Nat} {B : zMt} (h : jS P B) (h7 : B P 7 = nI U) (h8 : B P 8 = nI H) (hU : U ≤ 5) (hH : H ≤ 10) : jRow (B (P + 1)) U H := by
  have e : jRow (B (P + 1)) (B P 7).toInt (B P 8).toInt := h
  rw [h7, h8, nI_toInt (by omega), nI_toInt (by omega)] at e
  exact e
/-- a call that has changed the list ends -/
theorem t_done {C P U H G K : Nat} {A B : zMt} {g : Nat → Int32} {v : Int32} (h7 : B P 7 = nI U) (h8 : B P 8 = nI H) (hR : jRow (B (P + 1)) U H) (h5 : ∀ h, h < 10 → B (P + 5) h = g h) (hg : gR (C + 17) A (B (P + 1)) g U H G) (hp : pst (C + 25) P A B g U H K) : ∃ A', D_X7_changed C v A = some (v, A') ∧ eqS C P A' B (B (P + 1)) g U H G K ∧ A' C 3 = 0 ∧ (∀ i j, ¬ (i = C ∧ (j = 0 ∨ j = 3)) → (i < C + 91 ∨ C + 104 ≤ i) → A' i j = A i j) := by
  obtain ⟨A', e1, e2, e3, e4, e5, e6⟩ := cc_changed (C := C) (v := v) hg hR
  exact ⟨A', e1, ⟨fun _ _ => rfl, h5, h7, h8, hR, hg.m (fun i j _ _ => e6 i j (by omega) (by omega)) (fun _ _ => rfl) (fun _ _ => rfl), e2, e3, hp.k (fun i j _ _ => e6 i j (by omega) (by omega)) (fun _ _ _ => rfl)⟩, e5, e6⟩
/-! what both ask first -/
theorem n10 : ¬ (1 : Int32) = 0 := by decide
theorem nI_m1l {n : Nat} (hn : n < 1000) : (Int32.toInt64 (nI n - 1)).toInt = (n : Int) - 1 := by
  have o1 : (1 : Int32).toInt = 1 := by decide
  have e : (nI n).toInt = n := nI_toInt (by omega)
  rw [Int32.toInt_toInt64, z_sub (by rw [e, o1]; omega) (by rw [e, o1]; omega), e, o1]
theorem mm_from {v : Int32} {a b : Int64} {lo hi : Int} (ha : a.toInt = lo) (hb : b.toInt = hi) : D_X8_isFrom (Int32.toInt64 v) a b = some (if lo ≤ v.toInt ∧ v.toInt ≤ hi then 1 else 0) := by
  obtain ⟨r, hr, q1, q2⟩ := v_X8_isFrom (v0 := Int32.toInt64 v) (v1 := a) (v2 := b)
  rw [Int32.toInt_toInt64, ha, hb] at q2
  rw [hr]
  have o0 : (0 : Int32).toInt = 0 := by decide
  have o1 : (1 : Int32).toInt = 1 := by decide
  by_cases q : lo ≤ v.toInt ∧ v.toInt ≤ hi
  · rw [if_pos q]
    rcases q2 with ⟨w, _⟩ | ⟨_, w⟩
    · rw [Int32.toInt_inj.mp (w.trans o1.symm)]
    · omega
  · rw [if_neg q]
    rcases q2 with ⟨_, w⟩ | ⟨w, _⟩
    · exact absurd w q
    · rw [Int32.toInt_inj.mp (w.trans o0.symm)]
theorem inN {v : Int32} {n : Nat} (hn : n < 2147483648) : ((∃ h, h < n ∧ v = nI h) ∧ ¬ v < 0 ∧ ¬ nI n ≤ v ∧ 0 ≤ v.toInt ∧ v.toInt ≤ (n : Int) - 1) ∨ ((v < 0 ∨ nI n ≤ v) ∧ ¬ (0 ≤ v.toInt ∧ v.toInt ≤ (n : Int) - 1)) := by
  have o0 : (0 : Int32).toInt = 0 := by decide
  have en : (nI n).toInt = n := nI_toInt (by omega)
  by_cases q : 0 ≤ v.toInt ∧ v.toInt ≤ (n : Int) - 1
  · refine Or.inl ⟨⟨v.toInt.toNat, by omega, z_toN q.1⟩, fun z => ?_, fun z => ?_, q.1, q.2⟩
    · have := Int32.lt_iff_toInt_lt.mp z
      omega
    · have := Int32.le_iff_toInt_le.mp z
      omega
  · refine Or.inr ⟨?_, q⟩
    by_cases z : v < 0
    · exact Or.inl z
    · refine Or.inr (Int32.le_iff_toInt_le.mpr ?_)
      have := Int32.le_iff_toInt_le.mp (Int32.not_lt.mp z)
      omega
/-- a number from 0 to x -/
theorem t_rng {v x : Int32} {y : Int64} (hxy : y.toInt = x.toInt) : (¬ v < 0 ∧ v ≤ x ∧ 0 ≤ v.toInt ∧ v.toInt ≤ x.toInt ∧ D_X8_isFrom (Int32.toInt64 v) (0 : Int64) y = some 1) ∨ ((v < 0 ∨ ¬ v < 0 ∧ ¬ v ≤ x) ∧ D_X8_isFrom (Int32.toInt64 v) (0 : Int64) y = some 0) := by
  have o0 : (0 : Int32).toInt = 0 := by decide
  have e := mm_from (v := v) (a := (0 : Int64)) (b := y) (lo := 0) (hi := x.toInt) (by decide) hxy
  rw [e]
  by_cases q : v < 0
  · have := Int32.lt_iff_toInt_lt.mp q
    exact Or.inr ⟨Or.inl q, by rw [if_neg (by omega)]⟩
  · have h1 := Int32.le_iff_toInt_le.mp (Int32.not_lt.mp q)
    by_cases q2 : v ≤ x
    · have h2 := Int32.le_iff_toInt_le.mp q2
      exact Or.inl ⟨q, q2, by omega, h2, by rw [if_pos ⟨by omega, h2⟩]⟩
    · exact Or.inr ⟨Or.inr ⟨q, q2⟩, by rw [if_neg (fun z => q2 (Int32.le_iff_toInt_le.mpr z.2))]⟩
theorem t_isH {C P U H G K : Nat} {A B : zMt} {r g : Nat → Int32} {v : Int32} (w : eqS C P A B r g U H G K) : (D_X7_isHunter C A v = some 1 ∧ D_X8_isHunter P B v = some 1 ∧ ∃ h, h < H ∧ v = nI h) ∨ (D_X7_isHunter C A v = some 0 ∧ D_X8_isHunter P B v = some 0) := by
  obtain ⟨w1, w2, w3, w4, w5, w6, w7, w8, w9⟩ := w
  have c2 := w6.1.2.1
  have eA : A (C + 17) 1 = nI H := w6.1.2.2.2.2.1
  have eM : D_X8_isHunter P B v = some (if (0 : Int) ≤ v.toInt ∧ v.toInt ≤ (H : Int) - 1 then 1 else 0) := by
    unfold D_X8_isHunter
    rw [w4, mm_from (lo := 0) (hi := (H : Int) - 1) (by decide) (nI_m1l (by omega))]
    rfl
  rcases inN (v := v) (n := H) (by omega) with ⟨hx, q1, q2, q3, q4⟩ | ⟨q, q3⟩
  · refine Or.inl ⟨?_, ?_, hx⟩
    · unfold D_X7_isHunter
      rw [eA, if_neg q1, if_neg q2]
      rfl
    · rw [eM, if_pos ⟨q3, q4⟩]
  · refine Or.inr ⟨?_, ?_⟩
    · unfold D_X7_isHunter
      rw [eA]
      by_cases z : v < 0
      · rw [if_pos z]; rfl
      · rw [if_neg z, if_pos (q.resolve_left z)]; rfl
    · rw [eM, if_neg q3]
theorem t_isU {C P U H G K : Nat} {A B : zMt} {r g : Nat → Int32} {v : Int32} (w : eqS C P A B r g U H G K) : (D_X7_isUnit C A v = some 1 ∧ D_X8_isUnit P B v = some 1 ∧ ∃ h, h < U ∧ v = nI h) ∨ (D_X7_isUnit C A v = some 0 ∧ D_X8_isUnit P B v = some 0) := by
  obtain ⟨w1, w2, w3, w4, w5, w6, w7, w8, w9⟩ := w
  have c2 := w6.1.1
  have eA : A (C + 17) 0 = nI U := w6.1.2.2.2.1
  have eM : D_X8_isUnit P B v = some (if (0 : Int) ≤ v.toInt ∧ v.toInt ≤ (U : Int) - 1 then 1 else 0) := by
    unfold D_X8_isUnit
    rw [w3, mm_from (lo := 0) (hi := (U : Int) - 1) (by decide) (nI_m1l (by omega))]
    rfl
  rcases inN (v := v) (n := U) (by omega) with ⟨hx, q1, q2, q3, q4⟩ | ⟨q, q3⟩
  · refine Or.inl ⟨?_, ?_, hx⟩
    · unfold D_X7_isUnit
      rw [eA, if_neg q1, if_neg q2]
      rfl
    · rw [eM, if_pos ⟨q3, q4⟩]
  · refine Or.inr ⟨?_, ?_⟩
    · unfold D_X7_isUnit
      rw [eA]
      by_cases z : v < 0
      · rw [if_pos z]; rfl
      · rw [if_neg z, if_pos (q.resolve_left z)]; rfl
    · rw [eM, if_neg q3]
theorem t_isP {C P U H G K : Nat} {A B : zMt} {r g : Nat → Int32} {v : Int32} (w : eqS C P A B r g U H G K) : (D_X7_isParty C A v = some 1 ∧ D_X8_isParty P B v = some 1 ∧ ∃ h, h < G ∧ v = nI h) ∨ (D_X7_isParty C A v = some 0 ∧ D_X8_isParty P B v = some 0) := by
  obtain ⟨w1, w2, w3, w4, w5, w6, w7, w8, w9⟩ := w
  have c2 := w6.1.2.2.1
  have eA : A (C + 17) 2 = nI G := w6.1.2.2.2.2.2.1
  have eB : B (P + 1) 70 = nI G := (w1 70 (by omega)).trans w6.1.2.2.2.2.2.2
  have eM : D_X8_isParty P B v = some (if (0 : Int) ≤ v.toInt ∧ v.toInt ≤ (G : Int) - 1 then 1 else 0) := by
    unfold D_X8_isParty zI
    rw [if_neg (by decide), show (70 : Int32).toNatClampNeg = 70 by decide, eB, mm_from (lo := 0) (hi := (G : Int) - 1) (by decide) (nI_m1l (by omega))]
    rfl
  rcases inN (v := v) (n := G) (by omega) with ⟨hx, q1, q2, q3, q4⟩ | ⟨q, q3⟩
  · refine Or.inl ⟨?_, ?_, hx⟩
    · unfold D_X7_isParty
      rw [eA, if_neg q1, if_neg q2]
      rfl
    · rw [eM, if_pos ⟨q3, q4⟩]
  · refine Or.inr ⟨?_, ?_⟩
    · unfold D_X7_isParty
      rw [eA]
      by_cases z : v < 0
      · rw [if_pos z]; rfl
      · rw [if_neg z, if_pos (q.resolve_left z)]; rfl
    · rw [eM, if_neg q3]
theorem t_isS {v : Int32} : (D_X7_isSeed v = some 1 ∧ D_X8_isSeed v = some 1 ∧ 0 ≤ v.toInt ∧ v.toInt ≤ 999999999) ∨ (D_X7_isSeed v = some 0 ∧ D_X8_isSeed v = some 0) := by
  have o9 : (999999999 : Int32).toInt = 999999999 := by decide
  rcases t_rng (v := v) (x := 999999999) (y := 999999999) (by decide) with ⟨q1, q2, q3, q4, q5⟩ | ⟨q, q5⟩
  · refine Or.inl ⟨?_, ?_, q3, by omega⟩
    · unfold D_X7_isSeed
      rw [if_neg q1, if_neg (Int32.not_lt.mpr q2)]
      rfl
    · unfold D_X8_isSeed
      rw [zB_s q5]
  · refine Or.inr ⟨?_, ?_⟩
    · unfold D_X7_isSeed
      rcases q with z | ⟨z, z2⟩
      · rw [if_pos z]; rfl
      · rw [if_neg z, if_pos (Int32.not_le.mp z2)]; rfl
    · unfold D_X8_isSeed
      rw [zB_s q5]
/-- the applicants laid, and what the class has gathered -/
theorem t_laid {C P U H G K : Nat} {A B : zMt} {r g : Nat → Int32} (w : eqS C P A B r g U H G K) : ∃ n B1, n = fr r H + G ∧ D_X8_laysApplicants P B = some B1 ∧ gP (tP (C + 91) A) n U ∧ gH (tP (C + 91) A) n H ∧ mP P B1 (tP (C + 91) A) n U ∧ (∀ i j, ¬ (i = P ∧ j = 33) → ¬ (P + 11 ≤ i ∧ i ≤ P + 17) → B1 i j = B i j) := by
  obtain ⟨w1, w2, w3, w4, w5, w6, w7, w8, w9⟩ := w
  have c1 := w6.1.1
  have c2 := w6.1.2.1
  have c3 := w6.1.2.2.1
  obtain ⟨f1, f2, f3, f4, f5⟩ := row_facts w5 w6.1.2.2.2.2.2.2 c3 c2
  have hg : ∀ h, h < H → g h = 0 ∨ g h = 1 := fun h hh => (w6.2.2.2.1 h hh).2
  obtain ⟨B1, e1, e2, e3⟩ := mm_lays (P := P) (B := B) (r := r) (g := g) c2 c3 (by omega) hg f5 w4 w1 (fun h hh => w2 h (by omega)) w6.1.2.2.2.2.2.2
  exact ⟨_, B1, rfl, e1, t_view c2 c3 c1 (by omega) w5 f3 w7 w8, t_viewH (U := U) c2 c3 (by omega) f4 w8, t_view8 c2 c3 w7 w8 c1 e2 (fun j hj => (e3 _ _ (by omega) (by omega)).trans (w1 j hj)) ((e3 _ _ (by omega) (by omega)).trans w3), e3⟩
theorem t_isA {C P U H G K : Nat} {A B : zMt} {r g : Nat → Int32} {v : Int32} (w : eqS C P A B r g U H G K) : ∃ n B1, n = fr r H + G ∧ D_X8_laysApplicants P B = some B1 ∧ gP (tP (C + 91) A) n U ∧ gH (tP (C + 91) A) n H ∧ mP P B1 (tP (C + 91) A) n U ∧ (∀ i j, ¬ (i = P ∧ j = 33) → ¬ (P + 11 ≤ i ∧ i ≤ P + 17) → B1 i j = B i j) ∧ ((D_X7_isApplicant C A v = some 1 ∧ D_X8_isApplicant P v B = some (1, B1) ∧ ∃ a, a < n ∧ v = nI a) ∨ (D_X7_isApplicant C A v = some 0 ∧ D_X8_isApplicant P v B = some (0, B1))) := by
  obtain ⟨n, B1, hn, e1, e2, e3, e4, e5⟩ := t_laid w
  refine ⟨n, B1, hn, e1, e2, e3, e4, e5, ?_⟩
  have hn10 := e2.1
  have eA : A (C + 91) 1 = nI n := e2.2.2.1
  have eM : D_X8_isApplicant P v B = some (if (0 : Int) ≤ v.toInt ∧ v.toInt ≤ (n : Int) - 1 then 1 else 0, B1) := by
    unfold D_X8_isApplicant
    rw [zB_s e1, e4.1, mm_from (lo := 0) (hi := (n : Int) - 1) (by decide) (nI_m1l (by omega))]
    rfl
  rcases inN (v := v) (n := n) (by omega) with ⟨hx, q1, q2, q3, q4⟩ | ⟨q, q3⟩
  · refine Or.inl ⟨?_, ?_, hx⟩
    · unfold D_X7_isApplicant
      rw [eA, if_neg q1, if_neg q2]
      rfl
    · rw [eM, if_pos ⟨q3, q4⟩]
  · refine Or.inr ⟨?_, ?_⟩
    · unfold D_X7_isApplicant
      rw [eA]
      by_cases z : v < 0
      · rw [if_pos z]; rfl
      · rw [if_neg z, if_pos (q.resolve_left z)]; rfl
    · rw [eM, if_neg q3]
/-! ACTS, side by side: one number becomes another; UNDO -/
def acR (C P : Nat) (A : zMt) (a b : Int32 × zMt) : Prop := a.1 = b.1 ∧ eqE C P a.2 b.2 ∧ (a.2 C 3 = 0 ∨ ∀ i j, ¬ (i = C ∧ j = 0) → a.2 i j = A i j)
theorem two.tr {α β γ : Type} {X : Option α} {Y : Option (β × γ)} {R : α → β × γ → Prop} {f : β × γ → Option (β × γ)} (h : two X Y R) (hf : ∀ e, f e = some (e.1, e.2)) : two X (zB Y f) R := by
  obtain ⟨a, h1, b, h2, h3⟩ := h
  rw [h2]
  exact ⟨a, h1, b, hf b, h3⟩
/-- both refuse -/
theorem t_ref {C P : Nat} {A B B1 : zMt} {v v' : Int32} (w : eqE C P A B) (k : ∀ i j, ¬ (i = P ∧ j = 33) → ¬ (P + 11 ≤ i ∧ i ≤ P + 17) → B1 i j = B i j) : two (zB (D_X7_refuse C v A) fun e => some (e.1, e.2)) (zB (D_X8_refuse P v' B1) fun e => some (e.1, e.2)) (acR C P A) := by
  refine two.l (e := ((-1 : Int32), zu A C 0 v)) rfl (two.r (e := ((-1 : Int32), zu (zu B1 P 6 (0 : Int32)) P 12 v')) rfl (two.mk ⟨rfl, w.k (fun i j _ _ => ?_) (fun i j _ => ?_), Or.inr (fun i j h => ?_)⟩))
  · show zu A C 0 v i j = A i j
    exact zu_ne (by omega)
  · show zu (zu B1 P 6 (0 : Int32)) P 12 v' i j = B i j
    rw [zu_ne (by omega), zu_ne (by omega)]
    exact k i j (by omega) (by omega)
  · show zu A C 0 v i j = A i j
    exact zu_ne (by omega)
theorem t_ref0 {C P : Nat} {A B : zMt} {v v' : Int32} (w : eqE C P A B) : two (zB (D_X7_refuse C v A) fun e => some (e.1, e.2)) (zB (D_X8_refuse P v' B) fun e => some (e.1, e.2)) (acR C P A) := t_ref w (fun _ _ _ _ => rfl)
/-- one number of a list -/
theorem gR.put {R i k x : Nat} {A : zMt} {r r' g : Nat → Int32} {U H G : Nat} {v : Int32} (w : gR R A r g U H G) (hc : (i = 2 ∧ k < 10 ∧ x = k) ∨ (i = 1 ∧ k < U ∧ x = 62 + k) ∨ (i = 0 ∧ 3 ≤ k ∧ k ≤ 5 ∧ x = 64 + k)) (e : r' x = v) (b : ∀ j, j < 82 → ¬ j = x → r' j = r j) : gR R (zu A (R + i) k v) r' g U H G := by
  obtain ⟨⟨c1, c2, c3, c4, c5, c6, c7⟩, r1, r2, r3, r4, r5, r6, r9, ⟨s1, s2, s3, s4⟩, u3, u4, u5⟩ := w
  have ne : ∀ a j, ¬ (a = R + i ∧ j = k) → zu A (R + i) k v a j = A a j := fun a j h => zu_ne h
  have ws : ∀ h base, h < 10 → 20 ≤ base → base ≤ 59 → wsR R A r h base → wsR R (zu A (R + i) k v) r' h base := fun h base h1 h2 h3 q => q.k (ne _ _ (by omega)) (fun y _ => ne _ _ (by omega)) (fun y _ => b _ (by omega) (by omega))
  refine ⟨⟨c1, c2, c3, (ne _ _ (by omega)).trans c4, (ne _ _ (by omega)).trans c5, (ne _ _ (by omega)).trans c6, (b _ (by omega) (by omega)).trans c7⟩, fun u hu => ?_, fun h hh => ?_, fun h hh => ?_, fun h hh => ?_, fun h hh he => ?_, fun h p hh hp he => ?_, fun p hp => ?_, ⟨?_, ?_, ?_, ?_⟩, fun h hh => ?_, fun u hu1 hu2 => ?_, fun h hh1 hh2 => ?_⟩
  · by_cases q : i = 1 ∧ k = u
    · obtain ⟨rfl, rfl⟩ := q
      rw [zu_eq, ← e, show x = 62 + k by omega]
    · rw [ne _ _ (by omega), b _ (by omega) (by omega)]; exact r1 u hu
  · by_cases q : i = 2 ∧ k = h
    · obtain ⟨rfl, rfl⟩ := q
      rw [zu_eq, ← e, show x = k by omega]
    · rw [ne _ _ (by omega), b _ (by omega) (by omega)]; exact r2 h hh
  · rw [ne _ _ (by omega)]; exact r3 h hh
  · rw [ne _ _ (by omega), b _ (by omega) (by omega)]; exact r4 h hh
  · rw [ne _ _ (by omega)] at he
    exact ws h _ (by omega) (by omega) (by omega) (r5 h hh he)
  · rw [ne _ _ (by omega)] at he
    exact ws h _ (by omega) (by omega) (by omega) (r6 h p hh hp he)
  · obtain ⟨h, h1, h2⟩ := r9 p hp
    exact ⟨h, h1, (ne _ _ (by omega)).trans h2⟩
  · by_cases q : i = 0 ∧ k = 3
    · obtain ⟨rfl, rfl⟩ := q
      show zu A R 3 v R 3 = _
      rw [zu_eq, ← e, show x = 67 by omega]
    · rw [ne _ _ (by omega), b _ (by omega) (by omega)]; exact s1
  · by_cases q : i = 0 ∧ k = 4
    · obtain ⟨rfl, rfl⟩ := q
      show zu A R 4 v R 4 = _
      rw [zu_eq, ← e, show x = 68 by omega]
    · rw [ne _ _ (by omega), b _ (by omega) (by omega)]; exact s2
  · by_cases q : i = 0 ∧ k = 5
    · obtain ⟨rfl, rfl⟩ := q
      show zu A R 5 v R 5 = _
      rw [zu_eq, ← e, show x = 69 by omega]
    · rw [ne _ _ (by omega), b _ (by omega) (by omega)]; exact s3
  · rw [ne _ _ (by omega), b _ (by omega) (by omega)]; exact s4
  · rw [ne _ _ (by omega), b _ (by omega) (by omega)]; exact u3 h hh
  · rw [ne _ _ (by omega)]; exact u4 u hu1 hu2
  · rw [ne _ _ (by omega)]; exact u5 h hh1 hh2
theorem t_put {C P U H G K i k x R1 : Nat} {A B : zMt} {r g : Nat → Int32} {v : Int32} {wr : zMt → zMt} (w : eqS C P A B r g U H G K) (hJ : jJ P B) (hc : (i = 2 ∧ k < 10 ∧ x = k) ∨ (i = 1 ∧ k < U ∧ x = 62 + k) ∨ (i = 0 ∧ 3 ≤ k ∧ k ≤ 5 ∧ x = 64 + k)) (hR1 : R1 = C + 17 + i) (hwr : ∀ M, wr M = zu M R1 k v) (hok : jOk x v) : two (if A R1 k = v then zB (D_X7_refuse C (4 : Int32) A) fun e => some (e.1, e.2) else zB (D_X1_keep (C + 25) (C + 17) A) fun e => zLt (wr e) fun M => zB (D_X7_changed C (A R1 k) M) fun e => some (e.1, e.2)) (D_X8_becomes P (nI x) v B) (acR C P A) := by
  subst hR1
  obtain ⟨w1, w2, w3, w4, w5, w6, w7, w8, w9⟩ := id w
  have c1 := w6.1.1
  have c2 := w6.1.2.1
  have hx : x < 82 := by omega
  have ex : A (C + 17 + i) k = B (P + 1) x := by
    rw [w1 x hx]
    rcases hc with ⟨z1, z2, z3⟩ | ⟨z1, z2, z3⟩ | ⟨z1, z2, z3, z4⟩
    · subst z1; subst z3; exact w6.2.2.1 _ z2
    · subst z1; subst z3; exact w6.2.1 k (by omega)
    · subst z1
      obtain ⟨s1, s2, s3, s4⟩ := w6.2.2.2.2.2.2.2.2.1
      have : k = 3 ∨ k = 4 ∨ k = 5 := by omega
      rcases this with z | z | z <;> subst z <;> subst z4
      · exact s1
      · exact s2
      · exact s3
  have ix : ¬ (nI x < 0 ∨ 82 ≤ (nI x).toNatClampNeg) := vp_in_nI hx (by decide)
  by_cases q : B (P + 1) x = v
  · rw [if_pos (ex.trans q)]
    unfold D_X8_becomes zI
    rw [if_neg ix, nI_clamp (by omega), if_pos q]
    exact t_ref0 ⟨r, g, U, H, G, K, w⟩
  · rw [if_neg (fun z => q (ex.symm.trans z))]
    have hL : gR (C + 17) A (B (P + 1)) g U H G := w6.m (fun _ _ _ _ => rfl) (fun j hj => w1 j hj) (fun _ _ => rfl)
    obtain ⟨A1, ea, B1, eb, K1, p1, k1, k2⟩ := t_keep hL w9
    have em : D_X8_becomes P (nI x) v B = some (B1 (P + 1) x, zu (zu (zu B1 (P + 1) x v) P 6 (0 : Int32)) P 12 (0 : Int32)) := by
      unfold D_X8_becomes zI
      rw [if_neg ix, nI_clamp (by omega), if_neg q, zB_s eb, if_neg (ci hx (by omega)), if_neg (ci hx (by omega))]
      rfl
    obtain ⟨rb, e1, kb, -, jS1, -⟩ := v_X8_becomes (P := P) (v0 := nI x) (v1 := v) (M0 := B) hJ.1 hJ.2.1 hJ.2.2.1 hJ.2.2.2.1 hJ.2.2.2.2 (by rw [nI_toInt (by omega)]; omega) (by rw [nI_toInt (by omega)]; omega) (by rw [nI_clamp (by omega)]; exact hok)
    rw [em] at e1
    cases e1
    have kf : ∀ i j, ¬ (i = P ∧ (j = 6 ∨ j = 12)) → zu (zu (zu B1 (P + 1) x v) P 6 (0 : Int32)) P 12 (0 : Int32) i j = zu B1 (P + 1) x v i j := fun i j h => (zu_ne (by omega)).trans (zu_ne (by omega))
    have kz : ∀ i j, ¬ (i = P + 1 ∧ j = x) → ¬ (i = P ∧ j = 9) → ¬ i = P + 4 → zu B1 (P + 1) x v i j = B i j := fun i j h h1 h2 => (zu_ne (by omega)).trans (k2 i j h1 h2)
    have h7 : zu B1 (P + 1) x v P 7 = nI U := (kz _ _ (by omega) (by omega) (by omega)).trans w3
    have h8 : zu B1 (P + 1) x v P 8 = nI H := (kz _ _ (by omega) (by omega) (by omega)).trans w4
    have jr : jRow (zu B1 (P + 1) x v (P + 1)) U H := (jS1.row ((kf _ _ (by omega)).trans h7) ((kf _ _ (by omega)).trans h8) c1 c2).congr (by omega) (fun j _ => (kf _ _ (by omega)).symm)
    have gA : gR (C + 17) (zu A1 (C + 17 + i) k v) (zu B1 (P + 1) x v (P + 1)) g U H G := (hL.m (A' := A1) (r' := B (P + 1)) (g' := g) (fun i j _ _ => k1 i j (by omega)) (fun _ _ => rfl) (fun _ _ => rfl)).put hc zu_eq (fun j _ hj => kz _ _ (by omega) (by omega) (by omega))
    have pA : pst (C + 25) P (zu A1 (C + 17 + i) k v) (zu B1 (P + 1) x v) g U H K1 := p1.k (fun i j _ _ => zu_ne (by omega)) (fun i j _ => zu_ne (by omega))
    obtain ⟨A3, f1, f2, f3, f4⟩ := t_done (v := A (C + 17 + i) k) h7 h8 jr (fun h hh => (kz _ _ (by omega) (by omega) (by omega)).trans (w2 h hh)) gA pA
    rw [em]
    refine two.l ea ?_
    rw [hwr, zLt_eq]
    refine two.l f1 (two.mk ⟨?_, ⟨_, _, _, _, _, _, f2.k (fun _ _ _ _ => rfl) (fun i j _ => kf i j (by omega))⟩, Or.inl f3⟩)
    show A (C + 17 + i) k = B1 (P + 1) x
    rw [ex, k2 _ _ (by omega) (by omega)]
theorem t_points {C P : Nat} {A B : zMt} {v0 v1 : Int32} (w0 : eqE C P A B) (hJ : jJ P B) : two (D_X7_points C v0 v1 A) (D_X8_points P v0 v1 B) (acR C P A) := by
  obtain ⟨r, g, U, H, G, K, w⟩ := id w0
  have c2 := w.2.2.2.2.2.1.1.2.1
  have o20 : (20 : Int32).toInt = 20 := by decide
  unfold D_X7_points D_X8_points
  rcases t_rng (v := v1) (x := 20) (y := 20) (by decide) with ⟨g1, g2, g3, g4, g5⟩ | ⟨gn, g5⟩
  · rw [if_neg g1, if_pos g2, zB_s g5, if_neg n10]
    rcases t_isH (v := v0) w with ⟨e1, e2, h, hh, hv⟩ | ⟨e1, e2⟩
    · subst hv
      rw [zB_s e1, zB_s e2, if_neg n10, if_neg n10, nI_0p h (by omega), zrd_nI (show h < 10 by omega) (by decide)]
      exact (t_put (i := 2) (k := h) (x := h) (R1 := C + 19) (wr := fun e => zwr e (C + 19) 10 (nI h) v1) w hJ (Or.inl ⟨rfl, by omega, rfl⟩) rfl (fun M => zwr_nI (by omega) (by decide)) (Or.inl ⟨by omega, g3, by omega⟩)).tr (fun _ => rfl)
    · rw [zB_s e1, zB_s e2, if_pos rfl, if_pos rfl]
      exact t_ref0 w0
  · rw [zB_s g5, if_pos rfl]
    rcases gn with z | ⟨z, z2⟩
    · rw [if_pos z]
      exact t_ref0 w0
    · rw [if_neg z, if_neg z2]
      exact t_ref0 w0
theorem t_quota {C P : Nat} {A B : zMt} {v0 v1 : Int32} (w0 : eqE C P A B) (hJ : jJ P B) : two (D_X7_quota C v0 v1 A) (D_X8_quota P v0 v1 B) (acR C P A) := by
  obtain ⟨r, g, U, H, G, K, w⟩ := id w0
  have c2 := w.2.2.2.2.2.1.1.1
  have o20 : (20 : Int32).toInt = 20 := by decide
  unfold D_X7_quota D_X8_quota
  rcases t_rng (v := v1) (x := 20) (y := 20) (by decide) with ⟨g1, g2, g3, g4, g5⟩ | ⟨gn, g5⟩
  · rw [if_neg g1, if_pos g2, zB_s g5, if_neg n10]
    rcases t_isU (v := v0) w with ⟨e1, e2, h, hh, hv⟩ | ⟨e1, e2⟩
    · subst hv
      rw [zB_s e1, zB_s e2, if_neg n10, if_neg n10, nI_62 h (by omega), zrd_nI (show h < 5 by omega) (by decide)]
      exact (t_put (i := 1) (k := h) (x := 62 + h) (R1 := C + 18) (wr := fun e => zwr e (C + 18) 5 (nI h) v1) w hJ (Or.inr (Or.inl ⟨rfl, hh, rfl⟩)) rfl (fun M => zwr_nI (by omega) (by decide)) (Or.inr (Or.inl ⟨by omega, by omega, g3, by omega⟩))).tr (fun _ => rfl)
    · rw [zB_s e1, zB_s e2, if_pos rfl, if_pos rfl]
      exact t_ref0 w0
  · rw [zB_s g5, if_pos rfl]
    rcases gn with z | ⟨z, z2⟩
    · rw [if_pos z]
      exact t_ref0 w0
    · rw [if_neg z, if_neg z2]
      exact t_ref0 w0
theorem t_law {C P : Nat} {A B : zMt} {v0 : Int32} (w0 : eqE C P A B) (hJ : jJ P B) : two (D_X7_law C v0 A) (D_X8_law P v0 B) (acR C P A) := by
  obtain ⟨r, g, U, H, G, K, w⟩ := id w0
  have o2 : (2 : Int32).toInt = 2 := by decide
  unfold D_X7_law D_X8_law
  rcases t_rng (v := v0) (x := 2) (y := 2) (by decide) with ⟨g1, g2, g3, g4, g5⟩ | ⟨gn, g5⟩
  · rw [if_neg g1, if_pos g2, zB_s g5, if_neg n10, show (67 : Int32) = nI 67 by decide]
    exact (t_put (i := 0) (k := 3) (x := 67) (R1 := C + 17) (wr := fun e => zu e (C + 17) 3 v0) w hJ (Or.inr (Or.inr ⟨rfl, by omega, by omega, rfl⟩)) rfl (fun M => rfl) (Or.inr (Or.inr (Or.inl ⟨rfl, g3, by omega⟩)))).tr (fun _ => rfl)
  · rw [zB_s g5, if_pos rfl]
    rcases gn with z | ⟨z, z2⟩
    · rw [if_pos z]
      exact t_ref0 w0
    · rw [if_neg z, if_neg z2]
      exact t_ref0 w0
theorem t_prefer {C P : Nat} {A B : zMt} {v0 : Int32} (w0 : eqE C P A B) (hJ : jJ P B) : two (D_X7_prefer C v0 A) (D_X8_prefer P v0 B) (acR C P A) := by
  obtain ⟨r, g, U, H, G, K, w⟩ := id w0
  have o2 : (100 : Int32).toInt = 100 := by decide
  unfold D_X7_prefer D_X8_prefer
  rcases t_rng (v := v0) (x := 100) (y := 100) (by decide) with ⟨g1, g2, g3, g4, g5⟩ | ⟨gn, g5⟩
  · rw [if_neg g1, if_pos g2, zB_s g5, if_neg n10, show (68 : Int32) = nI 68 by decide]
    exact (t_put (i := 0) (k := 4) (x := 68) (R1 := C + 17) (wr := fun e => zu e (C + 17) 4 v0) w hJ (Or.inr (Or.inr ⟨rfl, by omega, by omega, rfl⟩)) rfl (fun M => rfl) (Or.inr (Or.inr (Or.inr ⟨by omega, by omega, g3, by omega⟩)))).tr (fun _ => rfl)
  · rw [zB_s g5, if_pos rfl]
    rcases gn with z | ⟨z, z2⟩
    · rw [if_pos z]
      exact t_ref0 w0
    · rw [if_neg z, if_neg z2]
      exact t_ref0 w0
theorem t_guests {C P : Nat} {A B : zMt} {v0 : Int32} (w0 : eqE C P A B) (hJ : jJ P B) : two (D_X7_guests C v0 A) (D_X8_guests P v0 B) (acR C P A) := by
  obtain ⟨r, g, U, H, G, K, w⟩ := id w0
  have o2 : (100 : Int32).toInt = 100 := by decide
  unfold D_X7_guests D_X8_guests
  rcases t_rng (v := v0) (x := 100) (y := 100) (by decide) with ⟨g1, g2, g3, g4, g5⟩ | ⟨gn, g5⟩
  · rw [if_neg g1, if_pos g2, zB_s g5, if_neg n10, show (69 : Int32) = nI 69 by decide]
    exact (t_put (i := 0) (k := 5) (x := 69) (R1 := C + 17) (wr := fun e => zu e (C + 17) 5 v0) w hJ (Or.inr (Or.inr ⟨rfl, by omega, by omega, rfl⟩)) rfl (fun M => rfl) (Or.inr (Or.inr (Or.inr ⟨by omega, by omega, g3, by omega⟩)))).tr (fun _ => rfl)
  · rw [zB_s g5, if_pos rfl]
    rcases gn with z | ⟨z, z2⟩
    · rw [if_pos z]
      exact t_ref0 w0
    · rw [if_neg z, if_neg z2]
      exact t_ref0 w0
theorem t_undo {C P : Nat} {A B : zMt} (w0 : eqE C P A B) (hJ : jJ P B) : two (D_X7_undo C A) (D_X8_undo P B) (acR C P A) := by
  obtain ⟨r, g, U, H, G, K, w⟩ := id w0
  obtain ⟨w1, w2, w3, w4, w5, w6, w7, w8, w9⟩ := id w
  have c1 := w6.1.1
  have c2 := w6.1.2.1
  obtain ⟨a, ea, hcase⟩ := t_back w9
  unfold D_X7_undo
  refine two.l ea ?_
  rcases hcase with ⟨h0, h1, h2, h3⟩ | ⟨h0, h1, h2, h3, B', e1, ⟨G', g1⟩, p1, k1⟩
  · rw [if_pos h1, h2]
    unfold D_X8_undo
    rw [if_pos h3]
    exact t_ref0 w0
  · rw [if_neg (by rw [h1]; decide), h2, e1]
    obtain ⟨rb, e2, kb, -, jS1, -⟩ := v_X8_undo (P := P) (M0 := B) hJ.1 hJ.2.1 hJ.2.2.1 hJ.2.2.2.1 hJ.2.2.2.2
    rw [e1] at e2
    cases e2
    have h7 : B' P 7 = nI U := (k1 _ _ (by omega) (by omega)).trans w3
    have h8 : B' P 8 = nI H := (k1 _ _ (by omega) (by omega)).trans w4
    obtain ⟨A3, f1, f2, f3, f4⟩ := t_done (v := nI (K - 1)) h7 h8 (jS1.row h7 h8 c1 c2) (fun h hh => (k1 _ _ (by omega) (by omega)).trans (w2 h hh)) g1 p1
    exact two.l f1 (two.mk ⟨rfl, ⟨_, _, _, _, _, _, f2⟩, Or.inl f3⟩)
/-! a PARTY is one no more -/
def dsv (p : Nat) (x : Int32) : Int32 := if x = nI p then -1 else if x ≤ nI p then x else x - 1
theorem ds_m1 {p : Nat} (hp : p < 2147483648) : dsv p (-1) = -1 := by
  unfold dsv
  rw [if_neg (fun z => nI_ne hp z.symm), if_pos (Int32.le_iff_toInt_le.mpr (by rw [nI_toInt (by omega), z_m1]; omega))]
theorem ds_nI : ∀ p, p < 4 → ∀ q, q < 4 → dsv p (nI q) = if q = p then -1 else if q < p then nI q else nI (q - 1) := by decide
theorem cc_diss {Q H p : Nat} (hH : H ≤ 10) : ∀ (u k : Nat) (A : zMt), A Q 1 = nI H → k ≤ H → H - k < u → ∃ A', D_X4_dissolve_2 Q u (nI p) (nI k) A = some A' ∧ A' Q 2 = A Q 2 - 1 ∧ (∀ h, k ≤ h → h < H → A' (Q + 4) h = dsv p (A (Q + 4) h)) ∧ (∀ i j, ¬ (i = Q ∧ j = 2) → ¬ (i = Q + 4 ∧ k ≤ j ∧ j < H) → A' i j = A i j) := by
  intro u
  induction u with
  | zero => intro k A _ _ h; omega
  | succ u ih =>
    intro k A h1 hk hu
    rw [D_X4_dissolve_2, h1]
    by_cases hc : H ≤ k
    · rw [if_pos (by exact (nI_leI (by omega) (by omega)).mpr hc), zLt_eq]
      exact ⟨_, rfl, zu_eq, fun h h3 h4 => by omega, fun i j h3 h4 => zu_ne h3⟩
    · rw [if_neg (by intro z; exact hc ((nI_leI (by omega) (by omega)).mp z)), zrd_nI (show k < 10 by omega) (by decide), zwr_nI (show k < 10 by omega) (by decide), zwr_nI (show k < 10 by omega) (by decide)]
      have go : ∀ A1 : zMt, A1 (Q + 4) k = dsv p (A (Q + 4) k) → (∀ i j, ¬ (i = Q + 4 ∧ j = k) → A1 i j = A i j) → ∃ A', D_X4_dissolve_52 Q (D_X4_dissolve_2 Q u) (nI p) (nI k) A1 = some A' ∧ A' Q 2 = A Q 2 - 1 ∧ (∀ h, k ≤ h → h < H → A' (Q + 4) h = dsv p (A (Q + 4) h)) ∧ (∀ i j, ¬ (i = Q ∧ j = 2) → ¬ (i = Q + 4 ∧ k ≤ j ∧ j < H) → A' i j = A i j) := fun A1 e1 k1 => by
        unfold D_X4_dissolve_52
        rw [nI_add1]
        obtain ⟨A', f1, f2, f3, f4⟩ := ih (k + 1) A1 ((k1 _ _ (by omega)).trans h1) (by omega) (by omega)
        refine ⟨A', f1, f2.trans (by rw [k1 _ _ (by omega)]), fun h h3 h4 => ?_, fun i j h3 h4 => (f4 i j h3 (by omega)).trans (k1 i j (by omega))⟩
        by_cases q : h = k
        · subst q
          rw [f4 _ _ (by omega) (by omega), e1]
        · rw [f3 h (by omega) h4, k1 _ _ (by omega)]
      by_cases q : A (Q + 4) k = nI p
      · rw [if_pos q, zLt_eq]
        exact go _ (by rw [zu_eq]; unfold dsv; rw [if_pos q]) (fun i j h => zu_ne h)
      · rw [if_neg q]
        by_cases q2 : A (Q + 4) k ≤ nI p
        · rw [if_pos q2]
          exact go _ (by unfold dsv; rw [if_neg q, if_pos q2]) (fun i j h => rfl)
        · rw [if_neg q2, zLt_eq]
          exact go _ (by rw [zu_eq]; unfold dsv; rw [if_neg q, if_neg q2]) (fun i j h => zu_ne h)
theorem nI_20k : ∀ h, h < 10 → ∀ k, k < 3 → (20 : Int32) + (3 : Int32) * nI h + nI k = nI (20 + 3 * h + k) := by decide
theorem nI_50p : ∀ p, p < 4 → ∀ k, k < 3 → (50 : Int32) + (3 : Int32) * nI p + nI k = nI (50 + 3 * p + k) := by decide
theorem nI_50k : ∀ k, k < 12 → (50 : Int32) + nI k = nI (50 + k) := by decide
theorem nI_3p : ∀ p, p < 4 → (3 : Int32) * nI p = nI (3 * p) := by decide
theorem nI_10h : ∀ h, h < 10 → (10 : Int32) + nI h = nI (10 + h) := by decide
theorem mm_spl35 {P p h : Nat} {k2 : Int32 → Int32 → zMt → Option zMt} (hp : p < 4) (hh : h < 10) : ∀ (u k : Nat) (B : zMt), k ≤ 3 → 3 - k < u → ∃ B', D_X8_splits_35 P k2 u (nI p) (nI h) (nI k) B = k2 (nI p) (nI (h + 1)) B' ∧ (∀ x, k ≤ x → x < 3 → B' (P + 1) (20 + 3 * h + x) = B (P + 1) (50 + 3 * p + x)) ∧ (∀ i j, ¬ (i = P + 1 ∧ 20 + 3 * h + k ≤ j ∧ j < 20 + 3 * h + 3) → B' i j = B i j) := by
  intro u
  induction u with
  | zero => intro k B _ h; omega
  | succ u ih =>
    intro k B hk hu
    rw [D_X8_splits_35]
    by_cases hc : 3 ≤ k
    · rw [if_pos (by exact (leL (x := 3) (a := 3) (by decide) (by decide) (by omega)).mpr hc)]
      unfold D_X8_splits_101
      rw [nI_add1]
      exact ⟨B, rfl, fun x h1 h2 => by omega, fun _ _ _ => rfl⟩
    · rw [if_neg (by intro z; exact hc ((leL (x := 3) (a := 3) (by decide) (by decide) (by omega)).mp z)), nI_50p p hp k (by omega), nI_20k h hh k (by omega)]
      unfold zI
      rw [if_neg (vp_in_nI (show 50 + 3 * p + k < 82 by omega) (by decide)), if_neg (vp_in_nI (show 20 + 3 * h + k < 82 by omega) (by decide)), nI_clamp (show 20 + 3 * h + k < 2147483648 by omega), nI_clamp (show 50 + 3 * p + k < 2147483648 by omega), zLt_eq, nI_add1]
      obtain ⟨B', f1, f2, f3⟩ := ih (k + 1) (zu B (P + 1) (20 + 3 * h + k) (B (P + 1) (50 + 3 * p + k))) (by omega) (by omega)
      refine ⟨B', f1, fun x h1 h2 => ?_, fun i j hij => (f3 i j (by omega)).trans (zu_ne (by omega))⟩
      by_cases q : x = k
      · subst q
        rw [f3 _ _ (by omega), zu_eq]
      · rw [f2 x (by omega) h2, zu_ne (by omega)]
theorem mm_spl122 {P : Nat} : ∀ (u k : Nat) (B : zMt), k ≤ 12 → 12 - k < u → ∃ B', D_X8_splits_122 P u (nI k) B = some B' ∧ (∀ j, k ≤ j → j < 12 → B' (P + 1) (50 + j) = if j < 9 then B (P + 1) (53 + j) else -1) ∧ (∀ i j, ¬ (i = P + 1 ∧ 50 + k ≤ j ∧ j < 62) → B' i j = B i j) := by
  intro u
  induction u with
  | zero => intro k B _ h; omega
  | succ u ih =>
    intro k B hk hu
    rw [D_X8_splits_122]
    by_cases hc : 12 ≤ k
    · rw [if_pos (by exact (leL (x := 12) (a := 12) (by decide) (by decide) (by omega)).mpr hc)]
      exact ⟨B, rfl, fun j h1 h2 => by omega, fun _ _ _ => rfl⟩
    · rw [if_neg (by intro z; exact hc ((leL (x := 12) (a := 12) (by decide) (by decide) (by omega)).mp z)), nI_50k k (by omega)]
      have go : ∀ v : Int32, v = (if k < 9 then B (P + 1) (53 + k) else -1) → ∃ B', D_X8_splits_157 P (D_X8_splits_122 P u) (nI k) (nI (50 + k)) v B = some B' ∧ (∀ j, k ≤ j → j < 12 → B' (P + 1) (50 + j) = if j < 9 then B (P + 1) (53 + j) else -1) ∧ (∀ i j, ¬ (i = P + 1 ∧ 50 + k ≤ j ∧ j < 62) → B' i j = B i j) := fun v hv => by
        unfold D_X8_splits_157 zI
        rw [if_neg (vp_in_nI (show 50 + k < 82 by omega) (by decide)), nI_clamp (by omega), zLt_eq, nI_add1]
        obtain ⟨B', f1, f2, f3⟩ := ih (k + 1) (zu B (P + 1) (50 + k) v) (by omega) (by omega)
        refine ⟨B', f1, fun j h1 h2 => ?_, fun i j h => (f3 i j (by omega)).trans (zu_ne (by omega))⟩
        by_cases q : j = k
        · subst q
          rw [f3 _ _ (by omega), zu_eq, hv]
        · rw [f2 j (by omega) h2, zu_ne (by omega)]
      by_cases q : 9 ≤ k
      · rw [if_pos (by exact (leL (x := 9) (a := 9) (by decide) (by decide) (by omega)).mpr q)]
        exact go (-1) (by rw [if_neg (by omega)])
      · have e3 : nI (50 + k) + (3 : Int32) = nI (53 + k) := by
          rw [show (3 : Int32) = nI 3 by decide, nI_addk (by omega), show 50 + k + 3 = 53 + k by omega]
        rw [if_neg (by intro z; exact q ((leL (x := 9) (a := 9) (by decide) (by decide) (by omega)).mp z)), e3]
        unfold zI
        rw [if_neg (vp_in_nI (show 53 + k < 82 by omega) (by decide)), nI_clamp (by omega)]
        exact go _ (by rw [if_pos (by omega)])
theorem mm_spl2 {P H p : Nat} (hH : H ≤ 10) (hp : p < 4) : ∀ (u k : Nat) (B : zMt), B P 8 = nI H → k ≤ H → H - k < u → ∃ B', D_X8_splits_2 P u (nI p) (nI k) B = some B' ∧ B' (P + 1) 70 = B (P + 1) 70 - 1 ∧ (∀ h, k ≤ h → h < H → B' (P + 1) (10 + h) = dsv p (B (P + 1) (10 + h)) ∧ ∀ x, x < 3 → B' (P + 1) (20 + 3 * h + x) = if B (P + 1) (10 + h) = nI p then B (P + 1) (50 + 3 * p + x) else B (P + 1) (20 + 3 * h + x)) ∧ (∀ j, 3 * p ≤ j → j < 12 → B' (P + 1) (50 + j) = if j < 9 then B (P + 1) (53 + j) else -1) ∧ (∀ i j, ¬ (i = P + 1 ∧ (j = 70 ∨ (10 + k ≤ j ∧ j < 10 + H) ∨ (20 + 3 * k ≤ j ∧ j < 20 + 3 * H) ∨ (50 + 3 * p ≤ j ∧ j < 62))) → B' i j = B i j) := by
  intro u
  induction u with
  | zero => intro k B _ _ h; omega
  | succ u ih =>
    intro k B h8 hk hu
    rw [D_X8_splits_2, h8]
    by_cases hc : H ≤ k
    · rw [if_pos (by exact (nI_leI (by omega) (by omega)).mpr hc)]
      unfold zI
      rw [if_neg (by decide), if_neg (by decide), show (70 : Int32).toNatClampNeg = 70 by decide, zLt_eq, nI_3p p hp]
      obtain ⟨B', f1, f2, f3⟩ := mm_spl122 (P := P) zFu (3 * p) (zu B (P + 1) 70 (B (P + 1) 70 - 1)) (by omega) (by unfold zFu; omega)
      refine ⟨B', f1, ?_, fun h h1 h2 => by omega, fun j h1 h2 => ?_, fun i j h => (f3 i j (by omega)).trans (zu_ne (by omega))⟩
      · rw [f3 _ _ (by omega), zu_eq]
      · rw [f2 j h1 h2, zu_ne (by omega)]
    · rw [if_neg (by intro z; exact hc ((nI_leI (by omega) (by omega)).mp z)), nI_10h k (by omega)]
      have ik : ¬ (nI (10 + k) < 0 ∨ 82 ≤ (nI (10 + k)).toNatClampNeg) := vp_in_nI (by omega) (by decide)
      have go : ∀ B1 : zMt, B1 (P + 1) (10 + k) = dsv p (B (P + 1) (10 + k)) → (∀ x, x < 3 → B1 (P + 1) (20 + 3 * k + x) = if B (P + 1) (10 + k) = nI p then B (P + 1) (50 + 3 * p + x) else B (P + 1) (20 + 3 * k + x)) → (∀ i j, ¬ (i = P + 1 ∧ (j = 10 + k ∨ (20 + 3 * k ≤ j ∧ j < 20 + 3 * k + 3))) → B1 i j = B i j) → ∃ B', D_X8_splits_2 P u (nI p) (nI (k + 1)) B1 = some B' ∧ B' (P + 1) 70 = B (P + 1) 70 - 1 ∧ (∀ h, k ≤ h → h < H → B' (P + 1) (10 + h) = dsv p (B (P + 1) (10 + h)) ∧ ∀ x, x < 3 → B' (P + 1) (20 + 3 * h + x) = if B (P + 1) (10 + h) = nI p then B (P + 1) (50 + 3 * p + x) else B (P + 1) (20 + 3 * h + x)) ∧ (∀ j, 3 * p ≤ j → j < 12 → B' (P + 1) (50 + j) = if j < 9 then B (P + 1) (53 + j) else -1) ∧ (∀ i j, ¬ (i = P + 1 ∧ (j = 70 ∨ (10 + k ≤ j ∧ j < 10 + H) ∨ (20 + 3 * k ≤ j ∧ j < 20 + 3 * H) ∨ (50 + 3 * p ≤ j ∧ j < 62))) → B' i j = B i j) := fun B1 e1 e2 k1 => by
        obtain ⟨B', f1, f2, f3, f4, f5⟩ := ih (k + 1) B1 ((k1 _ _ (by omega)).trans h8) (by omega) (by omega)
        refine ⟨B', f1, f2.trans (by rw [k1 _ _ (by omega)]), fun h h3 h4 => ?_, fun j h3 h4 => ?_, fun i j h => (f5 i j (by omega)).trans (k1 i j (by omega))⟩
        · by_cases q : h = k
          · subst q
            refine ⟨(f5 _ _ (by omega)).trans e1, fun x hx => (f5 _ _ (by omega)).trans (e2 x hx)⟩
          · obtain ⟨f6, f7⟩ := f3 h (by omega) h4
            refine ⟨f6.trans (by rw [k1 _ _ (by omega)]), fun x hx => (f7 x hx).trans ?_⟩
            rw [k1 (P + 1) (10 + h) (by omega), k1 (P + 1) (50 + 3 * p + x) (by omega), k1 (P + 1) (20 + 3 * h + x) (by omega)]
        · rw [f4 j h3 h4, k1 (P + 1) (53 + j) (by omega)]
      unfold zI
      rw [if_neg ik, nI_clamp (by omega)]
      by_cases q : B (P + 1) (10 + k) = nI p
      · rw [if_pos q, if_neg (ci (show 10 + k < 82 by omega) (by omega)), zLt_eq]
        obtain ⟨B2, m1, m2, m3⟩ := mm_spl35 (P := P) (p := p) (h := k) (k2 := D_X8_splits_2 P u) hp (by omega) zFu 0 (zu B (P + 1) (10 + k) (-1 : Int32)) (by omega) (by unfold zFu; omega)
        rw [show nI 0 = (0 : Int32) by decide] at m1
        rw [m1]
        refine go B2 ?_ (fun x hx => ?_) (fun i j h => (m3 i j (by omega)).trans (zu_ne (by omega)))
        · rw [m3 _ _ (by omega), zu_eq]
          unfold dsv
          rw [if_pos q]
        · rw [if_pos q, m2 x (by omega) hx, zu_ne (by omega)]
      · rw [if_neg q, if_neg (ci (show 10 + k < 82 by omega) (by omega))]
        by_cases q2 : B (P + 1) (10 + k) ≤ nI p
        · rw [if_pos q2]
          unfold D_X8_splits_101
          rw [nI_add1]
          exact go B (by unfold dsv; rw [if_neg q, if_pos q2]) (fun x hx => by rw [if_neg q]) (fun _ _ _ => rfl)
        · rw [if_neg q2, if_neg (ci (show 10 + k < 82 by omega) (by omega)), if_neg (ci (show 10 + k < 82 by omega) (by omega)), zLt_eq]
          unfold D_X8_splits_101
          rw [nI_add1]
          refine go _ ?_ (fun x hx => ?_) (fun i j h => zu_ne (by omega))
          · rw [zu_eq]
            unfold dsv
            rw [if_neg q, if_neg q2]
          · rw [if_neg q, zu_ne (by omega)]
theorem wsR.mv {R R' : Nat} {A A' : zMt} {r r' : Nat → Int32} {h base base' : Nat} (w : wsR R A r h base) (a5 : A' (R' + 5) h = A (R + 5) h) (a6 : ∀ k, k < 3 → A' (R' + 6) (3 * h + k) = A (R + 6) (3 * h + k)) (b : ∀ k, k < 3 → r' (base' + k) = r (base + k)) : wsR R' A' r' h base' := by
  obtain ⟨c, h1, h2, h3, h4⟩ := w
  refine ⟨c, h1, by rw [a5]; exact h2, fun k hk => ?_, fun k hk => ?_⟩
  · rw [a6 k hk, b k hk]; exact h3 k hk
  · rw [b k hk]; exact h4 k hk
theorem gR.split {R p : Nat} {A A' : zMt} {r r' g : Nat → Int32} {U H G : Nat} (w : gR R A r g U H G) (hp : p < G)
    (a2 : A' R 2 = A R 2 - 1) (a4 : ∀ h, h < H → A' (R + 4) h = dsv p (A (R + 4) h)) (ak : ∀ i j, R ≤ i → i < R + 8 → ¬ (i = R ∧ j = 2) → ¬ (i = R + 4 ∧ j < H) → A' i j = A i j)
    (b70 : r' 70 = r 70 - 1) (bh : ∀ h, h < H → r' (10 + h) = dsv p (r (10 + h)) ∧ ∀ x, x < 3 → r' (20 + 3 * h + x) = if r (10 + h) = nI p then r (50 + 3 * p + x) else r (20 + 3 * h + x)) (bp : ∀ j, 3 * p ≤ j → j < 12 → r' (50 + j) = if j < 9 then r (53 + j) else -1) (bk : ∀ j, j < 82 → ¬ (j = 70 ∨ (10 ≤ j ∧ j < 10 + H) ∨ (20 ≤ j ∧ j < 20 + 3 * H) ∨ (50 + 3 * p ≤ j ∧ j < 62)) → r' j = r j) : gR R A' r' g U H (G - 1) := by
  obtain ⟨⟨c1, c2, c3, c4, c5, c6, c7⟩, r1, r2, r3, r4, r5, r6, r9, ⟨s1, s2, s3, s4⟩, u3, u4, u5⟩ := w
  have eG : nI G - (1 : Int32) = nI (G - 1) := by
    rw [show (1 : Int32) = nI 1 by decide]
    exact nI_subn (by omega) (by omega)
  have hcase : ∀ h, h < H → (A (R + 4) h = -1 ∧ r (10 + h) = -1 ∧ A' (R + 4) h = -1) ∨ ∃ q, q < G ∧ A (R + 4) h = nI q ∧ r (10 + h) = nI q ∧ ((q = p ∧ A' (R + 4) h = -1) ∨ (q < p ∧ A' (R + 4) h = nI q) ∨ (p < q ∧ A' (R + 4) h = nI (q - 1))) := fun h hh => by
    obtain ⟨e, o, _⟩ := r4 h (by omega)
    have e4 := a4 h hh
    rcases o with z | ⟨q, hq, z⟩
    · rw [z, ds_m1 (by omega)] at e4
      exact Or.inl ⟨z, e.symm.trans z, e4⟩
    · refine Or.inr ⟨q, hq, z, e.symm.trans z, ?_⟩
      rw [z, ds_nI p (by omega) q (by omega)] at e4
      by_cases y : q = p
      · rw [if_pos y] at e4; exact Or.inl ⟨y, e4⟩
      · rw [if_neg y] at e4
        by_cases y2 : q < p
        · rw [if_pos y2] at e4; exact Or.inr (Or.inl ⟨y2, e4⟩)
        · rw [if_neg y2] at e4; exact Or.inr (Or.inr ⟨by omega, e4⟩)
  have w5 : ∀ h, h < H → A' (R + 5) h = A (R + 5) h := fun h _ => ak _ _ (by omega) (by omega) (by omega) (by omega)
  have w6 : ∀ h, h < H → ∀ k, k < 3 → A' (R + 6) (3 * h + k) = A (R + 6) (3 * h + k) := fun h _ k _ => ak _ _ (by omega) (by omega) (by omega) (by omega)
  refine ⟨⟨c1, c2, by omega, (ak _ _ (by omega) (by omega) (by omega) (by omega)).trans c4, (ak _ _ (by omega) (by omega) (by omega) (by omega)).trans c5, a2.trans (by rw [c6, eG]), b70.trans (by rw [c7, eG])⟩, fun u hu => ?_, fun h hh => ?_, fun h hh => ?_, fun h hh => ?_, fun h hh he => ?_, fun h p' hh hp' he => ?_, fun p' hp' => ?_, ⟨?_, ?_, ?_, ?_⟩, fun h hh => ?_, fun u hu1 hu2 => ?_, fun h hh1 hh2 => ?_⟩
  · rw [ak _ _ (by omega) (by omega) (by omega) (by omega), bk _ (by omega) (by omega)]; exact r1 u hu
  · rw [ak _ _ (by omega) (by omega) (by omega) (by omega), bk _ (by omega) (by omega)]; exact r2 h hh
  · rw [ak _ _ (by omega) (by omega) (by omega) (by omega)]; exact r3 h hh
  · by_cases q : h < H
    · refine ⟨?_, ?_, Or.inl q⟩
      · rw [a4 h q, (bh h q).1, (r4 h hh).1]
      · rcases hcase h q with ⟨_, _, z⟩ | ⟨y, hy, _, _, ⟨_, z⟩ | ⟨_, z⟩ | ⟨_, z⟩⟩
        · exact Or.inl z
        · exact Or.inl z
        · exact Or.inr ⟨y, by omega, z⟩
        · exact Or.inr ⟨y - 1, by omega, z⟩
    · rw [ak _ _ (by omega) (by omega) (by omega) (by omega), bk _ (by omega) (by omega)]
      obtain ⟨q1, q2, q3⟩ := r4 h hh
      exact ⟨q1, Or.inl (q3.resolve_left q), q3⟩
  · rcases hcase h hh with ⟨z1, z2, z⟩ | ⟨y, hy, y1, y2, ⟨y3, z⟩ | ⟨_, z⟩ | ⟨_, z⟩⟩
    · exact (r5 h hh z1).mv (w5 h hh) (w6 h hh) (fun k hk => by rw [(bh h hh).2 k hk, if_neg (by rw [z2]; exact fun q => nI_ne (by omega) q.symm)])
    · subst y3
      exact (r6 h y hh hy y1).mv (w5 h hh) (w6 h hh) (fun k hk => by rw [(bh h hh).2 k hk, if_pos y2])
    · exact absurd (z.symm.trans he) (nI_ne (by omega))
    · exact absurd (z.symm.trans he) (nI_ne (by omega))
  · rcases hcase h hh with ⟨z1, z2, z⟩ | ⟨y, hy, y1, y2, ⟨y3, z⟩ | ⟨y3, z⟩ | ⟨y3, z⟩⟩
    · exact absurd (he.symm.trans z) (nI_ne (by omega))
    · exact absurd (he.symm.trans z) (nI_ne (by omega))
    · have : y = p' := nI_inj (by omega) (by omega) (z.symm.trans he)
      subst this
      exact (r6 h y hh hy y1).mv (w5 h hh) (w6 h hh) (fun k hk => bk _ (by omega) (by omega))
    · have : y - 1 = p' := nI_inj (by omega) (by omega) (z.symm.trans he)
      obtain ⟨x, rfl⟩ : ∃ x, y = x + 1 := ⟨y - 1, by omega⟩
      have : x = p' := by omega
      subst this
      refine (r6 h (x + 1) hh hy y1).mv (w5 h hh) (w6 h hh) (fun k hk => ?_)
      rw [show 50 + 3 * x + k = 50 + (3 * x + k) by omega, bp (3 * x + k) (by omega) (by omega), if_pos (by omega), show 53 + (3 * x + k) = 50 + 3 * (x + 1) + k by omega]
  · by_cases q : p' < p
    · obtain ⟨h, h1, h2⟩ := r9 p' (by omega)
      refine ⟨h, h1, ?_⟩
      rw [a4 h h1, h2, ds_nI p (by omega) p' (by omega), if_neg (by omega), if_pos q]
    · obtain ⟨h, h1, h2⟩ := r9 (p' + 1) (by omega)
      refine ⟨h, h1, ?_⟩
      rw [a4 h h1, h2, ds_nI p (by omega) (p' + 1) (by omega), if_neg (by omega), if_neg (by omega), Nat.add_sub_cancel]
  · rw [ak _ _ (by omega) (by omega) (by omega) (by omega), bk _ (by omega) (by omega)]; exact s1
  · rw [ak _ _ (by omega) (by omega) (by omega) (by omega), bk _ (by omega) (by omega)]; exact s2
  · rw [ak _ _ (by omega) (by omega) (by omega) (by omega), bk _ (by omega) (by omega)]; exact s3
  · rw [ak _ _ (by omega) (by omega) (by omega) (by omega), bk _ (by omega) (by omega)]; exact s4
  · rw [ak _ _ (by omega) (by omega) (by omega) (by omega), bk _ (by omega) (by omega)]; exact u3 h hh
  · rw [ak _ _ (by omega) (by omega) (by omega) (by omega)]; exact u4 u hu1 hu2
  · rw [ak _ _ (by omega) (by omega) (by omega) (by omega)]; exact u5 h hh1 hh2
theorem t_split {C P : Nat} {A B : zMt} {v0 : Int32} (w0 : eqE C P A B) (hJ : jJ P B) : two (D_X7_split C v0 A) (D_X8_split P v0 B) (acR C P A) := by
  obtain ⟨r, g, U, H, G, K, w⟩ := id w0
  obtain ⟨w1, w2, w3, w4, w5, w6, w7, w8, w9⟩ := id w
  have c1 := w6.1.1
  have c2 := w6.1.2.1
  have c3 := w6.1.2.2.1
  unfold D_X7_split D_X8_split
  rcases t_isP (v := v0) w with ⟨e1, e2, p, hp, hv⟩ | ⟨e1, e2⟩
  · subst hv
    rw [zB_s e1, zB_s e2, if_neg n10, if_neg n10]
    have hL : gR (C + 17) A (B (P + 1)) g U H G := w6.m (fun _ _ _ _ => rfl) (fun j hj => w1 j hj) (fun _ _ => rfl)
    obtain ⟨A1, ea, B1, eb, K1, p1, k1, k2⟩ := t_keep hL w9
    obtain ⟨A2, f1, f2, f3, f4⟩ := cc_diss (Q := C + 17) (H := H) (p := p) c2 zFu 0 A1 ((k1 _ _ (by omega)).trans w6.1.2.2.2.2.1) (by omega) (by unfold zFu; omega)
    rw [show nI 0 = (0 : Int32) by decide] at f1
    have f1' : D_X4_dissolve (C + 17) (nI p) A1 = some A2 := f1
    obtain ⟨B2, m1, m2, m3, m4, m5⟩ := mm_spl2 (P := P) (H := H) (p := p) c2 (by omega) zFu 0 B1 ((k2 _ _ (by omega) (by omega)).trans w4) (by omega) (by unfold zFu; omega)
    rw [show nI 0 = (0 : Int32) by decide] at m1
    have m1' : D_X8_splits P (nI p) B1 = some B2 := m1
    have eB70 : B1 (P + 1) 70 = nI G := (k2 _ _ (by omega) (by omega)).trans ((w1 70 (by omega)).trans w6.1.2.2.2.2.2.2)
    obtain ⟨B2', m6, kb, jS2⟩ := v_X8_splits (P := P) (v0 := nI p) (M0 := B1) (hJ.1.mono (fun a j q => k2 a j (by omega) (by omega))) (hJ.2.1.mono (fun a j q => k2 a j (by omega) (by omega))) (by rw [nI_toInt (by omega)]; omega) (by rw [eB70, nI_toInt (by omega), nI_toInt (by omega)]; omega)
    rw [m1'] at m6
    cases m6
    have gA : gR (C + 17) A2 (B2 (P + 1)) g U H (G - 1) := (hL.m (A' := A1) (r' := B1 (P + 1)) (g' := g) (fun i j _ _ => k1 i j (by omega)) (fun j _ => k2 _ _ (by omega) (by omega)) (fun _ _ => rfl)).split hp f2 (fun h hh => f3 h (Nat.zero_le h) hh) (fun i j _ _ h1 h2 => f4 i j h1 (by omega)) m2 (fun h hh => m3 h (Nat.zero_le h) hh) m4 (fun j _ hj => m5 _ _ (by omega))
    have h7 : B2 P 7 = nI U := (m5 _ _ (by omega)).trans ((k2 _ _ (by omega) (by omega)).trans w3)
    have h8 : B2 P 8 = nI H := (m5 _ _ (by omega)).trans ((k2 _ _ (by omega) (by omega)).trans w4)
    have pA : pst (C + 25) P A2 B2 g U H K1 := p1.k (fun i j _ _ => f4 i j (by omega) (by omega)) (fun i j _ => m5 i j (by omega))
    obtain ⟨A3, d1, d2, d3, d4⟩ := t_done (v := (0 : Int32)) h7 h8 (jS2.row h7 h8 c1 c2) (fun h hh => (m5 _ _ (by omega)).trans ((k2 _ _ (by omega) (by omega)).trans (w2 h hh))) gA pA
    obtain ⟨n, B3, hn, l1, l2, l3, l4, l5⟩ := t_laid d2
    refine two.l ea (two.r eb (two.l f1' (two.r m1' (two.l d1 (two.r l1 (two.l (e := (A3 (C + 91) 1, zu A3 C 0 (0 : Int32))) rfl (two.r (e := (B3 P 33, zu (zu B3 P 6 (0 : Int32)) P 12 (0 : Int32))) rfl (two.mk ⟨?_, ⟨_, _, _, _, _, _, d2.k (fun i j _ _ => ?_) (fun i j _ => ?_)⟩, Or.inl ?_⟩))))))))
    · exact (show A3 (C + 91) 1 = nI n from l2.2.2.1).trans l4.1.symm
    · show zu A3 C 0 (0 : Int32) i j = A3 i j
      exact zu_ne (by omega)
    · show zu (zu B3 P 6 (0 : Int32)) P 12 (0 : Int32) i j = B2 i j
      rw [zu_ne (by omega), zu_ne (by omega)]
      exact l5 i j (by omega) (by omega)
    · show zu A3 C 0 (0 : Int32) C 3 = 0
      rw [zu_ne (by omega)]
      exact d3
  · rw [zB_s e1, zB_s e2, if_pos rfl, if_pos rfl]
    exact t_ref0 w0
/-! CHOICES of an APPLICANT become others -/
theorem nI_m3 : ∀ h, h < 10 → nI h * (3 : Int32) = nI (3 * h) := by decide
theorem nI_ad2 {k : Nat} (h : k + 2 < 2147483648) : nI k + (2 : Int32) = nI (k + 2) := by
  rw [show (2 : Int32) = nI 2 by decide, nI_addk h]
theorem cc_wf38 {Q H : Nat} {b u v x c : Int32} (hH : H ≤ 10) : ∀ (f k : Nat) (A : zMt), A Q 1 = nI H → k ≤ H → H - k < f → ∃ A', D_X4_wishFor_38 Q f b u v x c (nI k) A = some A' ∧ (∀ h, k ≤ h → h < H → bitAt b h → A' (Q + 5) h = c ∧ A' (Q + 6) (3 * h) = u ∧ A' (Q + 6) (3 * h + 1) = v ∧ A' (Q + 6) (3 * h + 2) = x) ∧ (∀ h, k ≤ h → h < H → ¬ bitAt b h → A' (Q + 5) h = A (Q + 5) h ∧ ∀ y, y < 3 → A' (Q + 6) (3 * h + y) = A (Q + 6) (3 * h + y)) ∧ (∀ i j, ¬ (i = Q + 5 ∧ k ≤ j ∧ j < H) → ¬ (i = Q + 6 ∧ 3 * k ≤ j ∧ j < 3 * H) → A' i j = A i j) := by
  intro f
  induction f with
  | zero => intro k A _ _ h; omega
  | succ f ih =>
    intro k A h1 hk hu
    rw [D_X4_wishFor_38, h1]
    by_cases hc : H ≤ k
    · rw [if_pos (by exact (nI_leI (by omega) (by omega)).mpr hc)]
      exact ⟨A, rfl, fun h h3 h4 => by omega, fun h h3 h4 => by omega, fun _ _ _ _ => rfl⟩
    · rw [if_neg (by intro z; exact hc ((nI_leI (by omega) (by omega)).mp z)), nI_m3 k (by omega), zwr_nI (show k < 10 by omega) (by decide)]
      by_cases q : bitAt b k
      · rw [if_pos (by exact q), zLt_eq, zwr_nI (show 3 * k < 30 by omega) (by decide), zLt_eq, nI_add1, zwr_nI (show 3 * k + 1 < 30 by omega) (by decide), zLt_eq, nI_ad2 (by omega), zwr_nI (show 3 * k + 2 < 30 by omega) (by decide), zLt_eq]
        unfold D_X4_wishFor_109
        rw [nI_add1]
        have kk : ∀ i j, ¬ (i = Q + 5 ∧ j = k) → ¬ (i = Q + 6 ∧ 3 * k ≤ j ∧ j < 3 * k + 3) → zu (zu (zu (zu A (Q + 5) k c) (Q + 6) (3 * k) u) (Q + 6) (3 * k + 1) v) (Q + 6) (3 * k + 2) x i j = A i j := fun i j h3 h4 => (zu_ne (by omega)).trans ((zu_ne (by omega)).trans ((zu_ne (by omega)).trans (zu_ne (by omega))))
        obtain ⟨A', f1, f2, f3, f4⟩ := ih (k + 1) _ ((kk _ _ (by omega) (by omega)).trans h1) (by omega) (by omega)
        refine ⟨A', f1, fun h h3 h4 hb => ?_, fun h h3 h4 hb => ?_, fun i j h3 h4 => (f4 i j (by omega) (by omega)).trans (kk i j (by omega) (by omega))⟩
        · by_cases z : h = k
          · subst z
            rw [f4 (Q + 5) h (by omega) (by omega), f4 (Q + 6) (3 * h) (by omega) (by omega), f4 (Q + 6) (3 * h + 1) (by omega) (by omega), f4 (Q + 6) (3 * h + 2) (by omega) (by omega)]
            refine ⟨?_, ?_, ?_, zu_eq⟩
            · rw [zu_ne (by omega), zu_ne (by omega), zu_ne (by omega), zu_eq]
            · rw [zu_ne (by omega), zu_ne (by omega), zu_eq]
            · rw [zu_ne (by omega), zu_eq]
          · exact f2 h (by omega) h4 hb
        · have z : ¬ h = k := fun z => hb (z ▸ q)
          obtain ⟨g1, g2⟩ := f3 h (by omega) h4 hb
          exact ⟨g1.trans (kk _ _ (by omega) (by omega)), fun y hy => (g2 y hy).trans (kk _ _ (by omega) (by omega))⟩
      · rw [if_neg (by exact q)]
        unfold D_X4_wishFor_109
        rw [nI_add1]
        obtain ⟨A', f1, f2, f3, f4⟩ := ih (k + 1) A h1 (by omega) (by omega)
        refine ⟨A', f1, fun h h3 h4 hb => ?_, fun h h3 h4 hb => ?_, fun i j h3 h4 => f4 i j (by omega) (by omega)⟩
        · have z : ¬ h = k := fun z => q (z ▸ hb)
          exact f2 h (by omega) h4 hb
        · by_cases z : h = k
          · subst z
            exact ⟨f4 _ _ (by omega) (by omega), fun y hy => f4 _ _ (by omega) (by omega)⟩
          · exact f3 h (by omega) h4 hb
/-- how many are told -/
def wct (u v x : Int32) : Nat := (if u = -1 then 0 else 1) + (if v = -1 then 0 else 1) + (if x = -1 then 0 else 1)
theorem cc_wishFor {Q H : Nat} {b u v x : Int32} {A : zMt} (hH : H ≤ 10) (h1 : A Q 1 = nI H) : ∃ A', D_X4_wishFor Q b u v x A = some A' ∧ (∀ h, h < H → bitAt b h → A' (Q + 5) h = nI (wct u v x) ∧ A' (Q + 6) (3 * h) = u ∧ A' (Q + 6) (3 * h + 1) = v ∧ A' (Q + 6) (3 * h + 2) = x) ∧ (∀ h, h < H → ¬ bitAt b h → A' (Q + 5) h = A (Q + 5) h ∧ ∀ y, y < 3 → A' (Q + 6) (3 * h + y) = A (Q + 6) (3 * h + y)) ∧ (∀ i j, ¬ (i = Q + 5 ∧ j < H) → ¬ (i = Q + 6 ∧ j < 3 * H) → A' i j = A i j) := by
  have go : ∀ c : Int32, c = nI (wct u v x) → ∃ A', D_X4_wishFor_38 Q zFu b u v x c (0 : Int32) A = some A' ∧ (∀ h, h < H → bitAt b h → A' (Q + 5) h = nI (wct u v x) ∧ A' (Q + 6) (3 * h) = u ∧ A' (Q + 6) (3 * h + 1) = v ∧ A' (Q + 6) (3 * h + 2) = x) ∧ (∀ h, h < H → ¬ bitAt b h → A' (Q + 5) h = A (Q + 5) h ∧ ∀ y, y < 3 → A' (Q + 6) (3 * h + y) = A (Q + 6) (3 * h + y)) ∧ (∀ i j, ¬ (i = Q + 5 ∧ j < H) → ¬ (i = Q + 6 ∧ j < 3 * H) → A' i j = A i j) := fun c hc => by
    obtain ⟨A', f1, f2, f3, f4⟩ := cc_wf38 (Q := Q) (b := b) (u := u) (v := v) (x := x) (c := c) hH zFu 0 A h1 (by omega) (by unfold zFu; omega)
    rw [show nI 0 = (0 : Int32) by decide] at f1
    rw [hc] at f2
    exact ⟨A', f1, fun h hh => f2 h (Nat.zero_le h) hh, fun h hh => f3 h (Nat.zero_le h) hh, fun i j h3 h4 => f4 i j (by omega) (by omega)⟩
  unfold D_X4_wishFor D_X4_wishFor_10 D_X4_wishFor_20 D_X4_wishFor_32
  by_cases q1 : u = -1
  · rw [if_pos q1]
    by_cases q2 : v = -1
    · rw [if_pos q2]
      by_cases q3 : x = -1
      · rw [if_pos q3]
        exact go ((0 : Int32) + 0 + 0) (by unfold wct; rw [if_pos q1, if_pos q2, if_pos q3]; decide)
      · rw [if_neg q3]
        exact go ((0 : Int32) + 0 + 1) (by unfold wct; rw [if_pos q1, if_pos q2, if_neg q3]; decide)
    · rw [if_neg q2]
      by_cases q3 : x = -1
      · rw [if_pos q3]
        exact go ((0 : Int32) + 1 + 0) (by unfold wct; rw [if_pos q1, if_neg q2, if_pos q3]; decide)
      · rw [if_neg q3]
        exact go ((0 : Int32) + 1 + 1) (by unfold wct; rw [if_pos q1, if_neg q2, if_neg q3]; decide)
  · rw [if_neg q1]
    by_cases q2 : v = -1
    · rw [if_pos q2]
      by_cases q3 : x = -1
      · rw [if_pos q3]
        exact go ((1 : Int32) + 0 + 0) (by unfold wct; rw [if_neg q1, if_pos q2, if_pos q3]; decide)
      · rw [if_neg q3]
        exact go ((1 : Int32) + 0 + 1) (by unfold wct; rw [if_neg q1, if_pos q2, if_neg q3]; decide)
    · rw [if_neg q2]
      by_cases q3 : x = -1
      · rw [if_pos q3]
        exact go ((1 : Int32) + 1 + 0) (by unfold wct; rw [if_neg q1, if_neg q2, if_pos q3]; decide)
      · rw [if_neg q3]
        exact go ((1 : Int32) + 1 + 1) (by unfold wct; rw [if_neg q1, if_neg q2, if_neg q3]; decide)
theorem wct_ok {u v x : Int32} (h1 : u = -1 → v = -1) (h2 : v = -1 → x = -1) : wct u v x ≤ 3 ∧ (0 < wct u v x ↔ ¬ u = -1) ∧ (1 < wct u v x ↔ ¬ v = -1) ∧ (2 < wct u v x ↔ ¬ x = -1) := by
  unfold wct
  by_cases q3 : x = -1
  · by_cases q2 : v = -1
    · by_cases q1 : u = -1
      · rw [if_pos q1, if_pos q2, if_pos q3]
        exact ⟨by omega, ⟨fun z => by omega, fun z => absurd q1 z⟩, ⟨fun z => by omega, fun z => absurd q2 z⟩, ⟨fun z => by omega, fun z => absurd q3 z⟩⟩
      · rw [if_neg q1, if_pos q2, if_pos q3]
        exact ⟨by omega, ⟨fun _ => q1, fun _ => by omega⟩, ⟨fun z => by omega, fun z => absurd q2 z⟩, ⟨fun z => by omega, fun z => absurd q3 z⟩⟩
    · have q1 : ¬ u = -1 := fun z => q2 (h1 z)
      rw [if_neg q1, if_neg q2, if_pos q3]
      exact ⟨by omega, ⟨fun _ => q1, fun _ => by omega⟩, ⟨fun _ => q2, fun _ => by omega⟩, ⟨fun z => by omega, fun z => absurd q3 z⟩⟩
  · have q2 : ¬ v = -1 := fun z => q3 (h2 z)
    have q1 : ¬ u = -1 := fun z => q2 (h1 z)
    rw [if_neg q1, if_neg q2, if_neg q3]
    exact ⟨by omega, ⟨fun _ => q1, fun _ => by omega⟩, ⟨fun _ => q2, fun _ => by omega⟩, ⟨fun _ => q3, fun _ => by omega⟩⟩
theorem gR.wish {R a base : Nat} {A A' : zMt} {r r' g : Nat → Int32} {U H G c : Nat} {u v x : Int32} (w : gR R A r g U H G) (hb : isBase r H a base) (hb20 : 20 ≤ base)
    (ac : ∀ h, h < H → memb r H a h → A' (R + 5) h = nI c ∧ A' (R + 6) (3 * h) = u ∧ A' (R + 6) (3 * h + 1) = v ∧ A' (R + 6) (3 * h + 2) = x)
    (an : ∀ h, h < H → ¬ memb r H a h → A' (R + 5) h = A (R + 5) h ∧ ∀ k, k < 3 → A' (R + 6) (3 * h + k) = A (R + 6) (3 * h + k))
    (ak : ∀ i j, R ≤ i → i < R + 8 → ¬ i = R + 5 → ¬ i = R + 6 → A' i j = A i j)
    (b0 : r' base = u) (b1 : r' (base + 1) = v) (b2 : r' (base + 2) = x) (hb59 : base ≤ 59) (bk : ∀ j, j < 82 → ¬ (base ≤ j ∧ j < base + 3) → r' j = r j) (hc : c ≤ 3) (h0 : 0 < c ↔ ¬ u = -1) (h1 : 1 < c ↔ ¬ v = -1) (h2 : 2 < c ↔ ¬ x = -1) : gR R A' r' g U H G := by
  obtain ⟨⟨c1, c2, c3, c4, c5, c6, c7⟩, r1, r2, r3, r4, r5, r6, r9, ⟨s1, s2, s3, s4⟩, u3, u4, u5⟩ := w
  have ha4 : a - fr r H < 4 := by
    rcases hb with ⟨h', y1, y2, y3, y4⟩ | ⟨y1, y2⟩
    · have := fr_lt y1 y2
      omega
    · omega
  have new : ∀ h, h < H → memb r H a h → wsR R A' r' h base := fun h hh hm => by
    obtain ⟨e1, e2, e3, e4⟩ := ac h hh hm
    have hk : ∀ k, k < 3 → k = 0 ∨ k = 1 ∨ k = 2 := fun k hk => by omega
    refine ⟨c, hc, e1, fun k h3 => ?_, fun k h3 => ?_⟩
    · rcases hk k h3 with z | z | z <;> subst z
      · exact e2.trans b0.symm
      · exact e3.trans b1.symm
      · exact e4.trans b2.symm
    · rcases hk k h3 with z | z | z <;> subst z
      · show 0 < c ↔ ¬ r' base = -1
        rw [b0]; exact h0
      · rw [b1]; exact h1
      · rw [b2]; exact h2
  have old : ∀ h b', h < H → ¬ memb r H a h → (b' + 3 ≤ base ∨ base + 3 ≤ b') → b' ≤ 59 → wsR R A r h b' → wsR R A' r' h b' := fun h b' hh hm hd h59 q => by
    obtain ⟨e1, e2⟩ := an h hh hm
    exact q.k e1 e2 (fun k hk => bk _ (by omega) (by omega))
  refine ⟨⟨c1, c2, c3, (ak _ _ (by omega) (by omega) (by omega) (by omega)).trans c4, (ak _ _ (by omega) (by omega) (by omega) (by omega)).trans c5, (ak _ _ (by omega) (by omega) (by omega) (by omega)).trans c6, (bk _ (by omega) (by omega)).trans c7⟩, fun u hu => ?_, fun h hh => ?_, fun h hh => ?_, fun h hh => ?_, fun h hh he => ?_, fun h p hh hp he => ?_, fun p hp => ?_, ⟨?_, ?_, ?_, ?_⟩, fun h hh => ?_, fun u hu1 hu2 => ?_, fun h hh1 hh2 => ?_⟩
  · rw [ak _ _ (by omega) (by omega) (by omega) (by omega), bk _ (by omega) (by omega)]; exact r1 u hu
  · rw [ak _ _ (by omega) (by omega) (by omega) (by omega), bk _ (by omega) (by omega)]; exact r2 h hh
  · rw [ak _ _ (by omega) (by omega) (by omega) (by omega)]; exact r3 h hh
  · rw [ak _ _ (by omega) (by omega) (by omega) (by omega), bk _ (by omega) (by omega)]; exact r4 h hh
  · rw [ak _ _ (by omega) (by omega) (by omega) (by omega)] at he
    have hr : r (10 + h) = -1 := (r4 h (by omega)).1.symm.trans he
    by_cases hm : memb r H a h
    · have e : base = 20 + 3 * h := by
        have hlt := fr_lt hh hr
        have hfa : fr r h = a := by
          rcases hm with ⟨_, ⟨_, z⟩ | ⟨_, z⟩⟩
          · exact z
          · exact absurd (z.symm.trans hr) (nI_ne (by omega))
        rcases hb with ⟨h', y1, y2, y3, y4⟩ | ⟨y1, _⟩
        · have := fr_inj y2 hr (y3.trans hfa.symm)
          omega
        · omega
      rw [← e]
      exact new h hh hm
    · refine old h _ hh hm ?_ (by omega) (r5 h hh he)
      rcases hb with ⟨h', y1, y2, y3, y4⟩ | ⟨y1, y2⟩
      · have : h' ≠ h := fun z => hm (by subst z; exact ⟨hh, Or.inl ⟨hr, y3⟩⟩)
        omega
      · omega
  · rw [ak _ _ (by omega) (by omega) (by omega) (by omega)] at he
    have hr : r (10 + h) = nI p := (r4 h (by omega)).1.symm.trans he
    by_cases hm : memb r H a h
    · have e : base = 50 + 3 * p := by
        rcases hm with ⟨_, ⟨z, _⟩ | ⟨z, z2⟩⟩
        · exact absurd (hr.symm.trans z) (nI_ne (by omega))
        · rcases hb with ⟨h', y1, y2, y3, y4⟩ | ⟨y1, y2⟩
          · have := fr_lt y1 y2
            omega
          · have := nI_inj (by omega) (by omega) (hr.symm.trans z2)
            omega
      rw [← e]
      exact new h hh hm
    · refine old h _ hh hm ?_ (by omega) (r6 h p hh hp he)
      rcases hb with ⟨h', y1, y2, y3, y4⟩ | ⟨y1, y2⟩
      · omega
      · have : a - fr r H ≠ p := fun z => hm ⟨hh, Or.inr ⟨y1, by rw [z]; exact hr⟩⟩
        omega
  · obtain ⟨h, z1, z2⟩ := r9 p hp
    exact ⟨h, z1, (ak _ _ (by omega) (by omega) (by omega) (by omega)).trans z2⟩
  · rw [ak _ _ (by omega) (by omega) (by omega) (by omega), bk _ (by omega) (by omega)]; exact s1
  · rw [ak _ _ (by omega) (by omega) (by omega) (by omega), bk _ (by omega) (by omega)]; exact s2
  · rw [ak _ _ (by omega) (by omega) (by omega) (by omega), bk _ (by omega) (by omega)]; exact s3
  · rw [ak _ _ (by omega) (by omega) (by omega) (by omega), bk _ (by omega) (by omega)]; exact s4
  · rw [ak _ _ (by omega) (by omega) (by omega) (by omega), bk _ (by omega) (by omega)]; exact u3 h hh
  · rw [ak _ _ (by omega) (by omega) (by omega) (by omega)]; exact u4 u hu1 hu2
  · rw [ak _ _ (by omega) (by omega) (by omega) (by omega)]; exact u5 h hh1 hh2
/-- where the reference has an applicant's choices -/
theorem t_base {C P U H G K a : Nat} {A B B1 : zMt} {r g : Nat → Int32} (w : eqS C P A B r g U H G K) (e : D_X8_laysApplicants P B = some B1) (ha : a < fr r H + G) : ∃ base, isBase r H a base ∧ 20 ≤ base ∧ base ≤ 59 ∧ B1 (P + 13) a = nI base := by
  obtain ⟨w1, w2, w3, w4, w5, w6, w7, w8, w9⟩ := w
  have c2 := w6.1.2.1
  have c3 := w6.1.2.2.1
  obtain ⟨f1, f2, f3, f4, f5⟩ := row_facts w5 w6.1.2.2.2.2.2.2 c3 c2
  have hg : ∀ h, h < H → g h = 0 ∨ g h = 1 := fun h hh => (w6.2.2.2.1 h hh).2
  obtain ⟨B2, e1, e2, e3⟩ := mm_lays (P := P) (B := B) (r := r) (g := g) c2 c3 (by omega) hg f5 w4 w1 (fun h hh => w2 h (by omega)) w6.1.2.2.2.2.2.2
  rw [e] at e1
  cases e1
  obtain ⟨p1, p2, ⟨base, b1, b2, b3⟩, p4⟩ := e2.2 a ha
  obtain ⟨b4, b5⟩ := base_rng c2 ha c3 b1
  exact ⟨base, b1, b4, b5, b3⟩
theorem t_isUN {C P U H G K : Nat} {A B : zMt} {r g : Nat → Int32} {v : Int32} (w : eqS C P A B r g U H G K) : (D_X7_isUnitOrNone C A v = some 1 ∧ ¬ v < -1 ∧ ¬ nI U ≤ v) ∨ (D_X7_isUnitOrNone C A v = some 0 ∧ (v < -1 ∨ nI U ≤ v)) := by
  have c1 := w.2.2.2.2.2.1.1.1
  unfold D_X7_isUnitOrNone
  by_cases q : v = -1
  · subst q
    refine Or.inl ⟨?_, by decide, fun z => ?_⟩
    · rw [if_pos rfl]; rfl
    · have := Int32.le_iff_toInt_le.mp z
      rw [nI_toInt (by omega), z_m1] at this
      omega
  · rw [if_neg q]
    have o0 : (0 : Int32).toInt = 0 := by decide
    have eA : A (C + 17) 0 = nI U := w.2.2.2.2.2.1.1.2.2.2.1
    rcases inN (v := v) (n := U) (by omega) with ⟨hx, q1, q2, q3, q4⟩ | ⟨q1, q3⟩
    · have e : D_X7_isUnit C A v = some 1 := by
        unfold D_X7_isUnit
        rw [eA, if_neg q1, if_neg q2]
        rfl
      refine Or.inl ⟨?_, fun z => ?_, q2⟩
      · rw [zB_s e, if_neg n10]; rfl
      · have := Int32.lt_iff_toInt_lt.mp z
        rw [z_m1] at this
        omega
    · have e : D_X7_isUnit C A v = some 0 := by
        unfold D_X7_isUnit
        rw [eA]
        by_cases z : v < 0
        · rw [if_pos z]; rfl
        · rw [if_neg z, if_pos (q1.resolve_left z)]; rfl
      refine Or.inr ⟨?_, ?_⟩
      · rw [zB_s e, if_pos rfl]; rfl
      · rcases q1 with z | z
        · refine Or.inl (Int32.lt_iff_toInt_lt.mpr ?_)
          have h1 := Int32.lt_iff_toInt_lt.mp z
          have h2 : ¬ v.toInt = -1 := fun y => q (Int32.toInt_inj.mp (by rw [y, z_m1]))
          rw [z_m1]
          omega
        · exact Or.inr z
theorem ch26 {P : Nat} {a u v x x5 : Int32} {B : zMt} : ∃ y0, D_X8_choose_26 P a u v x x5 B = D_X8_choose_60 P a u v x x5 y0 B := by
  unfold D_X8_choose_26 D_X8_choose_44 D_X8_choose_55 D_X8_choose_59
  by_cases q1 : u = -1
  · rw [if_pos q1]
    by_cases q2 : v = -1
    · rw [if_pos q2]; exact ⟨_, rfl⟩
    · rw [if_neg q2]
      by_cases q6 : v = x
      · rw [if_pos q6]; exact ⟨_, rfl⟩
      · rw [if_neg q6]; exact ⟨_, rfl⟩
  · rw [if_neg q1]
    by_cases q4 : u = v
    · rw [if_pos q4]; exact ⟨_, rfl⟩
    · rw [if_neg q4]
      by_cases q5 : u = x
      · rw [if_pos q5]; exact ⟨_, rfl⟩
      · rw [if_neg q5]
        by_cases q2 : v = -1
        · rw [if_pos q2]; exact ⟨_, rfl⟩
        · rw [if_neg q2]
          by_cases q6 : v = x
          · rw [if_pos q6]; exact ⟨_, rfl⟩
          · rw [if_neg q6]; exact ⟨_, rfl⟩
def chB (u v x : Int32) : Prop := (u = -1 ∧ ¬ v = -1) ∨ (v = -1 ∧ ¬ x = -1) ∨ (¬ u = -1 ∧ (u = v ∨ u = x)) ∨ (¬ v = -1 ∧ v = x)
theorem cc_tree {C : Nat} {a u v x : Int32} {A : zMt} : ((D_X7_choose C a u v x A = zB (D_X7_refuse C (1 : Int32) A) fun e => some (e.1, e.2)) ∧ chB u v x) ∨ (D_X7_choose C a u v x A = D_X7_choose_60 C a u v x A ∧ ¬ chB u v x) := by
  unfold D_X7_choose
  have t43 : (¬ u = -1 → ¬ u = v) → (¬ u = -1 → ¬ u = x) → (u = -1 → v = -1) → (v = -1 → x = -1) → ((D_X7_choose_43 C a u v x A = zB (D_X7_refuse C (1 : Int32) A) fun e => some (e.1, e.2)) ∧ chB u v x) ∨ (D_X7_choose_43 C a u v x A = D_X7_choose_60 C a u v x A ∧ ¬ chB u v x) := fun k1 k2 k3 k4 => by
    unfold D_X7_choose_43
    by_cases q2 : v = -1
    · rw [if_pos q2]
      refine Or.inr ⟨rfl, ?_⟩
      rintro (⟨z1, z2⟩ | ⟨z1, z2⟩ | ⟨z1, z2⟩ | ⟨z1, z2⟩)
      · exact z2 (k3 z1)
      · exact z2 (k4 z1)
      · exact z2.elim (k1 z1) (k2 z1)
      · exact z1 q2
    · rw [if_neg q2]
      by_cases q6 : v = x
      · rw [if_pos q6]
        exact Or.inl ⟨rfl, Or.inr (Or.inr (Or.inr ⟨q2, q6⟩))⟩
      · rw [if_neg q6]
        refine Or.inr ⟨rfl, ?_⟩
        rintro (⟨z1, z2⟩ | ⟨z1, z2⟩ | ⟨z1, z2⟩ | ⟨z1, z2⟩)
        · exact z2 (k3 z1)
        · exact z2 (k4 z1)
        · exact z2.elim (k1 z1) (k2 z1)
        · exact q6 z2
  have t27 : (u = -1 → v = -1) → (v = -1 → x = -1) → ((D_X7_choose_27 C a u v x A = zB (D_X7_refuse C (1 : Int32) A) fun e => some (e.1, e.2)) ∧ chB u v x) ∨ (D_X7_choose_27 C a u v x A = D_X7_choose_60 C a u v x A ∧ ¬ chB u v x) := fun k3 k4 => by
    unfold D_X7_choose_27
    by_cases q1 : u = -1
    · rw [if_pos q1]
      exact t43 (fun z => absurd q1 z) (fun z => absurd q1 z) k3 k4
    · rw [if_neg q1]
      by_cases q4 : u = v
      · rw [if_pos q4]
        exact Or.inl ⟨rfl, Or.inr (Or.inr (Or.inl ⟨q1, Or.inl q4⟩))⟩
      · rw [if_neg q4]
        by_cases q5 : u = x
        · rw [if_pos q5]
          exact Or.inl ⟨rfl, Or.inr (Or.inr (Or.inl ⟨q1, Or.inr q5⟩))⟩
        · rw [if_neg q5]
          exact t43 (fun _ => q4) (fun _ => q5) k3 k4
  have t10 : (u = -1 → v = -1) → ((D_X7_choose_10 C a u v x A = zB (D_X7_refuse C (1 : Int32) A) fun e => some (e.1, e.2)) ∧ chB u v x) ∨ (D_X7_choose_10 C a u v x A = D_X7_choose_60 C a u v x A ∧ ¬ chB u v x) := fun k3 => by
    unfold D_X7_choose_10
    by_cases q2 : v = -1
    · rw [if_pos q2]
      by_cases q3 : x = -1
      · rw [if_pos q3]
        exact t27 k3 (fun _ => q3)
      · rw [if_neg q3]
        exact Or.inl ⟨rfl, Or.inr (Or.inl ⟨q2, q3⟩)⟩
    · rw [if_neg q2]
      exact t27 k3 (fun z => absurd z q2)
  by_cases q1 : u = -1
  · rw [if_pos q1]
    by_cases q2 : v = -1
    · rw [if_pos q2]
      exact t10 (fun _ => q2)
    · rw [if_neg q2]
      exact Or.inl ⟨rfl, Or.inl ⟨q1, q2⟩⟩
  · rw [if_neg q1]
    exact t10 (fun z => absurd z q1)
theorem mm_tree {P : Nat} {a u v x : Int32} {B : zMt} : (chB u v x → ∃ x5 y0, D_X8_choose P a u v x B = D_X8_choose_60 P a u v x x5 y0 B ∧ ¬ (x5 = 0 ∧ y0 = 0)) ∧ (¬ chB u v x → D_X8_choose P a u v x B = D_X8_choose_60 P a u v x 0 0 B) := by
  have n1 : ∀ y : Int32, ¬ ((1 : Int32) = 0 ∧ y = 0) := fun y z => absurd z.1 (by decide)
  have n2 : ∀ y : Int32, ¬ (y = 0 ∧ (1 : Int32) = 0) := fun y z => absurd z.2 (by decide)
  obtain ⟨y1, one⟩ : ∃ y0, D_X8_choose_21 P a u v x B = D_X8_choose_60 P a u v x 1 y0 B := ch26
  have t44 : (¬ u = -1 → ¬ u = v) → (¬ u = -1 → ¬ u = x) → (u = -1 → v = -1) → (v = -1 → x = -1) → (chB u v x → ∃ x5 y0, D_X8_choose_44 P a u v x 0 B = D_X8_choose_60 P a u v x x5 y0 B ∧ ¬ (x5 = 0 ∧ y0 = 0)) ∧ (¬ chB u v x → D_X8_choose_44 P a u v x 0 B = D_X8_choose_60 P a u v x 0 0 B) := fun k1 k2 k3 k4 => by
    unfold D_X8_choose_44
    by_cases q2 : v = -1
    · rw [if_pos q2]
      refine ⟨?_, fun _ => rfl⟩
      rintro (⟨z1, z2⟩ | ⟨z1, z2⟩ | ⟨z1, z2⟩ | ⟨z1, z2⟩)
      · exact absurd (k3 z1) z2
      · exact absurd (k4 z1) z2
      · exact absurd z2 (fun w => w.elim (k1 z1) (k2 z1))
      · exact absurd q2 z1
    · rw [if_neg q2]
      by_cases q6 : v = x
      · rw [if_pos q6]
        exact ⟨fun _ => ⟨0, 1, rfl, n2 0⟩, fun z => absurd (Or.inr (Or.inr (Or.inr ⟨q2, q6⟩))) z⟩
      · rw [if_neg q6]
        refine ⟨?_, fun _ => rfl⟩
        rintro (⟨z1, z2⟩ | ⟨z1, z2⟩ | ⟨z1, z2⟩ | ⟨z1, z2⟩)
        · exact absurd (k3 z1) z2
        · exact absurd (k4 z1) z2
        · exact absurd z2 (fun w => w.elim (k1 z1) (k2 z1))
        · exact absurd z2 q6
  have t26 : (u = -1 → v = -1) → (v = -1 → x = -1) → (chB u v x → ∃ x5 y0, D_X8_choose_26 P a u v x 0 B = D_X8_choose_60 P a u v x x5 y0 B ∧ ¬ (x5 = 0 ∧ y0 = 0)) ∧ (¬ chB u v x → D_X8_choose_26 P a u v x 0 B = D_X8_choose_60 P a u v x 0 0 B) := fun k3 k4 => by
    unfold D_X8_choose_26
    by_cases q1 : u = -1
    · rw [if_pos q1]
      exact t44 (fun z => absurd q1 z) (fun z => absurd q1 z) k3 k4
    · rw [if_neg q1]
      by_cases q4 : u = v
      · rw [if_pos q4]
        exact ⟨fun _ => ⟨0, 1, rfl, n2 0⟩, fun z => absurd (Or.inr (Or.inr (Or.inl ⟨q1, Or.inl q4⟩))) z⟩
      · rw [if_neg q4]
        by_cases q5 : u = x
        · rw [if_pos q5]
          exact ⟨fun _ => ⟨0, 1, rfl, n2 0⟩, fun z => absurd (Or.inr (Or.inr (Or.inl ⟨q1, Or.inr q5⟩))) z⟩
        · rw [if_neg q5]
          exact t44 (fun _ => q4) (fun _ => q5) k3 k4
  have t10 : (u = -1 → v = -1) → (chB u v x → ∃ x5 y0, D_X8_choose_10 P a u v x B = D_X8_choose_60 P a u v x x5 y0 B ∧ ¬ (x5 = 0 ∧ y0 = 0)) ∧ (¬ chB u v x → D_X8_choose_10 P a u v x B = D_X8_choose_60 P a u v x 0 0 B) := fun k3 => by
    unfold D_X8_choose_10
    by_cases q2 : v = -1
    · rw [if_pos q2]
      by_cases q3 : x = -1
      · rw [if_pos q3]
        exact t26 k3 (fun _ => q3)
      · rw [if_neg q3, one]
        exact ⟨fun _ => ⟨1, y1, rfl, n1 y1⟩, fun z => absurd (Or.inr (Or.inl ⟨q2, q3⟩)) z⟩
    · rw [if_neg q2]
      exact t26 k3 (fun z => absurd z q2)
  unfold D_X8_choose
  by_cases q1 : u = -1
  · rw [if_pos q1]
    by_cases q2 : v = -1
    · rw [if_pos q2]
      exact t10 (fun _ => q2)
    · rw [if_neg q2, one]
      exact ⟨fun _ => ⟨1, y1, rfl, n1 y1⟩, fun z => absurd (Or.inl ⟨q1, q2⟩) z⟩
  · rw [if_neg q1]
    exact t10 (fun z => absurd z q1)
theorem ch60_bad {P : Nat} {a u v x x5 y0 : Int32} {B : zMt} (h : ¬ (x5 = 0 ∧ y0 = 0)) : D_X8_choose_60 P a u v x x5 y0 B = zB (D_X8_refuse P (1 : Int32) B) fun e => some (e.1, e.2) := by
  unfold D_X8_choose_60
  by_cases q1 : u < -1
  · rw [if_pos q1]; rfl
  · rw [if_neg q1]
    by_cases q2 : v < -1
    · rw [if_pos q2]; rfl
    · rw [if_neg q2]
      by_cases q3 : x < -1
      · rw [if_pos q3]; rfl
      · rw [if_neg q3]
        by_cases q4 : x5 = 0
        · rw [if_pos q4, if_neg (fun z => h ⟨q4, z⟩)]; rfl
        · rw [if_neg q4]; rfl
/-- where one of the things asked doesn't hold -/
theorem ch60_no {P U : Nat} {a u v x e0 : Int32} {B B1 : zMt} (e : D_X8_isApplicant P a B = some (e0, B1)) (h7 : B1 P 7 = nI U) (h : u < -1 ∨ v < -1 ∨ x < -1 ∨ e0 = 0 ∨ nI U ≤ u ∨ nI U ≤ v ∨ nI U ≤ x) : ∃ st Bx, (Bx = B ∨ Bx = B1) ∧ D_X8_choose_60 P a u v x 0 0 B = zB (D_X8_refuse P st Bx) fun e => some (e.1, e.2) := by
  unfold D_X8_choose_60
  by_cases q1 : u < -1
  · rw [if_pos q1]; exact ⟨1, B, Or.inl rfl, rfl⟩
  · rw [if_neg q1]
    by_cases q2 : v < -1
    · rw [if_pos q2]; exact ⟨1, B, Or.inl rfl, rfl⟩
    · rw [if_neg q2]
      by_cases q3 : x < -1
      · rw [if_pos q3]; exact ⟨1, B, Or.inl rfl, rfl⟩
      · rw [if_neg q3, if_pos rfl, if_pos rfl, zB_s e]
        by_cases q4 : e0 = 0
        · rw [if_pos q4]; exact ⟨2, B1, Or.inr rfl, rfl⟩
        · have h7' : (e0, B1).2 P 7 = nI U := h7
          rw [if_neg q4, h7']
          by_cases q5 : nI U ≤ u
          · rw [if_pos q5]; exact ⟨2, B1, Or.inr rfl, rfl⟩
          · rw [if_neg q5]
            by_cases q6 : nI U ≤ v
            · rw [if_pos q6]; exact ⟨2, B1, Or.inr rfl, rfl⟩
            · rw [if_neg q6]
              by_cases q7 : nI U ≤ x
              · rw [if_neg (Int32.not_lt.mpr q7)]; exact ⟨2, B1, Or.inr rfl, rfl⟩
              · exact absurd h (by
                  rintro (z | z | z | z | z | z | z)
                  · exact q1 z
                  · exact q2 z
                  · exact q3 z
                  · exact q4 z
                  · exact q5 z
                  · exact q6 z
                  · exact q7 z)
/-- the choices are written -/
theorem t_chw {C P U H G K n a base : Nat} {A B : zMt} {r g : Nat → Int32} {u v x : Int32} (w : eqS C P A B r g U H G K) (hn : n = fr r H + G) (ha : a < n) (hgP : gP (tP (C + 91) A) n U) (hm : mP P B (tP (C + 91) A) n U) (hb : isBase r H a base) (hb20 : 20 ≤ base) (hb59 : base ≤ 59) (h1 : u = -1 → v = -1) (h2 : v = -1 → x = -1) (hJ : ∀ b, D_X8_choose_185 P (nI a) u v x (nI base) B = some b → jS P b.2) : two (D_X7_choose_145 C (nI a) u v x A) (D_X8_choose_185 P (nI a) u v x (nI base) B) (acR C P A) := by
  obtain ⟨w1, w2, w3, w4, w5, w6, w7, w8, w9⟩ := id w
  have c1 := w6.1.1
  have c2 := w6.1.2.1
  have hn10 := hgP.1
  have hL : gR (C + 17) A (B (P + 1)) g U H G := w6.m (fun _ _ _ _ => rfl) (fun j hj => w1 j hj) (fun _ _ => rfl)
  obtain ⟨A1, ea, B1, eb, K1, p1, k1, k2⟩ := t_keep hL w9
  have eT : A (C + 102) a = tP (C + 91) A 11 a := rfl
  have em : D_X8_choose_185 P (nI a) u v x (nI base) B = some (A (C + 102) a, zu (zu (zu (zu (zu B1 (P + 1) base u) (P + 1) (base + 1) v) (P + 1) (base + 2) x) P 6 (0 : Int32)) P 12 (0 : Int32)) := by
    unfold D_X8_choose_185 zI
    rw [zB_s (mm_manyC hgP hm ha), zB_s eb, if_neg (vp_in_nI (show base < 82 by omega) (by decide)), nI_clamp (show base < 2147483648 by omega), zLt_eq, nI_add1, if_neg (vp_in_nI (show base + 1 < 82 by omega) (by decide)), nI_clamp (show base + 1 < 2147483648 by omega), zLt_eq, nI_ad2 (by omega), if_neg (vp_in_nI (show base + 2 < 82 by omega) (by decide)), nI_clamp (show base + 2 < 2147483648 by omega), zLt_eq]
    rfl
  have jS1 := hJ _ em
  have kf : ∀ i j, ¬ (i = P ∧ (j = 6 ∨ j = 12)) → zu (zu (zu (zu (zu B1 (P + 1) base u) (P + 1) (base + 1) v) (P + 1) (base + 2) x) P 6 (0 : Int32)) P 12 (0 : Int32) i j = zu (zu (zu B1 (P + 1) base u) (P + 1) (base + 1) v) (P + 1) (base + 2) x i j := fun i j h => (zu_ne (by omega)).trans (zu_ne (by omega))
  have kz : ∀ i j, ¬ (i = P + 1 ∧ base ≤ j ∧ j < base + 3) → ¬ (i = P ∧ j = 9) → ¬ i = P + 4 → zu (zu (zu B1 (P + 1) base u) (P + 1) (base + 1) v) (P + 1) (base + 2) x i j = B i j := fun i j h h3 h4 => (zu_ne (by omega)).trans ((zu_ne (by omega)).trans ((zu_ne (by omega)).trans (k2 i j h3 h4)))
  have h7 : zu (zu (zu B1 (P + 1) base u) (P + 1) (base + 1) v) (P + 1) (base + 2) x P 7 = nI U := (kz _ _ (by omega) (by omega) (by omega)).trans w3
  have h8 : zu (zu (zu B1 (P + 1) base u) (P + 1) (base + 1) v) (P + 1) (base + 2) x P 8 = nI H := (kz _ _ (by omega) (by omega) (by omega)).trans w4
  have jr : jRow (zu (zu (zu B1 (P + 1) base u) (P + 1) (base + 1) v) (P + 1) (base + 2) x (P + 1)) U H := (jS1.row ((kf _ _ (by omega)).trans h7) ((kf _ _ (by omega)).trans h8) c1 c2).congr (by omega) (fun j _ => (kf _ _ (by omega)).symm)
  obtain ⟨A2, f1, f2, f3, f4⟩ := cc_wishFor (Q := C + 17) (H := H) (b := A1 (C + 100) a) (u := u) (v := v) (x := x) (A := A1) c2 ((k1 _ _ (by omega)).trans w6.1.2.2.2.2.1)
  have ebit : A1 (C + 100) a = bv r H a H := (k1 _ _ (by omega)).trans (w8.2.2 a (by omega)).1
  have hbit : ∀ h, h < H → (bitAt (A1 (C + 100) a) h ↔ memb r H a h) := fun h hh => by
    rw [ebit, bv_bit H c2 h (by omega)]
    exact ⟨fun z => z.2, fun z => ⟨hh, z⟩⟩
  obtain ⟨o1, o2, o3, o4⟩ := wct_ok h1 h2
  have g0 : gR (C + 17) A1 r g U H G := w6.m (fun i j _ _ => k1 i j (by omega)) (fun _ _ => rfl) (fun _ _ => rfl)
  have gA : gR (C + 17) A2 (zu (zu (zu B1 (P + 1) base u) (P + 1) (base + 1) v) (P + 1) (base + 2) x (P + 1)) g U H G := g0.wish hb hb20 (fun h hh hm' => f2 h hh ((hbit h hh).mpr hm')) (fun h hh hm' => f3 h hh (fun z => hm' ((hbit h hh).mp z))) (fun i j _ _ z1 z2 => f4 i j (by omega) (by omega)) (by rw [zu_ne (by omega), zu_ne (by omega), zu_eq]) (by rw [zu_ne (by omega), zu_eq]) zu_eq hb59 (fun j hj hj2 => (kz _ _ (by omega) (by omega) (by omega)).trans (w1 j hj)) o1 o2 o3 o4
  have pA : pst (C + 25) P A2 (zu (zu (zu B1 (P + 1) base u) (P + 1) (base + 1) v) (P + 1) (base + 2) x) g U H K1 := p1.k (fun i j _ _ => f4 i j (by omega) (by omega)) (fun i j _ => (zu_ne (by omega)).trans ((zu_ne (by omega)).trans (zu_ne (by omega))))
  obtain ⟨A3, d1, d2, d3, d4⟩ := t_done (v := A (C + 102) a) h7 h8 jr (fun h hh => (kz _ _ (by omega) (by omega) (by omega)).trans (w2 h hh)) gA pA
  rw [em]
  unfold D_X7_choose_145
  rw [zrd_nI (show a < 10 by omega) (by decide)]
  refine two.l ea ?_
  rw [zrd_nI (show a < 10 by omega) (by decide)]
  exact two.l f1 (two.l d1 (two.mk ⟨rfl, ⟨_, _, _, _, _, _, d2.k (fun _ _ _ _ => rfl) (fun i j _ => kf i j (by omega))⟩, Or.inl d3⟩))
theorem t_choose {C P : Nat} {A B : zMt} {a u v x : Int32} (w0 : eqE C P A B) (hJ : jJ P B) : two (D_X7_choose C a u v x A) (D_X8_choose P a u v x B) (acR C P A) := by
  obtain ⟨r, g, U, H, G, K, w⟩ := id w0
  have hmt := mm_tree (P := P) (a := a) (u := u) (v := v) (x := x) (B := B)
  rcases cc_tree (C := C) (a := a) (u := u) (v := v) (x := x) (A := A) with ⟨e1, hb⟩ | ⟨e1, hb⟩
  · obtain ⟨x5, y0, e2, e3⟩ := hmt.1 hb
    rw [e1, e2, ch60_bad e3]
    exact t_ref0 w0
  · have e2 := hmt.2 hb
    have h1 : u = -1 → v = -1 := fun z => Classical.byContradiction fun y => hb (Or.inl ⟨z, y⟩)
    have h2 : v = -1 → x = -1 := fun z => Classical.byContradiction fun y => hb (Or.inr (Or.inl ⟨z, y⟩))
    obtain ⟨n, B1, hn, l1, l2, l3, l4, l5, hA⟩ := t_isA (v := a) w
    have hn10 := l2.1
    have h7 : B1 P 7 = nI U := l4.2.1
    have no : ∀ e0 : Int32, D_X8_isApplicant P a B = some (e0, B1) → (u < -1 ∨ v < -1 ∨ x < -1 ∨ e0 = 0 ∨ nI U ≤ u ∨ nI U ≤ v ∨ nI U ≤ x) → two (D_X7_choose_93 C A) (D_X8_choose P a u v x B) (acR C P A) := fun e0 e h => by
      obtain ⟨st, Bx, hx, ex⟩ := ch60_no e h7 h
      rw [e2, ex]
      rcases hx with z | z
      · subst z; exact t_ref0 w0
      · subst z; exact t_ref w0 l5
    rw [e1]
    unfold D_X7_choose_60
    rcases hA with ⟨q1, q2, a', ha, hv⟩ | ⟨q1, q2⟩
    · rw [zB_s q1, if_neg n10]
      rcases t_isUN (v := u) w with ⟨u1, u2, u3⟩ | ⟨u1, u2⟩
      · rw [zB_s u1, if_neg n10]
        rcases t_isUN (v := v) w with ⟨v1, v2, v3⟩ | ⟨v1, v2⟩
        · rw [zB_s v1, if_neg n10]
          rcases t_isUN (v := x) w with ⟨x1, x2, x3⟩ | ⟨x1, x2⟩
          · rw [zB_s x1, if_neg n10]
            subst hv
            obtain ⟨base, b1, b2, b3, b4⟩ := t_base w l1 (a := a') (by omega)
            obtain ⟨-, -, -, -, -, -, base', b5, b6, b7, b8⟩ := l4.2.2.1 a' ha
            have : base' = base := nI_inj (by omega) (by omega) (b7.symm.trans b4)
            subst this
            have y0 := cc_wish (Q := C + 91) (A := A) (T := tP (C + 91) A) (a := a') (k := 0) (by omega) (by omega) (fun _ _ _ => rfl)
            have y1 := cc_wish (Q := C + 91) (A := A) (T := tP (C + 91) A) (a := a') (k := 1) (by omega) (by omega) (fun _ _ _ => rfl)
            have y2 := cc_wish (Q := C + 91) (A := A) (T := tP (C + 91) A) (a := a') (k := 2) (by omega) (by omega) (fun _ _ _ => rfl)
            rw [show nI 0 = (0 : Int32) by decide] at y0
            rw [show nI 1 = (1 : Int32) by decide] at y1
            rw [show nI 2 = (2 : Int32) by decide] at y2
            rw [zB_s y0, zB_s y1, zB_s y2]
            have em : D_X8_choose P (nI a') u v x B = if tP (C + 91) A 12 (3 * a' + 0) = u then (if tP (C + 91) A 12 (3 * a' + 1) = v then (if tP (C + 91) A 12 (3 * a' + 2) = x then (zB (D_X8_refuse P (4 : Int32) B1) fun e => some (e.1, e.2)) else D_X8_choose_185 P (nI a') u v x (nI base') B1) else D_X8_choose_185 P (nI a') u v x (nI base') B1) else D_X8_choose_185 P (nI a') u v x (nI base') B1 := by
              have h7' : ((1 : Int32), B1).2 P 7 = nI U := h7
              have b4' : ((1 : Int32), B1).2 (P + 13) a' = nI base' := b4
              rw [e2]
              unfold D_X8_choose_60 zI
              rw [if_neg u2, if_neg v2, if_neg x2, if_pos rfl, if_pos rfl, zB_s q2, if_neg n10, h7', if_neg u3, if_neg v3, if_pos (Int32.not_le.mp x3), if_neg (vp_in_nI (show a' < 10 by omega) (by decide)), nI_clamp (show a' < 2147483648 by omega), b4', if_neg (vp_in_nI (show base' < 82 by omega) (by decide)), nI_clamp (show base' < 2147483648 by omega), nI_add1, nI_ad2 (by omega), if_neg (vp_in_nI (show base' + 1 < 82 by omega) (by decide)), nI_clamp (show base' + 1 < 2147483648 by omega), if_neg (vp_in_nI (show base' + 2 < 82 by omega) (by decide)), nI_clamp (show base' + 2 < 2147483648 by omega), show ((1 : Int32), B1).2 (P + 1) (base' + 1) = tP (C + 91) A 12 (3 * a' + 1) from b8 1 (by omega), show ((1 : Int32), B1).2 (P + 1) (base' + 2) = tP (C + 91) A 12 (3 * a' + 2) from b8 2 (by omega), show ((1 : Int32), B1).2 (P + 1) base' = tP (C + 91) A 12 (3 * a' + 0) from b8 0 (by omega)]
            obtain ⟨rb, ev, kb, -, jSv, -⟩ := v_X8_choose (P := P) (v0 := nI a') (v1 := u) (v2 := v) (v3 := x) (M0 := B) hJ.1 hJ.2.1 hJ.2.2.1 hJ.2.2.2.1 hJ.2.2.2.2
            have w' : eqS C P A B1 r g U H G K := w.k (fun _ _ _ _ => rfl) (fun i j _ => l5 i j (by omega) (by omega))
            have wr : D_X8_choose P (nI a') u v x B = D_X8_choose_185 P (nI a') u v x (nI base') B1 → two (D_X7_choose_145 C (nI a') u v x A) (D_X8_choose P (nI a') u v x B) (acR C P A) := fun ee => by
              rw [ee]
              exact t_chw w' hn ha l2 l4 b1 b2 b3 h1 h2 (fun b hb => by
                rw [ee, hb] at ev
                cases ev
                exact jSv)
            by_cases t0 : tP (C + 91) A 12 (3 * a' + 0) = u
            · rw [if_pos t0]
              rw [if_pos t0] at em
              by_cases t1 : tP (C + 91) A 12 (3 * a' + 1) = v
              · rw [if_pos t1]
                rw [if_pos t1] at em
                by_cases t2 : tP (C + 91) A 12 (3 * a' + 2) = x
                · rw [if_pos t2]
                  rw [if_pos t2] at em
                  rw [em]
                  exact t_ref w0 l5
                · rw [if_neg t2]
                  rw [if_neg t2] at em
                  exact wr em
              · rw [if_neg t1]
                rw [if_neg t1] at em
                exact wr em
            · rw [if_neg t0]
              rw [if_neg t0] at em
              exact wr em
          · rw [zB_s x1, if_pos rfl]
            exact no 1 q2 (by rcases x2 with z | z; exact Or.inr (Or.inr (Or.inl z)); exact Or.inr (Or.inr (Or.inr (Or.inr (Or.inr (Or.inr z))))))
        · rw [zB_s v1, if_pos rfl]
          exact no 1 q2 (by rcases v2 with z | z; exact Or.inr (Or.inl z); exact Or.inr (Or.inr (Or.inr (Or.inr (Or.inr (Or.inl z))))))
      · rw [zB_s u1, if_pos rfl]
        exact no 1 q2 (by rcases u2 with z | z; exact Or.inl z; exact Or.inr (Or.inr (Or.inr (Or.inr (Or.inl z)))))
    · rw [zB_s q1, if_pos rfl]
      exact no 0 q2 (Or.inr (Or.inr (Or.inr (Or.inl rfl))))
/-! draw, both sides -/
theorem rM.k {P n U : Nat} {B B' s : zMt} (h : rM P B s n U) (k : ∀ i j, P + 19 ≤ i → i ≤ P + 22 → B' i j = B i j) : rM P B' s n U :=
  ⟨fun a ha => by rw [k _ _ (by omega) (by omega), k _ _ (by omega) (by omega)]; exact h.1 a ha, fun v hv => by rw [k _ _ (by omega) (by omega), k _ _ (by omega) (by omega)]; exact h.2 v hv⟩
theorem rC.k {S n U : Nat} {A A' s : zMt} (h : rC S A s n U) (k : ∀ i j, S + 2 ≤ i → i ≤ S + 5 → A' i j = A i j) : rC S A' s n U :=
  ⟨fun a ha => by rw [k _ _ (by omega) (by omega), k _ _ (by omega) (by omega)]; exact h.1 a ha, fun v hv => by rw [k _ _ (by omega) (by omega), k _ _ (by omega) (by omega)]; exact h.2 v hv⟩
theorem nI_72h : ∀ h, h < 10 → (72 : Int32) + nI h = nI (72 + h) := by decide
theorem mm_dr24 {P n U H : Nat} {T s : zMt} {N : zNt} (hg : gP T n U) (hh : gH T n H) (hH : H ≤ 10) : ∀ (f k : Nat) (B : zMt), k ≤ H → H - k < f → B P 8 = nI H → mP P B T n U → rM P B s n U → ∃ B', D_X8_draw_24 P f (nI k) B N = some (tg T s n, B', N) ∧ (∀ h, k ≤ h → h < H → B' (P + 1) (72 + h) = s 0 (aOf T h)) ∧ B' (P + 1) 71 = B (P + 1) 71 + 1 ∧ (∀ i j, ¬ (i = P ∧ (j = 6 ∨ j = 12)) → ¬ (i = P + 1 ∧ (j = 71 ∨ (72 + k ≤ j ∧ j < 72 + H))) → B' i j = B i j) := by
  intro f
  induction f with
  | zero => intro k B _ h; omega
  | succ f ih =>
    intro k B hk hu h8 hm hs
    rw [D_X8_draw_24, h8]
    by_cases hc : H ≤ k
    · rw [if_pos (by exact (nI_leI (by omega) (by omega)).mpr hc)]
      unfold zI
      rw [if_neg (by decide), if_neg (by decide), show (71 : Int32).toNatClampNeg = 71 by decide, zLt_eq]
      have kk : ∀ i j, ¬ (i = P + 1 ∧ j = 71) → zu B (P + 1) 71 (B (P + 1) 71 + 1) i j = B i j := fun i j h => zu_ne h
      have et := mm_tags (P := P) (B := zu B (P + 1) 71 (B (P + 1) 71 + 1)) hg.1 (hm.m hg.2.1 (kk _ _ (by omega)) (kk _ _ (by omega)) (fun j _ _ => kk _ _ (by omega)) (fun i j _ _ => kk _ _ (by omega))) (hs.k (fun i j _ _ => kk _ _ (by omega)))
      rw [zB_s et]
      refine ⟨zu (zu (zu B (P + 1) 71 (B (P + 1) 71 + 1)) P 6 (0 : Int32)) P 12 (0 : Int32), rfl, fun h h1 h2 => by omega, ?_, fun i j h1 h2 => ?_⟩
      · rw [zu_ne (by omega), zu_ne (by omega), zu_eq]
      · rw [zu_ne (by omega), zu_ne (by omega), zu_ne (by omega)]
    · rw [if_neg (by intro z; exact hc ((nI_leI (by omega) (by omega)).mp z)), zB_s (mm_unitNow hg.1 hm hs hh hH (show k < H by omega)), nI_72h k (by omega)]
      unfold zI
      rw [if_neg (vp_in_nI (show 72 + k < 82 by omega) (by decide)), nI_clamp (by omega), zLt_eq, nI_add1]
      have kk : ∀ i j, ¬ (i = P + 1 ∧ j = 72 + k) → zu B (P + 1) (72 + k) (s 0 (aOf T k)) i j = B i j := fun i j h => zu_ne h
      obtain ⟨B', f1, f2, f3, f4⟩ := ih (k + 1) (zu B (P + 1) (72 + k) (s 0 (aOf T k))) (by omega) (by omega) ((kk _ _ (by omega)).trans h8) (hm.m hg.2.1 (kk _ _ (by omega)) (kk _ _ (by omega)) (fun j _ _ => kk _ _ (by omega)) (fun i j _ _ => kk _ _ (by omega))) (hs.k (fun i j _ _ => kk _ _ (by omega)))
      refine ⟨B', f1, fun h h1 h2 => ?_, f3.trans (by rw [kk _ _ (by omega)]), fun i j h1 h2 => (f4 i j h1 (by omega)).trans (kk _ _ (by omega))⟩
      by_cases q : h = k
      · subst q
        rw [f4 _ _ (by omega) (by omega), zu_eq]
      · exact f2 h (by omega) h2
/-- a year has gone by in the list -/
theorem gR.year {R : Nat} {A A' : zMt} {r r' g : Nat → Int32} {U H G : Nat} (w : gR R A r g U H G) (a2 : ∀ h, h < H → A' (R + 2) h = r' h) (a7 : ∀ h, h < H → A' (R + 7) h = r' (72 + h)) (a6 : A' R 6 = r' 71) (ak : ∀ i j, R ≤ i → i < R + 8 → ¬ (i = R + 2 ∧ j < H) → ¬ (i = R + 7 ∧ j < H) → ¬ (i = R ∧ j = 6) → A' i j = A i j) (bk : ∀ j, j < 82 → ¬ j < H → ¬ (72 ≤ j ∧ j < 72 + H) → ¬ j = 71 → r' j = r j) : gR R A' r' g U H G := by
  obtain ⟨⟨c1, c2, c3, c4, c5, c6, c7⟩, r1, r2, r3, r4, r5, r6, r9, ⟨s1, s2, s3, s4⟩, u3, u4, u5⟩ := w
  have k0 : ∀ j, ¬ j = 6 → A' R j = A R j := fun j h => ak _ _ (by omega) (by omega) (by omega) (by omega) (by omega)
  have kk : ∀ i j, R ≤ i → i < R + 8 → ¬ i = R → ¬ i = R + 2 → ¬ i = R + 7 → A' i j = A i j := fun i j h1 h2 h3 h4 h5 => ak _ _ h1 h2 (by omega) (by omega) (by omega)
  have bb : ∀ j, 10 ≤ j → j < 71 → r' j = r j := fun j h1 h2 => bk j (by omega) (by omega) (by omega) (by omega)
  have ws : ∀ h base, 20 ≤ base → base ≤ 59 → wsR R A r h base → wsR R A' r' h base := fun h base h2 h3 q => q.k (kk _ _ (by omega) (by omega) (by omega) (by omega) (by omega)) (fun y _ => kk _ _ (by omega) (by omega) (by omega) (by omega) (by omega)) (fun y _ => bb _ (by omega) (by omega))
  refine ⟨⟨c1, c2, c3, (k0 _ (by omega)).trans c4, (k0 _ (by omega)).trans c5, (k0 _ (by omega)).trans c6, (bb _ (by omega) (by omega)).trans c7⟩, fun u hu => ?_, fun h hh => ?_, fun h hh => ?_, fun h hh => ?_, fun h hh he => ?_, fun h p hh hp he => ?_, fun p hp => ?_, ⟨?_, ?_, ?_, a6⟩, fun h hh => ?_, fun u hu1 hu2 => ?_, fun h hh1 hh2 => ?_⟩
  · rw [kk _ _ (by omega) (by omega) (by omega) (by omega) (by omega), bb _ (by omega) (by omega)]; exact r1 u hu
  · by_cases q : h < H
    · exact a2 h q
    · rw [ak _ _ (by omega) (by omega) (by omega) (by omega) (by omega), bk _ (by omega) q (by omega) (by omega)]; exact r2 h hh
  · rw [kk _ _ (by omega) (by omega) (by omega) (by omega) (by omega)]; exact r3 h hh
  · rw [kk _ _ (by omega) (by omega) (by omega) (by omega) (by omega), bb _ (by omega) (by omega)]; exact r4 h hh
  · rw [kk _ _ (by omega) (by omega) (by omega) (by omega) (by omega)] at he
    exact ws h _ (by omega) (by omega) (r5 h hh he)
  · rw [kk _ _ (by omega) (by omega) (by omega) (by omega) (by omega)] at he
    exact ws h _ (by omega) (by omega) (r6 h p hh hp he)
  · obtain ⟨h, h1, h2⟩ := r9 p hp
    exact ⟨h, h1, (kk _ _ (by omega) (by omega) (by omega) (by omega) (by omega)).trans h2⟩
  · rw [k0 _ (by omega), bb _ (by omega) (by omega)]; exact s1
  · rw [k0 _ (by omega), bb _ (by omega) (by omega)]; exact s2
  · rw [k0 _ (by omega), bb _ (by omega) (by omega)]; exact s3
  · by_cases q : h < H
    · exact a7 h q
    · rw [ak _ _ (by omega) (by omega) (by omega) (by omega) (by omega), bk _ (by omega) (by omega) (by omega) (by omega)]; exact u3 h hh
  · rw [kk _ _ (by omega) (by omega) (by omega) (by omega) (by omega)]; exact u4 u hu1 hu2
  · rw [kk _ _ (by omega) (by omega) (by omega) (by omega) (by omega)]; exact u5 h hh1 hh2
theorem two.nt {α : Type} {X : Option α} {Y : Option (Int32 × zMt)} {R : α → Int32 × zMt → Prop} {N : zNt} (h : two X (zB Y fun e => some (e.1, e.2)) R) : two X (zB Y fun e => some (e.1, e.2, N)) (fun a b => R a (b.1, b.2.1)) := by
  obtain ⟨a, h1, b, h2, h3⟩ := h
  cases Y with
  | none => cases h2
  | some e =>
    cases h2
    exact ⟨a, h1, _, rfl, h3⟩
theorem t_draw {C P : Nat} {A B : zMt} {N : zNt} {v0 : Int32} (w0 : eqE C P A B) (hJ : jJ P B) : two (D_X7_draw C v0 A) (D_X8_draw P v0 B N) (fun a b => acR C P A a (b.1, b.2.1)) := by
  obtain ⟨r, g, U, H, G, K, w⟩ := id w0
  obtain ⟨w1, w2, w3, w4, w5, w6, w7, w8, w9⟩ := id w
  have c1 := w6.1.1
  have c2 := w6.1.2.1
  rcases t_isS (v := v0) with ⟨e1, e2, hs, hs2⟩ | ⟨e1, e2⟩
  · have hL : gR (C + 17) A (B (P + 1)) g U H G := w6.m (fun _ _ _ _ => rfl) (fun j hj => w1 j hj) (fun _ _ => rfl)
    obtain ⟨A1, ea, B1, eb, K1, p1, k1, k2⟩ := t_keep hL w9
    have w' : eqS C P A1 B1 r g U H G K1 := ⟨fun j hj => (k2 _ _ (by omega) (by omega)).trans (w1 j hj), fun h hh => (k2 _ _ (by omega) (by omega)).trans (w2 h hh), (k2 _ _ (by omega) (by omega)).trans w3, (k2 _ _ (by omega) (by omega)).trans w4, w5, w6.m (fun i j _ _ => k1 i j (by omega)) (fun _ _ => rfl) (fun _ _ => rfl), w7.k (fun i j _ _ => k1 i j (by omega)), w8.k (fun i j _ _ => k1 i j (by omega)), p1⟩
    obtain ⟨n, B2, hn, l1, l2, l3, l4, l5⟩ := t_laid w'
    obtain ⟨A2, ea2, r2, er2, ⟨l, hl, hC, hM, hpt⟩, hm2, k3, k4, k5⟩ := t_year (Q := C + 91) (S := C + 104) (A := A1) (N := N) (seed := v0) l2 l3 c2 (fun _ _ _ => rfl) (Or.inr (by omega)) l1 l4 ((l5 _ _ (by omega) (by omega)).trans w'.2.2.2.1) hs
    have kT : ∀ i j, i < 13 → A2 (C + 91 + i) j = tP (C + 91) A1 i j := fun i j hi => k3 _ _ (by omega)
    obtain ⟨A3, f1, f2, f3⟩ := cc_live (Q := C + 91) (S := C + 104) (R := C + 17) l2 l3 c2 (by omega) (by omega) zFu 0 A2 (by omega) (by unfold zFu; omega) ((k3 _ _ (by omega)).trans ((k1 _ _ (by omega)).trans w6.1.2.2.2.2.1)) kT hC
    rw [show nI 0 = (0 : Int32) by decide] at f1
    have f1' : D_X4_live (C + 17) (C + 91) (C + 104) A2 = some A3 := f1
    have kA : ∀ i j, ¬ (i = C + 17 ∧ j = 6) → zu A3 (C + 17) 6 (A3 (C + 17) 6 + (1 : Int32)) i j = A3 i j := fun i j h => zu_ne h
    have et := cc_tags (Q := C + 91) (S := C + 104) (A := zu A3 (C + 17) 6 (A3 (C + 17) 6 + (1 : Int32))) (T := tP (C + 91) A1) l2 (fun i j hi => (kA _ _ (by omega)).trans ((f3 _ _ (by omega)).trans (kT i j hi))) (hC.k (fun i j _ _ => (kA _ _ (by omega)).trans (f3 _ _ (by omega))))
    have k8 : r2.1 P 8 = nI H := (k4 _ _ (by omega) (by omega) (by omega)).trans ((l5 _ _ (by omega) (by omega)).trans w'.2.2.2.1)
    obtain ⟨B4, m1, m2, m3, m4⟩ := mm_dr24 (P := P) (N := r2.2) l2 l3 c2 zFu 0 r2.1 (by omega) (by unfold zFu; omega) k8 hm2 hM
    rw [show nI 0 = (0 : Int32) by decide] at m1
    have em : D_X8_draw P v0 B N = some (tg (tP (C + 91) A1) (rs (tP (C + 91) A1) 10 U n l) n, B4, r2.2) := by
      unfold D_X8_draw
      rw [zB_s e2, if_neg n10, zB_s eb, zB_s er2]
      exact m1
    obtain ⟨rb, ev, kb, -, -, jSv, -⟩ := v_X8_draw (P := P) (v0 := v0) (M0 := B) (N0 := N) hJ.1 hJ.2.1 hJ.2.2.1 hJ.2.2.2.1 hJ.2.2.2.2
    rw [em] at ev
    cases ev
    have kB : ∀ i j, ¬ (i = P ∧ (j = 6 ∨ j = 12 ∨ j = 9 ∨ j = 33)) → ¬ (P + 11 ≤ i ∧ i ≤ P + 30) → ¬ i = P + 4 → ¬ (i = P + 1 ∧ (j < H ∨ j = 71 ∨ (72 ≤ j ∧ j < 72 + H))) → B4 i j = B i j := fun i j h1 h2 h3 h4 => (m4 i j (by omega) (by omega)).trans ((k4 i j (by omega) (by omega) (by omega)).trans ((l5 i j (by omega) (by omega)).trans (k2 i j (by omega) (by omega))))
    have h7 : B4 P 7 = nI U := (kB _ _ (by omega) (by omega) (by omega) (by omega)).trans w3
    have h8 : B4 P 8 = nI H := (kB _ _ (by omega) (by omega) (by omega) (by omega)).trans w4
    have eB2 : ∀ j, j < 82 → B2 (P + 1) j = r j := fun j hj => (l5 _ _ (by omega) (by omega)).trans (w'.1 j hj)
    have gA : gR (C + 17) (zu A3 (C + 17) 6 (A3 (C + 17) 6 + (1 : Int32))) (B4 (P + 1)) g U H G := by
      have eA : ∀ i j, C + 17 ≤ i → i < C + 25 → A2 i j = A i j := fun i j h1 h2 => (k3 _ _ (by omega)).trans (k1 _ _ (by omega))
      refine w6.year (fun h hh => ?_) (fun h hh => ?_) ?_ (fun i j h1 h2 h3 h4 h5 => (kA _ _ h5).trans ((f3 _ _ (by omega)).trans (eA _ _ (by omega) (by omega)))) (fun j h1 h2 h3 h4 => ?_)
      · rw [kA _ _ (by omega), (f2 h (by omega) hh).1, eA _ _ (by omega) (by omega), w6.2.2.1 h (by omega), m4 _ _ (by omega) (by omega), hpt h hh, eB2 h (by omega)]
      · rw [kA _ _ (by omega), (f2 h (by omega) hh).2, m2 h (by omega) hh]
      · rw [zu_eq, f3 _ _ (by omega), eA _ _ (by omega) (by omega), m3, k4 _ _ (by omega) (by omega) (by omega), eB2 71 (by omega)]
        rw [w6.2.2.2.2.2.2.2.2.1.2.2.2]
      · exact (kB _ _ (by omega) (by omega) (by omega) (by omega)).trans (w1 j h1)
    have pA : pst (C + 25) P (zu A3 (C + 17) 6 (A3 (C + 17) 6 + (1 : Int32))) B4 g U H K1 := p1.k (fun i j _ _ => (kA _ _ (by omega)).trans ((f3 _ _ (by omega)).trans (k3 _ _ (by omega)))) (fun i j _ => (m4 i j (by omega) (by omega)).trans ((k4 i j (by omega) (by omega) (by omega)).trans (l5 i j (by omega) (by omega))))
    obtain ⟨A5, d1, d2, d3, d4⟩ := t_done (v := tg (tP (C + 91) A1) (rs (tP (C + 91) A1) 10 U n l) n) h7 h8 (jSv.row h7 h8 c1 c2) (fun h hh => (kB _ _ (by omega) (by omega) (by omega) (by omega)).trans (w2 h hh)) gA pA
    rw [em]
    unfold D_X7_draw
    rw [zB_s e1, if_neg n10, zB_s ea, zB_s ea2, zB_s f1', zLt_eq, zB_s et]
    exact two.l d1 (two.mk ⟨rfl, ⟨_, _, _, _, _, _, d2⟩, Or.inl d3⟩)
  · unfold D_X7_draw D_X8_draw
    rw [zB_s e1, zB_s e2, if_pos rfl, if_pos rfl]
    exact (t_ref0 w0).nt
/-! LOAD: both lay the list that is read alike -/
/-- line by line -/
theorem t_linesF {Q P n T nT : Nat} {t : Nat → Int32} : ∀ (u l : Nat) (A : zMt) (NA : zNt) (B : zMt) (NB : zNt), tx Q n t A → ty P n t B → tk Q P n t A NA B NB → (A Q 6 = 2 ∨ A Q 6 = 4 ∨ dD Q P t A NA B NB) → jX P B → jY P B → jZ P B → (B P 18 = 0 ∨ (l : Int) < (B P 17).toInt) → ((B P 18 = 0 ∧ 1 ≤ u) ∨ (B P 15).toInt - (B P 17).toInt + 2 ≤ u) → l ≤ 700 →
    ∃ a, D_X3_read_62 Q T nT u (nI l) A NA = some a ∧ ∃ x2 B' NB', D_X8_load_79 P u (1 : Int32) B NB = D_X8_load_98 P x2 B' NB' ∧ (∀ i j, ¬ WM_X8_readLine P i j → B' i j = B i j) ∧ FR Q P a.2.1 B' ∧ ((a.1 = 0 ∧ x2 = 0) ∨ (a.1 = 1 ∧ x2 = 1 ∧ dD Q P t a.2.1 a.2.2 B' NB')) := by
  intro u
  induction u with
  | zero =>
    intro l A NA B NB _ _ _ _ hx _ _ _ h _
    obtain ⟨-, -, -, g4⟩ := hx
    omega
  | succ u ih =>
    intro l A NA B NB hX hY hK hD jx jy jz hl hu hl7
    obtain ⟨g1, g2, g3, g4⟩ := id jx
    rw [D_X3_read_62, D_X8_load_79, if_neg (show ¬ (1 : Int32) = 0 by decide)]
    have o0 : (0 : Int32).toInt = 0 := by decide
    have o1 : (1 : Int32).toInt = 1 := by decide
    by_cases h0 : B P 18 = 0
    · have a0 : A Q 6 = 0 := hK.endd.mpr h0
      have hD' : dD Q P t A NA B NB := by
        rcases hD with z | z | z
        · exact absurd (a0.symm.trans z) (by decide)
        · exact absurd (a0.symm.trans z) (by decide)
        · exact z
      have hFR : FR Q P A B := ⟨hD'.2.2.1.trans hD'.2.2.2.1.symm, hD'.2.2.2.2.1.trans hD'.2.2.2.2.2.symm⟩
      rw [if_pos h0]
      by_cases h7 : 700 ≤ l
      · rw [if_pos (by exact (leL (x := 700) (a := 700) (by decide) (by decide) (by omega)).mpr h7)]
        exact ⟨_, rfl, 1, B, NB, rfl, fun _ _ _ => rfl, hFR, Or.inr ⟨rfl, rfl, hD'⟩⟩
      · rw [if_neg (by intro z; exact h7 ((leL (x := 700) (a := 700) (by decide) (by decide) (by omega)).mp z)), if_pos a0]
        exact ⟨_, rfl, 1, B, NB, rfl, fun _ _ _ => rfl, hFR, Or.inr ⟨rfl, rfl, hD'⟩⟩
    · have a0 : ¬ A Q 6 = 0 := fun z => h0 (hK.endd.mp z)
      have hl' := hl.resolve_left h0
      have hu' := hu.resolve_left (fun z => h0 z.1)
      rw [if_neg h0, if_neg (by intro z; exact absurd ((leL (x := 700) (a := 700) (by decide) (by decide) (by omega)).mp z) (by omega)), if_neg a0]
      obtain ⟨a, ea, b, eb, hL⟩ := l_line hX hY hK hD
      obtain ⟨b', eb', kb1, kb2, hb01, jx', jy', jz', hle, hgr⟩ := v_X8_readLine (M0 := B) (N0 := NB) jx jy jz
      rw [eb] at eb'
      cases eb'
      rw [zB_s ea, zB_s eb]
      have e15 : b.2.1 P 15 = B P 15 := kb1 P 15 (by unfold WM_X8_readLine; omega)
      rcases hL with ⟨l1, l2, l3⟩ | ⟨l1, l2, y1, y2, y3, y4⟩
      · rw [if_pos l1, l2]
        obtain ⟨v, rfl⟩ : ∃ v, u = v + 1 := ⟨u - 1, by omega⟩
        refine ⟨_, rfl, 0, b.2.1, b.2.2, ?_, kb1, l3, Or.inl ⟨rfl, rfl⟩⟩
        rw [D_X8_load_79, if_pos rfl]
      · rw [if_neg (by rw [l1]; decide), l2, nI_add1]
        have hgr' : b.2.1 P 18 = 0 ∨ (B P 17).toInt < (b.2.1 P 17).toInt := by
          rcases hgr with z | z | z
          · rw [l2, o1] at z; omega
          · exact Or.inl (Int32.toInt_inj.mp (z.trans o0.symm))
          · exact Or.inr z
        obtain ⟨a2, ea2, x2, B2, NB2, em2, kF, rest⟩ := ih (l + 1) a.2.1 a.2.2 b.2.1 b.2.2 y1 y2 y3 y4 jx' jy' jz' (hgr'.imp id (fun z => by omega)) (by
          rcases hgr' with z | z
          · exact Or.inl ⟨z, by omega⟩
          · rw [e15]; exact Or.inr (by omega)) (by omega)
        exact ⟨a2, ea2, x2, B2, NB2, em2, fun i j h => (kF i j h).trans (kb1 i j h), rest⟩
theorem mm_164 {P Hn : Nat} {N : zNt} (hHn : Hn ≤ 10) : ∀ (u k : Nat) (M : zMt), M P 29 = nI Hn → k ≤ 10 → 10 - k < u → ∃ r, D_X8_load_164 P u (nI k) M N = some r ∧ (∀ h, k ≤ h → h < 10 → r.2.1 (P + 5) h = if h < Hn ∧ ¬ M (P + 6) h = 0 then 1 else 0) ∧ r.2.1 P 7 = M P 28 ∧ r.2.1 P 8 = M P 29 ∧ r.2.1 P 9 = 0 ∧ (∀ i j, ¬ (i = P + 5 ∧ k ≤ j) → ¬ (i = P ∧ (j = 6 ∨ j = 7 ∨ j = 8 ∨ j = 9 ∨ j = 12)) → r.2.1 i j = M i j) := by
  intro u
  induction u with
  | zero => intro k M _ _ h; omega
  | succ u ih =>
    intro k M h29 hk hu
    rw [D_X8_load_164]
    by_cases hc : 10 ≤ k
    · rw [if_pos (by exact (leL (x := 10) (a := 10) (by decide) (by decide) (by omega)).mpr hc)]
      refine ⟨_, rfl, fun h h1 h2 => by omega, ?_, ?_, ?_, fun i j h1 h2 => ?_⟩
      · show zu (zu (zu (zu (zu M P 7 (M P 28)) P 8 (zu M P 7 (M P 28) P 29)) P 9 (0 : Int32)) P 6 (0 : Int32)) P 12 (0 : Int32) P 7 = _
        rw [zu_ne (by omega), zu_ne (by omega), zu_ne (by omega), zu_ne (by omega), zu_eq]
      · show zu (zu (zu (zu (zu M P 7 (M P 28)) P 8 (zu M P 7 (M P 28) P 29)) P 9 (0 : Int32)) P 6 (0 : Int32)) P 12 (0 : Int32) P 8 = _
        rw [zu_ne (by omega), zu_ne (by omega), zu_ne (by omega), zu_eq, zu_ne (by omega)]
      · show zu (zu (zu (zu (zu M P 7 (M P 28)) P 8 (zu M P 7 (M P 28) P 29)) P 9 (0 : Int32)) P 6 (0 : Int32)) P 12 (0 : Int32) P 9 = _
        rw [zu_ne (by omega), zu_ne (by omega), zu_eq]
      · show zu (zu (zu (zu (zu M P 7 (M P 28)) P 8 (zu M P 7 (M P 28) P 29)) P 9 (0 : Int32)) P 6 (0 : Int32)) P 12 (0 : Int32) i j = _
        rw [zu_ne (by omega), zu_ne (by omega), zu_ne (by omega), zu_ne (by omega), zu_ne (by omega)]
    · rw [if_neg (by intro q; exact hc ((leL (x := 10) (a := 10) (by decide) (by decide) (by omega)).mp q))]
      have T : ∀ y : Int32, y = (if k < Hn ∧ ¬ M (P + 6) k = 0 then 1 else 0) → ∃ r, D_X8_load_197 P (D_X8_load_164 P u) (nI k) (nI k) y M N = some r ∧ (∀ h, k ≤ h → h < 10 → r.2.1 (P + 5) h = if h < Hn ∧ ¬ M (P + 6) h = 0 then 1 else 0) ∧ r.2.1 P 7 = M P 28 ∧ r.2.1 P 8 = M P 29 ∧ r.2.1 P 9 = 0 ∧ (∀ i j, ¬ (i = P + 5 ∧ k ≤ j) → ¬ (i = P ∧ (j = 6 ∨ j = 7 ∨ j = 8 ∨ j = 9 ∨ j = 12)) → r.2.1 i j = M i j) := fun y hy => by
        unfold D_X8_load_197 zI
        rw [if_neg (vp_in_nI (show k < 10 by omega) (by decide)), nI_clamp (by omega), zLt_eq, nI_add1]
        obtain ⟨r, f1, f2, f3, f4, f5, f6⟩ := ih (k + 1) (zu M (P + 5) k y) ((zu_ne (by omega)).trans h29) (by omega) (by omega)
        refine ⟨r, f1, fun h h1 h2 => ?_, f3.trans (zu_ne (by omega)), f4.trans (zu_ne (by omega)), f5, fun i j h1 h2 => (f6 i j (by omega) h2).trans (zu_ne (by omega))⟩
        by_cases q : h = k
        · subst q
          rw [f6 _ _ (by omega) (by omega), zu_eq, hy]
        · rw [f2 h (by omega) h2, zu_ne (by omega)]
      by_cases q : Hn ≤ k
      · rw [if_pos (by rw [h29]; exact (nI_leI (by omega) (by omega)).mpr q)]
        exact T 0 (by rw [if_neg (by omega)])
      · rw [if_neg (by rw [h29]; intro z; exact q ((nI_leI (by omega) (by omega)).mp z))]
        unfold zI
        rw [if_neg (vp_in_nI (show k < 10 by omega) (by decide)), nI_clamp (by omega)]
        by_cases q2 : M (P + 6) k = 0
        · rw [if_pos q2]
          exact T 0 (by rw [if_neg (fun z => z.2 q2)])
        · rw [if_neg q2]
          exact T 1 (by rw [if_pos ⟨by omega, q2⟩])
theorem mm_138 {P : Nat} {N : zNt} : ∀ (u k : Nat) (M : zMt), k ≤ 82 → 82 - k < u → ∃ M', D_X8_load_138 P u (nI k) M N = D_X8_load_164 P zFu (0 : Int32) M' N ∧ (∀ j, k ≤ j → j < 82 → M' (P + 1) j = M (P + 2) j) ∧ (∀ i j, ¬ (i = P + 1 ∧ k ≤ j) → M' i j = M i j) := by
  intro u
  induction u with
  | zero => intro k M _ h; omega
  | succ u ih =>
    intro k M hk hu
    rw [D_X8_load_138]
    by_cases hc : 82 ≤ k
    · rw [if_pos (by exact (leL (x := 82) (a := 82) (by decide) (by decide) (by omega)).mpr hc)]
      exact ⟨M, rfl, fun h h1 h2 => by omega, fun _ _ _ => rfl⟩
    · rw [if_neg (by intro q; exact hc ((leL (x := 82) (a := 82) (by decide) (by decide) (by omega)).mp q))]
      unfold zI
      rw [if_neg (vp_in_nI (show k < 82 by omega) (by decide)), if_neg (vp_in_nI (show k < 82 by omega) (by decide)), nI_clamp (by omega), zLt_eq, nI_add1]
      obtain ⟨M', f1, f2, f3⟩ := ih (k + 1) (zu M (P + 1) k (M (P + 2) k)) (by omega) (by omega)
      refine ⟨M', f1, fun j h1 h2 => ?_, fun i j h => (f3 i j (by omega)).trans (zu_ne (by omega))⟩
      by_cases q : j = k
      · subst q
        rw [f3 _ _ (by omega), zu_eq]
      · rw [f2 j (by omega) h2, zu_ne (by omega)]
theorem mm_98f {P : Nat} {M : zMt} {N : zNt} {x2 : Int32} (h : x2 = 0) {r : Int32 × zMt × zNt} (e : D_X8_load_98 P x2 M N = some r) : ∀ i j, ¬ (i = P ∧ (j = 6 ∨ j = 12 ∨ j = 13 ∨ j = 14)) → r.2.1 i j = M i j := by
  have e2 : D_X8_load_98 P x2 M N = some ((-1 : Int32), zu (zu (zu (zu M P 13 (M P 21)) P 14 (zu M P 13 (M P 21) P 22)) P 6 (0 : Int32)) P 12 (9 : Int32), N) := by
    unfold D_X8_load_98
    rw [zLt_eq, zLt_eq, if_pos h]
    rfl
  rw [e2] at e
  cases e
  exact fun i j h => (zu_ne (by omega)).trans ((zu_ne (by omega)).trans ((zu_ne (by omega)).trans (zu_ne (by omega))))
theorem mm_98s {P Hn : Nat} {M : zMt} {N : zNt} {x2 : Int32} (h : ¬ x2 = 0) (hHn : Hn ≤ 10) (h29 : M P 29 = nI Hn) {r : Int32 × zMt × zNt} (e : D_X8_load_98 P x2 M N = some r) : (∀ j, j < 82 → ¬ j = 70 → r.2.1 (P + 1) j = M (P + 2) j) ∧ r.2.1 (P + 1) 70 = M P 30 ∧ (∀ h, h < 10 → r.2.1 (P + 5) h = if h < Hn ∧ ¬ M (P + 6) h = 0 then 1 else 0) ∧ r.2.1 P 7 = M P 28 ∧ r.2.1 P 8 = M P 29 ∧ r.2.1 P 9 = 0 := by
  unfold D_X8_load_98 at e
  rw [zLt_eq, zLt_eq, if_neg h] at e
  unfold zI at e
  rw [if_neg (by decide), zLt_eq, show (70 : Int32).toNatClampNeg = 70 by decide] at e
  obtain ⟨M', f1, f2, f3⟩ := mm_138 (P := P) (N := N) zFu 0 (zu (zu (zu M P 13 (M P 21)) P 14 (zu M P 13 (M P 21) P 22)) (P + 2) 70 (zu (zu M P 13 (M P 21)) P 14 (zu M P 13 (M P 21) P 22) P 30)) (by omega) (by unfold zFu; omega)
  rw [show nI 0 = (0 : Int32) by decide] at f1
  rw [f1] at e
  have kk : ∀ i j, ¬ (i = P ∧ (j = 13 ∨ j = 14)) → ¬ (i = P + 2 ∧ j = 70) → zu (zu (zu M P 13 (M P 21)) P 14 (zu M P 13 (M P 21) P 22)) (P + 2) 70 (zu (zu M P 13 (M P 21)) P 14 (zu M P 13 (M P 21) P 22) P 30) i j = M i j := fun i j h1 h2 => (zu_ne (by omega)).trans ((zu_ne (by omega)).trans (zu_ne (by omega)))
  obtain ⟨r', g1, g2, g3, g4, g5, g6⟩ := mm_164 (P := P) (N := N) hHn zFu 0 M' ((f3 _ _ (by omega)).trans ((kk _ _ (by omega) (by omega)).trans h29)) (by omega) (by unfold zFu; omega)
  rw [show nI 0 = (0 : Int32) by decide] at g1
  rw [g1] at e
  cases e
  refine ⟨fun j h1 h2 => ?_, ?_, fun y hy => ?_, ?_, ?_, g5⟩
  · rw [g6 _ _ (by omega) (by omega), f2 j (by omega) h1, kk _ _ (by omega) (by omega)]
  · rw [g6 _ _ (by omega) (by omega), f2 70 (by omega) (by omega), zu_eq, zu_ne (by omega), zu_ne (by omega)]
  · rw [g2 y (by omega) hy, f3 _ _ (by omega), kk _ _ (by omega) (by omega)]
  · rw [g3, f3 _ _ (by omega), kk _ _ (by omega) (by omega)]
  · rw [g4, f3 _ _ (by omega), kk _ _ (by omega) (by omega)]
def ldR (C P : Nat) (A : zMt) (a b : Int32 × zMt × zNt) : Prop := a.1 = b.1 ∧ flt C P a.2.1 b.2.1 ∧ eqE C P a.2.1 b.2.1 ∧ (a.2.1 C 3 = 0 ∨ ∀ i j, ((i = C ∧ j = 3) ∨ C + 17 ≤ i) → a.2.1 i j = A i j)
theorem t_loadI {C P : Nat} {v0 : Int32} {A B : zMt} {NA NB : zNt} (hT : tpe C P A B) (hJ : jJ P B) (hf : flt C P A B) (w0 : eqE C P A B) : ∃ a, D_X7_load C v0 A NA = some a ∧ ∃ b, D_X8_load P v0 B NB = some b ∧ (jJ P b.2.1 → ldR C P A a b) := by
  obtain ⟨m, hm, h1, h11, hk⟩ := hT
  have o0 : (0 : Int32).toInt = 0 := by decide
  have o1 : (1 : Int32).toInt = 1 := by decide
  have o0l : (0 : Int64).toInt = 0 := by decide
  have n0 : (0 : Int32) = nI 0 := by decide
  obtain ⟨r, hr, qr1, qr2⟩ := v_X8_isFrom (v0 := Int32.toInt64 v0) (v1 := (0 : Int64)) (v2 := Int32.toInt64 (B P 11))
  rw [Int32.toInt_toInt64, Int32.toInt_toInt64, o0l, h11, nI_toInt (by omega)] at qr2
  unfold D_X7_load D_X8_load
  rw [zB_s hr, h1]
  have refu : ∃ a, D_X7_load_12 C A NA = some a ∧ ∃ b, (zB (D_X8_refuse P (1 : Int32) B) fun e_16 => some (e_16.1, e_16.2, NB)) = some b ∧ (jJ P b.2.1 → ldR C P A a b) := by
    refine ⟨_, rfl, _, rfl, fun _ => ⟨rfl, ⟨?_, ?_⟩, w0.k (fun i j _ _ => ?_) (fun i j _ => ?_), Or.inr (fun i j _ => ?_)⟩⟩
    · show zu A C 0 (1 : Int32) (C + 3) 1 = zu (zu B P 6 (0 : Int32)) P 12 (1 : Int32) P 13
      rw [zu_ne (by omega), zu_ne (by omega), zu_ne (by omega)]
      exact hf.1
    · show zu A C 0 (1 : Int32) (C + 3) 2 = zu (zu B P 6 (0 : Int32)) P 12 (1 : Int32) P 14
      rw [zu_ne (by omega), zu_ne (by omega), zu_ne (by omega)]
      exact hf.2
    · show zu A C 0 (1 : Int32) i j = A i j
      exact zu_ne (by omega)
    · show zu (zu B P 6 (0 : Int32)) P 12 (1 : Int32) i j = B i j
      rw [zu_ne (by omega), zu_ne (by omega)]
    · show zu A C 0 (1 : Int32) i j = A i j
      exact zu_ne (by omega)
  by_cases hneg : v0 < 0
  · have := Int32.lt_iff_toInt_lt.mp hneg
    have hr0 : r = 0 := by
      rcases qr2 with ⟨_, w, _⟩ | ⟨w, _⟩
      · rw [o0] at this; omega
      · exact Int32.toInt_inj.mp (w.trans o0.symm)
    rw [if_pos hneg, if_pos hr0]
    exact refu
  have hge := Int32.le_iff_toInt_le.mp (Int32.not_lt.mp hneg)
  rw [o0] at hge
  rw [if_neg hneg]
  by_cases hle : ¬ v0 ≤ nI m
  · have hgt := Int32.lt_iff_toInt_lt.mp (Int32.not_le.mp hle)
    rw [nI_toInt (by omega)] at hgt
    have hr0 : r = 0 := by
      rcases qr2 with ⟨_, _, w⟩ | ⟨w, _⟩
      · omega
      · exact Int32.toInt_inj.mp (w.trans o0.symm)
    rw [if_neg hle, if_pos hr0]
    exact refu
  have hle : v0 ≤ nI m := Classical.byContradiction hle
  have hle2 := Int32.le_iff_toInt_le.mp hle
  rw [nI_toInt (by omega)] at hle2
  have hr1 : ¬ r = 0 := fun z => by
    rcases qr2 with ⟨w, _⟩ | ⟨_, w⟩
    · rw [z, o0] at w; omega
    · omega
  rw [if_pos hle, if_neg hr1]
  have hnI : v0 = nI v0.toInt.toNat := z_toN hge
  have hnn : (v0.toInt.toNat : Int) = v0.toInt := by omega
  generalize v0.toInt.toNat = n at hnI hnn
  have hnm : n ≤ m := by omega
  obtain ⟨A1, ec, tx1, f5, f1, f2, f11, f12, f13, c0, c1, c2, c3, c4, c5, c6, d1, d2, d3, d4, d5, d6, d7⟩ := c_readB (Q := C + 3) (T := C + 1) (n := n) (A := A) (NA := NA) hnI (by omega) (by omega)
  rw [ld9_let]
  obtain ⟨B1, eb, b1, b2, b3, b4⟩ := w_X8_begins (Q := P + 2) (M0 := ld9 P v0 B)
  obtain ⟨B1', eb', b5⟩ := w_beg (Q := P + 2) (M0 := ld9 P v0 B)
  rw [eb] at eb'
  cases eb'
  rw [zB_s eb]
  have g : ∀ a j, ¬ ((a = P + 2 ∧ j < 82) ∨ (a = P ∧ (j = 15 ∨ j = 11 ∨ j = 17 ∨ j = 21 ∨ j = 22 ∨ j = 23 ∨ j = 28 ∨ j = 29 ∨ j = 30))) → B1 a j = B a j := fun a j h => (b1 a j (by omega)).trans (ld9_ne (by omega))
  have g15 : B1 P 15 = v0 := (b1 P 15 (by omega)).trans ld9_15
  have g17 : B1 P 17 = 0 := (b1 P 17 (by omega)).trans ld9_17
  have g28 : B1 P 28 = 0 := (b1 P 28 (by omega)).trans ld9_28
  have g29 : B1 P 29 = 0 := (b1 P 29 (by omega)).trans ld9_29
  have g30 : B1 P 30 = 0 := (b1 P 30 (by omega)).trans ld9_30
  have g21 : B1 P 21 = 0 := (b1 P 21 (by omega)).trans ld9_21
  have g22 : B1 P 22 = -1 := (b1 P 22 (by omega)).trans ld9_22
  have g23 : B1 P 23 = 0 := (b1 P 23 (by omega)).trans ld9_23
  have ty1 : ty P n (A (C + 1)) B1 := ⟨by omega, g15.trans hnI, fun k hk' => ⟨(g (P + 7) k (by omega)).trans (hk k (by omega)).1.symm, (hk k (by omega)).2⟩⟩
  have jx : jX P B1 := by unfold jX; rw [g15, g17, o0]; omega
  have jy : jY P B1 := by unfold jY; rw [g28, g29, g30, o0]; omega
  have jz : jZ P B1 := jZ.empty b2 b3 b4 g28 g29 g30
  have hD1 : dD (C + 3) P (A (C + 1)) A1 NA B1 NB := d_empty c0 c1 c2 c3 c4 c5 c6 d1 d2 d3 d4 d5 d6 d7 ⟨f1, f2, f11, f12, f13⟩ b2 b3 b4 (fun j hj1 hj2 => by
    have := b5 (j - 72) (by omega)
    rw [show 72 + (j - 72) = j by omega] at this
    exact this) ⟨g28, g29, g30, g21, g22, g23⟩
  obtain ⟨a1, e1, b6, e2, i1, ka1, kna1, kb1, knb1, x1, y1, k1, p1, q1, o1', w1, v1⟩ := t_step (NA := NA) (NB := NB) tx1 ty1 ⟨0, by omega, f5.trans n0, g17.trans n0⟩
  have hD2 := hD1.k ka1 kna1 kb1 knb1
  obtain ⟨b7, e3, kk1, kk2, -, jx', -, hle', hgr'⟩ := v_X8_next (M0 := B1) (N0 := NB) jx
  rw [e2] at e3
  cases e3
  rw [zB_s e2]
  have jy' : jY P b6.2.1 := jy.mono (fun a j h => kb1 a j (by omega))
  have jz' : jZ P b6.2.1 := jz.mono (fun a j h => kb1 a j (by omega))
  obtain ⟨z1, z2, z3, z4⟩ := id jx'
  have h18 : b6.2.1 P 18 = 0 ∨ ((0 : Nat) : Int) < (b6.2.1 P 17).toInt := by
    rcases hgr' with z | z
    · exact Or.inl (Int32.toInt_inj.mp (z.trans o0.symm))
    · rw [g17, o0] at z; exact Or.inr z
  obtain ⟨a, ea, x2, B2, NB2, em, kF, hFR, hcase⟩ := t_linesF (T := C + 1) (nT := 700) zFu 0 a1.1 a1.2 b6.2.1 b6.2.2 x1 y1 k1 (Or.inr (Or.inr hD2)) jx' jy' jz' h18 (Or.inr (by unfold zFu; omega)) (by omega)
  rw [show nI 0 = (0 : Int32) by decide] at ea
  obtain ⟨a', ea', ka, -, -⟩ := v_X3_read (Q := C + 3) (A := C + 1) (nA := 700) (v0 := v0) (M0 := A) (N0 := NA)
  have ea2 := ec.trans ((zB_s e1).trans ea)
  rw [ea2] at ea'
  cases ea'
  have kA : ∀ i j, (i < C + 3 ∨ C + 17 ≤ i) → a.2.1 i j = A i j := fun i j h => ka i j (by unfold WM_X3_read; omega)
  have kB : ∀ i j, ((i = P ∧ (j = 7 ∨ j = 8 ∨ j = 9)) ∨ i = P + 1 ∨ i = P + 4 ∨ i = P + 5) → B2 i j = B i j := fun i j h => (kF i j (by unfold WM_X8_readLine; omega)).trans ((kb1 i j (by omega)).trans (g i j (by omega)))
  rw [zB_s ea2, em]
  obtain ⟨rb, e98, w3, w4, w5, w6⟩ := w_98v (P := P) (M := B2) (N := NB2) (x2 := x2)
  rw [e98]
  show ∃ a9, (if a.1 = 0 then zB (D_X7_refuse C (9 : Int32) (zu a.2.1 C 1 (0 : Int32))) fun e_43 => some (e_43.1, e_43.2, a.2.2) else zB (D_X4_take (C + 17) (C + 4) (zu a.2.1 C 1 (0 : Int32))) fun e_58 => zB (D_X1_forget (C + 25) e_58) fun e_65 => zB (D_X7_changed C (e_65 (C + 17) 1) e_65) fun e_76 => some (e_76.1, e_76.2, a.2.2)) = some a9 ∧ _
  rcases hcase with ⟨y1, y2⟩ | ⟨y1, y2, y3⟩
  · rw [if_pos y1]
    have k9 := mm_98f y2 e98
    refine ⟨_, rfl, rb, rfl, fun _ => ⟨(w3 y2).symm, ⟨?_, ?_⟩, w0.k (fun i j _ _ => ?_) (fun i j _ => ?_), Or.inr (fun i j _ => ?_)⟩⟩
    · show zu (zu a.2.1 C 1 (0 : Int32)) C 0 (9 : Int32) (C + 3) 1 = rb.2.1 P 13
      rw [zu_ne (by omega), zu_ne (by omega), w5]
      exact hFR.1
    · show zu (zu a.2.1 C 1 (0 : Int32)) C 0 (9 : Int32) (C + 3) 2 = rb.2.1 P 14
      rw [zu_ne (by omega), zu_ne (by omega), w6]
      exact hFR.2
    · show zu (zu a.2.1 C 1 (0 : Int32)) C 0 (9 : Int32) i j = A i j
      rw [zu_ne (by omega), zu_ne (by omega), kA i j (by omega)]
    · rw [k9 i j (by omega), kB i j (by omega)]
    · show zu (zu a.2.1 C 1 (0 : Int32)) C 0 (9 : Int32) i j = A i j
      rw [zu_ne (by omega), zu_ne (by omega), kA i j (by omega)]
  · rw [if_neg (by rw [y1]; decide)]
    obtain ⟨U, H, G, hC, -, hR⟩ := y3.1
    obtain ⟨d1, d2, d3, d4, d5, d6, d7, d8, d9⟩ := id hC
    obtain ⟨s1, s2, s3, s4, s5, s6⟩ := mm_98s (by rw [y2]; decide) d2 d7 e98
    have hg : ∀ h, h < H → rb.2.1 (P + 5) h = B2 (P + 6) h := fun h hh => by
      obtain ⟨z1, z2⟩ := hR.2.2.1 h hh
      rw [s3 h (by omega)]
      rw [z1] at z2
      rcases z2 with z | z
      · rw [if_neg (fun q => q.2 z), z]
      · rw [if_pos ⟨hh, by rw [z]; decide⟩, z]
    have gD : gR (C + 3 + 1) a.2.1 (rb.2.1 (P + 1)) (rb.2.1 (P + 5)) U H G := gR.ofD (B' := B2) hC hR s1 (s2.trans d9) hg
    have gD2 : gR (C + 4) (zu a.2.1 C 1 (0 : Int32)) (rb.2.1 (P + 1)) (rb.2.1 (P + 5)) U H G := gD.m (fun i j _ _ => zu_ne (by omega)) (fun _ _ => rfl) (fun _ _ => rfl)
    obtain ⟨A3, et, gT, kt⟩ := gD2.take (R := C + 17) (Or.inr (by omega))
    rw [zB_s et]
    have ef : D_X1_forget (C + 25) A3 = some (zu A3 (C + 25) 0 (0 : Int32)) := rfl
    rw [zB_s ef]
    have gF : gR (C + 17) (zu A3 (C + 25) 0 (0 : Int32)) (rb.2.1 (P + 1)) (rb.2.1 (P + 5)) U H G := gT.m (fun i j _ _ => zu_ne (by omega)) (fun _ _ => rfl) (fun _ _ => rfl)
    have hH : zu A3 (C + 25) 0 (0 : Int32) (C + 17) 1 = rb.1 := by
      rw [gF.1.2.2.2.2.1, w4 (by rw [y2]; decide), d7]
    have e7 : rb.2.1 P 7 = nI U := s4.trans d5
    have e8 : rb.2.1 P 8 = nI H := s5.trans d7
    by_cases hjb : jJ P rb.2.1
    · have hp : pst (C + 25) P (zu A3 (C + 25) 0 (0 : Int32)) rb.2.1 (rb.2.1 (P + 5)) U H 0 := by
        obtain ⟨r0, g0, U0, H0, G0, K0, w⟩ := w0
        obtain ⟨-, -, -, nw, hn, a1, -⟩ := w.2.2.2.2.2.2.2.2
        refine ⟨by omega, zu_eq, s6, nw, hn, ?_, fun k hk => absurd hk (Nat.not_lt_zero k)⟩
        rw [zu_ne (by omega), kt _ _ (by omega), zu_ne (by omega), kA _ _ (by omega)]
        exact a1
      obtain ⟨A5, c1, c2, c3, c4⟩ := t_done (C := C) (v := zu A3 (C + 25) 0 (0 : Int32) (C + 17) 1) e7 e8 (hjb.2.1.row e7 e8 d1 d2) (fun _ _ => rfl) gF hp
      rw [zB_s c1]
      have kall : ∀ j, A5 (C + 3) j = a.2.1 (C + 3) j := fun j => by
        rw [c4 _ _ (by omega) (by omega), zu_ne (by omega), kt _ _ (by omega), zu_ne (by omega)]
      refine ⟨_, rfl, rb, rfl, fun _ => ⟨hH, ⟨?_, ?_⟩, ⟨_, _, _, _, _, _, c2⟩, Or.inl c3⟩⟩
      · show A5 (C + 3) 1 = rb.2.1 P 13
        rw [kall 1, w5]
        exact hFR.1
      · show A5 (C + 3) 2 = rb.2.1 P 14
        rw [kall 2, w6]
        exact hFR.2
    · obtain ⟨A4, eg, kg⟩ := v_X7_changed (P := C) (v0 := zu A3 (C + 25) 0 (0 : Int32) (C + 17) 1) (M0 := zu A3 (C + 25) 0 (0 : Int32))
      rw [zB_s eg]
      exact ⟨_, rfl, rb, rfl, fun z => absurd z hjb⟩
theorem t_loadE {C P : Nat} {v0 : Int32} {A B : zMt} {NA NB : zNt} (hT : tpe C P A B) (hJ : jJ P B) (hf : flt C P A B) (w0 : eqE C P A B) : two (D_X7_load C v0 A NA) (D_X8_load P v0 B NB) (ldR C P A) := by
  obtain ⟨a, ea, b, eb, h⟩ := t_loadI (NA := NA) (NB := NB) (v0 := v0) hT hJ hf w0
  obtain ⟨b', eb', -, -, hJ2, -⟩ := v_X8_load (P := P) (M0 := B) (N0 := NB) (v0 := v0) hJ.1 hJ.2.1 hJ.2.2.1 hJ.2.2.2.1 hJ.2.2.2.2
  rw [eb] at eb'
  cases eb'
  exact ⟨a, ea, b, eb, h hJ2⟩
/-! partial readings: what is left in the row (P + 1) and in the row set aside (P + 3) -/
theorem pputs_2 {P : Nat} : ∀ (u k : Nat) (M r : zMt), k ≤ 82 → D_X8_putsAside_2 P u (nI k) M = some r → (∀ j, k ≤ j → j < 82 → r (P + 3) j = M (P + 1) j) ∧ (∀ j, j < k → r (P + 3) j = M (P + 3) j) := by
  intro u
  induction u with
  | zero => intro k M r _ h; cases h
  | succ u ih =>
    intro k M r hk h
    rw [D_X8_putsAside_2] at h
    by_cases hc : 82 ≤ k
    · rw [if_pos (by exact (leL (x := 82) (a := 82) (by decide) (by decide) (by omega)).mpr hc)] at h
      cases h
      exact ⟨fun j h1 h2 => by omega, fun _ _ => rfl⟩
    · rw [if_neg (by intro z; exact hc ((leL (x := 82) (a := 82) (by decide) (by decide) (by omega)).mp z))] at h
      replace h := (zIx (zIx h).2).2
      rw [zLt_eq, nI_clamp (by omega), nI_add1] at h
      obtain ⟨g1, g2⟩ := ih (k + 1) _ r (by omega) h
      refine ⟨fun j h1 h2 => ?_, fun j h1 => (g2 j (by omega)).trans (zu_ne (by omega))⟩
      by_cases q : j = k
      · subst q
        rw [g2 j (by omega), zu_eq]
      · rw [g1 j (by omega) h2, zu_ne (by omega)]
theorem pputs {P : Nat} {M r : zMt} (h : D_X8_putsAside P M = some r) : ∀ j, j < 82 → r (P + 3) j = M (P + 1) j := by
  unfold D_X8_putsAside at h
  rw [show (0 : Int32) = nI 0 by decide] at h
  exact fun j hj => (pputs_2 zFu 0 M r (by omega) h).1 j (Nat.zero_le j) hj
theorem ptakes_2 {P : Nat} : ∀ (u k : Nat) (M r : zMt), k ≤ 82 → D_X8_takesBack_2 P u (nI k) M = some r → (∀ j, k ≤ j → j < 82 → r (P + 1) j = M (P + 3) j) ∧ (∀ j, j < k → r (P + 1) j = M (P + 1) j) := by
  intro u
  induction u with
  | zero => intro k M r _ h; cases h
  | succ u ih =>
    intro k M r hk h
    rw [D_X8_takesBack_2] at h
    by_cases hc : 82 ≤ k
    · rw [if_pos (by exact (leL (x := 82) (a := 82) (by decide) (by decide) (by omega)).mpr hc)] at h
      cases h
      exact ⟨fun j h1 h2 => by omega, fun _ _ => rfl⟩
    · rw [if_neg (by intro z; exact hc ((leL (x := 82) (a := 82) (by decide) (by decide) (by omega)).mp z))] at h
      replace h := (zIx (zIx h).2).2
      rw [zLt_eq, nI_clamp (by omega), nI_add1] at h
      obtain ⟨g1, g2⟩ := ih (k + 1) _ r (by omega) h
      refine ⟨fun j h1 h2 => ?_, fun j h1 => (g2 j (by omega)).trans (zu_ne (by omega))⟩
      by_cases q : j = k
      · subst q
        rw [g2 j (by omega), zu_eq]
      · rw [g1 j (by omega) h2, zu_ne (by omega)]
theorem ptakes {P : Nat} {M r : zMt} (h : D_X8_takesBack P M = some r) : ∀ j, j < 82 → r (P + 1) j = M (P + 3) j := by
  unfold D_X8_takesBack at h
  rw [show (0 : Int32) = nI 0 by decide] at h
  exact fun j hj => (ptakes_2 zFu 0 M r (by omega) h).1 j (Nat.zero_le j) hj
set_option maxRecDepth 100000 in
set_option maxHeartbeats 4000000 in
theorem p11_X8_refuse {P : Nat} {v0 : Int32} {M : zMt}  {r : (Int32 × zMt)} (h : D_X8_refuse P v0 M = some r) : ∀ j, j < 82 → r.2 (P + 1) j = M (P + 1) j := by
  unfold D_X8_refuse at h
  have kc_0 : ∀ j, j < 82 → M (P + 1) j = M (P + 1) j := fun _ _ => rfl
  obtain ⟨M_2, f_M_2, h⟩ := zLtx h
  have k_M_2 : ∀ j, j < 82 → M_2 (P + 1) j = M (P + 1) j := fun j hj => (congrFun (congrFun f_M_2.symm (P + 1)) j).trans ((zu_ne (by omega)).trans (kc_0 j hj))
  obtain ⟨M_7, f_M_7, h⟩ := zLtx h
  have k_M_7 : ∀ j, j < 82 → M_7 (P + 1) j = M (P + 1) j := fun j hj => (congrFun (congrFun f_M_7.symm (P + 1)) j).trans ((zu_ne (by omega)).trans (k_M_2 j hj))
  cases h
  exact k_M_7
set_option maxRecDepth 100000 in
set_option maxHeartbeats 4000000 in
theorem p11_X8_laysOne_162 {P : Nat} {y1_162 : Int32} {y2_162 : Int32} {M_162 : zMt}  {r : (zMt)} (h : D_X8_laysOne_162 P y1_162 y2_162 M_162 = some r) : ∀ j, j < 82 → r (P + 1) j = M_162 (P + 1) j := by
  unfold D_X8_laysOne_162 at h
  have kc_0 : ∀ j, j < 82 → M_162 (P + 1) j = M_162 (P + 1) j := fun _ _ => rfl
  replace h := (zIx h).2
  obtain ⟨M_162', f_M_162', h⟩ := zLtx h
  have k_M_162' : ∀ j, j < 82 → M_162' (P + 1) j = M_162 (P + 1) j := fun j hj => (congrFun (congrFun f_M_162'.symm (P + 1)) j).trans ((zu_ne (by omega)).trans (kc_0 j hj))
  cases h
  exact k_M_162'
set_option maxRecDepth 100000 in
set_option maxHeartbeats 4000000 in
theorem p11_X8_laysOne_86 {P : Nat} {k18 : Int32 → Int32 → Int32 → zMt → Option (zMt)} {x1_86 : Int32} {x2_86 : Int32} {x3_86 : Int32} {M_86 : zMt} (hk_k18 : ∀ (y0 : Int32) (y1 : Int32) (y2 : Int32) (y3 : zMt) r, k18 y0 y1 y2 y3 = some r → ∀ j, j < 82 → r (P + 1) j = y3 (P + 1) j) {r : (zMt)} (h : D_X8_laysOne_86 P k18 x1_86 x2_86 x3_86 M_86 = some r) : ∀ j, j < 82 → r (P + 1) j = M_86 (P + 1) j := by
  unfold D_X8_laysOne_86 at h
  have kc_0 : ∀ j, j < 82 → M_86 (P + 1) j = M_86 (P + 1) j := fun _ _ => rfl
  exact fun j hj => (hk_k18 _ _ _ _ _ h j hj).trans (kc_0 j hj)
set_option maxRecDepth 100000 in
set_option maxHeartbeats 4000000 in
theorem p11_X8_laysOne_73 {P : Nat} {k18 : Int32 → Int32 → Int32 → zMt → Option (zMt)} {x1_73 : Int32} {x2_73 : Int32} {x3_73 : Int32} {y1_73 : Int32} {y2_73 : Int32} {y3_73 : Int32} {M_73 : zMt} (hk_k18 : ∀ (y0 : Int32) (y1 : Int32) (y2 : Int32) (y3 : zMt) r, k18 y0 y1 y2 y3 = some r → ∀ j, j < 82 → r (P + 1) j = y3 (P + 1) j) {r : (zMt)} (h : D_X8_laysOne_73 P k18 x1_73 x2_73 x3_73 y1_73 y2_73 y3_73 M_73 = some r) : ∀ j, j < 82 → r (P + 1) j = M_73 (P + 1) j := by
  unfold D_X8_laysOne_73 at h
  have kc_0 : ∀ j, j < 82 → M_73 (P + 1) j = M_73 (P + 1) j := fun _ _ => rfl
  replace h := (zIx h).2
  obtain ⟨M_74, f_M_74, h⟩ := zLtx h
  have k_M_74 : ∀ j, j < 82 → M_74 (P + 1) j = M_73 (P + 1) j := fun j hj => (congrFun (congrFun f_M_74.symm (P + 1)) j).trans ((zu_ne (by omega)).trans (kc_0 j hj))
  replace h := (zIx h).2
  exact fun j hj => (p11_X8_laysOne_86 hk_k18 h j hj).trans (k_M_74 j hj)
set_option maxRecDepth 100000 in
set_option maxHeartbeats 4000000 in
theorem p11_X8_laysOne_18 {P : Nat}  : ∀ (u : Nat) (x1_18 : Int32) (x2_18 : Int32) (x3_18 : Int32) (M_18 : zMt) (r : (zMt)), D_X8_laysOne_18 P u x1_18 x2_18 x3_18 M_18 = some r → ∀ j, j < 82 → r (P + 1) j = M_18 (P + 1) j := by
  intro u
  induction u with
  | zero =>
    intro x1_18 x2_18 x3_18 M_18 r h
    cases h
  | succ u ih =>
    intro x1_18 x2_18 x3_18 M_18 r h
    rw [D_X8_laysOne_18] at h
    have kc_0 : ∀ j, j < 82 → M_18 (P + 1) j = M_18 (P + 1) j := fun _ _ => rfl
    by_cases c7 : (M_18 P 8) ≤ x3_18
    · rw [if_pos c7] at h
      replace h := (zIx h).2
      replace h := (zZx h).2
      replace h := (zIx h).2
      obtain ⟨M_105, f_M_105, h⟩ := zLtx h
      have k_M_105 : ∀ j, j < 82 → M_105 (P + 1) j = M_18 (P + 1) j := fun j hj => (congrFun (congrFun f_M_105.symm (P + 1)) j).trans ((zu_ne (by omega)).trans (kc_0 j hj))
      replace h := (zIx h).2
      by_cases c8 : (M_105 (P + 1) (67 : Int32).toNatClampNeg) = 0
      · rw [if_pos c8] at h
        exact fun j hj => (p11_X8_laysOne_162 h j hj).trans (k_M_105 j hj)
      · rw [if_neg c8] at h
        replace h := (zIx h).2
        by_cases c9 : (M_105 (P + 1) (67 : Int32).toNatClampNeg) = (1 : Int32)
        · rw [if_pos c9] at h
          replace h := (zIx h).2
          exact fun j hj => (p11_X8_laysOne_162 h j hj).trans (k_M_105 j hj)
        · rw [if_neg c9] at h
          replace h := (zIx h).2
          replace h := (zIx h).2
          exact fun j hj => (p11_X8_laysOne_162 h j hj).trans (k_M_105 j hj)
    · rw [if_neg c7] at h
      replace h := (zIx h).2
      obtain ⟨e_33, f_e_33, h⟩ := zBx h
      by_cases c10 : e_33 = 0
      · rw [if_pos c10] at h
        exact fun j hj => (p11_X8_laysOne_86 ih h j hj).trans (kc_0 j hj)
      · rw [if_neg c10] at h
        replace h := (zIx h).2
        replace h := (zIx h).2
        obtain ⟨M_51, f_M_51, h⟩ := zLtx h
        have k_M_51 : ∀ j, j < 82 → M_51 (P + 1) j = M_18 (P + 1) j := fun j hj => (congrFun (congrFun f_M_51.symm (P + 1)) j).trans ((zu_ne (by omega)).trans (kc_0 j hj))
        replace h := (zIx h).2
        replace h := (zIx h).2
        by_cases c11 : (M_51 (P + 5) x3_18.toNatClampNeg) = 0
        · rw [if_pos c11] at h
          exact fun j hj => (p11_X8_laysOne_73 ih h j hj).trans (k_M_51 j hj)
        · rw [if_neg c11] at h
          exact fun j hj => (p11_X8_laysOne_73 ih h j hj).trans (k_M_51 j hj)
set_option maxRecDepth 100000 in
set_option maxHeartbeats 4000000 in
theorem p11_X8_laysOne {P : Nat} {v0 : Int32} {M : zMt}  {r : (zMt)} (h : D_X8_laysOne P v0 M = some r) : ∀ j, j < 82 → r (P + 1) j = M (P + 1) j := by
  unfold D_X8_laysOne at h
  have kc_0 : ∀ j, j < 82 → M (P + 1) j = M (P + 1) j := fun _ _ => rfl
  replace h := (zIx h).2
  obtain ⟨M_6, f_M_6, h⟩ := zLtx h
  have k_M_6 : ∀ j, j < 82 → M_6 (P + 1) j = M (P + 1) j := fun j hj => (congrFun (congrFun f_M_6.symm (P + 1)) j).trans ((zu_ne (by omega)).trans (kc_0 j hj))
  replace h := (zIx h).2
  obtain ⟨M_13, f_M_13, h⟩ := zLtx h
  have k_M_13 : ∀ j, j < 82 → M_13 (P + 1) j = M (P + 1) j := fun j hj => (congrFun (congrFun f_M_13.symm (P + 1)) j).trans ((zu_ne (by omega)).trans (k_M_6 j hj))
  exact fun j hj => (p11_X8_laysOne_18 _ _ _ _ _ _ h j hj).trans (k_M_13 j hj)
set_option maxRecDepth 100000 in
set_option maxHeartbeats 4000000 in
theorem p11_X8_laysApplicants_198 {P : Nat}  : ∀ (u : Nat) (x1_198 : Int32) (M_198 : zMt) (r : (zMt)), D_X8_laysApplicants_198 P u x1_198 M_198 = some r → ∀ j, j < 82 → r (P + 1) j = M_198 (P + 1) j := by
  intro u
  induction u with
  | zero =>
    intro x1_198 M_198 r h
    cases h
  | succ u ih =>
    intro x1_198 M_198 r h
    rw [D_X8_laysApplicants_198] at h
    have kc_0 : ∀ j, j < 82 → M_198 (P + 1) j = M_198 (P + 1) j := fun _ _ => rfl
    by_cases c6 : (M_198 P 33) ≤ x1_198
    · rw [if_pos c6] at h
      cases h
      exact kc_0
    · rw [if_neg c6] at h
      obtain ⟨e_208, f_e_208, h⟩ := zBx h
      have ke_208 : ∀ j, j < 82 → e_208 (P + 1) j = M_198 (P + 1) j := fun j hj => (p11_X8_laysOne f_e_208 j hj).trans (kc_0 j hj)
      exact fun j hj => (ih _ _ _ h j hj).trans (ke_208 j hj)
set_option maxRecDepth 100000 in
set_option maxHeartbeats 4000000 in
theorem p11_X8_laysApplicants_147 {P : Nat} {k86 : Int32 → zMt → Option (zMt)} {k109 : Int32 → Int32 → zMt → Option (zMt)} {x1_147 : Int32} {x2_147 : Int32} {y1_147 : Int32} {y2_147 : Int32} {y3_147 : Int32} {M_147 : zMt} (hk_k86 : ∀ (y0 : Int32) (y1 : zMt) r, k86 y0 y1 = some r → ∀ j, j < 82 → r (P + 1) j = y1 (P + 1) j) (hk_k109 : ∀ (y0 : Int32) (y1 : Int32) (y2 : zMt) r, k109 y0 y1 y2 = some r → ∀ j, j < 82 → r (P + 1) j = y2 (P + 1) j) {r : (zMt)} (h : D_X8_laysApplicants_147 P k86 k109 x1_147 x2_147 y1_147 y2_147 y3_147 M_147 = some r) : ∀ j, j < 82 → r (P + 1) j = M_147 (P + 1) j := by
  unfold D_X8_laysApplicants_147 at h
  have kc_0 : ∀ j, j < 82 → M_147 (P + 1) j = M_147 (P + 1) j := fun _ _ => rfl
  replace h := (zIx h).2
  obtain ⟨M_148, f_M_148, h⟩ := zLtx h
  have k_M_148 : ∀ j, j < 82 → M_148 (P + 1) j = M_147 (P + 1) j := fun j hj => (congrFun (congrFun f_M_148.symm (P + 1)) j).trans ((zu_ne (by omega)).trans (kc_0 j hj))
  exact fun j hj => (hk_k109 _ _ _ _ h j hj).trans (k_M_148 j hj)
set_option maxRecDepth 100000 in
set_option maxHeartbeats 4000000 in
theorem p11_X8_laysApplicants_109 {P : Nat} {k86 : Int32 → zMt → Option (zMt)} (hk_k86 : ∀ (y0 : Int32) (y1 : zMt) r, k86 y0 y1 = some r → ∀ j, j < 82 → r (P + 1) j = y1 (P + 1) j) : ∀ (u : Nat) (x1_109 : Int32) (x2_109 : Int32) (M_109 : zMt) (r : (zMt)), D_X8_laysApplicants_109 P k86 u x1_109 x2_109 M_109 = some r → ∀ j, j < 82 → r (P + 1) j = M_109 (P + 1) j := by
  intro u
  induction u with
  | zero =>
    intro x1_109 x2_109 M_109 r h
    cases h
  | succ u ih =>
    intro x1_109 x2_109 M_109 r h
    rw [D_X8_laysApplicants_109] at h
    have kc_0 : ∀ j, j < 82 → M_109 (P + 1) j = M_109 (P + 1) j := fun _ _ => rfl
    by_cases c12 : (M_109 P 8) ≤ x2_109
    · rw [if_pos c12] at h
      replace h := (zIx h).2
      obtain ⟨M_164, f_M_164, h⟩ := zLtx h
      have k_M_164 : ∀ j, j < 82 → M_164 (P + 1) j = M_109 (P + 1) j := fun j hj => (congrFun (congrFun f_M_164.symm (P + 1)) j).trans ((zu_ne (by omega)).trans (kc_0 j hj))
      replace h := (zIx h).2
      obtain ⟨M_179, f_M_179, h⟩ := zLtx h
      have k_M_179 : ∀ j, j < 82 → M_179 (P + 1) j = M_109 (P + 1) j := fun j hj => (congrFun (congrFun f_M_179.symm (P + 1)) j).trans ((zu_ne (by omega)).trans (k_M_164 j hj))
      obtain ⟨M_187, f_M_187, h⟩ := zLtx h
      have k_M_187 : ∀ j, j < 82 → M_187 (P + 1) j = M_109 (P + 1) j := fun j hj => (congrFun (congrFun f_M_187.symm (P + 1)) j).trans ((zu_ne (by omega)).trans (k_M_179 j hj))
      exact fun j hj => (hk_k86 _ _ _ h j hj).trans (k_M_187 j hj)
    · rw [if_neg c12] at h
      replace h := (zIx h).2
      replace h := (zIx h).2
      by_cases c13 : (M_109 (P + 1) ((10 : Int32) + x2_109).toNatClampNeg) = x1_109
      · rw [if_pos c13] at h
        exact fun j hj => (p11_X8_laysApplicants_147 hk_k86 ih h j hj).trans (kc_0 j hj)
      · rw [if_neg c13] at h
        exact fun j hj => (p11_X8_laysApplicants_147 hk_k86 ih h j hj).trans (kc_0 j hj)
set_option maxRecDepth 100000 in
set_option maxHeartbeats 4000000 in
theorem p11_X8_laysApplicants_86 {P : Nat}  : ∀ (u : Nat) (x1_86 : Int32) (M_86 : zMt) (r : (zMt)), D_X8_laysApplicants_86 P u x1_86 M_86 = some r → ∀ j, j < 82 → r (P + 1) j = M_86 (P + 1) j := by
  intro u
  induction u with
  | zero =>
    intro x1_86 M_86 r h
    cases h
  | succ u ih =>
    intro x1_86 M_86 r h
    rw [D_X8_laysApplicants_86] at h
    have kc_0 : ∀ j, j < 82 → M_86 (P + 1) j = M_86 (P + 1) j := fun _ _ => rfl
    replace h := (zIx h).2
    by_cases c5 : (M_86 (P + 1) (70 : Int32).toNatClampNeg) ≤ x1_86
    · rw [if_pos c5] at h
      exact fun j hj => (p11_X8_laysApplicants_198 _ _ _ _ h j hj).trans (kc_0 j hj)
    · rw [if_neg c5] at h
      replace h := (zIx h).2
      obtain ⟨M_106, f_M_106, h⟩ := zLtx h
      have k_M_106 : ∀ j, j < 82 → M_106 (P + 1) j = M_86 (P + 1) j := fun j hj => (congrFun (congrFun f_M_106.symm (P + 1)) j).trans ((zu_ne (by omega)).trans (kc_0 j hj))
      exact fun j hj => (p11_X8_laysApplicants_109 ih _ _ _ _ _ h j hj).trans (k_M_106 j hj)
set_option maxRecDepth 100000 in
set_option maxHeartbeats 4000000 in
theorem p11_X8_laysApplicants_78 {P : Nat} {k7 : Int32 → zMt → Option (zMt)} {x1_78 : Int32} {M_78 : zMt} (hk_k7 : ∀ (y0 : Int32) (y1 : zMt) r, k7 y0 y1 = some r → ∀ j, j < 82 → r (P + 1) j = y1 (P + 1) j) {r : (zMt)} (h : D_X8_laysApplicants_78 P k7 x1_78 M_78 = some r) : ∀ j, j < 82 → r (P + 1) j = M_78 (P + 1) j := by
  unfold D_X8_laysApplicants_78 at h
  have kc_0 : ∀ j, j < 82 → M_78 (P + 1) j = M_78 (P + 1) j := fun _ _ => rfl
  exact fun j hj => (hk_k7 _ _ _ h j hj).trans (kc_0 j hj)
set_option maxRecDepth 100000 in
set_option maxHeartbeats 4000000 in
theorem p11_X8_laysApplicants_7 {P : Nat}  : ∀ (u : Nat) (x1_7 : Int32) (M_7 : zMt) (r : (zMt)), D_X8_laysApplicants_7 P u x1_7 M_7 = some r → ∀ j, j < 82 → r (P + 1) j = M_7 (P + 1) j := by
  intro u
  induction u with
  | zero =>
    intro x1_7 M_7 r h
    cases h
  | succ u ih =>
    intro x1_7 M_7 r h
    rw [D_X8_laysApplicants_7] at h
    have kc_0 : ∀ j, j < 82 → M_7 (P + 1) j = M_7 (P + 1) j := fun _ _ => rfl
    by_cases c4 : (M_7 P 8) ≤ x1_7
    · rw [if_pos c4] at h
      exact fun j hj => (p11_X8_laysApplicants_86 _ _ _ _ h j hj).trans (kc_0 j hj)
    · rw [if_neg c4] at h
      replace h := (zIx h).2
      by_cases c14 : (M_7 (P + 1) ((10 : Int32) + x1_7).toNatClampNeg) = (-1 : Int32)
      · rw [if_pos c14] at h
        replace h := (zIx h).2
        obtain ⟨M_42, f_M_42, h⟩ := zLtx h
        have k_M_42 : ∀ j, j < 82 → M_42 (P + 1) j = M_7 (P + 1) j := fun j hj => (congrFun (congrFun f_M_42.symm (P + 1)) j).trans ((zu_ne (by omega)).trans (kc_0 j hj))
        replace h := (zIx h).2
        obtain ⟨M_52, f_M_52, h⟩ := zLtx h
        have k_M_52 : ∀ j, j < 82 → M_52 (P + 1) j = M_7 (P + 1) j := fun j hj => (congrFun (congrFun f_M_52.symm (P + 1)) j).trans ((zu_ne (by omega)).trans (k_M_42 j hj))
        replace h := (zIx h).2
        obtain ⟨M_67, f_M_67, h⟩ := zLtx h
        have k_M_67 : ∀ j, j < 82 → M_67 (P + 1) j = M_7 (P + 1) j := fun j hj => (congrFun (congrFun f_M_67.symm (P + 1)) j).trans ((zu_ne (by omega)).trans (k_M_52 j hj))
        obtain ⟨M_75, f_M_75, h⟩ := zLtx h
        have k_M_75 : ∀ j, j < 82 → M_75 (P + 1) j = M_7 (P + 1) j := fun j hj => (congrFun (congrFun f_M_75.symm (P + 1)) j).trans ((zu_ne (by omega)).trans (k_M_67 j hj))
        exact fun j hj => (p11_X8_laysApplicants_78 ih h j hj).trans (k_M_75 j hj)
      · rw [if_neg c14] at h
        exact fun j hj => (p11_X8_laysApplicants_78 ih h j hj).trans (kc_0 j hj)
set_option maxRecDepth 100000 in
set_option maxHeartbeats 4000000 in
theorem p11_X8_laysApplicants {P : Nat} {M : zMt}  {r : (zMt)} (h : D_X8_laysApplicants P M = some r) : ∀ j, j < 82 → r (P + 1) j = M (P + 1) j := by
  unfold D_X8_laysApplicants at h
  have kc_0 : ∀ j, j < 82 → M (P + 1) j = M (P + 1) j := fun _ _ => rfl
  obtain ⟨M_2, f_M_2, h⟩ := zLtx h
  have k_M_2 : ∀ j, j < 82 → M_2 (P + 1) j = M (P + 1) j := fun j hj => (congrFun (congrFun f_M_2.symm (P + 1)) j).trans ((zu_ne (by omega)).trans (kc_0 j hj))
  exact fun j hj => (p11_X8_laysApplicants_7 _ _ _ _ h j hj).trans (k_M_2 j hj)
set_option maxRecDepth 100000 in
set_option maxHeartbeats 4000000 in
theorem p11_X8_areMany_18 {P : Nat} {y0_18 : Int32} {M_18 : zMt}  {r : (Int32 × zMt)} (h : D_X8_areMany_18 P y0_18 M_18 = some r) : ∀ j, j < 82 → r.2 (P + 1) j = M_18 (P + 1) j := by
  unfold D_X8_areMany_18 at h
  have kc_0 : ∀ j, j < 82 → M_18 (P + 1) j = M_18 (P + 1) j := fun _ _ => rfl
  cases h
  exact kc_0
set_option maxRecDepth 100000 in
set_option maxHeartbeats 4000000 in
theorem p11_X8_areMany {P : Nat} {M : zMt}  {r : (Int32 × zMt)} (h : D_X8_areMany P M = some r) : ∀ j, j < 82 → r.2 (P + 1) j = M (P + 1) j := by
  unfold D_X8_areMany at h
  have kc_0 : ∀ j, j < 82 → M (P + 1) j = M (P + 1) j := fun _ _ => rfl
  obtain ⟨e_1, f_e_1, h⟩ := zBx h
  have ke_1 : ∀ j, j < 82 → e_1 (P + 1) j = M (P + 1) j := fun j hj => (p11_X8_laysApplicants f_e_1 j hj).trans (kc_0 j hj)
  by_cases c15 : (e_1 P 33) ≤ (7 : Int32)
  · rw [if_pos c15] at h
    exact fun j hj => (p11_X8_areMany_18 h j hj).trans (ke_1 j hj)
  · rw [if_neg c15] at h
    exact fun j hj => (p11_X8_areMany_18 h j hj).trans (ke_1 j hj)
set_option maxRecDepth 100000 in
set_option maxHeartbeats 4000000 in
theorem p11_X8_applicantOf_6 {P : Nat}  : ∀ (u : Nat) (x1_6 : Int32) (x2_6 : Int32) (M_6 : zMt) (r : (Int32 × zMt)), D_X8_applicantOf_6 P u x1_6 x2_6 M_6 = some r → ∀ j, j < 82 → r.2 (P + 1) j = M_6 (P + 1) j := by
  intro u
  induction u with
  | zero =>
    intro x1_6 x2_6 M_6 r h
    cases h
  | succ u ih =>
    intro x1_6 x2_6 M_6 r h
    rw [D_X8_applicantOf_6] at h
    have kc_0 : ∀ j, j < 82 → M_6 (P + 1) j = M_6 (P + 1) j := fun _ _ => rfl
    replace h := (zIx h).2
    obtain ⟨e_13, f_e_13, h⟩ := zBx h
    by_cases c17 : e_13 = 0
    · rw [if_pos c17] at h
      exact fun j hj => (ih _ _ _ _ h j hj).trans (kc_0 j hj)
    · rw [if_neg c17] at h
      cases h
      exact kc_0
set_option maxRecDepth 100000 in
set_option maxHeartbeats 4000000 in
theorem p11_X8_applicantOf {P : Nat} {v0 : Int32} {M : zMt}  {r : (Int32 × zMt)} (h : D_X8_applicantOf P v0 M = some r) : ∀ j, j < 82 → r.2 (P + 1) j = M (P + 1) j := by
  unfold D_X8_applicantOf at h
  have kc_0 : ∀ j, j < 82 → M (P + 1) j = M (P + 1) j := fun _ _ => rfl
  obtain ⟨e_1, f_e_1, h⟩ := zBx h
  have ke_1 : ∀ j, j < 82 → e_1 (P + 1) j = M (P + 1) j := fun j hj => (p11_X8_laysApplicants f_e_1 j hj).trans (kc_0 j hj)
  exact fun j hj => (p11_X8_applicantOf_6 _ _ _ _ _ h j hj).trans (ke_1 j hj)
set_option maxRecDepth 100000 in
set_option maxHeartbeats 4000000 in
theorem p11_X8_need_161 {P : Nat} {y0_161 : Int32} {M_161 : zMt} {N_161 : zNt}  {r : (Int32 × zMt × zNt)} (h : D_X8_need_161 P y0_161 M_161 N_161 = some r) : ∀ j, j < 82 → r.2.1 (P + 1) j = M_161 (P + 1) j := by
  unfold D_X8_need_161 at h
  have kc_0 : ∀ j, j < 82 → M_161 (P + 1) j = M_161 (P + 1) j := fun _ _ => rfl
  cases h
  exact kc_0
set_option maxRecDepth 100000 in
set_option maxHeartbeats 4000000 in
theorem p11_X8_gives {P : Nat} {v0 : Int32} {M : zMt}  {r : (Int32 × zMt)} (h : D_X8_gives P v0 M = some r) : ∀ j, j < 82 → r.2 (P + 1) j = M (P + 1) j := by
  unfold D_X8_gives at h
  have kc_0 : ∀ j, j < 82 → M (P + 1) j = M (P + 1) j := fun _ _ => rfl
  obtain ⟨M_2, f_M_2, h⟩ := zLtx h
  have k_M_2 : ∀ j, j < 82 → M_2 (P + 1) j = M (P + 1) j := fun j hj => (congrFun (congrFun f_M_2.symm (P + 1)) j).trans ((zu_ne (by omega)).trans (kc_0 j hj))
  obtain ⟨M_7, f_M_7, h⟩ := zLtx h
  have k_M_7 : ∀ j, j < 82 → M_7 (P + 1) j = M (P + 1) j := fun j hj => (congrFun (congrFun f_M_7.symm (P + 1)) j).trans ((zu_ne (by omega)).trans (k_M_2 j hj))
  cases h
  exact k_M_7
set_option maxRecDepth 100000 in
set_option maxHeartbeats 4000000 in
theorem p31_X8_need_137 {P : Nat} {x4_137 : Int32} {M_137 : zMt} {N_137 : zNt}  {r : (Int32 × zMt × zNt)} (h : D_X8_need_137 P x4_137 M_137 N_137 = some r) : ∀ j, j < 82 → r.2.1 (P + 1) j = M_137 (P + 3) j := by
  unfold D_X8_need_137 at h
  have kc_0 : ∀ j, j < 82 → M_137 (P + 3) j = M_137 (P + 3) j := fun _ _ => rfl
  obtain ⟨e_138, f_e_138, h⟩ := zBx h
  have ke_138 : ∀ j, j < 82 → e_138 (P + 1) j = M_137 (P + 3) j := fun j hj => (ptakes f_e_138 j hj).trans (kc_0 j hj)
  by_cases c19 : x4_137 = (-1 : Int32)
  · rw [if_pos c19] at h
    obtain ⟨e_149, f_e_149, h⟩ := zBx h
    have ke_149 : ∀ j, j < 82 → e_149.2 (P + 1) j = M_137 (P + 3) j := fun j hj => (p11_X8_refuse f_e_149 j hj).trans (ke_138 j hj)
    exact fun j hj => (p11_X8_need_161 h j hj).trans (ke_149 j hj)
  · rw [if_neg c19] at h
    obtain ⟨e_158, f_e_158, h⟩ := zBx h
    have ke_158 : ∀ j, j < 82 → e_158.2 (P + 1) j = M_137 (P + 3) j := fun j hj => (p11_X8_gives f_e_158 j hj).trans (ke_138 j hj)
    exact fun j hj => (p11_X8_need_161 h j hj).trans (ke_158 j hj)
set_option maxRecDepth 100000 in
set_option maxHeartbeats 4000000 in
theorem p33_X8_laysOne_162 {P : Nat} {y1_162 : Int32} {y2_162 : Int32} {M_162 : zMt}  {r : (zMt)} (h : D_X8_laysOne_162 P y1_162 y2_162 M_162 = some r) : ∀ j, j < 82 → r (P + 3) j = M_162 (P + 3) j := by
  unfold D_X8_laysOne_162 at h
  have kc_0 : ∀ j, j < 82 → M_162 (P + 3) j = M_162 (P + 3) j := fun _ _ => rfl
  replace h := (zIx h).2
  obtain ⟨M_162', f_M_162', h⟩ := zLtx h
  have k_M_162' : ∀ j, j < 82 → M_162' (P + 3) j = M_162 (P + 3) j := fun j hj => (congrFun (congrFun f_M_162'.symm (P + 3)) j).trans ((zu_ne (by omega)).trans (kc_0 j hj))
  cases h
  exact k_M_162'
set_option maxRecDepth 100000 in
set_option maxHeartbeats 4000000 in
theorem p33_X8_laysOne_86 {P : Nat} {k18 : Int32 → Int32 → Int32 → zMt → Option (zMt)} {x1_86 : Int32} {x2_86 : Int32} {x3_86 : Int32} {M_86 : zMt} (hk_k18 : ∀ (y0 : Int32) (y1 : Int32) (y2 : Int32) (y3 : zMt) r, k18 y0 y1 y2 y3 = some r → ∀ j, j < 82 → r (P + 3) j = y3 (P + 3) j) {r : (zMt)} (h : D_X8_laysOne_86 P k18 x1_86 x2_86 x3_86 M_86 = some r) : ∀ j, j < 82 → r (P + 3) j = M_86 (P + 3) j := by
  unfold D_X8_laysOne_86 at h
  have kc_0 : ∀ j, j < 82 → M_86 (P + 3) j = M_86 (P + 3) j := fun _ _ => rfl
  exact fun j hj => (hk_k18 _ _ _ _ _ h j hj).trans (kc_0 j hj)
set_option maxRecDepth 100000 in
set_option maxHeartbeats 4000000 in
theorem p33_X8_laysOne_73 {P : Nat} {k18 : Int32 → Int32 → Int32 → zMt → Option (zMt)} {x1_73 : Int32} {x2_73 : Int32} {x3_73 : Int32} {y1_73 : Int32} {y2_73 : Int32} {y3_73 : Int32} {M_73 : zMt} (hk_k18 : ∀ (y0 : Int32) (y1 : Int32) (y2 : Int32) (y3 : zMt) r, k18 y0 y1 y2 y3 = some r → ∀ j, j < 82 → r (P + 3) j = y3 (P + 3) j) {r : (zMt)} (h : D_X8_laysOne_73 P k18 x1_73 x2_73 x3_73 y1_73 y2_73 y3_73 M_73 = some r) : ∀ j, j < 82 → r (P + 3) j = M_73 (P + 3) j := by
  unfold D_X8_laysOne_73 at h
  have kc_0 : ∀ j, j < 82 → M_73 (P + 3) j = M_73 (P + 3) j := fun _ _ => rfl
  replace h := (zIx h).2
  obtain ⟨M_74, f_M_74, h⟩ := zLtx h
  have k_M_74 : ∀ j, j < 82 → M_74 (P + 3) j = M_73 (P + 3) j := fun j hj => (congrFun (congrFun f_M_74.symm (P + 3)) j).trans ((zu_ne (by omega)).trans (kc_0 j hj))
  replace h := (zIx h).2
  exact fun j hj => (p33_X8_laysOne_86 hk_k18 h j hj).trans (k_M_74 j hj)
set_option maxRecDepth 100000 in
set_option maxHeartbeats 4000000 in
theorem p33_X8_laysOne_18 {P : Nat}  : ∀ (u : Nat) (x1_18 : Int32) (x2_18 : Int32) (x3_18 : Int32) (M_18 : zMt) (r : (zMt)), D_X8_laysOne_18 P u x1_18 x2_18 x3_18 M_18 = some r → ∀ j, j < 82 → r (P + 3) j = M_18 (P + 3) j := by
  intro u
  induction u with
  | zero =>
    intro x1_18 x2_18 x3_18 M_18 r h
    cases h
  | succ u ih =>
    intro x1_18 x2_18 x3_18 M_18 r h
    rw [D_X8_laysOne_18] at h
    have kc_0 : ∀ j, j < 82 → M_18 (P + 3) j = M_18 (P + 3) j := fun _ _ => rfl
    by_cases c24 : (M_18 P 8) ≤ x3_18
    · rw [if_pos c24] at h
      replace h := (zIx h).2
      replace h := (zZx h).2
      replace h := (zIx h).2
      obtain ⟨M_105, f_M_105, h⟩ := zLtx h
      have k_M_105 : ∀ j, j < 82 → M_105 (P + 3) j = M_18 (P + 3) j := fun j hj => (congrFun (congrFun f_M_105.symm (P + 3)) j).trans ((zu_ne (by omega)).trans (kc_0 j hj))
      replace h := (zIx h).2
      by_cases c25 : (M_105 (P + 1) (67 : Int32).toNatClampNeg) = 0
      · rw [if_pos c25] at h
        exact fun j hj => (p33_X8_laysOne_162 h j hj).trans (k_M_105 j hj)
      · rw [if_neg c25] at h
        replace h := (zIx h).2
        by_cases c26 : (M_105 (P + 1) (67 : Int32).toNatClampNeg) = (1 : Int32)
        · rw [if_pos c26] at h
          replace h := (zIx h).2
          exact fun j hj => (p33_X8_laysOne_162 h j hj).trans (k_M_105 j hj)
        · rw [if_neg c26] at h
          replace h := (zIx h).2
          replace h := (zIx h).2
          exact fun j hj => (p33_X8_laysOne_162 h j hj).trans (k_M_105 j hj)
    · rw [if_neg c24] at h
      replace h := (zIx h).2
      obtain ⟨e_33, f_e_33, h⟩ := zBx h
      by_cases c27 : e_33 = 0
      · rw [if_pos c27] at h
        exact fun j hj => (p33_X8_laysOne_86 ih h j hj).trans (kc_0 j hj)
      · rw [if_neg c27] at h
        replace h := (zIx h).2
        replace h := (zIx h).2
        obtain ⟨M_51, f_M_51, h⟩ := zLtx h
        have k_M_51 : ∀ j, j < 82 → M_51 (P + 3) j = M_18 (P + 3) j := fun j hj => (congrFun (congrFun f_M_51.symm (P + 3)) j).trans ((zu_ne (by omega)).trans (kc_0 j hj))
        replace h := (zIx h).2
        replace h := (zIx h).2
        by_cases c28 : (M_51 (P + 5) x3_18.toNatClampNeg) = 0
        · rw [if_pos c28] at h
          exact fun j hj => (p33_X8_laysOne_73 ih h j hj).trans (k_M_51 j hj)
        · rw [if_neg c28] at h
          exact fun j hj => (p33_X8_laysOne_73 ih h j hj).trans (k_M_51 j hj)
set_option maxRecDepth 100000 in
set_option maxHeartbeats 4000000 in
theorem p33_X8_laysOne {P : Nat} {v0 : Int32} {M : zMt}  {r : (zMt)} (h : D_X8_laysOne P v0 M = some r) : ∀ j, j < 82 → r (P + 3) j = M (P + 3) j := by
  unfold D_X8_laysOne at h
  have kc_0 : ∀ j, j < 82 → M (P + 3) j = M (P + 3) j := fun _ _ => rfl
  replace h := (zIx h).2
  obtain ⟨M_6, f_M_6, h⟩ := zLtx h
  have k_M_6 : ∀ j, j < 82 → M_6 (P + 3) j = M (P + 3) j := fun j hj => (congrFun (congrFun f_M_6.symm (P + 3)) j).trans ((zu_ne (by omega)).trans (kc_0 j hj))
  replace h := (zIx h).2
  obtain ⟨M_13, f_M_13, h⟩ := zLtx h
  have k_M_13 : ∀ j, j < 82 → M_13 (P + 3) j = M (P + 3) j := fun j hj => (congrFun (congrFun f_M_13.symm (P + 3)) j).trans ((zu_ne (by omega)).trans (k_M_6 j hj))
  exact fun j hj => (p33_X8_laysOne_18 _ _ _ _ _ _ h j hj).trans (k_M_13 j hj)
set_option maxRecDepth 100000 in
set_option maxHeartbeats 4000000 in
theorem p33_X8_laysApplicants_198 {P : Nat}  : ∀ (u : Nat) (x1_198 : Int32) (M_198 : zMt) (r : (zMt)), D_X8_laysApplicants_198 P u x1_198 M_198 = some r → ∀ j, j < 82 → r (P + 3) j = M_198 (P + 3) j := by
  intro u
  induction u with
  | zero =>
    intro x1_198 M_198 r h
    cases h
  | succ u ih =>
    intro x1_198 M_198 r h
    rw [D_X8_laysApplicants_198] at h
    have kc_0 : ∀ j, j < 82 → M_198 (P + 3) j = M_198 (P + 3) j := fun _ _ => rfl
    by_cases c23 : (M_198 P 33) ≤ x1_198
    · rw [if_pos c23] at h
      cases h
      exact kc_0
    · rw [if_neg c23] at h
      obtain ⟨e_208, f_e_208, h⟩ := zBx h
      have ke_208 : ∀ j, j < 82 → e_208 (P + 3) j = M_198 (P + 3) j := fun j hj => (p33_X8_laysOne f_e_208 j hj).trans (kc_0 j hj)
      exact fun j hj => (ih _ _ _ h j hj).trans (ke_208 j hj)
set_option maxRecDepth 100000 in
set_option maxHeartbeats 4000000 in
theorem p33_X8_laysApplicants_147 {P : Nat} {k86 : Int32 → zMt → Option (zMt)} {k109 : Int32 → Int32 → zMt → Option (zMt)} {x1_147 : Int32} {x2_147 : Int32} {y1_147 : Int32} {y2_147 : Int32} {y3_147 : Int32} {M_147 : zMt} (hk_k86 : ∀ (y0 : Int32) (y1 : zMt) r, k86 y0 y1 = some r → ∀ j, j < 82 → r (P + 3) j = y1 (P + 3) j) (hk_k109 : ∀ (y0 : Int32) (y1 : Int32) (y2 : zMt) r, k109 y0 y1 y2 = some r → ∀ j, j < 82 → r (P + 3) j = y2 (P + 3) j) {r : (zMt)} (h : D_X8_laysApplicants_147 P k86 k109 x1_147 x2_147 y1_147 y2_147 y3_147 M_147 = some r) : ∀ j, j < 82 → r (P + 3) j = M_147 (P + 3) j := by
  unfold D_X8_laysApplicants_147 at h
  have kc_0 : ∀ j, j < 82 → M_147 (P + 3) j = M_147 (P + 3) j := fun _ _ => rfl
  replace h := (zIx h).2
  obtain ⟨M_148, f_M_148, h⟩ := zLtx h
  have k_M_148 : ∀ j, j < 82 → M_148 (P + 3) j = M_147 (P + 3) j := fun j hj => (congrFun (congrFun f_M_148.symm (P + 3)) j).trans ((zu_ne (by omega)).trans (kc_0 j hj))
  exact fun j hj => (hk_k109 _ _ _ _ h j hj).trans (k_M_148 j hj)
set_option maxRecDepth 100000 in
set_option maxHeartbeats 4000000 in
theorem p33_X8_laysApplicants_109 {P : Nat} {k86 : Int32 → zMt → Option (zMt)} (hk_k86 : ∀ (y0 : Int32) (y1 : zMt) r, k86 y0 y1 = some r → ∀ j, j < 82 → r (P + 3) j = y1 (P + 3) j) : ∀ (u : Nat) (x1_109 : Int32) (x2_109 : Int32) (M_109 : zMt) (r : (zMt)), D_X8_laysApplicants_109 P k86 u x1_109 x2_109 M_109 = some r → ∀ j, j < 82 → r (P + 3) j = M_109 (P + 3) j := by
  intro u
  induction u with
  | zero =>
    intro x1_109 x2_109 M_109 r h
    cases h
  | succ u ih =>
    intro x1_109 x2_109 M_109 r h
    rw [D_X8_laysApplicants_109] at h
    have kc_0 : ∀ j, j < 82 → M_109 (P + 3) j = M_109 (P + 3) j := fun _ _ => rfl
    by_cases c29 : (M_109 P 8) ≤ x2_109
    · rw [if_pos c29] at h
      replace h := (zIx h).2
      obtain ⟨M_164, f_M_164, h⟩ := zLtx h
      have k_M_164 : ∀ j, j < 82 → M_164 (P + 3) j = M_109 (P + 3) j := fun j hj => (congrFun (congrFun f_M_164.symm (P + 3)) j).trans ((zu_ne (by omega)).trans (kc_0 j hj))
      replace h := (zIx h).2
      obtain ⟨M_179, f_M_179, h⟩ := zLtx h
      have k_M_179 : ∀ j, j < 82 → M_179 (P + 3) j = M_109 (P + 3) j := fun j hj => (congrFun (congrFun f_M_179.symm (P + 3)) j).trans ((zu_ne (by omega)).trans (k_M_164 j hj))
      obtain ⟨M_187, f_M_187, h⟩ := zLtx h
      have k_M_187 : ∀ j, j < 82 → M_187 (P + 3) j = M_109 (P + 3) j := fun j hj => (congrFun (congrFun f_M_187.symm (P + 3)) j).trans ((zu_ne (by omega)).trans (k_M_179 j hj))
      exact fun j hj => (hk_k86 _ _ _ h j hj).trans (k_M_187 j hj)
    · rw [if_neg c29] at h
      replace h := (zIx h).2
      replace h := (zIx h).2
      by_cases c30 : (M_109 (P + 1) ((10 : Int32) + x2_109).toNatClampNeg) = x1_109
      · rw [if_pos c30] at h
        exact fun j hj => (p33_X8_laysApplicants_147 hk_k86 ih h j hj).trans (kc_0 j hj)
      · rw [if_neg c30] at h
        exact fun j hj => (p33_X8_laysApplicants_147 hk_k86 ih h j hj).trans (kc_0 j hj)
set_option maxRecDepth 100000 in
set_option maxHeartbeats 4000000 in
theorem p33_X8_laysApplicants_86 {P : Nat}  : ∀ (u : Nat) (x1_86 : Int32) (M_86 : zMt) (r : (zMt)), D_X8_laysApplicants_86 P u x1_86 M_86 = some r → ∀ j, j < 82 → r (P + 3) j = M_86 (P + 3) j := by
  intro u
  induction u with
  | zero =>
    intro x1_86 M_86 r h
    cases h
  | succ u ih =>
    intro x1_86 M_86 r h
    rw [D_X8_laysApplicants_86] at h
    have kc_0 : ∀ j, j < 82 → M_86 (P + 3) j = M_86 (P + 3) j := fun _ _ => rfl
    replace h := (zIx h).2
    by_cases c22 : (M_86 (P + 1) (70 : Int32).toNatClampNeg) ≤ x1_86
    · rw [if_pos c22] at h
      exact fun j hj => (p33_X8_laysApplicants_198 _ _ _ _ h j hj).trans (kc_0 j hj)
    · rw [if_neg c22] at h
      replace h := (zIx h).2
      obtain ⟨M_106, f_M_106, h⟩ := zLtx h
      have k_M_106 : ∀ j, j < 82 → M_106 (P + 3) j = M_86 (P + 3) j := fun j hj => (congrFun (congrFun f_M_106.symm (P + 3)) j).trans ((zu_ne (by omega)).trans (kc_0 j hj))
      exact fun j hj => (p33_X8_laysApplicants_109 ih _ _ _ _ _ h j hj).trans (k_M_106 j hj)
set_option maxRecDepth 100000 in
set_option maxHeartbeats 4000000 in
theorem p33_X8_laysApplicants_78 {P : Nat} {k7 : Int32 → zMt → Option (zMt)} {x1_78 : Int32} {M_78 : zMt} (hk_k7 : ∀ (y0 : Int32) (y1 : zMt) r, k7 y0 y1 = some r → ∀ j, j < 82 → r (P + 3) j = y1 (P + 3) j) {r : (zMt)} (h : D_X8_laysApplicants_78 P k7 x1_78 M_78 = some r) : ∀ j, j < 82 → r (P + 3) j = M_78 (P + 3) j := by
  unfold D_X8_laysApplicants_78 at h
  have kc_0 : ∀ j, j < 82 → M_78 (P + 3) j = M_78 (P + 3) j := fun _ _ => rfl
  exact fun j hj => (hk_k7 _ _ _ h j hj).trans (kc_0 j hj)
set_option maxRecDepth 100000 in
set_option maxHeartbeats 4000000 in
theorem p33_X8_laysApplicants_7 {P : Nat}  : ∀ (u : Nat) (x1_7 : Int32) (M_7 : zMt) (r : (zMt)), D_X8_laysApplicants_7 P u x1_7 M_7 = some r → ∀ j, j < 82 → r (P + 3) j = M_7 (P + 3) j := by
  intro u
  induction u with
  | zero =>
    intro x1_7 M_7 r h
    cases h
  | succ u ih =>
    intro x1_7 M_7 r h
    rw [D_X8_laysApplicants_7] at h
    have kc_0 : ∀ j, j < 82 → M_7 (P + 3) j = M_7 (P + 3) j := fun _ _ => rfl
    by_cases c21 : (M_7 P 8) ≤ x1_7
    · rw [if_pos c21] at h
      exact fun j hj => (p33_X8_laysApplicants_86 _ _ _ _ h j hj).trans (kc_0 j hj)
    · rw [if_neg c21] at h
      replace h := (zIx h).2
      by_cases c31 : (M_7 (P + 1) ((10 : Int32) + x1_7).toNatClampNeg) = (-1 : Int32)
      · rw [if_pos c31] at h
        replace h := (zIx h).2
        obtain ⟨M_42, f_M_42, h⟩ := zLtx h
        have k_M_42 : ∀ j, j < 82 → M_42 (P + 3) j = M_7 (P + 3) j := fun j hj => (congrFun (congrFun f_M_42.symm (P + 3)) j).trans ((zu_ne (by omega)).trans (kc_0 j hj))
        replace h := (zIx h).2
        obtain ⟨M_52, f_M_52, h⟩ := zLtx h
        have k_M_52 : ∀ j, j < 82 → M_52 (P + 3) j = M_7 (P + 3) j := fun j hj => (congrFun (congrFun f_M_52.symm (P + 3)) j).trans ((zu_ne (by omega)).trans (k_M_42 j hj))
        replace h := (zIx h).2
        obtain ⟨M_67, f_M_67, h⟩ := zLtx h
        have k_M_67 : ∀ j, j < 82 → M_67 (P + 3) j = M_7 (P + 3) j := fun j hj => (congrFun (congrFun f_M_67.symm (P + 3)) j).trans ((zu_ne (by omega)).trans (k_M_52 j hj))
        obtain ⟨M_75, f_M_75, h⟩ := zLtx h
        have k_M_75 : ∀ j, j < 82 → M_75 (P + 3) j = M_7 (P + 3) j := fun j hj => (congrFun (congrFun f_M_75.symm (P + 3)) j).trans ((zu_ne (by omega)).trans (k_M_67 j hj))
        exact fun j hj => (p33_X8_laysApplicants_78 ih h j hj).trans (k_M_75 j hj)
      · rw [if_neg c31] at h
        exact fun j hj => (p33_X8_laysApplicants_78 ih h j hj).trans (kc_0 j hj)
set_option maxRecDepth 100000 in
set_option maxHeartbeats 4000000 in
theorem p33_X8_laysApplicants {P : Nat} {M : zMt}  {r : (zMt)} (h : D_X8_laysApplicants P M = some r) : ∀ j, j < 82 → r (P + 3) j = M (P + 3) j := by
  unfold D_X8_laysApplicants at h
  have kc_0 : ∀ j, j < 82 → M (P + 3) j = M (P + 3) j := fun _ _ => rfl
  obtain ⟨M_2, f_M_2, h⟩ := zLtx h
  have k_M_2 : ∀ j, j < 82 → M_2 (P + 3) j = M (P + 3) j := fun j hj => (congrFun (congrFun f_M_2.symm (P + 3)) j).trans ((zu_ne (by omega)).trans (kc_0 j hj))
  exact fun j hj => (p33_X8_laysApplicants_7 _ _ _ _ h j hj).trans (k_M_2 j hj)
set_option maxRecDepth 100000 in
set_option maxHeartbeats 4000000 in
theorem p33_X8_results_185 {P : Nat} {k96 : Int32 → Int32 → zMt → Option (zMt)} {x1_185 : Int32} {x2_185 : Int32} {M_185 : zMt} (hk_k96 : ∀ (y0 : Int32) (y1 : Int32) (y2 : zMt) r, k96 y0 y1 y2 = some r → ∀ j, j < 82 → r (P + 3) j = y2 (P + 3) j) {r : (zMt)} (h : D_X8_results_185 P k96 x1_185 x2_185 M_185 = some r) : ∀ j, j < 82 → r (P + 3) j = M_185 (P + 3) j := by
  unfold D_X8_results_185 at h
  have kc_0 : ∀ j, j < 82 → M_185 (P + 3) j = M_185 (P + 3) j := fun _ _ => rfl
  exact fun j hj => (hk_k96 _ _ _ _ h j hj).trans (kc_0 j hj)
set_option maxRecDepth 100000 in
set_option maxHeartbeats 4000000 in
theorem p33_X8_results_179 {P : Nat} {k96 : Int32 → Int32 → zMt → Option (zMt)} {k114 : Int32 → Int32 → Int32 → Int32 → zMt → Option (zMt)} {x1_179 : Int32} {x2_179 : Int32} {x3_179 : Int32} {x4_179 : Int32} {M_179 : zMt} (hk_k96 : ∀ (y0 : Int32) (y1 : Int32) (y2 : zMt) r, k96 y0 y1 y2 = some r → ∀ j, j < 82 → r (P + 3) j = y2 (P + 3) j) (hk_k114 : ∀ (y0 : Int32) (y1 : Int32) (y2 : Int32) (y3 : Int32) (y4 : zMt) r, k114 y0 y1 y2 y3 y4 = some r → ∀ j, j < 82 → r (P + 3) j = y4 (P + 3) j) {r : (zMt)} (h : D_X8_results_179 P k96 k114 x1_179 x2_179 x3_179 x4_179 M_179 = some r) : ∀ j, j < 82 → r (P + 3) j = M_179 (P + 3) j := by
  unfold D_X8_results_179 at h
  have kc_0 : ∀ j, j < 82 → M_179 (P + 3) j = M_179 (P + 3) j := fun _ _ => rfl
  exact fun j hj => (hk_k114 _ _ _ _ _ _ h j hj).trans (kc_0 j hj)
set_option maxRecDepth 100000 in
set_option maxHeartbeats 4000000 in
theorem p33_X8_gets {P : Nat} {v0 : Int32} {v1 : Int32} {v2 : Int32} {M : zMt}  {r : (zMt)} (h : D_X8_gets P v0 v1 v2 M = some r) : ∀ j, j < 82 → r (P + 3) j = M (P + 3) j := by
  unfold D_X8_gets at h
  have kc_0 : ∀ j, j < 82 → M (P + 3) j = M (P + 3) j := fun _ _ => rfl
  replace h := (zIx h).2
  obtain ⟨M_6, f_M_6, h⟩ := zLtx h
  have k_M_6 : ∀ j, j < 82 → M_6 (P + 3) j = M (P + 3) j := fun j hj => (congrFun (congrFun f_M_6.symm (P + 3)) j).trans ((zu_ne (by omega)).trans (kc_0 j hj))
  replace h := (zIx h).2
  obtain ⟨M_13, f_M_13, h⟩ := zLtx h
  have k_M_13 : ∀ j, j < 82 → M_13 (P + 3) j = M (P + 3) j := fun j hj => (congrFun (congrFun f_M_13.symm (P + 3)) j).trans ((zu_ne (by omega)).trans (k_M_6 j hj))
  replace h := (zIx h).2
  replace h := (zIx h).2
  replace h := (zIx h).2
  obtain ⟨M_28, f_M_28, h⟩ := zLtx h
  have k_M_28 : ∀ j, j < 82 → M_28 (P + 3) j = M (P + 3) j := fun j hj => (congrFun (congrFun f_M_28.symm (P + 3)) j).trans ((zu_ne (by omega)).trans (k_M_13 j hj))
  replace h := (zIx h).2
  replace h := (zIx h).2
  replace h := (zIx h).2
  obtain ⟨M_43, f_M_43, h⟩ := zLtx h
  have k_M_43 : ∀ j, j < 82 → M_43 (P + 3) j = M (P + 3) j := fun j hj => (congrFun (congrFun f_M_43.symm (P + 3)) j).trans ((zu_ne (by omega)).trans (k_M_28 j hj))
  cases h
  exact k_M_43
set_option maxRecDepth 100000 in
set_option maxHeartbeats 4000000 in
theorem p33_X8_results_114 {P : Nat} {k96 : Int32 → Int32 → zMt → Option (zMt)} (hk_k96 : ∀ (y0 : Int32) (y1 : Int32) (y2 : zMt) r, k96 y0 y1 y2 = some r → ∀ j, j < 82 → r (P + 3) j = y2 (P + 3) j) : ∀ (u : Nat) (x1_114 : Int32) (x2_114 : Int32) (x3_114 : Int32) (x4_114 : Int32) (M_114 : zMt) (r : (zMt)), D_X8_results_114 P k96 u x1_114 x2_114 x3_114 x4_114 M_114 = some r → ∀ j, j < 82 → r (P + 3) j = M_114 (P + 3) j := by
  intro u
  induction u with
  | zero =>
    intro x1_114 x2_114 x3_114 x4_114 M_114 r h
    cases h
  | succ u ih =>
    intro x1_114 x2_114 x3_114 x4_114 M_114 r h
    rw [D_X8_results_114] at h
    have kc_0 : ∀ j, j < 82 → M_114 (P + 3) j = M_114 (P + 3) j := fun _ _ => rfl
    obtain ⟨e_118, f_e_118, h⟩ := zBx h
    by_cases c42 : e_118 ≤ x4_114
    · rw [if_pos c42] at h
      exact fun j hj => (p33_X8_results_185 hk_k96 h j hj).trans (kc_0 j hj)
    · rw [if_neg c42] at h
      replace h := (zIx h).2
      by_cases c43 : (M_114 (P + 19) x3_114.toNatClampNeg) = (-1 : Int32)
      · rw [if_pos c43] at h
        by_cases c44 : x3_114 = x1_114
        · rw [if_pos c44] at h
          exact fun j hj => (p33_X8_results_185 hk_k96 h j hj).trans (kc_0 j hj)
        · rw [if_neg c44] at h
          obtain ⟨e_145, f_e_145, h⟩ := zBx h
          obtain ⟨e_156, f_e_156, h⟩ := zBx h
          replace h := (zIx h).2
          obtain ⟨e_160, f_e_160, h⟩ := zBx h
          by_cases c45 : e_160 = 0
          · rw [if_pos c45] at h
            exact fun j hj => (p33_X8_results_179 hk_k96 ih h j hj).trans (kc_0 j hj)
          · rw [if_neg c45] at h
            obtain ⟨e_172, f_e_172, h⟩ := zBx h
            obtain ⟨e_176, f_e_176, h⟩ := zBx h
            have ke_176 : ∀ j, j < 82 → e_176 (P + 3) j = M_114 (P + 3) j := fun j hj => (p33_X8_gets f_e_176 j hj).trans (kc_0 j hj)
            exact fun j hj => (p33_X8_results_179 hk_k96 ih h j hj).trans (ke_176 j hj)
      · rw [if_neg c43] at h
        exact fun j hj => (p33_X8_results_185 hk_k96 h j hj).trans (kc_0 j hj)
set_option maxRecDepth 100000 in
set_option maxHeartbeats 4000000 in
theorem p33_X8_results_96 {P : Nat}  : ∀ (u : Nat) (x1_96 : Int32) (x2_96 : Int32) (M_96 : zMt) (r : (zMt)), D_X8_results_96 P u x1_96 x2_96 M_96 = some r → ∀ j, j < 82 → r (P + 3) j = M_96 (P + 3) j := by
  intro u
  induction u with
  | zero =>
    intro x1_96 x2_96 M_96 r h
    cases h
  | succ u ih =>
    intro x1_96 x2_96 M_96 r h
    rw [D_X8_results_96] at h
    have kc_0 : ∀ j, j < 82 → M_96 (P + 3) j = M_96 (P + 3) j := fun _ _ => rfl
    by_cases c41 : (M_96 P 33) ≤ x2_96
    · rw [if_pos c41] at h
      cases h
      exact kc_0
    · rw [if_neg c41] at h
      replace h := (zIx h).2
      exact fun j hj => (p33_X8_results_114 ih _ _ _ _ _ _ _ h j hj).trans (kc_0 j hj)
set_option maxRecDepth 100000 in
set_option maxHeartbeats 4000000 in
theorem p33_X8_firstRound_108 {P : Nat} {k3 : Int32 → Int32 → Int32 → zMt → Option (zMt)} {k10 : Int32 → Int32 → Int32 → Int32 → zMt → Option (zMt)} {x1_108 : Int32} {x2_108 : Int32} {x3_108 : Int32} {x4_108 : Int32} {M_108 : zMt} (hk_k3 : ∀ (y0 : Int32) (y1 : Int32) (y2 : Int32) (y3 : zMt) r, k3 y0 y1 y2 y3 = some r → ∀ j, j < 82 → r (P + 3) j = y3 (P + 3) j) (hk_k10 : ∀ (y0 : Int32) (y1 : Int32) (y2 : Int32) (y3 : Int32) (y4 : zMt) r, k10 y0 y1 y2 y3 y4 = some r → ∀ j, j < 82 → r (P + 3) j = y4 (P + 3) j) {r : (zMt)} (h : D_X8_firstRound_108 P k3 k10 x1_108 x2_108 x3_108 x4_108 M_108 = some r) : ∀ j, j < 82 → r (P + 3) j = M_108 (P + 3) j := by
  unfold D_X8_firstRound_108 at h
  have kc_0 : ∀ j, j < 82 → M_108 (P + 3) j = M_108 (P + 3) j := fun _ _ => rfl
  exact fun j hj => (hk_k10 _ _ _ _ _ _ h j hj).trans (kc_0 j hj)
set_option maxRecDepth 100000 in
set_option maxHeartbeats 4000000 in
theorem p33_X8_firstRound_61 {P : Nat} {k3 : Int32 → Int32 → Int32 → zMt → Option (zMt)} {k10 : Int32 → Int32 → Int32 → Int32 → zMt → Option (zMt)} {x1_61 : Int32} {x2_61 : Int32} {x3_61 : Int32} {x4_61 : Int32} {x5_61 : Int32} {y0_61 : Int32} {M_61 : zMt} (hk_k3 : ∀ (y0 : Int32) (y1 : Int32) (y2 : Int32) (y3 : zMt) r, k3 y0 y1 y2 y3 = some r → ∀ j, j < 82 → r (P + 3) j = y3 (P + 3) j) (hk_k10 : ∀ (y0 : Int32) (y1 : Int32) (y2 : Int32) (y3 : Int32) (y4 : zMt) r, k10 y0 y1 y2 y3 y4 = some r → ∀ j, j < 82 → r (P + 3) j = y4 (P + 3) j) {r : (zMt)} (h : D_X8_firstRound_61 P k3 k10 x1_61 x2_61 x3_61 x4_61 x5_61 y0_61 M_61 = some r) : ∀ j, j < 82 → r (P + 3) j = M_61 (P + 3) j := by
  unfold D_X8_firstRound_61 at h
  have kc_0 : ∀ j, j < 82 → M_61 (P + 3) j = M_61 (P + 3) j := fun _ _ => rfl
  by_cases c49 : y0_61 = 0
  · rw [if_pos c49] at h
    exact fun j hj => (p33_X8_firstRound_108 hk_k3 hk_k10 h j hj).trans (kc_0 j hj)
  · rw [if_neg c49] at h
    replace h := (zIx h).2
    replace h := (zIx h).2
    obtain ⟨e_90, f_e_90, h⟩ := zBx h
    obtain ⟨e_94, f_e_94, h⟩ := zBx h
    by_cases c50 : e_94 = 0
    · rw [if_pos c50] at h
      exact fun j hj => (p33_X8_firstRound_108 hk_k3 hk_k10 h j hj).trans (kc_0 j hj)
    · rw [if_neg c50] at h
      obtain ⟨e_105, f_e_105, h⟩ := zBx h
      have ke_105 : ∀ j, j < 82 → e_105 (P + 3) j = M_61 (P + 3) j := fun j hj => (p33_X8_gets f_e_105 j hj).trans (kc_0 j hj)
      exact fun j hj => (p33_X8_firstRound_108 hk_k3 hk_k10 h j hj).trans (ke_105 j hj)
set_option maxRecDepth 100000 in
set_option maxHeartbeats 4000000 in
theorem p33_X8_firstRound_60 {P : Nat} {k3 : Int32 → Int32 → Int32 → zMt → Option (zMt)} {k10 : Int32 → Int32 → Int32 → Int32 → zMt → Option (zMt)} {x1_60 : Int32} {x2_60 : Int32} {x3_60 : Int32} {x4_60 : Int32} {x5_60 : Int32} {M_60 : zMt} (hk_k3 : ∀ (y0 : Int32) (y1 : Int32) (y2 : Int32) (y3 : zMt) r, k3 y0 y1 y2 y3 = some r → ∀ j, j < 82 → r (P + 3) j = y3 (P + 3) j) (hk_k10 : ∀ (y0 : Int32) (y1 : Int32) (y2 : Int32) (y3 : Int32) (y4 : zMt) r, k10 y0 y1 y2 y3 y4 = some r → ∀ j, j < 82 → r (P + 3) j = y4 (P + 3) j) {r : (zMt)} (h : D_X8_firstRound_60 P k3 k10 x1_60 x2_60 x3_60 x4_60 x5_60 M_60 = some r) : ∀ j, j < 82 → r (P + 3) j = M_60 (P + 3) j := by
  unfold D_X8_firstRound_60 at h
  have kc_0 : ∀ j, j < 82 → M_60 (P + 3) j = M_60 (P + 3) j := fun _ _ => rfl
  exact fun j hj => (p33_X8_firstRound_61 hk_k3 hk_k10 h j hj).trans (kc_0 j hj)
set_option maxRecDepth 100000 in
set_option maxHeartbeats 4000000 in
theorem p33_X8_firstRound_10 {P : Nat} {k3 : Int32 → Int32 → Int32 → zMt → Option (zMt)} (hk_k3 : ∀ (y0 : Int32) (y1 : Int32) (y2 : Int32) (y3 : zMt) r, k3 y0 y1 y2 y3 = some r → ∀ j, j < 82 → r (P + 3) j = y3 (P + 3) j) : ∀ (u : Nat) (x1_10 : Int32) (x2_10 : Int32) (x3_10 : Int32) (x4_10 : Int32) (M_10 : zMt) (r : (zMt)), D_X8_firstRound_10 P k3 u x1_10 x2_10 x3_10 x4_10 M_10 = some r → ∀ j, j < 82 → r (P + 3) j = M_10 (P + 3) j := by
  intro u
  induction u with
  | zero =>
    intro x1_10 x2_10 x3_10 x4_10 M_10 r h
    cases h
  | succ u ih =>
    intro x1_10 x2_10 x3_10 x4_10 M_10 r h
    rw [D_X8_firstRound_10] at h
    have kc_0 : ∀ j, j < 82 → M_10 (P + 3) j = M_10 (P + 3) j := fun _ _ => rfl
    by_cases c47 : (M_10 P 33) ≤ x4_10
    · rw [if_pos c47] at h
      exact fun j hj => (hk_k3 _ _ _ _ _ h j hj).trans (kc_0 j hj)
    · rw [if_neg c47] at h
      replace h := (zIx h).2
      by_cases c48 : (M_10 (P + 18) x4_10.toNatClampNeg) = x2_10
      · rw [if_pos c48] at h
        exact fun j hj => (p33_X8_firstRound_60 hk_k3 ih h j hj).trans (kc_0 j hj)
      · rw [if_neg c48] at h
        obtain ⟨e_38, f_e_38, h⟩ := zBx h
        by_cases c51 : e_38 = x1_10
        · rw [if_pos c51] at h
          replace h := (zIx h).2
          by_cases c52 : (M_10 (P + 16) (M_10 (P + 18) x4_10.toNatClampNeg).toNatClampNeg) = x3_10
          · rw [if_pos c52] at h
            exact fun j hj => (p33_X8_firstRound_61 hk_k3 ih h j hj).trans (kc_0 j hj)
          · rw [if_neg c52] at h
            exact fun j hj => (p33_X8_firstRound_60 hk_k3 ih h j hj).trans (kc_0 j hj)
        · rw [if_neg c51] at h
          exact fun j hj => (p33_X8_firstRound_60 hk_k3 ih h j hj).trans (kc_0 j hj)
set_option maxRecDepth 100000 in
set_option maxHeartbeats 4000000 in
theorem p33_X8_firstRound_3 {P : Nat}  : ∀ (u : Nat) (x1_3 : Int32) (x2_3 : Int32) (x3_3 : Int32) (M_3 : zMt) (r : (zMt)), D_X8_firstRound_3 P u x1_3 x2_3 x3_3 M_3 = some r → ∀ j, j < 82 → r (P + 3) j = M_3 (P + 3) j := by
  intro u
  induction u with
  | zero =>
    intro x1_3 x2_3 x3_3 M_3 r h
    cases h
  | succ u ih =>
    intro x1_3 x2_3 x3_3 M_3 r h
    rw [D_X8_firstRound_3] at h
    have kc_0 : ∀ j, j < 82 → M_3 (P + 3) j = M_3 (P + 3) j := fun _ _ => rfl
    by_cases c46 : x3_3 < 0
    · rw [if_pos c46] at h
      cases h
      exact kc_0
    · rw [if_neg c46] at h
      exact fun j hj => (p33_X8_firstRound_10 ih _ _ _ _ _ _ _ h j hj).trans (kc_0 j hj)
set_option maxRecDepth 100000 in
set_option maxHeartbeats 4000000 in
theorem p33_X8_firstRound {P : Nat} {v0 : Int32} {v1 : Int32} {M : zMt}  {r : (zMt)} (h : D_X8_firstRound P v0 v1 M = some r) : ∀ j, j < 82 → r (P + 3) j = M (P + 3) j := by
  unfold D_X8_firstRound at h
  have kc_0 : ∀ j, j < 82 → M (P + 3) j = M (P + 3) j := fun _ _ => rfl
  exact fun j hj => (p33_X8_firstRound_3 _ _ _ _ _ _ h j hj).trans (kc_0 j hj)
set_option maxRecDepth 100000 in
set_option maxHeartbeats 4000000 in
theorem p33_X8_results_74 {P : Nat}  : ∀ (u : Nat) (x1_74 : Int32) (x2_74 : Int32) (M_74 : zMt) (r : (zMt)), D_X8_results_74 P u x1_74 x2_74 M_74 = some r → ∀ j, j < 82 → r (P + 3) j = M_74 (P + 3) j := by
  intro u
  induction u with
  | zero =>
    intro x1_74 x2_74 M_74 r h
    cases h
  | succ u ih =>
    intro x1_74 x2_74 M_74 r h
    rw [D_X8_results_74] at h
    have kc_0 : ∀ j, j < 82 → M_74 (P + 3) j = M_74 (P + 3) j := fun _ _ => rfl
    by_cases c40 : (M_74 P 7) ≤ x2_74
    · rw [if_pos c40] at h
      exact fun j hj => (p33_X8_results_96 _ _ _ _ _ h j hj).trans (kc_0 j hj)
    · rw [if_neg c40] at h
      obtain ⟨e_85, f_e_85, h⟩ := zBx h
      have ke_85 : ∀ j, j < 82 → e_85 (P + 3) j = M_74 (P + 3) j := fun j hj => (p33_X8_firstRound f_e_85 j hj).trans (kc_0 j hj)
      exact fun j hj => (ih _ _ _ _ h j hj).trans (ke_85 j hj)
set_option maxRecDepth 100000 in
set_option maxHeartbeats 4000000 in
theorem p33_X8_results_32 {P : Nat}  : ∀ (u : Nat) (x1_32 : Int32) (x2_32 : Int32) (M_32 : zMt) (r : (zMt)), D_X8_results_32 P u x1_32 x2_32 M_32 = some r → ∀ j, j < 82 → r (P + 3) j = M_32 (P + 3) j := by
  intro u
  induction u with
  | zero =>
    intro x1_32 x2_32 M_32 r h
    cases h
  | succ u ih =>
    intro x1_32 x2_32 M_32 r h
    rw [D_X8_results_32] at h
    have kc_0 : ∀ j, j < 82 → M_32 (P + 3) j = M_32 (P + 3) j := fun _ _ => rfl
    by_cases c39 : (M_32 P 7) ≤ x2_32
    · rw [if_pos c39] at h
      exact fun j hj => (p33_X8_results_74 _ _ _ _ _ h j hj).trans (kc_0 j hj)
    · rw [if_neg c39] at h
      replace h := (zIx h).2
      replace h := (zIx h).2
      obtain ⟨M_54, f_M_54, h⟩ := zLtx h
      have k_M_54 : ∀ j, j < 82 → M_54 (P + 3) j = M_32 (P + 3) j := fun j hj => (congrFun (congrFun f_M_54.symm (P + 3)) j).trans ((zu_ne (by omega)).trans (kc_0 j hj))
      obtain ⟨e_62, f_e_62, h⟩ := zBx h
      replace h := (zIx h).2
      obtain ⟨M_65, f_M_65, h⟩ := zLtx h
      have k_M_65 : ∀ j, j < 82 → M_65 (P + 3) j = M_32 (P + 3) j := fun j hj => (congrFun (congrFun f_M_65.symm (P + 3)) j).trans ((zu_ne (by omega)).trans (k_M_54 j hj))
      exact fun j hj => (ih _ _ _ _ h j hj).trans (k_M_65 j hj)
set_option maxRecDepth 100000 in
set_option maxHeartbeats 4000000 in
theorem p33_X8_results_2 {P : Nat}  : ∀ (u : Nat) (x1_2 : Int32) (x2_2 : Int32) (M_2 : zMt) (r : (zMt)), D_X8_results_2 P u x1_2 x2_2 M_2 = some r → ∀ j, j < 82 → r (P + 3) j = M_2 (P + 3) j := by
  intro u
  induction u with
  | zero =>
    intro x1_2 x2_2 M_2 r h
    cases h
  | succ u ih =>
    intro x1_2 x2_2 M_2 r h
    rw [D_X8_results_2] at h
    have kc_0 : ∀ j, j < 82 → M_2 (P + 3) j = M_2 (P + 3) j := fun _ _ => rfl
    by_cases c38 : (M_2 P 33) ≤ x2_2
    · rw [if_pos c38] at h
      exact fun j hj => (p33_X8_results_32 _ _ _ _ _ h j hj).trans (kc_0 j hj)
    · rw [if_neg c38] at h
      replace h := (zIx h).2
      obtain ⟨M_16, f_M_16, h⟩ := zLtx h
      have k_M_16 : ∀ j, j < 82 → M_16 (P + 3) j = M_2 (P + 3) j := fun j hj => (congrFun (congrFun f_M_16.symm (P + 3)) j).trans ((zu_ne (by omega)).trans (kc_0 j hj))
      replace h := (zIx h).2
      obtain ⟨M_23, f_M_23, h⟩ := zLtx h
      have k_M_23 : ∀ j, j < 82 → M_23 (P + 3) j = M_2 (P + 3) j := fun j hj => (congrFun (congrFun f_M_23.symm (P + 3)) j).trans ((zu_ne (by omega)).trans (k_M_16 j hj))
      exact fun j hj => (ih _ _ _ _ h j hj).trans (k_M_23 j hj)
set_option maxRecDepth 100000 in
set_option maxHeartbeats 4000000 in
theorem p33_X8_results {P : Nat} {v0 : Int32} {M : zMt}  {r : (zMt)} (h : D_X8_results P v0 M = some r) : ∀ j, j < 82 → r (P + 3) j = M (P + 3) j := by
  unfold D_X8_results at h
  have kc_0 : ∀ j, j < 82 → M (P + 3) j = M (P + 3) j := fun _ _ => rfl
  exact fun j hj => (p33_X8_results_2 _ _ _ _ _ h j hj).trans (kc_0 j hj)
set_option maxRecDepth 100000 in
set_option maxHeartbeats 4000000 in
theorem p33_X8_adds_208 {P : Nat} {x3_208 : Int32} {y1_208 : Int64} {y2_208 : Int64} {M_208 : zMt} {N_208 : zNt}  {r : (zMt × zNt)} (h : D_X8_adds_208 P x3_208 y1_208 y2_208 M_208 N_208 = some r) : ∀ j, j < 82 → r.1 (P + 3) j = M_208 (P + 3) j := by
  unfold D_X8_adds_208 at h
  have kc_0 : ∀ j, j < 82 → M_208 (P + 3) j = M_208 (P + 3) j := fun _ _ => rfl
  obtain ⟨N_209, f_N_209, h⟩ := zLtx h
  obtain ⟨M_219, f_M_219, h⟩ := zLtx h
  have k_M_219 : ∀ j, j < 82 → M_219 (P + 3) j = M_208 (P + 3) j := fun j hj => (congrFun (congrFun f_M_219.symm (P + 3)) j).trans ((zu_ne (by omega)).trans (kc_0 j hj))
  obtain ⟨M_229, f_M_229, h⟩ := zLtx h
  have k_M_229 : ∀ j, j < 82 → M_229 (P + 3) j = M_208 (P + 3) j := fun j hj => (congrFun (congrFun f_M_229.symm (P + 3)) j).trans ((zu_ne (by omega)).trans (k_M_219 j hj))
  replace h := (zIx h).2
  obtain ⟨M_238, f_M_238, h⟩ := zLtx h
  have k_M_238 : ∀ j, j < 82 → M_238 (P + 3) j = M_208 (P + 3) j := fun j hj => (congrFun (congrFun f_M_238.symm (P + 3)) j).trans ((zu_ne (by omega)).trans (k_M_229 j hj))
  obtain ⟨e_245, f_e_245, h⟩ := zBx h
  obtain ⟨M_251, f_M_251, h⟩ := zLtx h
  have k_M_251 : ∀ j, j < 82 → M_251 (P + 3) j = M_208 (P + 3) j := fun j hj => (congrFun (congrFun f_M_251.symm (P + 3)) j).trans ((zu_ne (by omega)).trans (k_M_238 j hj))
  obtain ⟨e_260, f_e_260, h⟩ := zBx h
  obtain ⟨M_266, f_M_266, h⟩ := zLtx h
  have k_M_266 : ∀ j, j < 82 → M_266 (P + 3) j = M_208 (P + 3) j := fun j hj => (congrFun (congrFun f_M_266.symm (P + 3)) j).trans ((zu_ne (by omega)).trans (k_M_251 j hj))
  cases h
  exact k_M_266
set_option maxRecDepth 100000 in
set_option maxHeartbeats 4000000 in
theorem p33_X8_adds_181 {P : Nat} {k5 : Int64 → Int32 → Int32 → zMt → zNt → Option (zMt × zNt)} {x1_181 : Int64} {x3_181 : Int32} {x4_181 : Int32} {M_181 : zMt} {N_181 : zNt} (hk_k5 : ∀ (y0 : Int64) (y1 : Int32) (y2 : Int32) (y3 : zMt) (y4 : zNt) r, k5 y0 y1 y2 y3 y4 = some r → ∀ j, j < 82 → r.1 (P + 3) j = y3 (P + 3) j) {r : (zMt × zNt)} (h : D_X8_adds_181 P k5 x1_181 x3_181 x4_181 M_181 N_181 = some r) : ∀ j, j < 82 → r.1 (P + 3) j = M_181 (P + 3) j := by
  unfold D_X8_adds_181 at h
  have kc_0 : ∀ j, j < 82 → M_181 (P + 3) j = M_181 (P + 3) j := fun _ _ => rfl
  exact fun j hj => (hk_k5 _ _ _ _ _ _ h j hj).trans (kc_0 j hj)
set_option maxRecDepth 100000 in
set_option maxHeartbeats 4000000 in
theorem p33_X8_adds_173 {P : Nat} {k5 : Int64 → Int32 → Int32 → zMt → zNt → Option (zMt × zNt)} {k134 : Int64 → Int32 → Int32 → Int32 → zMt → zNt → Option (zMt × zNt)} {x1_173 : Int64} {x3_173 : Int32} {x4_173 : Int32} {x5_173 : Int32} {y1_173 : Int32} {y2_173 : Int64} {y3_173 : Int64} {M_173 : zMt} {N_173 : zNt} (hk_k5 : ∀ (y0 : Int64) (y1 : Int32) (y2 : Int32) (y3 : zMt) (y4 : zNt) r, k5 y0 y1 y2 y3 y4 = some r → ∀ j, j < 82 → r.1 (P + 3) j = y3 (P + 3) j) (hk_k134 : ∀ (y0 : Int64) (y1 : Int32) (y2 : Int32) (y3 : Int32) (y4 : zMt) (y5 : zNt) r, k134 y0 y1 y2 y3 y4 y5 = some r → ∀ j, j < 82 → r.1 (P + 3) j = y4 (P + 3) j) {r : (zMt × zNt)} (h : D_X8_adds_173 P k5 k134 x1_173 x3_173 x4_173 x5_173 y1_173 y2_173 y3_173 M_173 N_173 = some r) : ∀ j, j < 82 → r.1 (P + 3) j = M_173 (P + 3) j := by
  unfold D_X8_adds_173 at h
  have kc_0 : ∀ j, j < 82 → M_173 (P + 3) j = M_173 (P + 3) j := fun _ _ => rfl
  replace h := (zIx h).2
  obtain ⟨N_174, f_N_174, h⟩ := zLtx h
  exact fun j hj => (hk_k134 _ _ _ _ _ _ _ h j hj).trans (kc_0 j hj)
set_option maxRecDepth 100000 in
set_option maxHeartbeats 4000000 in
theorem p33_X8_adds_134 {P : Nat} {k5 : Int64 → Int32 → Int32 → zMt → zNt → Option (zMt × zNt)} (hk_k5 : ∀ (y0 : Int64) (y1 : Int32) (y2 : Int32) (y3 : zMt) (y4 : zNt) r, k5 y0 y1 y2 y3 y4 = some r → ∀ j, j < 82 → r.1 (P + 3) j = y3 (P + 3) j) : ∀ (u : Nat) (x1_134 : Int64) (x3_134 : Int32) (x4_134 : Int32) (x5_134 : Int32) (M_134 : zMt) (N_134 : zNt) (r : (zMt × zNt)), D_X8_adds_134 P k5 u x1_134 x3_134 x4_134 x5_134 M_134 N_134 = some r → ∀ j, j < 82 → r.1 (P + 3) j = M_134 (P + 3) j := by
  intro u
  induction u with
  | zero =>
    intro x1_134 x3_134 x4_134 x5_134 M_134 N_134 r h
    cases h
  | succ u ih =>
    intro x1_134 x3_134 x4_134 x5_134 M_134 N_134 r h
    rw [D_X8_adds_134] at h
    have kc_0 : ∀ j, j < 82 → M_134 (P + 3) j = M_134 (P + 3) j := fun _ _ => rfl
    by_cases c58 : (M_134 P 33) ≤ x5_134
    · rw [if_pos c58] at h
      exact fun j hj => (p33_X8_adds_181 hk_k5 h j hj).trans (kc_0 j hj)
    · rw [if_neg c58] at h
      replace h := (zIx h).2
      replace h := (zIx h).2
      by_cases c59 : (M_134 (P + 19) x5_134.toNatClampNeg) = (-1 : Int32)
      · rw [if_pos c59] at h
        exact fun j hj => (p33_X8_adds_173 hk_k5 ih h j hj).trans (kc_0 j hj)
      · rw [if_neg c59] at h
        exact fun j hj => (p33_X8_adds_173 hk_k5 ih h j hj).trans (kc_0 j hj)
set_option maxRecDepth 100000 in
set_option maxHeartbeats 4000000 in
theorem p33_X8_adds_104 {P : Nat} {k5 : Int64 → Int32 → Int32 → zMt → zNt → Option (zMt × zNt)} {x1_104 : Int64} {x3_104 : Int32} {x4_104 : Int32} {y1_104 : Int32} {y2_104 : Int64} {y3_104 : Int64} {M_104 : zMt} {N_104 : zNt} (hk_k5 : ∀ (y0 : Int64) (y1 : Int32) (y2 : Int32) (y3 : zMt) (y4 : zNt) r, k5 y0 y1 y2 y3 y4 = some r → ∀ j, j < 82 → r.1 (P + 3) j = y3 (P + 3) j) {r : (zMt × zNt)} (h : D_X8_adds_104 P k5 x1_104 x3_104 x4_104 y1_104 y2_104 y3_104 M_104 N_104 = some r) : ∀ j, j < 82 → r.1 (P + 3) j = M_104 (P + 3) j := by
  unfold D_X8_adds_104 at h
  have kc_0 : ∀ j, j < 82 → M_104 (P + 3) j = M_104 (P + 3) j := fun _ _ => rfl
  replace h := (zIx h).2
  obtain ⟨N_105, f_N_105, h⟩ := zLtx h
  replace h := (zIx h).2
  replace h := (zIx h).2
  replace h := (zIx h).2
  replace h := (zIx h).2
  obtain ⟨N_130, f_N_130, h⟩ := zLtx h
  exact fun j hj => (p33_X8_adds_134 hk_k5 _ _ _ _ _ _ _ _ h j hj).trans (kc_0 j hj)
set_option maxRecDepth 100000 in
set_option maxHeartbeats 4000000 in
theorem p33_X8_adds_78 {P : Nat} {k5 : Int64 → Int32 → Int32 → zMt → zNt → Option (zMt × zNt)} {x1_78 : Int64} {x3_78 : Int32} {x4_78 : Int32} {y1_78 : Int32} {y2_78 : Int64} {y3_78 : Int64} {M_78 : zMt} {N_78 : zNt} (hk_k5 : ∀ (y0 : Int64) (y1 : Int32) (y2 : Int32) (y3 : zMt) (y4 : zNt) r, k5 y0 y1 y2 y3 y4 = some r → ∀ j, j < 82 → r.1 (P + 3) j = y3 (P + 3) j) {r : (zMt × zNt)} (h : D_X8_adds_78 P k5 x1_78 x3_78 x4_78 y1_78 y2_78 y3_78 M_78 N_78 = some r) : ∀ j, j < 82 → r.1 (P + 3) j = M_78 (P + 3) j := by
  unfold D_X8_adds_78 at h
  have kc_0 : ∀ j, j < 82 → M_78 (P + 3) j = M_78 (P + 3) j := fun _ _ => rfl
  replace h := (zIx h).2
  obtain ⟨N_79, f_N_79, h⟩ := zLtx h
  replace h := (zIx h).2
  replace h := (zIx h).2
  by_cases c57 : (M_78 (P + 20) x4_78.toNatClampNeg) = (1 : Int32)
  · rw [if_pos c57] at h
    exact fun j hj => (p33_X8_adds_104 hk_k5 h j hj).trans (kc_0 j hj)
  · rw [if_neg c57] at h
    exact fun j hj => (p33_X8_adds_104 hk_k5 h j hj).trans (kc_0 j hj)
set_option maxRecDepth 100000 in
set_option maxHeartbeats 4000000 in
theorem p33_X8_adds_5 {P : Nat}  : ∀ (u : Nat) (x1_5 : Int64) (x3_5 : Int32) (x4_5 : Int32) (M_5 : zMt) (N_5 : zNt) (r : (zMt × zNt)), D_X8_adds_5 P u x1_5 x3_5 x4_5 M_5 N_5 = some r → ∀ j, j < 82 → r.1 (P + 3) j = M_5 (P + 3) j := by
  intro u
  induction u with
  | zero =>
    intro x1_5 x3_5 x4_5 M_5 N_5 r h
    cases h
  | succ u ih =>
    intro x1_5 x3_5 x4_5 M_5 N_5 r h
    rw [D_X8_adds_5] at h
    have kc_0 : ∀ j, j < 82 → M_5 (P + 3) j = M_5 (P + 3) j := fun _ _ => rfl
    by_cases c53 : (M_5 P 33) ≤ x4_5
    · rw [if_pos c53] at h
      by_cases c54 : ((M_5 P 58) &&& (x3_5 ^^^ (-1 : Int32))) = 0
      · rw [if_pos c54] at h
        exact fun j hj => (p33_X8_adds_208 h j hj).trans (kc_0 j hj)
      · rw [if_neg c54] at h
        exact fun j hj => (p33_X8_adds_208 h j hj).trans (kc_0 j hj)
    · rw [if_neg c53] at h
      replace h := (zIx h).2
      by_cases c55 : (M_5 (P + 19) x4_5.toNatClampNeg) = (-1 : Int32)
      · rw [if_pos c55] at h
        exact fun j hj => (p33_X8_adds_181 ih h j hj).trans (kc_0 j hj)
      · rw [if_neg c55] at h
        replace h := (zIx h).2
        replace h := (zIx h).2
        replace h := (zIx h).2
        obtain ⟨N_55, f_N_55, h⟩ := zLtx h
        replace h := (zIx h).2
        obtain ⟨e_67, f_e_67, h⟩ := zBx h
        by_cases c56 : e_67 = 0
        · rw [if_pos c56] at h
          exact fun j hj => (p33_X8_adds_78 ih h j hj).trans (kc_0 j hj)
        · rw [if_neg c56] at h
          exact fun j hj => (p33_X8_adds_78 ih h j hj).trans (kc_0 j hj)
set_option maxRecDepth 100000 in
set_option maxHeartbeats 4000000 in
theorem p33_X8_adds {P : Nat} {v0 : Int64} {M : zMt} {N : zNt}  {r : (zMt × zNt)} (h : D_X8_adds P v0 M N = some r) : ∀ j, j < 82 → r.1 (P + 3) j = M (P + 3) j := by
  unfold D_X8_adds at h
  have kc_0 : ∀ j, j < 82 → M (P + 3) j = M (P + 3) j := fun _ _ => rfl
  exact fun j hj => (p33_X8_adds_5 _ _ _ _ _ _ _ h j hj).trans (kc_0 j hj)
set_option maxRecDepth 100000 in
set_option maxHeartbeats 4000000 in
theorem p33_X8_goesOn_124 {P : Nat} {rec : Int32 → Int32 → Int64 → zMt → zNt → Option (zMt × zNt)} {k69 : Int32 → Int32 → Int64 → Int64 → Int32 → zMt → zNt → Option (zMt × zNt)} {x1_124 : Int32} {x2_124 : Int32} {x3_124 : Int64} {x5_124 : Int64} {x7_124 : Int32} {M_124 : zMt} {N_124 : zNt} (hk_rec : ∀ (y0 : Int32) (y1 : Int32) (y2 : Int64) (y3 : zMt) (y4 : zNt) r, rec y0 y1 y2 y3 y4 = some r → ∀ j, j < 82 → r.1 (P + 3) j = y3 (P + 3) j) (hk_k69 : ∀ (y0 : Int32) (y1 : Int32) (y2 : Int64) (y3 : Int64) (y4 : Int32) (y5 : zMt) (y6 : zNt) r, k69 y0 y1 y2 y3 y4 y5 y6 = some r → ∀ j, j < 82 → r.1 (P + 3) j = y5 (P + 3) j) {r : (zMt × zNt)} (h : D_X8_goesOn_124 P rec k69 x1_124 x2_124 x3_124 x5_124 x7_124 M_124 N_124 = some r) : ∀ j, j < 82 → r.1 (P + 3) j = M_124 (P + 3) j := by
  unfold D_X8_goesOn_124 at h
  have kc_0 : ∀ j, j < 82 → M_124 (P + 3) j = M_124 (P + 3) j := fun _ _ => rfl
  exact fun j hj => (hk_k69 _ _ _ _ _ _ _ _ h j hj).trans (kc_0 j hj)
set_option maxRecDepth 100000 in
set_option maxHeartbeats 4000000 in
theorem p33_X8_goesOn_69 {P : Nat} {rec : Int32 → Int32 → Int64 → zMt → zNt → Option (zMt × zNt)} (hk_rec : ∀ (y0 : Int32) (y1 : Int32) (y2 : Int64) (y3 : zMt) (y4 : zNt) r, rec y0 y1 y2 y3 y4 = some r → ∀ j, j < 82 → r.1 (P + 3) j = y3 (P + 3) j) : ∀ (u : Nat) (x1_69 : Int32) (x2_69 : Int32) (x3_69 : Int64) (x5_69 : Int64) (x7_69 : Int32) (M_69 : zMt) (N_69 : zNt) (r : (zMt × zNt)), D_X8_goesOn_69 P rec u x1_69 x2_69 x3_69 x5_69 x7_69 M_69 N_69 = some r → ∀ j, j < 82 → r.1 (P + 3) j = M_69 (P + 3) j := by
  intro u
  induction u with
  | zero =>
    intro x1_69 x2_69 x3_69 x5_69 x7_69 M_69 N_69 r h
    cases h
  | succ u ih =>
    intro x1_69 x2_69 x3_69 x5_69 x7_69 M_69 N_69 r h
    rw [D_X8_goesOn_69] at h
    have kc_0 : ∀ j, j < 82 → M_69 (P + 3) j = M_69 (P + 3) j := fun _ _ => rfl
    by_cases c61 : (M_69 P 33) ≤ x7_69
    · rw [if_pos c61] at h
      cases h
      exact kc_0
    · rw [if_neg c61] at h
      obtain ⟨e_81, f_e_81, h⟩ := zBx h
      by_cases c62 : e_81 = 0
      · rw [if_pos c62] at h
        replace h := (zIx h).2
        obtain ⟨M_97, f_M_97, h⟩ := zLtx h
        have k_M_97 : ∀ j, j < 82 → M_97 (P + 3) j = M_69 (P + 3) j := fun j hj => (congrFun (congrFun f_M_97.symm (P + 3)) j).trans ((zu_ne (by omega)).trans (kc_0 j hj))
        replace h := (zIx h).2
        replace h := (zZlx h).2
        obtain ⟨e_121, f_e_121, h⟩ := zBx h
        have ke_121 : ∀ j, j < 82 → e_121.1 (P + 3) j = M_69 (P + 3) j := fun j hj => (hk_rec _ _ _ _ _ _ f_e_121 j hj).trans (k_M_97 j hj)
        exact fun j hj => (p33_X8_goesOn_124 hk_rec ih h j hj).trans (ke_121 j hj)
      · rw [if_neg c62] at h
        exact fun j hj => (p33_X8_goesOn_124 hk_rec ih h j hj).trans (kc_0 j hj)
set_option maxRecDepth 100000 in
set_option maxHeartbeats 4000000 in
theorem p33_X8_goesOn_57 {P : Nat} {rec : Int32 → Int32 → Int64 → zMt → zNt → Option (zMt × zNt)} {k25 : Int32 → Int32 → Int64 → Int64 → Int32 → zMt → zNt → Option (zMt × zNt)} {x1_57 : Int32} {x2_57 : Int32} {x3_57 : Int64} {x7_57 : Int32} {y0_57 : Int64} {y1_57 : Int64} {M_57 : zMt} {N_57 : zNt} (hk_rec : ∀ (y0 : Int32) (y1 : Int32) (y2 : Int64) (y3 : zMt) (y4 : zNt) r, rec y0 y1 y2 y3 y4 = some r → ∀ j, j < 82 → r.1 (P + 3) j = y3 (P + 3) j) (hk_k25 : ∀ (y0 : Int32) (y1 : Int32) (y2 : Int64) (y3 : Int64) (y4 : Int32) (y5 : zMt) (y6 : zNt) r, k25 y0 y1 y2 y3 y4 y5 y6 = some r → ∀ j, j < 82 → r.1 (P + 3) j = y5 (P + 3) j) {r : (zMt × zNt)} (h : D_X8_goesOn_57 P rec k25 x1_57 x2_57 x3_57 x7_57 y0_57 y1_57 M_57 N_57 = some r) : ∀ j, j < 82 → r.1 (P + 3) j = M_57 (P + 3) j := by
  unfold D_X8_goesOn_57 at h
  have kc_0 : ∀ j, j < 82 → M_57 (P + 3) j = M_57 (P + 3) j := fun _ _ => rfl
  exact fun j hj => (hk_k25 _ _ _ _ _ _ _ _ h j hj).trans (kc_0 j hj)
set_option maxRecDepth 100000 in
set_option maxHeartbeats 4000000 in
theorem p33_X8_goesOn_25 {P : Nat} {rec : Int32 → Int32 → Int64 → zMt → zNt → Option (zMt × zNt)} (hk_rec : ∀ (y0 : Int32) (y1 : Int32) (y2 : Int64) (y3 : zMt) (y4 : zNt) r, rec y0 y1 y2 y3 y4 = some r → ∀ j, j < 82 → r.1 (P + 3) j = y3 (P + 3) j) : ∀ (u : Nat) (x1_25 : Int32) (x2_25 : Int32) (x3_25 : Int64) (x5_25 : Int64) (x7_25 : Int32) (M_25 : zMt) (N_25 : zNt) (r : (zMt × zNt)), D_X8_goesOn_25 P rec u x1_25 x2_25 x3_25 x5_25 x7_25 M_25 N_25 = some r → ∀ j, j < 82 → r.1 (P + 3) j = M_25 (P + 3) j := by
  intro u
  induction u with
  | zero =>
    intro x1_25 x2_25 x3_25 x5_25 x7_25 M_25 N_25 r h
    cases h
  | succ u ih =>
    intro x1_25 x2_25 x3_25 x5_25 x7_25 M_25 N_25 r h
    rw [D_X8_goesOn_25] at h
    have kc_0 : ∀ j, j < 82 → M_25 (P + 3) j = M_25 (P + 3) j := fun _ _ => rfl
    by_cases c60 : (M_25 P 33) ≤ x7_25
    · rw [if_pos c60] at h
      exact fun j hj => (p33_X8_goesOn_69 hk_rec _ _ _ _ _ _ _ _ _ h j hj).trans (kc_0 j hj)
    · rw [if_neg c60] at h
      obtain ⟨e_39, f_e_39, h⟩ := zBx h
      by_cases c63 : e_39 = 0
      · rw [if_pos c63] at h
        replace h := (zIx h).2
        exact fun j hj => (p33_X8_goesOn_57 hk_rec ih h j hj).trans (kc_0 j hj)
      · rw [if_neg c63] at h
        exact fun j hj => (p33_X8_goesOn_57 hk_rec ih h j hj).trans (kc_0 j hj)
set_option maxRecDepth 100000 in
set_option maxHeartbeats 4000000 in
theorem p33_X8_goesOn {P : Nat}  : ∀ (u : Nat) (v0 : Int32) (v1 : Int32) (v2 : Int64) (M : zMt) (N : zNt) (r : (zMt × zNt)), D_X8_goesOn P u v0 v1 v2 M N = some r → ∀ j, j < 82 → r.1 (P + 3) j = M (P + 3) j := by
  intro u
  induction u with
  | zero =>
    intro v0 v1 v2 M N r h
    cases h
  | succ u ih =>
    intro v0 v1 v2 M N r h
    rw [D_X8_goesOn] at h
    have kc_0 : ∀ j, j < 82 → M (P + 3) j = M (P + 3) j := fun _ _ => rfl
    by_cases c37 : v0 = (M P 33)
    · rw [if_pos c37] at h
      obtain ⟨e_10, f_e_10, h⟩ := zBx h
      have ke_10 : ∀ j, j < 82 → e_10 (P + 3) j = M (P + 3) j := fun j hj => (p33_X8_results f_e_10 j hj).trans (kc_0 j hj)
      obtain ⟨e_15, f_e_15, h⟩ := zBx h
      have ke_15 : ∀ j, j < 82 → e_15.1 (P + 3) j = M (P + 3) j := fun j hj => (p33_X8_adds f_e_15 j hj).trans (ke_10 j hj)
      cases h
      exact ke_15
    · rw [if_neg c37] at h
      exact fun j hj => (p33_X8_goesOn_25 ih _ _ _ _ _ _ _ _ _ h j hj).trans (kc_0 j hj)
set_option maxRecDepth 100000 in
set_option maxHeartbeats 4000000 in
theorem p33_X8_allOrders_92 {P : Nat}  : ∀ (u : Nat) (x1_92 : Int32) (M_92 : zMt) (N_92 : zNt) (r : (zMt × zNt)), D_X8_allOrders_92 P u x1_92 M_92 N_92 = some r → ∀ j, j < 82 → r.1 (P + 3) j = M_92 (P + 3) j := by
  intro u
  induction u with
  | zero =>
    intro x1_92 M_92 N_92 r h
    cases h
  | succ u ih =>
    intro x1_92 M_92 N_92 r h
    rw [D_X8_allOrders_92] at h
    have kc_0 : ∀ j, j < 82 → M_92 (P + 3) j = M_92 (P + 3) j := fun _ _ => rfl
    by_cases c36 : (128 : Int32) ≤ x1_92
    · rw [if_pos c36] at h
      obtain ⟨N_114, f_N_114, h⟩ := zLtx h
      obtain ⟨M_126, f_M_126, h⟩ := zLtx h
      have k_M_126 : ∀ j, j < 82 → M_126 (P + 3) j = M_92 (P + 3) j := fun j hj => (congrFun (congrFun f_M_126.symm (P + 3)) j).trans ((zu_ne (by omega)).trans (kc_0 j hj))
      obtain ⟨M_131, f_M_131, h⟩ := zLtx h
      have k_M_131 : ∀ j, j < 82 → M_131 (P + 3) j = M_92 (P + 3) j := fun j hj => (congrFun (congrFun f_M_131.symm (P + 3)) j).trans ((zu_ne (by omega)).trans (k_M_126 j hj))
      obtain ⟨M_138, f_M_138, h⟩ := zLtx h
      have k_M_138 : ∀ j, j < 82 → M_138 (P + 3) j = M_92 (P + 3) j := fun j hj => (congrFun (congrFun f_M_138.symm (P + 3)) j).trans ((zu_ne (by omega)).trans (k_M_131 j hj))
      obtain ⟨M_143, f_M_143, h⟩ := zLtx h
      have k_M_143 : ∀ j, j < 82 → M_143 (P + 3) j = M_92 (P + 3) j := fun j hj => (congrFun (congrFun f_M_143.symm (P + 3)) j).trans ((zu_ne (by omega)).trans (k_M_138 j hj))
      obtain ⟨e_152, f_e_152, h⟩ := zBx h
      have ke_152 : ∀ j, j < 82 → e_152.1 (P + 3) j = M_92 (P + 3) j := fun j hj => (p33_X8_goesOn _ _ _ _ _ _ _ f_e_152 j hj).trans (k_M_143 j hj)
      cases h
      exact ke_152
    · rw [if_neg c36] at h
      replace h := (zIx h).2
      obtain ⟨M_105, f_M_105, h⟩ := zLtx h
      have k_M_105 : ∀ j, j < 82 → M_105 (P + 3) j = M_92 (P + 3) j := fun j hj => (congrFun (congrFun f_M_105.symm (P + 3)) j).trans ((zu_ne (by omega)).trans (kc_0 j hj))
      exact fun j hj => (ih _ _ _ _ h j hj).trans (k_M_105 j hj)
set_option maxRecDepth 100000 in
set_option maxHeartbeats 4000000 in
theorem p33_X8_allOrders_72 {P : Nat}  : ∀ (u : Nat) (x1_72 : Int32) (M_72 : zMt) (N_72 : zNt) (r : (zMt × zNt)), D_X8_allOrders_72 P u x1_72 M_72 N_72 = some r → ∀ j, j < 82 → r.1 (P + 3) j = M_72 (P + 3) j := by
  intro u
  induction u with
  | zero =>
    intro x1_72 M_72 N_72 r h
    cases h
  | succ u ih =>
    intro x1_72 M_72 N_72 r h
    rw [D_X8_allOrders_72] at h
    have kc_0 : ∀ j, j < 82 → M_72 (P + 3) j = M_72 (P + 3) j := fun _ _ => rfl
    by_cases c35 : (5 : Int32) ≤ x1_72
    · rw [if_pos c35] at h
      exact fun j hj => (p33_X8_allOrders_92 _ _ _ _ _ h j hj).trans (kc_0 j hj)
    · rw [if_neg c35] at h
      replace h := (zIx h).2
      obtain ⟨N_83, f_N_83, h⟩ := zLtx h
      exact fun j hj => (ih _ _ _ _ h j hj).trans (kc_0 j hj)
set_option maxRecDepth 100000 in
set_option maxHeartbeats 4000000 in
theorem p33_X8_allOrders_44 {P : Nat}  : ∀ (u : Nat) (x1_44 : Int32) (M_44 : zMt) (N_44 : zNt) (r : (zMt × zNt)), D_X8_allOrders_44 P u x1_44 M_44 N_44 = some r → ∀ j, j < 82 → r.1 (P + 3) j = M_44 (P + 3) j := by
  intro u
  induction u with
  | zero =>
    intro x1_44 M_44 N_44 r h
    cases h
  | succ u ih =>
    intro x1_44 M_44 N_44 r h
    rw [D_X8_allOrders_44] at h
    have kc_0 : ∀ j, j < 82 → M_44 (P + 3) j = M_44 (P + 3) j := fun _ _ => rfl
    by_cases c34 : (7 : Int32) ≤ x1_44
    · rw [if_pos c34] at h
      exact fun j hj => (p33_X8_allOrders_72 _ _ _ _ _ h j hj).trans (kc_0 j hj)
    · rw [if_neg c34] at h
      replace h := (zIx h).2
      obtain ⟨N_56, f_N_56, h⟩ := zLtx h
      replace h := (zIx h).2
      obtain ⟨N_63, f_N_63, h⟩ := zLtx h
      exact fun j hj => (ih _ _ _ _ h j hj).trans (kc_0 j hj)
set_option maxRecDepth 100000 in
set_option maxHeartbeats 4000000 in
theorem p33_X8_allOrders_23 {P : Nat}  : ∀ (u : Nat) (x1_23 : Int32) (M_23 : zMt) (N_23 : zNt) (r : (zMt × zNt)), D_X8_allOrders_23 P u x1_23 M_23 N_23 = some r → ∀ j, j < 82 → r.1 (P + 3) j = M_23 (P + 3) j := by
  intro u
  induction u with
  | zero =>
    intro x1_23 M_23 N_23 r h
    cases h
  | succ u ih =>
    intro x1_23 M_23 N_23 r h
    rw [D_X8_allOrders_23] at h
    have kc_0 : ∀ j, j < 82 → M_23 (P + 3) j = M_23 (P + 3) j := fun _ _ => rfl
    by_cases c33 : (49 : Int32) ≤ x1_23
    · rw [if_pos c33] at h
      exact fun j hj => (p33_X8_allOrders_44 _ _ _ _ _ h j hj).trans (kc_0 j hj)
    · rw [if_neg c33] at h
      replace h := (zIx h).2
      obtain ⟨N_35, f_N_35, h⟩ := zLtx h
      exact fun j hj => (ih _ _ _ _ h j hj).trans (kc_0 j hj)
set_option maxRecDepth 100000 in
set_option maxHeartbeats 4000000 in
theorem p33_X8_allOrders_2 {P : Nat}  : ∀ (u : Nat) (x1_2 : Int32) (M_2 : zMt) (N_2 : zNt) (r : (zMt × zNt)), D_X8_allOrders_2 P u x1_2 M_2 N_2 = some r → ∀ j, j < 82 → r.1 (P + 3) j = M_2 (P + 3) j := by
  intro u
  induction u with
  | zero =>
    intro x1_2 M_2 N_2 r h
    cases h
  | succ u ih =>
    intro x1_2 M_2 N_2 r h
    rw [D_X8_allOrders_2] at h
    have kc_0 : ∀ j, j < 82 → M_2 (P + 3) j = M_2 (P + 3) j := fun _ _ => rfl
    by_cases c32 : (35 : Int32) ≤ x1_2
    · rw [if_pos c32] at h
      exact fun j hj => (p33_X8_allOrders_23 _ _ _ _ _ h j hj).trans (kc_0 j hj)
    · rw [if_neg c32] at h
      replace h := (zIx h).2
      obtain ⟨N_14, f_N_14, h⟩ := zLtx h
      exact fun j hj => (ih _ _ _ _ h j hj).trans (kc_0 j hj)
set_option maxRecDepth 100000 in
set_option maxHeartbeats 4000000 in
theorem p33_X8_allOrders {P : Nat} {M : zMt} {N : zNt}  {r : (zMt × zNt)} (h : D_X8_allOrders P M N = some r) : ∀ j, j < 82 → r.1 (P + 3) j = M (P + 3) j := by
  unfold D_X8_allOrders at h
  have kc_0 : ∀ j, j < 82 → M (P + 3) j = M (P + 3) j := fun _ _ => rfl
  exact fun j hj => (p33_X8_allOrders_2 _ _ _ _ _ h j hj).trans (kc_0 j hj)
set_option maxRecDepth 100000 in
set_option maxHeartbeats 4000000 in
theorem p33_X8_laysAll {P : Nat} {M : zMt} {N : zNt}  {r : (zMt × zNt)} (h : D_X8_laysAll P M N = some r) : ∀ j, j < 82 → r.1 (P + 3) j = M (P + 3) j := by
  unfold D_X8_laysAll at h
  have kc_0 : ∀ j, j < 82 → M (P + 3) j = M (P + 3) j := fun _ _ => rfl
  obtain ⟨e_1, f_e_1, h⟩ := zBx h
  have ke_1 : ∀ j, j < 82 → e_1 (P + 3) j = M (P + 3) j := fun j hj => (p33_X8_laysApplicants f_e_1 j hj).trans (kc_0 j hj)
  obtain ⟨e_5, f_e_5, h⟩ := zBx h
  have ke_5 : ∀ j, j < 82 → e_5.1 (P + 3) j = M (P + 3) j := fun j hj => (p33_X8_allOrders f_e_5 j hj).trans (ke_1 j hj)
  cases h
  exact ke_5
set_option maxRecDepth 100000 in
set_option maxHeartbeats 4000000 in
theorem p31_X8_need_129 {P : Nat} {k81 : Int32 → Int32 → Int32 → Int32 → Int32 → zMt → zNt → Option (Int32 × zMt × zNt)} {x1_129 : Int32} {x2_129 : Int32} {x3_129 : Int32} {x5_129 : Int32} {y0_129 : Int32} {M_129 : zMt} {N_129 : zNt} (hk_k81 : ∀ (y0 : Int32) (y1 : Int32) (y2 : Int32) (y3 : Int32) (y4 : Int32) (y5 : zMt) (y6 : zNt) r, k81 y0 y1 y2 y3 y4 y5 y6 = some r → ∀ j, j < 82 → r.2.1 (P + 1) j = y5 (P + 3) j) {r : (Int32 × zMt × zNt)} (h : D_X8_need_129 P k81 x1_129 x2_129 x3_129 x5_129 y0_129 M_129 N_129 = some r) : ∀ j, j < 82 → r.2.1 (P + 1) j = M_129 (P + 3) j := by
  unfold D_X8_need_129 at h
  have kc_0 : ∀ j, j < 82 → M_129 (P + 3) j = M_129 (P + 3) j := fun _ _ => rfl
  exact fun j hj => (hk_k81 _ _ _ _ _ _ _ _ h j hj).trans (kc_0 j hj)
set_option maxRecDepth 100000 in
set_option maxHeartbeats 4000000 in
theorem p31_X8_need_81 {P : Nat}  : ∀ (u : Nat) (x1_81 : Int32) (x2_81 : Int32) (x3_81 : Int32) (x4_81 : Int32) (x5_81 : Int32) (M_81 : zMt) (N_81 : zNt) (r : (Int32 × zMt × zNt)), D_X8_need_81 P u x1_81 x2_81 x3_81 x4_81 x5_81 M_81 N_81 = some r → ∀ j, j < 82 → r.2.1 (P + 1) j = M_81 (P + 3) j := by
  intro u
  induction u with
  | zero =>
    intro x1_81 x2_81 x3_81 x4_81 x5_81 M_81 N_81 r h
    cases h
  | succ u ih =>
    intro x1_81 x2_81 x3_81 x4_81 x5_81 M_81 N_81 r h
    rw [D_X8_need_81] at h
    have kc_0 : ∀ j, j < 82 → M_81 (P + 3) j = M_81 (P + 3) j := fun _ _ => rfl
    by_cases c18 : (20 : Int32) < x5_81
    · rw [if_pos c18] at h
      exact fun j hj => (p31_X8_need_137 h j hj).trans (kc_0 j hj)
    · rw [if_neg c18] at h
      by_cases c20 : x4_81 = (-1 : Int32)
      · rw [if_pos c20] at h
        replace h := (zIx h).2
        obtain ⟨M_103, f_M_103, h⟩ := zLtx h
        have k_M_103 : ∀ j, j < 82 → M_103 (P + 3) j = M_81 (P + 3) j := fun j hj => (congrFun (congrFun f_M_103.symm (P + 3)) j).trans ((zu_ne (by omega)).trans (kc_0 j hj))
        obtain ⟨e_105, f_e_105, h⟩ := zBx h
        have ke_105 : ∀ j, j < 82 → e_105.1 (P + 3) j = M_81 (P + 3) j := fun j hj => (p33_X8_laysAll f_e_105 j hj).trans (k_M_103 j hj)
        obtain ⟨e_110, f_e_110, h⟩ := zBx h
        by_cases c64 : (lg_cmp (e_110 / (1000000000 : Int64)) (Int32.toInt64 x2_81)) < 0
        · rw [if_pos c64] at h
          exact fun j hj => (p31_X8_need_129 ih h j hj).trans (ke_105 j hj)
        · rw [if_neg c64] at h
          exact fun j hj => (p31_X8_need_129 ih h j hj).trans (ke_105 j hj)
      · rw [if_neg c20] at h
        exact fun j hj => (p31_X8_need_137 h j hj).trans (kc_0 j hj)
set_option maxRecDepth 100000 in
set_option maxHeartbeats 4000000 in
theorem p11_X8_need {P : Nat} {v0 : Int32} {v1 : Int32} {M : zMt} {N : zNt}  {r : (Int32 × zMt × zNt)} (h : D_X8_need P v0 v1 M N = some r) : ∀ j, j < 82 → r.2.1 (P + 1) j = M (P + 1) j := by
  unfold D_X8_need at h
  have kc_0 : ∀ j, j < 82 → M (P + 1) j = M (P + 1) j := fun _ _ => rfl
  obtain ⟨e_6, f_e_6, h⟩ := zBx h
  by_cases c1 : e_6 = 0
  · rw [if_pos c1] at h
    obtain ⟨e_14, f_e_14, h⟩ := zBx h
    have ke_14 : ∀ j, j < 82 → e_14.2 (P + 1) j = M (P + 1) j := fun j hj => (p11_X8_refuse f_e_14 j hj).trans (kc_0 j hj)
    cases h
    exact ke_14
  · rw [if_neg c1] at h
    obtain ⟨e_20, f_e_20, h⟩ := zBx h
    by_cases c2 : e_20 = 0
    · rw [if_pos c2] at h
      obtain ⟨e_28, f_e_28, h⟩ := zBx h
      have ke_28 : ∀ j, j < 82 → e_28.2 (P + 1) j = M (P + 1) j := fun j hj => (p11_X8_refuse f_e_28 j hj).trans (kc_0 j hj)
      cases h
      exact ke_28
    · rw [if_neg c2] at h
      replace h := (zIx h).2
      by_cases c3 : (M (P + 1) ((10 : Int32) + v0).toNatClampNeg) = (-1 : Int32)
      · rw [if_pos c3] at h
        obtain ⟨e_53, f_e_53, h⟩ := zBx h
        have ke_53 : ∀ j, j < 82 → e_53.2 (P + 1) j = M (P + 1) j := fun j hj => (p11_X8_areMany f_e_53 j hj).trans (kc_0 j hj)
        by_cases c16 : e_53.1 = 0
        · rw [if_pos c16] at h
          obtain ⟨e_67, f_e_67, h⟩ := zBx h
          have ke_67 : ∀ j, j < 82 → e_67.2 (P + 1) j = M (P + 1) j := fun j hj => (p11_X8_applicantOf f_e_67 j hj).trans (ke_53 j hj)
          obtain ⟨e_72, f_e_72, h⟩ := zBx h
          have ke_72 : ∀ j, j < 82 → e_72 (P + 3) j = M (P + 1) j := fun j hj => (pputs f_e_72 j hj).trans (ke_67 j hj)
          exact fun j hj => (p31_X8_need_81 _ _ _ _ _ _ _ _ _ h j hj).trans (ke_72 j hj)
        · rw [if_neg c16] at h
          obtain ⟨e_61, f_e_61, h⟩ := zBx h
          have ke_61 : ∀ j, j < 82 → e_61.2 (P + 1) j = M (P + 1) j := fun j hj => (p11_X8_refuse f_e_61 j hj).trans (ke_53 j hj)
          cases h
          exact ke_61
      · rw [if_neg c3] at h
        obtain ⟨e_48, f_e_48, h⟩ := zBx h
        have ke_48 : ∀ j, j < 82 → e_48.2 (P + 1) j = M (P + 1) j := fun j hj => (p11_X8_refuse f_e_48 j hj).trans (kc_0 j hj)
        cases h
        exact ke_48
set_option maxRecDepth 100000 in
set_option maxHeartbeats 4000000 in
theorem p31_X8_wisest_90 {P : Nat} {k15 : Int32 → Int32 → Int32 → zMt → zNt → Option (Int32 × zMt × zNt)} {x1_90 : Int32} {x2_90 : Int32} {x3_90 : Int32} {M_90 : zMt} {N_90 : zNt} (hk_k15 : ∀ (y0 : Int32) (y1 : Int32) (y2 : Int32) (y3 : zMt) (y4 : zNt) r, k15 y0 y1 y2 y3 y4 = some r → ∀ j, j < 82 → r.2.1 (P + 1) j = y3 (P + 3) j) {r : (Int32 × zMt × zNt)} (h : D_X8_wisest_90 P k15 x1_90 x2_90 x3_90 M_90 N_90 = some r) : ∀ j, j < 82 → r.2.1 (P + 1) j = M_90 (P + 3) j := by
  unfold D_X8_wisest_90 at h
  have kc_0 : ∀ j, j < 82 → M_90 (P + 3) j = M_90 (P + 3) j := fun _ _ => rfl
  exact fun j hj => (hk_k15 _ _ _ _ _ _ h j hj).trans (kc_0 j hj)
set_option maxRecDepth 100000 in
set_option maxHeartbeats 4000000 in
theorem p31_X8_wisest_55 {P : Nat} {k15 : Int32 → Int32 → Int32 → zMt → zNt → Option (Int32 × zMt × zNt)} {k26 : Int32 → Int32 → Int32 → Int32 → zMt → zNt → Option (Int32 × zMt × zNt)} {x1_55 : Int32} {x2_55 : Int32} {x3_55 : Int32} {x4_55 : Int32} {y1_55 : Int32} {y2_55 : Int32} {M_55 : zMt} {N_55 : zNt} (hk_k15 : ∀ (y0 : Int32) (y1 : Int32) (y2 : Int32) (y3 : zMt) (y4 : zNt) r, k15 y0 y1 y2 y3 y4 = some r → ∀ j, j < 82 → r.2.1 (P + 1) j = y3 (P + 3) j) (hk_k26 : ∀ (y0 : Int32) (y1 : Int32) (y2 : Int32) (y3 : Int32) (y4 : zMt) (y5 : zNt) r, k26 y0 y1 y2 y3 y4 y5 = some r → ∀ j, j < 82 → r.2.1 (P + 1) j = y4 (P + 3) j) {r : (Int32 × zMt × zNt)} (h : D_X8_wisest_55 P k15 k26 x1_55 x2_55 x3_55 x4_55 y1_55 y2_55 M_55 N_55 = some r) : ∀ j, j < 82 → r.2.1 (P + 1) j = M_55 (P + 3) j := by
  unfold D_X8_wisest_55 at h
  have kc_0 : ∀ j, j < 82 → M_55 (P + 3) j = M_55 (P + 3) j := fun _ _ => rfl
  replace h := (zIx h).2
  obtain ⟨M_55', f_M_55', h⟩ := zLtx h
  have k_M_55' : ∀ j, j < 82 → M_55' (P + 3) j = M_55 (P + 3) j := fun j hj => (congrFun (congrFun f_M_55'.symm (P + 3)) j).trans ((zu_ne (by omega)).trans (kc_0 j hj))
  exact fun j hj => (hk_k26 _ _ _ _ _ _ _ h j hj).trans (k_M_55' j hj)
set_option maxRecDepth 100000 in
set_option maxHeartbeats 4000000 in
theorem p31_X8_wisest_26 {P : Nat} {k15 : Int32 → Int32 → Int32 → zMt → zNt → Option (Int32 × zMt × zNt)} (hk_k15 : ∀ (y0 : Int32) (y1 : Int32) (y2 : Int32) (y3 : zMt) (y4 : zNt) r, k15 y0 y1 y2 y3 y4 = some r → ∀ j, j < 82 → r.2.1 (P + 1) j = y3 (P + 3) j) : ∀ (u : Nat) (x1_26 : Int32) (x2_26 : Int32) (x3_26 : Int32) (x4_26 : Int32) (M_26 : zMt) (N_26 : zNt) (r : (Int32 × zMt × zNt)), D_X8_wisest_26 P k15 u x1_26 x2_26 x3_26 x4_26 M_26 N_26 = some r → ∀ j, j < 82 → r.2.1 (P + 1) j = M_26 (P + 3) j := by
  intro u
  induction u with
  | zero =>
    intro x1_26 x2_26 x3_26 x4_26 M_26 N_26 r h
    cases h
  | succ u ih =>
    intro x1_26 x2_26 x3_26 x4_26 M_26 N_26 r h
    rw [D_X8_wisest_26] at h
    have kc_0 : ∀ j, j < 82 → M_26 (P + 3) j = M_26 (P + 3) j := fun _ _ => rfl
    by_cases c66 : (3 : Int32) ≤ x4_26
    · rw [if_pos c66] at h
      obtain ⟨e_63, f_e_63, h⟩ := zBx h
      have ke_63 : ∀ j, j < 82 → e_63.1 (P + 3) j = M_26 (P + 3) j := fun j hj => (p33_X8_laysAll f_e_63 j hj).trans (kc_0 j hj)
      obtain ⟨e_68, f_e_68, h⟩ := zBx h
      by_cases c67 : (lg_cmp e_68 (e_63.2 P 60)) ≤ 0
      · rw [if_pos c67] at h
        exact fun j hj => (p31_X8_wisest_90 hk_k15 h j hj).trans (ke_63 j hj)
      · rw [if_neg c67] at h
        obtain ⟨e_84, f_e_84, h⟩ := zBx h
        obtain ⟨N_87, f_N_87, h⟩ := zLtx h
        exact fun j hj => (p31_X8_wisest_90 hk_k15 h j hj).trans (ke_63 j hj)
    · rw [if_neg c66] at h
      replace h := (zIx h).2
      by_cases c68 : x4_26 = 0
      · rw [if_pos c68] at h
        exact fun j hj => (p31_X8_wisest_55 hk_k15 ih h j hj).trans (kc_0 j hj)
      · rw [if_neg c68] at h
        exact fun j hj => (p31_X8_wisest_55 hk_k15 ih h j hj).trans (kc_0 j hj)
set_option maxRecDepth 100000 in
set_option maxHeartbeats 4000000 in
theorem p31_X8_wisest_15 {P : Nat}  : ∀ (u : Nat) (x1_15 : Int32) (x2_15 : Int32) (x3_15 : Int32) (M_15 : zMt) (N_15 : zNt) (r : (Int32 × zMt × zNt)), D_X8_wisest_15 P u x1_15 x2_15 x3_15 M_15 N_15 = some r → ∀ j, j < 82 → r.2.1 (P + 1) j = M_15 (P + 3) j := by
  intro u
  induction u with
  | zero =>
    intro x1_15 x2_15 x3_15 M_15 N_15 r h
    cases h
  | succ u ih =>
    intro x1_15 x2_15 x3_15 M_15 N_15 r h
    rw [D_X8_wisest_15] at h
    have kc_0 : ∀ j, j < 82 → M_15 (P + 3) j = M_15 (P + 3) j := fun _ _ => rfl
    by_cases c65 : (M_15 P 7) ≤ x3_15
    · rw [if_pos c65] at h
      obtain ⟨e_97, f_e_97, h⟩ := zBx h
      have ke_97 : ∀ j, j < 82 → e_97 (P + 1) j = M_15 (P + 3) j := fun j hj => (ptakes f_e_97 j hj).trans (kc_0 j hj)
      cases h
      exact ke_97
    · rw [if_neg c65] at h
      exact fun j hj => (p31_X8_wisest_26 ih _ _ _ _ _ _ _ _ h j hj).trans (kc_0 j hj)
set_option maxRecDepth 100000 in
set_option maxHeartbeats 4000000 in
theorem p11_X8_wisest {P : Nat} {v0 : Int32} {M : zMt} {N : zNt}  {r : (Int32 × zMt × zNt)} (h : D_X8_wisest P v0 M N = some r) : ∀ j, j < 82 → r.2.1 (P + 1) j = M (P + 1) j := by
  unfold D_X8_wisest at h
  have kc_0 : ∀ j, j < 82 → M (P + 1) j = M (P + 1) j := fun _ _ => rfl
  obtain ⟨e_1, f_e_1, h⟩ := zBx h
  have ke_1 : ∀ j, j < 82 → e_1 (P + 3) j = M (P + 1) j := fun j hj => (pputs f_e_1 j hj).trans (kc_0 j hj)
  obtain ⟨N_10, f_N_10, h⟩ := zLtx h
  exact fun j hj => (p31_X8_wisest_15 _ _ _ _ _ _ _ h j hj).trans (ke_1 j hj)
set_option maxRecDepth 100000 in
set_option maxHeartbeats 4000000 in
theorem p11_X8_isApplicant {P : Nat} {v0 : Int32} {M : zMt}  {r : (Int32 × zMt)} (h : D_X8_isApplicant P v0 M = some r) : ∀ j, j < 82 → r.2 (P + 1) j = M (P + 1) j := by
  unfold D_X8_isApplicant at h
  have kc_0 : ∀ j, j < 82 → M (P + 1) j = M (P + 1) j := fun _ _ => rfl
  obtain ⟨e_1, f_e_1, h⟩ := zBx h
  have ke_1 : ∀ j, j < 82 → e_1 (P + 1) j = M (P + 1) j := fun j hj => (p11_X8_laysApplicants f_e_1 j hj).trans (kc_0 j hj)
  obtain ⟨e_14, f_e_14, h⟩ := zBx h
  cases h
  exact ke_1
set_option maxRecDepth 100000 in
set_option maxHeartbeats 4000000 in
theorem p11_X8_wise_51 {P : Nat} {y0_51 : Int32} {M_51 : zMt} {N_51 : zNt}  {r : (Int32 × zMt × zNt)} (h : D_X8_wise_51 P y0_51 M_51 N_51 = some r) : ∀ j, j < 82 → r.2.1 (P + 1) j = M_51 (P + 1) j := by
  unfold D_X8_wise_51 at h
  have kc_0 : ∀ j, j < 82 → M_51 (P + 1) j = M_51 (P + 1) j := fun _ _ => rfl
  cases h
  exact kc_0
set_option maxRecDepth 100000 in
set_option maxHeartbeats 4000000 in
theorem p11_X8_wise {P : Nat} {v0 : Int32} {M : zMt} {N : zNt}  {r : (Int32 × zMt × zNt)} (h : D_X8_wise P v0 M N = some r) : ∀ j, j < 82 → r.2.1 (P + 1) j = M (P + 1) j := by
  unfold D_X8_wise at h
  have kc_0 : ∀ j, j < 82 → M (P + 1) j = M (P + 1) j := fun _ _ => rfl
  obtain ⟨e_2, f_e_2, h⟩ := zBx h
  have ke_2 : ∀ j, j < 82 → e_2.2 (P + 1) j = M (P + 1) j := fun j hj => (p11_X8_isApplicant f_e_2 j hj).trans (kc_0 j hj)
  by_cases c69 : e_2.1 = 0
  · rw [if_pos c69] at h
    obtain ⟨e_10, f_e_10, h⟩ := zBx h
    have ke_10 : ∀ j, j < 82 → e_10.2 (P + 1) j = M (P + 1) j := fun j hj => (p11_X8_refuse f_e_10 j hj).trans (ke_2 j hj)
    cases h
    exact ke_10
  · rw [if_neg c69] at h
    obtain ⟨e_15, f_e_15, h⟩ := zBx h
    have ke_15 : ∀ j, j < 82 → e_15.2 (P + 1) j = M (P + 1) j := fun j hj => (p11_X8_areMany f_e_15 j hj).trans (ke_2 j hj)
    by_cases c70 : e_15.1 = 0
    · rw [if_pos c70] at h
      obtain ⟨e_29, f_e_29, h⟩ := zBx h
      have ke_29 : ∀ j, j < 82 → e_29.2.1 (P + 1) j = M (P + 1) j := fun j hj => (p11_X8_wisest f_e_29 j hj).trans (ke_15 j hj)
      by_cases c71 : e_29.1 = (-1 : Int32)
      · rw [if_pos c71] at h
        obtain ⟨e_40, f_e_40, h⟩ := zBx h
        have ke_40 : ∀ j, j < 82 → e_40.2 (P + 1) j = M (P + 1) j := fun j hj => (p11_X8_refuse f_e_40 j hj).trans (ke_29 j hj)
        exact fun j hj => (p11_X8_wise_51 h j hj).trans (ke_40 j hj)
      · rw [if_neg c71] at h
        obtain ⟨e_48, f_e_48, h⟩ := zBx h
        have ke_48 : ∀ j, j < 82 → e_48.2 (P + 1) j = M (P + 1) j := fun j hj => (p11_X8_gives f_e_48 j hj).trans (ke_29 j hj)
        exact fun j hj => (p11_X8_wise_51 h j hj).trans (ke_48 j hj)
    · rw [if_neg c70] at h
      obtain ⟨e_23, f_e_23, h⟩ := zBx h
      have ke_23 : ∀ j, j < 82 → e_23.2 (P + 1) j = M (P + 1) j := fun j hj => (p11_X8_refuse f_e_23 j hj).trans (ke_15 j hj)
      cases h
      exact ke_23
set_option maxRecDepth 100000 in
set_option maxHeartbeats 4000000 in
theorem p11_X8_wiseChance_55 {P : Nat} {y0_55 : Int64} {M_55 : zMt} {N_55 : zNt}  {r : (Int64 × zMt × zNt)} (h : D_X8_wiseChance_55 P y0_55 M_55 N_55 = some r) : ∀ j, j < 82 → r.2.1 (P + 1) j = M_55 (P + 1) j := by
  unfold D_X8_wiseChance_55 at h
  have kc_0 : ∀ j, j < 82 → M_55 (P + 1) j = M_55 (P + 1) j := fun _ _ => rfl
  cases h
  exact kc_0
set_option maxRecDepth 100000 in
set_option maxHeartbeats 4000000 in
theorem p11_X8_givesLong {P : Nat} {v0 : Int64} {M : zMt}  {r : (Int64 × zMt)} (h : D_X8_givesLong P v0 M = some r) : ∀ j, j < 82 → r.2 (P + 1) j = M (P + 1) j := by
  unfold D_X8_givesLong at h
  have kc_0 : ∀ j, j < 82 → M (P + 1) j = M (P + 1) j := fun _ _ => rfl
  obtain ⟨M_2, f_M_2, h⟩ := zLtx h
  have k_M_2 : ∀ j, j < 82 → M_2 (P + 1) j = M (P + 1) j := fun j hj => (congrFun (congrFun f_M_2.symm (P + 1)) j).trans ((zu_ne (by omega)).trans (kc_0 j hj))
  obtain ⟨M_7, f_M_7, h⟩ := zLtx h
  have k_M_7 : ∀ j, j < 82 → M_7 (P + 1) j = M (P + 1) j := fun j hj => (congrFun (congrFun f_M_7.symm (P + 1)) j).trans ((zu_ne (by omega)).trans (k_M_2 j hj))
  cases h
  exact k_M_7
set_option maxRecDepth 100000 in
set_option maxHeartbeats 4000000 in
theorem p11_X8_wiseChance {P : Nat} {v0 : Int32} {M : zMt} {N : zNt}  {r : (Int64 × zMt × zNt)} (h : D_X8_wiseChance P v0 M N = some r) : ∀ j, j < 82 → r.2.1 (P + 1) j = M (P + 1) j := by
  unfold D_X8_wiseChance at h
  have kc_0 : ∀ j, j < 82 → M (P + 1) j = M (P + 1) j := fun _ _ => rfl
  obtain ⟨e_2, f_e_2, h⟩ := zBx h
  have ke_2 : ∀ j, j < 82 → e_2.2 (P + 1) j = M (P + 1) j := fun j hj => (p11_X8_isApplicant f_e_2 j hj).trans (kc_0 j hj)
  by_cases c72 : e_2.1 = 0
  · rw [if_pos c72] at h
    obtain ⟨e_10, f_e_10, h⟩ := zBx h
    have ke_10 : ∀ j, j < 82 → e_10.2 (P + 1) j = M (P + 1) j := fun j hj => (p11_X8_refuse f_e_10 j hj).trans (ke_2 j hj)
    cases h
    exact ke_10
  · rw [if_neg c72] at h
    obtain ⟨e_16, f_e_16, h⟩ := zBx h
    have ke_16 : ∀ j, j < 82 → e_16.2 (P + 1) j = M (P + 1) j := fun j hj => (p11_X8_areMany f_e_16 j hj).trans (ke_2 j hj)
    by_cases c73 : e_16.1 = 0
    · rw [if_pos c73] at h
      obtain ⟨e_31, f_e_31, h⟩ := zBx h
      have ke_31 : ∀ j, j < 82 → e_31.2.1 (P + 1) j = M (P + 1) j := fun j hj => (p11_X8_wisest f_e_31 j hj).trans (ke_16 j hj)
      by_cases c74 : e_31.1 = (-1 : Int32)
      · rw [if_pos c74] at h
        obtain ⟨e_40, f_e_40, h⟩ := zBx h
        have ke_40 : ∀ j, j < 82 → e_40.2 (P + 1) j = M (P + 1) j := fun j hj => (p11_X8_refuse f_e_40 j hj).trans (ke_31 j hj)
        exact fun j hj => (p11_X8_wiseChance_55 h j hj).trans (ke_40 j hj)
      · rw [if_neg c74] at h
        obtain ⟨e_52, f_e_52, h⟩ := zBx h
        have ke_52 : ∀ j, j < 82 → e_52.2 (P + 1) j = M (P + 1) j := fun j hj => (p11_X8_givesLong f_e_52 j hj).trans (ke_31 j hj)
        exact fun j hj => (p11_X8_wiseChance_55 h j hj).trans (ke_52 j hj)
    · rw [if_neg c73] at h
      obtain ⟨e_24, f_e_24, h⟩ := zBx h
      have ke_24 : ∀ j, j < 82 → e_24.2 (P + 1) j = M (P + 1) j := fun j hj => (p11_X8_refuse f_e_24 j hj).trans (ke_16 j hj)
      cases h
      exact ke_24
set_option maxRecDepth 100000 in
set_option maxHeartbeats 4000000 in
theorem p33_X8_splits_157 {P : Nat} {k122 : Int32 → zMt → Option (zMt)} {x2_157 : Int32} {y1_157 : Int32} {y2_157 : Int32} {M_157 : zMt} (hk_k122 : ∀ (y0 : Int32) (y1 : zMt) r, k122 y0 y1 = some r → ∀ j, j < 82 → r (P + 3) j = y1 (P + 3) j) {r : (zMt)} (h : D_X8_splits_157 P k122 x2_157 y1_157 y2_157 M_157 = some r) : ∀ j, j < 82 → r (P + 3) j = M_157 (P + 3) j := by
  unfold D_X8_splits_157 at h
  have kc_0 : ∀ j, j < 82 → M_157 (P + 3) j = M_157 (P + 3) j := fun _ _ => rfl
  replace h := (zIx h).2
  obtain ⟨M_157', f_M_157', h⟩ := zLtx h
  have k_M_157' : ∀ j, j < 82 → M_157' (P + 3) j = M_157 (P + 3) j := fun j hj => (congrFun (congrFun f_M_157'.symm (P + 3)) j).trans ((zu_ne (by omega)).trans (kc_0 j hj))
  exact fun j hj => (hk_k122 _ _ _ h j hj).trans (k_M_157' j hj)
set_option maxRecDepth 100000 in
set_option maxHeartbeats 4000000 in
theorem p33_X8_splits_122 {P : Nat}  : ∀ (u : Nat) (x2_122 : Int32) (M_122 : zMt) (r : (zMt)), D_X8_splits_122 P u x2_122 M_122 = some r → ∀ j, j < 82 → r (P + 3) j = M_122 (P + 3) j := by
  intro u
  induction u with
  | zero =>
    intro x2_122 M_122 r h
    cases h
  | succ u ih =>
    intro x2_122 M_122 r h
    rw [D_X8_splits_122] at h
    have kc_0 : ∀ j, j < 82 → M_122 (P + 3) j = M_122 (P + 3) j := fun _ _ => rfl
    by_cases c78 : (12 : Int32) ≤ x2_122
    · rw [if_pos c78] at h
      cases h
      exact kc_0
    · rw [if_neg c78] at h
      by_cases c79 : (9 : Int32) ≤ x2_122
      · rw [if_pos c79] at h
        exact fun j hj => (p33_X8_splits_157 ih h j hj).trans (kc_0 j hj)
      · rw [if_neg c79] at h
        replace h := (zIx h).2
        exact fun j hj => (p33_X8_splits_157 ih h j hj).trans (kc_0 j hj)
set_option maxRecDepth 100000 in
set_option maxHeartbeats 4000000 in
theorem p33_X8_splits_101 {P : Nat} {k2 : Int32 → Int32 → zMt → Option (zMt)} {x1_101 : Int32} {x2_101 : Int32} {M_101 : zMt} (hk_k2 : ∀ (y0 : Int32) (y1 : Int32) (y2 : zMt) r, k2 y0 y1 y2 = some r → ∀ j, j < 82 → r (P + 3) j = y2 (P + 3) j) {r : (zMt)} (h : D_X8_splits_101 P k2 x1_101 x2_101 M_101 = some r) : ∀ j, j < 82 → r (P + 3) j = M_101 (P + 3) j := by
  unfold D_X8_splits_101 at h
  have kc_0 : ∀ j, j < 82 → M_101 (P + 3) j = M_101 (P + 3) j := fun _ _ => rfl
  exact fun j hj => (hk_k2 _ _ _ _ h j hj).trans (kc_0 j hj)
set_option maxRecDepth 100000 in
set_option maxHeartbeats 4000000 in
theorem p33_X8_splits_35 {P : Nat} {k2 : Int32 → Int32 → zMt → Option (zMt)} (hk_k2 : ∀ (y0 : Int32) (y1 : Int32) (y2 : zMt) r, k2 y0 y1 y2 = some r → ∀ j, j < 82 → r (P + 3) j = y2 (P + 3) j) : ∀ (u : Nat) (x1_35 : Int32) (x2_35 : Int32) (x3_35 : Int32) (M_35 : zMt) (r : (zMt)), D_X8_splits_35 P k2 u x1_35 x2_35 x3_35 M_35 = some r → ∀ j, j < 82 → r (P + 3) j = M_35 (P + 3) j := by
  intro u
  induction u with
  | zero =>
    intro x1_35 x2_35 x3_35 M_35 r h
    cases h
  | succ u ih =>
    intro x1_35 x2_35 x3_35 M_35 r h
    rw [D_X8_splits_35] at h
    have kc_0 : ∀ j, j < 82 → M_35 (P + 3) j = M_35 (P + 3) j := fun _ _ => rfl
    by_cases c81 : (3 : Int32) ≤ x3_35
    · rw [if_pos c81] at h
      exact fun j hj => (p33_X8_splits_101 hk_k2 h j hj).trans (kc_0 j hj)
    · rw [if_neg c81] at h
      replace h := (zIx h).2
      replace h := (zIx h).2
      obtain ⟨M_65, f_M_65, h⟩ := zLtx h
      have k_M_65 : ∀ j, j < 82 → M_65 (P + 3) j = M_35 (P + 3) j := fun j hj => (congrFun (congrFun f_M_65.symm (P + 3)) j).trans ((zu_ne (by omega)).trans (kc_0 j hj))
      exact fun j hj => (ih _ _ _ _ _ h j hj).trans (k_M_65 j hj)
set_option maxRecDepth 100000 in
set_option maxHeartbeats 4000000 in
theorem p33_X8_splits_2 {P : Nat}  : ∀ (u : Nat) (x1_2 : Int32) (x2_2 : Int32) (M_2 : zMt) (r : (zMt)), D_X8_splits_2 P u x1_2 x2_2 M_2 = some r → ∀ j, j < 82 → r (P + 3) j = M_2 (P + 3) j := by
  intro u
  induction u with
  | zero =>
    intro x1_2 x2_2 M_2 r h
    cases h
  | succ u ih =>
    intro x1_2 x2_2 M_2 r h
    rw [D_X8_splits_2] at h
    have kc_0 : ∀ j, j < 82 → M_2 (P + 3) j = M_2 (P + 3) j := fun _ _ => rfl
    by_cases c77 : (M_2 P 8) ≤ x2_2
    · rw [if_pos c77] at h
      replace h := (zIx h).2
      replace h := (zIx h).2
      obtain ⟨M_117, f_M_117, h⟩ := zLtx h
      have k_M_117 : ∀ j, j < 82 → M_117 (P + 3) j = M_2 (P + 3) j := fun j hj => (congrFun (congrFun f_M_117.symm (P + 3)) j).trans ((zu_ne (by omega)).trans (kc_0 j hj))
      exact fun j hj => (p33_X8_splits_122 _ _ _ _ h j hj).trans (k_M_117 j hj)
    · rw [if_neg c77] at h
      replace h := (zIx h).2
      by_cases c80 : (M_2 (P + 1) ((10 : Int32) + x2_2).toNatClampNeg) = x1_2
      · rw [if_pos c80] at h
        replace h := (zIx h).2
        obtain ⟨M_32, f_M_32, h⟩ := zLtx h
        have k_M_32 : ∀ j, j < 82 → M_32 (P + 3) j = M_2 (P + 3) j := fun j hj => (congrFun (congrFun f_M_32.symm (P + 3)) j).trans ((zu_ne (by omega)).trans (kc_0 j hj))
        exact fun j hj => (p33_X8_splits_35 ih _ _ _ _ _ _ h j hj).trans (k_M_32 j hj)
      · rw [if_neg c80] at h
        replace h := (zIx h).2
        by_cases c82 : (M_2 (P + 1) ((10 : Int32) + x2_2).toNatClampNeg) ≤ x1_2
        · rw [if_pos c82] at h
          exact fun j hj => (p33_X8_splits_101 ih h j hj).trans (kc_0 j hj)
        · rw [if_neg c82] at h
          replace h := (zIx h).2
          replace h := (zIx h).2
          obtain ⟨M_100, f_M_100, h⟩ := zLtx h
          have k_M_100 : ∀ j, j < 82 → M_100 (P + 3) j = M_2 (P + 3) j := fun j hj => (congrFun (congrFun f_M_100.symm (P + 3)) j).trans ((zu_ne (by omega)).trans (kc_0 j hj))
          exact fun j hj => (p33_X8_splits_101 ih h j hj).trans (k_M_100 j hj)
set_option maxRecDepth 100000 in
set_option maxHeartbeats 4000000 in
theorem p33_X8_splits {P : Nat} {v0 : Int32} {M : zMt}  {r : (zMt)} (h : D_X8_splits P v0 M = some r) : ∀ j, j < 82 → r (P + 3) j = M (P + 3) j := by
  unfold D_X8_splits at h
  have kc_0 : ∀ j, j < 82 → M (P + 3) j = M (P + 3) j := fun _ _ => rfl
  exact fun j hj => (p33_X8_splits_2 _ _ _ _ _ h j hj).trans (kc_0 j hj)
set_option maxRecDepth 100000 in
set_option maxHeartbeats 4000000 in
theorem p33_X8_areMany_18 {P : Nat} {y0_18 : Int32} {M_18 : zMt}  {r : (Int32 × zMt)} (h : D_X8_areMany_18 P y0_18 M_18 = some r) : ∀ j, j < 82 → r.2 (P + 3) j = M_18 (P + 3) j := by
  unfold D_X8_areMany_18 at h
  have kc_0 : ∀ j, j < 82 → M_18 (P + 3) j = M_18 (P + 3) j := fun _ _ => rfl
  cases h
  exact kc_0
set_option maxRecDepth 100000 in
set_option maxHeartbeats 4000000 in
theorem p33_X8_areMany {P : Nat} {M : zMt}  {r : (Int32 × zMt)} (h : D_X8_areMany P M = some r) : ∀ j, j < 82 → r.2 (P + 3) j = M (P + 3) j := by
  unfold D_X8_areMany at h
  have kc_0 : ∀ j, j < 82 → M (P + 3) j = M (P + 3) j := fun _ _ => rfl
  obtain ⟨e_1, f_e_1, h⟩ := zBx h
  have ke_1 : ∀ j, j < 82 → e_1 (P + 3) j = M (P + 3) j := fun j hj => (p33_X8_laysApplicants f_e_1 j hj).trans (kc_0 j hj)
  by_cases c83 : (e_1 P 33) ≤ (7 : Int32)
  · rw [if_pos c83] at h
    exact fun j hj => (p33_X8_areMany_18 h j hj).trans (ke_1 j hj)
  · rw [if_neg c83] at h
    exact fun j hj => (p33_X8_areMany_18 h j hj).trans (ke_1 j hj)
set_option maxRecDepth 100000 in
set_option maxHeartbeats 4000000 in
theorem p11_X8_apart_163 {P : Nat} {y0_163 : Int64} {M_163 : zMt} {N_163 : zNt}  {r : (Int64 × zMt × zNt)} (h : D_X8_apart_163 P y0_163 M_163 N_163 = some r) : ∀ j, j < 82 → r.2.1 (P + 1) j = M_163 (P + 1) j := by
  unfold D_X8_apart_163 at h
  have kc_0 : ∀ j, j < 82 → M_163 (P + 1) j = M_163 (P + 1) j := fun _ _ => rfl
  cases h
  exact kc_0
set_option maxRecDepth 100000 in
set_option maxHeartbeats 4000000 in
theorem p31_X8_apart_138 {P : Nat} {x3_138 : Int32} {M_138 : zMt} {N_138 : zNt}  {r : (Int64 × zMt × zNt)} (h : D_X8_apart_138 P x3_138 M_138 N_138 = some r) : ∀ j, j < 82 → r.2.1 (P + 1) j = M_138 (P + 3) j := by
  unfold D_X8_apart_138 at h
  have kc_0 : ∀ j, j < 82 → M_138 (P + 3) j = M_138 (P + 3) j := fun _ _ => rfl
  obtain ⟨e_139, f_e_139, h⟩ := zBx h
  have ke_139 : ∀ j, j < 82 → e_139 (P + 1) j = M_138 (P + 3) j := fun j hj => (ptakes f_e_139 j hj).trans (kc_0 j hj)
  by_cases c86 : x3_138 = 0
  · rw [if_pos c86] at h
    obtain ⟨e_159, f_e_159, h⟩ := zBx h
    have ke_159 : ∀ j, j < 82 → e_159.2 (P + 1) j = M_138 (P + 3) j := fun j hj => (p11_X8_refuse f_e_159 j hj).trans (ke_139 j hj)
    exact fun j hj => (p11_X8_apart_163 h j hj).trans (ke_159 j hj)
  · rw [if_neg c86] at h
    obtain ⟨e_151, f_e_151, h⟩ := zBx h
    have ke_151 : ∀ j, j < 82 → e_151.2 (P + 1) j = M_138 (P + 3) j := fun j hj => (p11_X8_givesLong f_e_151 j hj).trans (ke_139 j hj)
    exact fun j hj => (p11_X8_apart_163 h j hj).trans (ke_151 j hj)
set_option maxRecDepth 100000 in
set_option maxHeartbeats 4000000 in
theorem p31_X8_apart_124 {P : Nat} {k90 : Int32 → Int32 → Int32 → zMt → zNt → Option (Int64 × zMt × zNt)} {x2_124 : Int32} {x3_124 : Int32} {x4_124 : Int32} {y1_124 : Int32} {y2_124 : Int32} {M_124 : zMt} {N_124 : zNt} (hk_k90 : ∀ (y0 : Int32) (y1 : Int32) (y2 : Int32) (y3 : zMt) (y4 : zNt) r, k90 y0 y1 y2 y3 y4 = some r → ∀ j, j < 82 → r.2.1 (P + 1) j = y3 (P + 3) j) {r : (Int64 × zMt × zNt)} (h : D_X8_apart_124 P k90 x2_124 x3_124 x4_124 y1_124 y2_124 M_124 N_124 = some r) : ∀ j, j < 82 → r.2.1 (P + 1) j = M_124 (P + 3) j := by
  unfold D_X8_apart_124 at h
  have kc_0 : ∀ j, j < 82 → M_124 (P + 3) j = M_124 (P + 3) j := fun _ _ => rfl
  obtain ⟨M_125, f_M_125, h⟩ := zLtx h
  have k_M_125 : ∀ j, j < 82 → M_125 (P + 3) j = M_124 (P + 3) j := fun j hj => (congrFun (congrFun f_M_125.symm (P + 3)) j).trans ((zu_ne (by omega)).trans (kc_0 j hj))
  exact fun j hj => (hk_k90 _ _ _ _ _ _ h j hj).trans (k_M_125 j hj)
set_option maxRecDepth 100000 in
set_option maxHeartbeats 4000000 in
theorem p31_X8_apart_90 {P : Nat}  : ∀ (u : Nat) (x2_90 : Int32) (x3_90 : Int32) (x4_90 : Int32) (M_90 : zMt) (N_90 : zNt) (r : (Int64 × zMt × zNt)), D_X8_apart_90 P u x2_90 x3_90 x4_90 M_90 N_90 = some r → ∀ j, j < 82 → r.2.1 (P + 1) j = M_90 (P + 3) j := by
  intro u
  induction u with
  | zero =>
    intro x2_90 x3_90 x4_90 M_90 N_90 r h
    cases h
  | succ u ih =>
    intro x2_90 x3_90 x4_90 M_90 N_90 r h
    rw [D_X8_apart_90] at h
    have kc_0 : ∀ j, j < 82 → M_90 (P + 3) j = M_90 (P + 3) j := fun _ _ => rfl
    by_cases c87 : (M_90 P 33) ≤ x4_90
    · rw [if_pos c87] at h
      obtain ⟨e_135, f_e_135, h⟩ := zBx h
      have ke_135 : ∀ j, j < 82 → e_135.1 (P + 3) j = M_90 (P + 3) j := fun j hj => (p33_X8_laysAll f_e_135 j hj).trans (kc_0 j hj)
      exact fun j hj => (p31_X8_apart_138 h j hj).trans (ke_135 j hj)
    · rw [if_neg c87] at h
      replace h := (zIx h).2
      by_cases c88 : ((M_90 (P + 11) x4_90.toNatClampNeg) &&& x2_90) = 0
      · rw [if_pos c88] at h
        exact fun j hj => (p31_X8_apart_124 ih h j hj).trans (kc_0 j hj)
      · rw [if_neg c88] at h
        exact fun j hj => (p31_X8_apart_124 ih h j hj).trans (kc_0 j hj)
set_option maxRecDepth 100000 in
set_option maxHeartbeats 4000000 in
theorem p31_X8_apart_77 {P : Nat} {x2_77 : Int32} {y0_77 : Int32} {M_77 : zMt} {N_77 : zNt}  {r : (Int64 × zMt × zNt)} (h : D_X8_apart_77 P x2_77 y0_77 M_77 N_77 = some r) : ∀ j, j < 82 → r.2.1 (P + 1) j = M_77 (P + 3) j := by
  unfold D_X8_apart_77 at h
  have kc_0 : ∀ j, j < 82 → M_77 (P + 3) j = M_77 (P + 3) j := fun _ _ => rfl
  by_cases c85 : y0_77 = 0
  · rw [if_pos c85] at h
    exact fun j hj => (p31_X8_apart_138 h j hj).trans (kc_0 j hj)
  · rw [if_neg c85] at h
    obtain ⟨M_84, f_M_84, h⟩ := zLtx h
    have k_M_84 : ∀ j, j < 82 → M_84 (P + 3) j = M_77 (P + 3) j := fun j hj => (congrFun (congrFun f_M_84.symm (P + 3)) j).trans ((zu_ne (by omega)).trans (kc_0 j hj))
    exact fun j hj => (p31_X8_apart_90 _ _ _ _ _ _ _ h j hj).trans (k_M_84 j hj)
set_option maxRecDepth 100000 in
set_option maxHeartbeats 4000000 in
theorem p11_X8_apart_48 {P : Nat} {k19 : Int32 → Int32 → Int32 → zMt → zNt → Option (Int64 × zMt × zNt)} {x1_48 : Int32} {x3_48 : Int32} {y0_48 : Int32} {y1_48 : Int32} {M_48 : zMt} {N_48 : zNt} (hk_k19 : ∀ (y0 : Int32) (y1 : Int32) (y2 : Int32) (y3 : zMt) (y4 : zNt) r, k19 y0 y1 y2 y3 y4 = some r → ∀ j, j < 82 → r.2.1 (P + 1) j = y3 (P + 1) j) {r : (Int64 × zMt × zNt)} (h : D_X8_apart_48 P k19 x1_48 x3_48 y0_48 y1_48 M_48 N_48 = some r) : ∀ j, j < 82 → r.2.1 (P + 1) j = M_48 (P + 1) j := by
  unfold D_X8_apart_48 at h
  have kc_0 : ∀ j, j < 82 → M_48 (P + 1) j = M_48 (P + 1) j := fun _ _ => rfl
  exact fun j hj => (hk_k19 _ _ _ _ _ _ h j hj).trans (kc_0 j hj)
set_option maxRecDepth 100000 in
set_option maxHeartbeats 4000000 in
theorem p11_X8_apart_19 {P : Nat}  : ∀ (u : Nat) (x1_19 : Int32) (x2_19 : Int32) (x3_19 : Int32) (M_19 : zMt) (N_19 : zNt) (r : (Int64 × zMt × zNt)), D_X8_apart_19 P u x1_19 x2_19 x3_19 M_19 N_19 = some r → ∀ j, j < 82 → r.2.1 (P + 1) j = M_19 (P + 1) j := by
  intro u
  induction u with
  | zero =>
    intro x1_19 x2_19 x3_19 M_19 N_19 r h
    cases h
  | succ u ih =>
    intro x1_19 x2_19 x3_19 M_19 N_19 r h
    rw [D_X8_apart_19] at h
    have kc_0 : ∀ j, j < 82 → M_19 (P + 1) j = M_19 (P + 1) j := fun _ _ => rfl
    by_cases c76 : (M_19 P 8) ≤ x3_19
    · rw [if_pos c76] at h
      obtain ⟨e_57, f_e_57, h⟩ := zBx h
      have ke_57 : ∀ j, j < 82 → e_57 (P + 3) j = M_19 (P + 1) j := fun j hj => (pputs f_e_57 j hj).trans (kc_0 j hj)
      obtain ⟨e_62, f_e_62, h⟩ := zBx h
      have ke_62 : ∀ j, j < 82 → e_62 (P + 3) j = M_19 (P + 1) j := fun j hj => (p33_X8_splits f_e_62 j hj).trans (ke_57 j hj)
      obtain ⟨e_66, f_e_66, h⟩ := zBx h
      have ke_66 : ∀ j, j < 82 → e_66.2 (P + 3) j = M_19 (P + 1) j := fun j hj => (p33_X8_areMany f_e_66 j hj).trans (ke_62 j hj)
      by_cases c84 : e_66.1 = 0
      · rw [if_pos c84] at h
        exact fun j hj => (p31_X8_apart_77 h j hj).trans (ke_66 j hj)
      · rw [if_neg c84] at h
        exact fun j hj => (p31_X8_apart_77 h j hj).trans (ke_66 j hj)
    · rw [if_neg c76] at h
      replace h := (zIx h).2
      by_cases c89 : (M_19 (P + 1) ((10 : Int32) + x3_19).toNatClampNeg) = x1_19
      · rw [if_pos c89] at h
        exact fun j hj => (p11_X8_apart_48 ih h j hj).trans (kc_0 j hj)
      · rw [if_neg c89] at h
        exact fun j hj => (p11_X8_apart_48 ih h j hj).trans (kc_0 j hj)
set_option maxRecDepth 100000 in
set_option maxHeartbeats 4000000 in
theorem p11_X8_apart {P : Nat} {v0 : Int32} {M : zMt} {N : zNt}  {r : (Int64 × zMt × zNt)} (h : D_X8_apart P v0 M N = some r) : ∀ j, j < 82 → r.2.1 (P + 1) j = M (P + 1) j := by
  unfold D_X8_apart at h
  have kc_0 : ∀ j, j < 82 → M (P + 1) j = M (P + 1) j := fun _ _ => rfl
  obtain ⟨e_2, f_e_2, h⟩ := zBx h
  by_cases c75 : e_2 = 0
  · rw [if_pos c75] at h
    obtain ⟨e_10, f_e_10, h⟩ := zBx h
    have ke_10 : ∀ j, j < 82 → e_10.2 (P + 1) j = M (P + 1) j := fun j hj => (p11_X8_refuse f_e_10 j hj).trans (kc_0 j hj)
    cases h
    exact ke_10
  · rw [if_neg c75] at h
    exact fun j hj => (p11_X8_apart_19 _ _ _ _ _ _ _ h j hj).trans (kc_0 j hj)
set_option maxRecDepth 100000 in
set_option maxHeartbeats 4000000 in
theorem p31_X8_likes_78 {P : Nat} {k40 : Int32 → Int32 → Int64 → Int32 → zMt → zNt → Option (Int32 × zMt × zNt)} {x1_78 : Int32} {x2_78 : Int32} {x3_78 : Int64} {x5_78 : Int32} {M_78 : zMt} {N_78 : zNt} (hk_k40 : ∀ (y0 : Int32) (y1 : Int32) (y2 : Int64) (y3 : Int32) (y4 : zMt) (y5 : zNt) r, k40 y0 y1 y2 y3 y4 y5 = some r → ∀ j, j < 82 → r.2.1 (P + 1) j = y4 (P + 3) j) {r : (Int32 × zMt × zNt)} (h : D_X8_likes_78 P k40 x1_78 x2_78 x3_78 x5_78 M_78 N_78 = some r) : ∀ j, j < 82 → r.2.1 (P + 1) j = M_78 (P + 3) j := by
  unfold D_X8_likes_78 at h
  have kc_0 : ∀ j, j < 82 → M_78 (P + 3) j = M_78 (P + 3) j := fun _ _ => rfl
  exact fun j hj => (hk_k40 _ _ _ _ _ _ _ h j hj).trans (kc_0 j hj)
set_option maxRecDepth 100000 in
set_option maxHeartbeats 4000000 in
theorem p31_X8_likes_40 {P : Nat}  : ∀ (u : Nat) (x1_40 : Int32) (x2_40 : Int32) (x3_40 : Int64) (x5_40 : Int32) (M_40 : zMt) (N_40 : zNt) (r : (Int32 × zMt × zNt)), D_X8_likes_40 P u x1_40 x2_40 x3_40 x5_40 M_40 N_40 = some r → ∀ j, j < 82 → r.2.1 (P + 1) j = M_40 (P + 3) j := by
  intro u
  induction u with
  | zero =>
    intro x1_40 x2_40 x3_40 x5_40 M_40 N_40 r h
    cases h
  | succ u ih =>
    intro x1_40 x2_40 x3_40 x5_40 M_40 N_40 r h
    rw [D_X8_likes_40] at h
    have kc_0 : ∀ j, j < 82 → M_40 (P + 3) j = M_40 (P + 3) j := fun _ _ => rfl
    by_cases c92 : (3 : Int32) ≤ x5_40
    · rw [if_pos c92] at h
      obtain ⟨e_85, f_e_85, h⟩ := zBx h
      have ke_85 : ∀ j, j < 82 → e_85 (P + 1) j = M_40 (P + 3) j := fun j hj => (ptakes f_e_85 j hj).trans (kc_0 j hj)
      obtain ⟨e_90, f_e_90, h⟩ := zBx h
      have ke_90 : ∀ j, j < 82 → e_90.2 (P + 1) j = M_40 (P + 3) j := fun j hj => (p11_X8_gives f_e_90 j hj).trans (ke_85 j hj)
      cases h
      exact ke_90
    · rw [if_neg c92] at h
      replace h := (zIx h).2
      obtain ⟨M_54, f_M_54, h⟩ := zLtx h
      have k_M_54 : ∀ j, j < 82 → M_54 (P + 3) j = M_40 (P + 3) j := fun j hj => (congrFun (congrFun f_M_54.symm (P + 3)) j).trans ((zu_ne (by omega)).trans (kc_0 j hj))
      obtain ⟨e_56, f_e_56, h⟩ := zBx h
      have ke_56 : ∀ j, j < 82 → e_56.1 (P + 3) j = M_40 (P + 3) j := fun j hj => (p33_X8_laysAll f_e_56 j hj).trans (k_M_54 j hj)
      obtain ⟨e_61, f_e_61, h⟩ := zBx h
      by_cases c93 : (lg_cmp e_61 x3_40) ≤ 0
      · rw [if_pos c93] at h
        exact fun j hj => (p31_X8_likes_78 ih h j hj).trans (ke_56 j hj)
      · rw [if_neg c93] at h
        obtain ⟨e_74, f_e_74, h⟩ := zBx h
        exact fun j hj => (p31_X8_likes_78 ih h j hj).trans (ke_56 j hj)
set_option maxRecDepth 100000 in
set_option maxHeartbeats 4000000 in
theorem p11_X8_likes {P : Nat} {v0 : Int32} {M : zMt} {N : zNt}  {r : (Int32 × zMt × zNt)} (h : D_X8_likes P v0 M N = some r) : ∀ j, j < 82 → r.2.1 (P + 1) j = M (P + 1) j := by
  unfold D_X8_likes at h
  have kc_0 : ∀ j, j < 82 → M (P + 1) j = M (P + 1) j := fun _ _ => rfl
  obtain ⟨e_2, f_e_2, h⟩ := zBx h
  have ke_2 : ∀ j, j < 82 → e_2.2 (P + 1) j = M (P + 1) j := fun j hj => (p11_X8_isApplicant f_e_2 j hj).trans (kc_0 j hj)
  by_cases c90 : e_2.1 = 0
  · rw [if_pos c90] at h
    obtain ⟨e_10, f_e_10, h⟩ := zBx h
    have ke_10 : ∀ j, j < 82 → e_10.2 (P + 1) j = M (P + 1) j := fun j hj => (p11_X8_refuse f_e_10 j hj).trans (ke_2 j hj)
    cases h
    exact ke_10
  · rw [if_neg c90] at h
    obtain ⟨e_15, f_e_15, h⟩ := zBx h
    have ke_15 : ∀ j, j < 82 → e_15.2 (P + 1) j = M (P + 1) j := fun j hj => (p11_X8_areMany f_e_15 j hj).trans (ke_2 j hj)
    by_cases c91 : e_15.1 = 0
    · rw [if_pos c91] at h
      obtain ⟨e_28, f_e_28, h⟩ := zBx h
      have ke_28 : ∀ j, j < 82 → e_28 (P + 3) j = M (P + 1) j := fun j hj => (pputs f_e_28 j hj).trans (ke_15 j hj)
      exact fun j hj => (p31_X8_likes_40 _ _ _ _ _ _ _ _ h j hj).trans (ke_28 j hj)
    · rw [if_neg c91] at h
      obtain ⟨e_23, f_e_23, h⟩ := zBx h
      have ke_23 : ∀ j, j < 82 → e_23.2 (P + 1) j = M (P + 1) j := fun j hj => (p11_X8_refuse f_e_23 j hj).trans (ke_15 j hj)
      cases h
      exact ke_23
set_option maxRecDepth 100000 in
set_option maxHeartbeats 4000000 in
theorem p11_X8_years_20 {P : Nat} {M_20 : zMt} {N_20 : zNt}  {r : (Int32 × zMt × zNt)} (h : D_X8_years_20 P M_20 N_20 = some r) : ∀ j, j < 82 → r.2.1 (P + 1) j = M_20 (P + 1) j := by
  unfold D_X8_years_20 at h
  have kc_0 : ∀ j, j < 82 → M_20 (P + 1) j = M_20 (P + 1) j := fun _ _ => rfl
  obtain ⟨e_22, f_e_22, h⟩ := zBx h
  have ke_22 : ∀ j, j < 82 → e_22.2 (P + 1) j = M_20 (P + 1) j := fun j hj => (p11_X8_refuse f_e_22 j hj).trans (kc_0 j hj)
  cases h
  exact ke_22
set_option maxRecDepth 100000 in
set_option maxHeartbeats 4000000 in
theorem p11_X8_years_203 {P : Nat} {y1_203 : Int32} {M_203 : zMt} {N_203 : zNt}  {r : (Int32 × zMt × zNt)} (h : D_X8_years_203 P y1_203 M_203 N_203 = some r) : ∀ j, j < 82 → r.2.1 (P + 1) j = M_203 (P + 1) j := by
  unfold D_X8_years_203 at h
  have kc_0 : ∀ j, j < 82 → M_203 (P + 1) j = M_203 (P + 1) j := fun _ _ => rfl
  obtain ⟨e_203, f_e_203, h⟩ := zBx h
  have ke_203 : ∀ j, j < 82 → e_203.2 (P + 1) j = M_203 (P + 1) j := fun j hj => (p11_X8_gives f_e_203 j hj).trans (kc_0 j hj)
  cases h
  exact ke_203
set_option maxRecDepth 100000 in
set_option maxHeartbeats 4000000 in
theorem p33_X8_laysOrder_101 {P : Nat} {k45 : Int32 → Int32 → Int32 → zMt → zNt → Option (zMt × zNt)} {k67 : Int32 → Int32 → Int32 → Int64 → Int32 → Int64 → zMt → zNt → Option (zMt × zNt)} {x2_101 : Int32} {x3_101 : Int32} {x4_101 : Int32} {x5_101 : Int64} {x7_101 : Int32} {y0_101 : Int64} {y1_101 : Int64} {M_101 : zMt} {N_101 : zNt} (hk_k45 : ∀ (y0 : Int32) (y1 : Int32) (y2 : Int32) (y3 : zMt) (y4 : zNt) r, k45 y0 y1 y2 y3 y4 = some r → ∀ j, j < 82 → r.1 (P + 3) j = y3 (P + 3) j) (hk_k67 : ∀ (y0 : Int32) (y1 : Int32) (y2 : Int32) (y3 : Int64) (y4 : Int32) (y5 : Int64) (y6 : zMt) (y7 : zNt) r, k67 y0 y1 y2 y3 y4 y5 y6 y7 = some r → ∀ j, j < 82 → r.1 (P + 3) j = y6 (P + 3) j) {r : (zMt × zNt)} (h : D_X8_laysOrder_101 P k45 k67 x2_101 x3_101 x4_101 x5_101 x7_101 y0_101 y1_101 M_101 N_101 = some r) : ∀ j, j < 82 → r.1 (P + 3) j = M_101 (P + 3) j := by
  unfold D_X8_laysOrder_101 at h
  have kc_0 : ∀ j, j < 82 → M_101 (P + 3) j = M_101 (P + 3) j := fun _ _ => rfl
  exact fun j hj => (hk_k67 _ _ _ _ _ _ _ _ _ h j hj).trans (kc_0 j hj)
set_option maxRecDepth 100000 in
set_option maxHeartbeats 4000000 in
theorem p33_X8_laysOrder_67 {P : Nat} {k45 : Int32 → Int32 → Int32 → zMt → zNt → Option (zMt × zNt)} (hk_k45 : ∀ (y0 : Int32) (y1 : Int32) (y2 : Int32) (y3 : zMt) (y4 : zNt) r, k45 y0 y1 y2 y3 y4 = some r → ∀ j, j < 82 → r.1 (P + 3) j = y3 (P + 3) j) : ∀ (u : Nat) (x2_67 : Int32) (x3_67 : Int32) (x4_67 : Int32) (x5_67 : Int64) (x7_67 : Int32) (x8_67 : Int64) (M_67 : zMt) (N_67 : zNt) (r : (zMt × zNt)), D_X8_laysOrder_67 P k45 u x2_67 x3_67 x4_67 x5_67 x7_67 x8_67 M_67 N_67 = some r → ∀ j, j < 82 → r.1 (P + 3) j = M_67 (P + 3) j := by
  intro u
  induction u with
  | zero =>
    intro x2_67 x3_67 x4_67 x5_67 x7_67 x8_67 M_67 N_67 r h
    cases h
  | succ u ih =>
    intro x2_67 x3_67 x4_67 x5_67 x7_67 x8_67 M_67 N_67 r h
    rw [D_X8_laysOrder_67] at h
    have kc_0 : ∀ j, j < 82 → M_67 (P + 3) j = M_67 (P + 3) j := fun _ _ => rfl
    by_cases c102 : 0 < (lg_cmp x8_67 x5_67)
    · rw [if_pos c102] at h
      replace h := (zIx h).2
      obtain ⟨M_115, f_M_115, h⟩ := zLtx h
      have k_M_115 : ∀ j, j < 82 → M_115 (P + 3) j = M_67 (P + 3) j := fun j hj => (congrFun (congrFun f_M_115.symm (P + 3)) j).trans ((zu_ne (by omega)).trans (kc_0 j hj))
      replace h := (zIx h).2
      exact fun j hj => (hk_k45 _ _ _ _ _ _ h j hj).trans (k_M_115 j hj)
    · rw [if_neg c102] at h
      obtain ⟨e_83, f_e_83, h⟩ := zBx h
      by_cases c103 : e_83 = 0
      · rw [if_pos c103] at h
        replace h := (zIx h).2
        exact fun j hj => (p33_X8_laysOrder_101 hk_k45 ih h j hj).trans (kc_0 j hj)
      · rw [if_neg c103] at h
        exact fun j hj => (p33_X8_laysOrder_101 hk_k45 ih h j hj).trans (kc_0 j hj)
set_option maxRecDepth 100000 in
set_option maxHeartbeats 4000000 in
theorem p33_X8_laysOrder_45 {P : Nat}  : ∀ (u : Nat) (x2_45 : Int32) (x3_45 : Int32) (x4_45 : Int32) (M_45 : zMt) (N_45 : zNt) (r : (zMt × zNt)), D_X8_laysOrder_45 P u x2_45 x3_45 x4_45 M_45 N_45 = some r → ∀ j, j < 82 → r.1 (P + 3) j = M_45 (P + 3) j := by
  intro u
  induction u with
  | zero =>
    intro x2_45 x3_45 x4_45 M_45 N_45 r h
    cases h
  | succ u ih =>
    intro x2_45 x3_45 x4_45 M_45 N_45 r h
    rw [D_X8_laysOrder_45] at h
    have kc_0 : ∀ j, j < 82 → M_45 (P + 3) j = M_45 (P + 3) j := fun _ _ => rfl
    by_cases c101 : (M_45 P 33) ≤ x4_45
    · rw [if_pos c101] at h
      cases h
      exact kc_0
    · rw [if_neg c101] at h
      obtain ⟨e_56, f_e_56, h⟩ := zBx h
      exact fun j hj => (p33_X8_laysOrder_67 ih _ _ _ _ _ _ _ _ _ _ h j hj).trans (kc_0 j hj)
set_option maxRecDepth 100000 in
set_option maxHeartbeats 4000000 in
theorem p33_X8_laysOrder_17 {P : Nat}  : ∀ (u : Nat) (x2_17 : Int32) (x3_17 : Int32) (x4_17 : Int32) (M_17 : zMt) (N_17 : zNt) (r : (zMt × zNt)), D_X8_laysOrder_17 P u x2_17 x3_17 x4_17 M_17 N_17 = some r → ∀ j, j < 82 → r.1 (P + 3) j = M_17 (P + 3) j := by
  intro u
  induction u with
  | zero =>
    intro x2_17 x3_17 x4_17 M_17 N_17 r h
    cases h
  | succ u ih =>
    intro x2_17 x3_17 x4_17 M_17 N_17 r h
    rw [D_X8_laysOrder_17] at h
    have kc_0 : ∀ j, j < 82 → M_17 (P + 3) j = M_17 (P + 3) j := fun _ _ => rfl
    by_cases c100 : (M_17 P 33) ≤ x4_17
    · rw [if_pos c100] at h
      exact fun j hj => (p33_X8_laysOrder_45 _ _ _ _ _ _ _ h j hj).trans (kc_0 j hj)
    · rw [if_neg c100] at h
      replace h := (zIx h).2
      exact fun j hj => (ih _ _ _ _ _ _ h j hj).trans (kc_0 j hj)
set_option maxRecDepth 100000 in
set_option maxHeartbeats 4000000 in
theorem p33_X8_laysOrder {P : Nat} {v0 : Int32} {M : zMt} {N : zNt}  {r : (zMt × zNt)} (h : D_X8_laysOrder P v0 M N = some r) : ∀ j, j < 82 → r.1 (P + 3) j = M (P + 3) j := by
  unfold D_X8_laysOrder at h
  have kc_0 : ∀ j, j < 82 → M (P + 3) j = M (P + 3) j := fun _ _ => rfl
  obtain ⟨e_1, f_e_1, h⟩ := zBx h
  have ke_1 : ∀ j, j < 82 → e_1 (P + 3) j = M (P + 3) j := fun j hj => (p33_X8_laysApplicants f_e_1 j hj).trans (kc_0 j hj)
  obtain ⟨N_7, f_N_7, h⟩ := zLtx h
  exact fun j hj => (p33_X8_laysOrder_17 _ _ _ _ _ _ _ h j hj).trans (ke_1 j hj)
set_option maxRecDepth 100000 in
set_option maxHeartbeats 4000000 in
theorem p33_X8_laysResult {P : Nat} {v0 : Int32} {M : zMt} {N : zNt}  {r : (zMt × zNt)} (h : D_X8_laysResult P v0 M N = some r) : ∀ j, j < 82 → r.1 (P + 3) j = M (P + 3) j := by
  unfold D_X8_laysResult at h
  have kc_0 : ∀ j, j < 82 → M (P + 3) j = M (P + 3) j := fun _ _ => rfl
  obtain ⟨e_2, f_e_2, h⟩ := zBx h
  have ke_2 : ∀ j, j < 82 → e_2.1 (P + 3) j = M (P + 3) j := fun j hj => (p33_X8_laysOrder f_e_2 j hj).trans (kc_0 j hj)
  obtain ⟨e_7, f_e_7, h⟩ := zBx h
  have ke_7 : ∀ j, j < 82 → e_7 (P + 3) j = M (P + 3) j := fun j hj => (p33_X8_results f_e_7 j hj).trans (ke_2 j hj)
  cases h
  exact ke_7
set_option maxRecDepth 100000 in
set_option maxHeartbeats 4000000 in
theorem p33_X8_goesYear_34 {P : Nat}  : ∀ (u : Nat) (x2_34 : Int32) (M_34 : zMt) (N_34 : zNt) (r : (zMt × zNt)), D_X8_goesYear_34 P u x2_34 M_34 N_34 = some r → ∀ j, j < 82 → r.1 (P + 3) j = M_34 (P + 3) j := by
  intro u
  induction u with
  | zero =>
    intro x2_34 M_34 N_34 r h
    cases h
  | succ u ih =>
    intro x2_34 M_34 N_34 r h
    rw [D_X8_goesYear_34] at h
    have kc_0 : ∀ j, j < 82 → M_34 (P + 3) j = M_34 (P + 3) j := fun _ _ => rfl
    by_cases c105 : (M_34 P 8) ≤ x2_34
    · rw [if_pos c105] at h
      cases h
      exact kc_0
    · rw [if_neg c105] at h
      replace h := (zIx h).2
      replace h := (zIx h).2
      obtain ⟨M_55, f_M_55, h⟩ := zLtx h
      have k_M_55 : ∀ j, j < 82 → M_55 (P + 3) j = M_34 (P + 3) j := fun j hj => (congrFun (congrFun f_M_55.symm (P + 3)) j).trans ((zu_ne (by omega)).trans (kc_0 j hj))
      exact fun j hj => (ih _ _ _ _ h j hj).trans (k_M_55 j hj)
set_option maxRecDepth 100000 in
set_option maxHeartbeats 4000000 in
theorem p33_X8_goesYear_7 {P : Nat}  : ∀ (u : Nat) (x2_7 : Int32) (M_7 : zMt) (N_7 : zNt) (r : (zMt × zNt)), D_X8_goesYear_7 P u x2_7 M_7 N_7 = some r → ∀ j, j < 82 → r.1 (P + 3) j = M_7 (P + 3) j := by
  intro u
  induction u with
  | zero =>
    intro x2_7 M_7 N_7 r h
    cases h
  | succ u ih =>
    intro x2_7 M_7 N_7 r h
    rw [D_X8_goesYear_7] at h
    have kc_0 : ∀ j, j < 82 → M_7 (P + 3) j = M_7 (P + 3) j := fun _ _ => rfl
    by_cases c104 : (M_7 P 8) ≤ x2_7
    · rw [if_pos c104] at h
      exact fun j hj => (p33_X8_goesYear_34 _ _ _ _ _ h j hj).trans (kc_0 j hj)
    · rw [if_neg c104] at h
      obtain ⟨e_22, f_e_22, h⟩ := zBx h
      replace h := (zIx h).2
      obtain ⟨M_25, f_M_25, h⟩ := zLtx h
      have k_M_25 : ∀ j, j < 82 → M_25 (P + 3) j = M_7 (P + 3) j := fun j hj => (congrFun (congrFun f_M_25.symm (P + 3)) j).trans ((zu_ne (by omega)).trans (kc_0 j hj))
      exact fun j hj => (ih _ _ _ _ h j hj).trans (k_M_25 j hj)
set_option maxRecDepth 100000 in
set_option maxHeartbeats 4000000 in
theorem p33_X8_goesYear {P : Nat} {v0 : Int32} {M : zMt} {N : zNt}  {r : (zMt × zNt)} (h : D_X8_goesYear P v0 M N = some r) : ∀ j, j < 82 → r.1 (P + 3) j = M (P + 3) j := by
  unfold D_X8_goesYear at h
  have kc_0 : ∀ j, j < 82 → M (P + 3) j = M (P + 3) j := fun _ _ => rfl
  obtain ⟨e_2, f_e_2, h⟩ := zBx h
  have ke_2 : ∀ j, j < 82 → e_2.1 (P + 3) j = M (P + 3) j := fun j hj => (p33_X8_laysResult f_e_2 j hj).trans (kc_0 j hj)
  exact fun j hj => (p33_X8_goesYear_7 _ _ _ _ _ h j hj).trans (ke_2 j hj)
set_option maxRecDepth 100000 in
set_option maxHeartbeats 4000000 in
theorem p31_X8_years_150 {P : Nat} {k75 : Int32 → Int32 → Int32 → Int32 → Int32 → Int32 → Int32 → zMt → zNt → Option (Int32 × zMt × zNt)} {k112 : Int32 → Int32 → Int32 → Int32 → Int32 → Int32 → Int32 → Int32 → zMt → zNt → Option (Int32 × zMt × zNt)} {x1_150 : Int32} {x2_150 : Int32} {x3_150 : Int32} {x4_150 : Int32} {x5_150 : Int32} {x6_150 : Int32} {x7_150 : Int32} {x8_150 : Int32} {y1_150 : Int32} {y2_150 : Int32} {M_150 : zMt} {N_150 : zNt} (hk_k75 : ∀ (y0 : Int32) (y1 : Int32) (y2 : Int32) (y3 : Int32) (y4 : Int32) (y5 : Int32) (y6 : Int32) (y7 : zMt) (y8 : zNt) r, k75 y0 y1 y2 y3 y4 y5 y6 y7 y8 = some r → ∀ j, j < 82 → r.2.1 (P + 1) j = y7 (P + 3) j) (hk_k112 : ∀ (y0 : Int32) (y1 : Int32) (y2 : Int32) (y3 : Int32) (y4 : Int32) (y5 : Int32) (y6 : Int32) (y7 : Int32) (y8 : zMt) (y9 : zNt) r, k112 y0 y1 y2 y3 y4 y5 y6 y7 y8 y9 = some r → ∀ j, j < 82 → r.2.1 (P + 1) j = y8 (P + 3) j) {r : (Int32 × zMt × zNt)} (h : D_X8_years_150 P k75 k112 x1_150 x2_150 x3_150 x4_150 x5_150 x6_150 x7_150 x8_150 y1_150 y2_150 M_150 N_150 = some r) : ∀ j, j < 82 → r.2.1 (P + 1) j = M_150 (P + 3) j := by
  unfold D_X8_years_150 at h
  have kc_0 : ∀ j, j < 82 → M_150 (P + 3) j = M_150 (P + 3) j := fun _ _ => rfl
  replace h := (zIx h).2
  obtain ⟨M_150', f_M_150', h⟩ := zLtx h
  have k_M_150' : ∀ j, j < 82 → M_150' (P + 3) j = M_150 (P + 3) j := fun j hj => (congrFun (congrFun f_M_150'.symm (P + 3)) j).trans ((zu_ne (by omega)).trans (kc_0 j hj))
  replace h := (zIx h).2
  exact fun j hj => (hk_k112 _ _ _ _ _ _ _ _ _ _ _ h j hj).trans (k_M_150' j hj)
set_option maxRecDepth 100000 in
set_option maxHeartbeats 4000000 in
theorem p31_X8_years_112 {P : Nat} {k75 : Int32 → Int32 → Int32 → Int32 → Int32 → Int32 → Int32 → zMt → zNt → Option (Int32 × zMt × zNt)} (hk_k75 : ∀ (y0 : Int32) (y1 : Int32) (y2 : Int32) (y3 : Int32) (y4 : Int32) (y5 : Int32) (y6 : Int32) (y7 : zMt) (y8 : zNt) r, k75 y0 y1 y2 y3 y4 y5 y6 y7 y8 = some r → ∀ j, j < 82 → r.2.1 (P + 1) j = y7 (P + 3) j) : ∀ (u : Nat) (x1_112 : Int32) (x2_112 : Int32) (x3_112 : Int32) (x4_112 : Int32) (x5_112 : Int32) (x6_112 : Int32) (x7_112 : Int32) (x8_112 : Int32) (M_112 : zMt) (N_112 : zNt) (r : (Int32 × zMt × zNt)), D_X8_years_112 P k75 u x1_112 x2_112 x3_112 x4_112 x5_112 x6_112 x7_112 x8_112 M_112 N_112 = some r → ∀ j, j < 82 → r.2.1 (P + 1) j = M_112 (P + 3) j := by
  intro u
  induction u with
  | zero =>
    intro x1_112 x2_112 x3_112 x4_112 x5_112 x6_112 x7_112 x8_112 M_112 N_112 r h
    cases h
  | succ u ih =>
    intro x1_112 x2_112 x3_112 x4_112 x5_112 x6_112 x7_112 x8_112 M_112 N_112 r h
    rw [D_X8_years_112] at h
    have kc_0 : ∀ j, j < 82 → M_112 (P + 3) j = M_112 (P + 3) j := fun _ _ => rfl
    by_cases c106 : (M_112 P 8) ≤ x8_112
    · rw [if_pos c106] at h
      exact fun j hj => (hk_k75 _ _ _ _ _ _ _ _ _ _ h j hj).trans (kc_0 j hj)
    · rw [if_neg c106] at h
      obtain ⟨e_130, f_e_130, h⟩ := zBx h
      by_cases c107 : e_130 = (-1 : Int32)
      · rw [if_pos c107] at h
        replace h := (zIx h).2
        exact fun j hj => (p31_X8_years_150 hk_k75 ih h j hj).trans (kc_0 j hj)
      · rw [if_neg c107] at h
        exact fun j hj => (p31_X8_years_150 hk_k75 ih h j hj).trans (kc_0 j hj)
set_option maxRecDepth 100000 in
set_option maxHeartbeats 4000000 in
theorem p31_X8_years_75 {P : Nat}  : ∀ (u : Nat) (x1_75 : Int32) (x2_75 : Int32) (x3_75 : Int32) (x4_75 : Int32) (x5_75 : Int32) (x6_75 : Int32) (x7_75 : Int32) (M_75 : zMt) (N_75 : zNt) (r : (Int32 × zMt × zNt)), D_X8_years_75 P u x1_75 x2_75 x3_75 x4_75 x5_75 x6_75 x7_75 M_75 N_75 = some r → ∀ j, j < 82 → r.2.1 (P + 1) j = M_75 (P + 3) j := by
  intro u
  induction u with
  | zero =>
    intro x1_75 x2_75 x3_75 x4_75 x5_75 x6_75 x7_75 M_75 N_75 r h
    cases h
  | succ u ih =>
    intro x1_75 x2_75 x3_75 x4_75 x5_75 x6_75 x7_75 M_75 N_75 r h
    rw [D_X8_years_75] at h
    have kc_0 : ∀ j, j < 82 → M_75 (P + 3) j = M_75 (P + 3) j := fun _ _ => rfl
    by_cases c97 : x2_75 ≤ x7_75
    · rw [if_pos c97] at h
      obtain ⟨e_178, f_e_178, h⟩ := zBx h
      have ke_178 : ∀ j, j < 82 → e_178 (P + 1) j = M_75 (P + 3) j := fun j hj => (ptakes f_e_178 j hj).trans (kc_0 j hj)
      by_cases c98 : x3_75 = 0
      · rw [if_pos c98] at h
        exact fun j hj => (p11_X8_years_203 h j hj).trans (ke_178 j hj)
      · rw [if_neg c98] at h
        by_cases c99 : x3_75 = (1 : Int32)
        · rw [if_pos c99] at h
          exact fun j hj => (p11_X8_years_203 h j hj).trans (ke_178 j hj)
        · rw [if_neg c99] at h
          exact fun j hj => (p11_X8_years_203 h j hj).trans (ke_178 j hj)
    · rw [if_neg c97] at h
      obtain ⟨e_86, f_e_86, h⟩ := zBx h
      have ke_86 : ∀ j, j < 82 → e_86.1 (P + 3) j = M_75 (P + 3) j := fun j hj => (p33_X8_goesYear f_e_86 j hj).trans (kc_0 j hj)
      obtain ⟨e_92, f_e_92, h⟩ := zBx h
      obtain ⟨e_101, f_e_101, h⟩ := zBx h
      exact fun j hj => (p31_X8_years_112 ih _ _ _ _ _ _ _ _ _ _ _ _ h j hj).trans (ke_86 j hj)
set_option maxRecDepth 100000 in
set_option maxHeartbeats 4000000 in
theorem p31_X8_years_49 {P : Nat}  : ∀ (u : Nat) (x1_49 : Int32) (x2_49 : Int32) (x3_49 : Int32) (x4_49 : Int32) (x5_49 : Int32) (x6_49 : Int32) (x7_49 : Int32) (M_49 : zMt) (N_49 : zNt) (r : (Int32 × zMt × zNt)), D_X8_years_49 P u x1_49 x2_49 x3_49 x4_49 x5_49 x6_49 x7_49 M_49 N_49 = some r → ∀ j, j < 82 → r.2.1 (P + 1) j = M_49 (P + 3) j := by
  intro u
  induction u with
  | zero =>
    intro x1_49 x2_49 x3_49 x4_49 x5_49 x6_49 x7_49 M_49 N_49 r h
    cases h
  | succ u ih =>
    intro x1_49 x2_49 x3_49 x4_49 x5_49 x6_49 x7_49 M_49 N_49 r h
    rw [D_X8_years_49] at h
    have kc_0 : ∀ j, j < 82 → M_49 (P + 3) j = M_49 (P + 3) j := fun _ _ => rfl
    by_cases c96 : (M_49 P 8) ≤ x7_49
    · rw [if_pos c96] at h
      exact fun j hj => (p31_X8_years_75 _ _ _ _ _ _ _ _ _ _ _ h j hj).trans (kc_0 j hj)
    · rw [if_neg c96] at h
      replace h := (zIx h).2
      obtain ⟨M_65, f_M_65, h⟩ := zLtx h
      have k_M_65 : ∀ j, j < 82 → M_65 (P + 3) j = M_49 (P + 3) j := fun j hj => (congrFun (congrFun f_M_65.symm (P + 3)) j).trans ((zu_ne (by omega)).trans (kc_0 j hj))
      exact fun j hj => (ih _ _ _ _ _ _ _ _ _ _ h j hj).trans (k_M_65 j hj)
set_option maxRecDepth 100000 in
set_option maxHeartbeats 4000000 in
theorem p11_X8_years {P : Nat} {v0 : Int32} {v1 : Int32} {v2 : Int32} {M : zMt} {N : zNt}  {r : (Int32 × zMt × zNt)} (h : D_X8_years P v0 v1 v2 M N = some r) : ∀ j, j < 82 → r.2.1 (P + 1) j = M (P + 1) j := by
  unfold D_X8_years at h
  have kc_0 : ∀ j, j < 82 → M (P + 1) j = M (P + 1) j := fun _ _ => rfl
  obtain ⟨e_2, f_e_2, h⟩ := zBx h
  by_cases c94 : e_2 = 0
  · rw [if_pos c94] at h
    exact fun j hj => (p11_X8_years_20 h j hj).trans (kc_0 j hj)
  · rw [if_neg c94] at h
    obtain ⟨e_14, f_e_14, h⟩ := zBx h
    by_cases c95 : e_14 = 0
    · rw [if_pos c95] at h
      exact fun j hj => (p11_X8_years_20 h j hj).trans (kc_0 j hj)
    · rw [if_neg c95] at h
      obtain ⟨e_27, f_e_27, h⟩ := zBx h
      have ke_27 : ∀ j, j < 82 → e_27 (P + 3) j = M (P + 1) j := fun j hj => (pputs f_e_27 j hj).trans (kc_0 j hj)
      exact fun j hj => (p31_X8_years_49 _ _ _ _ _ _ _ _ _ _ _ h j hj).trans (ke_27 j hj)
set_option maxRecDepth 100000 in
set_option maxHeartbeats 4000000 in
theorem p31_X8_often_68 {P : Nat} {k38 : Int32 → Int32 → Int32 → Int32 → Int32 → zMt → zNt → Option (Int32 × zMt × zNt)} {x1_68 : Int32} {x2_68 : Int32} {x3_68 : Int32} {x5_68 : Int32} {y0_68 : Int32} {y1_68 : Int32} {M_68 : zMt} {N_68 : zNt} (hk_k38 : ∀ (y0 : Int32) (y1 : Int32) (y2 : Int32) (y3 : Int32) (y4 : Int32) (y5 : zMt) (y6 : zNt) r, k38 y0 y1 y2 y3 y4 y5 y6 = some r → ∀ j, j < 82 → r.2.1 (P + 1) j = y5 (P + 3) j) {r : (Int32 × zMt × zNt)} (h : D_X8_often_68 P k38 x1_68 x2_68 x3_68 x5_68 y0_68 y1_68 M_68 N_68 = some r) : ∀ j, j < 82 → r.2.1 (P + 1) j = M_68 (P + 3) j := by
  unfold D_X8_often_68 at h
  have kc_0 : ∀ j, j < 82 → M_68 (P + 3) j = M_68 (P + 3) j := fun _ _ => rfl
  exact fun j hj => (hk_k38 _ _ _ _ _ _ _ _ h j hj).trans (kc_0 j hj)
set_option maxRecDepth 100000 in
set_option maxHeartbeats 4000000 in
theorem p31_X8_often_38 {P : Nat}  : ∀ (u : Nat) (x1_38 : Int32) (x2_38 : Int32) (x3_38 : Int32) (x4_38 : Int32) (x5_38 : Int32) (M_38 : zMt) (N_38 : zNt) (r : (Int32 × zMt × zNt)), D_X8_often_38 P u x1_38 x2_38 x3_38 x4_38 x5_38 M_38 N_38 = some r → ∀ j, j < 82 → r.2.1 (P + 1) j = M_38 (P + 3) j := by
  intro u
  induction u with
  | zero =>
    intro x1_38 x2_38 x3_38 x4_38 x5_38 M_38 N_38 r h
    cases h
  | succ u ih =>
    intro x1_38 x2_38 x3_38 x4_38 x5_38 M_38 N_38 r h
    rw [D_X8_often_38] at h
    have kc_0 : ∀ j, j < 82 → M_38 (P + 3) j = M_38 (P + 3) j := fun _ _ => rfl
    by_cases c110 : x2_38 ≤ x5_38
    · rw [if_pos c110] at h
      obtain ⟨e_78, f_e_78, h⟩ := zBx h
      have ke_78 : ∀ j, j < 82 → e_78 (P + 1) j = M_38 (P + 3) j := fun j hj => (ptakes f_e_78 j hj).trans (kc_0 j hj)
      obtain ⟨e_84, f_e_84, h⟩ := zBx h
      have ke_84 : ∀ j, j < 82 → e_84.2 (P + 1) j = M_38 (P + 3) j := fun j hj => (p11_X8_gives f_e_84 j hj).trans (ke_78 j hj)
      cases h
      exact ke_84
    · rw [if_neg c110] at h
      obtain ⟨e_49, f_e_49, h⟩ := zBx h
      have ke_49 : ∀ j, j < 82 → e_49.1 (P + 3) j = M_38 (P + 3) j := fun j hj => (p33_X8_goesYear f_e_49 j hj).trans (kc_0 j hj)
      obtain ⟨e_56, f_e_56, h⟩ := zBx h
      by_cases c111 : e_56 = (-1 : Int32)
      · rw [if_pos c111] at h
        exact fun j hj => (p31_X8_often_68 ih h j hj).trans (ke_49 j hj)
      · rw [if_neg c111] at h
        exact fun j hj => (p31_X8_often_68 ih h j hj).trans (ke_49 j hj)
set_option maxRecDepth 100000 in
set_option maxHeartbeats 4000000 in
theorem p11_X8_often {P : Nat} {v0 : Int32} {v1 : Int32} {v2 : Int32} {M : zMt} {N : zNt}  {r : (Int32 × zMt × zNt)} (h : D_X8_often P v0 v1 v2 M N = some r) : ∀ j, j < 82 → r.2.1 (P + 1) j = M (P + 1) j := by
  unfold D_X8_often at h
  have kc_0 : ∀ j, j < 82 → M (P + 1) j = M (P + 1) j := fun _ _ => rfl
  obtain ⟨e_2, f_e_2, h⟩ := zBx h
  by_cases c108 : e_2 = 0
  · rw [if_pos c108] at h
    obtain ⟨e_10, f_e_10, h⟩ := zBx h
    have ke_10 : ∀ j, j < 82 → e_10.2 (P + 1) j = M (P + 1) j := fun j hj => (p11_X8_refuse f_e_10 j hj).trans (kc_0 j hj)
    cases h
    exact ke_10
  · rw [if_neg c108] at h
    obtain ⟨e_16, f_e_16, h⟩ := zBx h
    by_cases c109 : e_16 = 0
    · rw [if_pos c109] at h
      obtain ⟨e_24, f_e_24, h⟩ := zBx h
      have ke_24 : ∀ j, j < 82 → e_24.2 (P + 1) j = M (P + 1) j := fun j hj => (p11_X8_refuse f_e_24 j hj).trans (kc_0 j hj)
      cases h
      exact ke_24
    · rw [if_neg c109] at h
      obtain ⟨e_29, f_e_29, h⟩ := zBx h
      have ke_29 : ∀ j, j < 82 → e_29 (P + 3) j = M (P + 1) j := fun j hj => (pputs f_e_29 j hj).trans (kc_0 j hj)
      exact fun j hj => (p31_X8_often_38 _ _ _ _ _ _ _ _ _ h j hj).trans (ke_29 j hj)
set_option maxRecDepth 100000 in
set_option maxHeartbeats 4000000 in
theorem p11_X8_soonest_130 {P : Nat} {y0_130 : Int32} {M_130 : zMt} {N_130 : zNt}  {r : (Int32 × zMt × zNt)} (h : D_X8_soonest_130 P y0_130 M_130 N_130 = some r) : ∀ j, j < 82 → r.2.1 (P + 1) j = M_130 (P + 1) j := by
  unfold D_X8_soonest_130 at h
  have kc_0 : ∀ j, j < 82 → M_130 (P + 1) j = M_130 (P + 1) j := fun _ _ => rfl
  cases h
  exact kc_0
set_option maxRecDepth 100000 in
set_option maxHeartbeats 4000000 in
theorem p31_X8_soonest_106 {P : Nat} {x4_106 : Int32} {M_106 : zMt} {N_106 : zNt}  {r : (Int32 × zMt × zNt)} (h : D_X8_soonest_106 P x4_106 M_106 N_106 = some r) : ∀ j, j < 82 → r.2.1 (P + 1) j = M_106 (P + 3) j := by
  unfold D_X8_soonest_106 at h
  have kc_0 : ∀ j, j < 82 → M_106 (P + 3) j = M_106 (P + 3) j := fun _ _ => rfl
  obtain ⟨e_107, f_e_107, h⟩ := zBx h
  have ke_107 : ∀ j, j < 82 → e_107 (P + 1) j = M_106 (P + 3) j := fun j hj => (ptakes f_e_107 j hj).trans (kc_0 j hj)
  by_cases c115 : x4_106 = (-1 : Int32)
  · rw [if_pos c115] at h
    obtain ⟨e_118, f_e_118, h⟩ := zBx h
    have ke_118 : ∀ j, j < 82 → e_118.2 (P + 1) j = M_106 (P + 3) j := fun j hj => (p11_X8_refuse f_e_118 j hj).trans (ke_107 j hj)
    exact fun j hj => (p11_X8_soonest_130 h j hj).trans (ke_118 j hj)
  · rw [if_neg c115] at h
    obtain ⟨e_127, f_e_127, h⟩ := zBx h
    have ke_127 : ∀ j, j < 82 → e_127.2 (P + 1) j = M_106 (P + 3) j := fun j hj => (p11_X8_gives f_e_127 j hj).trans (ke_107 j hj)
    exact fun j hj => (p11_X8_soonest_130 h j hj).trans (ke_127 j hj)
set_option maxRecDepth 100000 in
set_option maxHeartbeats 4000000 in
theorem p31_X8_soonest_98 {P : Nat} {k38 : Int32 → Int32 → Int32 → Int32 → Int32 → zMt → zNt → Option (Int32 × zMt × zNt)} {x1_98 : Int32} {x2_98 : Int32} {x3_98 : Int32} {x5_98 : Int32} {y0_98 : Int32} {M_98 : zMt} {N_98 : zNt} (hk_k38 : ∀ (y0 : Int32) (y1 : Int32) (y2 : Int32) (y3 : Int32) (y4 : Int32) (y5 : zMt) (y6 : zNt) r, k38 y0 y1 y2 y3 y4 y5 y6 = some r → ∀ j, j < 82 → r.2.1 (P + 1) j = y5 (P + 3) j) {r : (Int32 × zMt × zNt)} (h : D_X8_soonest_98 P k38 x1_98 x2_98 x3_98 x5_98 y0_98 M_98 N_98 = some r) : ∀ j, j < 82 → r.2.1 (P + 1) j = M_98 (P + 3) j := by
  unfold D_X8_soonest_98 at h
  have kc_0 : ∀ j, j < 82 → M_98 (P + 3) j = M_98 (P + 3) j := fun _ _ => rfl
  exact fun j hj => (hk_k38 _ _ _ _ _ _ _ _ h j hj).trans (kc_0 j hj)
set_option maxRecDepth 100000 in
set_option maxHeartbeats 4000000 in
theorem p31_X8_soonest_61 {P : Nat} {k38 : Int32 → Int32 → Int32 → Int32 → Int32 → zMt → zNt → Option (Int32 × zMt × zNt)} (hk_k38 : ∀ (y0 : Int32) (y1 : Int32) (y2 : Int32) (y3 : Int32) (y4 : Int32) (y5 : zMt) (y6 : zNt) r, k38 y0 y1 y2 y3 y4 y5 y6 = some r → ∀ j, j < 82 → r.2.1 (P + 1) j = y5 (P + 3) j) : ∀ (u : Nat) (x1_61 : Int32) (x2_61 : Int32) (x3_61 : Int32) (x5_61 : Int32) (x6_61 : Int32) (M_61 : zMt) (N_61 : zNt) (r : (Int32 × zMt × zNt)), D_X8_soonest_61 P k38 u x1_61 x2_61 x3_61 x5_61 x6_61 M_61 N_61 = some r → ∀ j, j < 82 → r.2.1 (P + 1) j = M_61 (P + 3) j := by
  intro u
  induction u with
  | zero =>
    intro x1_61 x2_61 x3_61 x5_61 x6_61 M_61 N_61 r h
    cases h
  | succ u ih =>
    intro x1_61 x2_61 x3_61 x5_61 x6_61 M_61 N_61 r h
    rw [D_X8_soonest_61] at h
    have kc_0 : ∀ j, j < 82 → M_61 (P + 3) j = M_61 (P + 3) j := fun _ _ => rfl
    replace h := (zIx h).2
    obtain ⟨e_69, f_e_69, h⟩ := zBx h
    by_cases c117 : e_69 = 0
    · rw [if_pos c117] at h
      exact fun j hj => (ih _ _ _ _ _ _ _ _ h j hj).trans (kc_0 j hj)
    · rw [if_neg c117] at h
      obtain ⟨e_84, f_e_84, h⟩ := zBx h
      by_cases c118 : e_84 = 0
      · rw [if_pos c118] at h
        exact fun j hj => (p31_X8_soonest_98 hk_k38 h j hj).trans (kc_0 j hj)
      · rw [if_neg c118] at h
        exact fun j hj => (p31_X8_soonest_98 hk_k38 h j hj).trans (kc_0 j hj)
set_option maxRecDepth 100000 in
set_option maxHeartbeats 4000000 in
theorem p31_X8_soonest_38 {P : Nat}  : ∀ (u : Nat) (x1_38 : Int32) (x2_38 : Int32) (x3_38 : Int32) (x4_38 : Int32) (x5_38 : Int32) (M_38 : zMt) (N_38 : zNt) (r : (Int32 × zMt × zNt)), D_X8_soonest_38 P u x1_38 x2_38 x3_38 x4_38 x5_38 M_38 N_38 = some r → ∀ j, j < 82 → r.2.1 (P + 1) j = M_38 (P + 3) j := by
  intro u
  induction u with
  | zero =>
    intro x1_38 x2_38 x3_38 x4_38 x5_38 M_38 N_38 r h
    cases h
  | succ u ih =>
    intro x1_38 x2_38 x3_38 x4_38 x5_38 M_38 N_38 r h
    rw [D_X8_soonest_38] at h
    have kc_0 : ∀ j, j < 82 → M_38 (P + 3) j = M_38 (P + 3) j := fun _ _ => rfl
    by_cases c114 : x2_38 ≤ x5_38
    · rw [if_pos c114] at h
      exact fun j hj => (p31_X8_soonest_106 h j hj).trans (kc_0 j hj)
    · rw [if_neg c114] at h
      by_cases c116 : x4_38 = (-1 : Int32)
      · rw [if_pos c116] at h
        obtain ⟨e_55, f_e_55, h⟩ := zBx h
        have ke_55 : ∀ j, j < 82 → e_55.1 (P + 3) j = M_38 (P + 3) j := fun j hj => (p33_X8_goesYear f_e_55 j hj).trans (kc_0 j hj)
        exact fun j hj => (p31_X8_soonest_61 ih _ _ _ _ _ _ _ _ _ h j hj).trans (ke_55 j hj)
      · rw [if_neg c116] at h
        exact fun j hj => (p31_X8_soonest_106 h j hj).trans (kc_0 j hj)
set_option maxRecDepth 100000 in
set_option maxHeartbeats 4000000 in
theorem p11_X8_soonest {P : Nat} {v0 : Int32} {v1 : Int32} {v2 : Int32} {M : zMt} {N : zNt}  {r : (Int32 × zMt × zNt)} (h : D_X8_soonest P v0 v1 v2 M N = some r) : ∀ j, j < 82 → r.2.1 (P + 1) j = M (P + 1) j := by
  unfold D_X8_soonest at h
  have kc_0 : ∀ j, j < 82 → M (P + 1) j = M (P + 1) j := fun _ _ => rfl
  obtain ⟨e_2, f_e_2, h⟩ := zBx h
  by_cases c112 : e_2 = 0
  · rw [if_pos c112] at h
    obtain ⟨e_10, f_e_10, h⟩ := zBx h
    have ke_10 : ∀ j, j < 82 → e_10.2 (P + 1) j = M (P + 1) j := fun j hj => (p11_X8_refuse f_e_10 j hj).trans (kc_0 j hj)
    cases h
    exact ke_10
  · rw [if_neg c112] at h
    obtain ⟨e_16, f_e_16, h⟩ := zBx h
    by_cases c113 : e_16 = 0
    · rw [if_pos c113] at h
      obtain ⟨e_24, f_e_24, h⟩ := zBx h
      have ke_24 : ∀ j, j < 82 → e_24.2 (P + 1) j = M (P + 1) j := fun j hj => (p11_X8_refuse f_e_24 j hj).trans (kc_0 j hj)
      cases h
      exact ke_24
    · rw [if_neg c113] at h
      obtain ⟨e_29, f_e_29, h⟩ := zBx h
      have ke_29 : ∀ j, j < 82 → e_29 (P + 3) j = M (P + 1) j := fun j hj => (pputs f_e_29 j hj).trans (kc_0 j hj)
      exact fun j hj => (p31_X8_soonest_38 _ _ _ _ _ _ _ _ _ h j hj).trans (ke_29 j hj)
/-! both begin alike -/
theorem jRow_new {r : Nat → Int32} (h1 : ∀ j, (j < 10 ∨ (62 ≤ j ∧ j < 69) ∨ j = 70 ∨ j = 71) → r j = 0) (h2 : ∀ j, 10 ≤ j → j < 62 → r j = -1) (h3 : r 69 = 100) : jRow r ((0 : Nat) : Int) ((0 : Nat) : Int) := by
  have o0 : (0 : Int32).toInt = 0 := by decide
  have o1 : (-1 : Int32).toInt = -1 := by decide
  have o2 : (100 : Int32).toInt = 100 := by decide
  refine ⟨fun x hx => ?_, fun x hx => ?_, fun k q1 q2 => ?_, fun x hx => ?_, ?_, fun p hp => absurd hp (by rw [h1 70 (by omega), o0]; omega)⟩
  · rw [h1 x (by omega), o0]; omega
  · rw [h2 (10 + x) (by omega) (by omega), h1 70 (by omega), o1, o0]; omega
  · rw [h2 k (by omega) q2, o1]; omega
  · rw [h1 (62 + x) (by omega), o0]; omega
  · rw [h1 67 (by omega), h1 68 (by omega), h3, h1 70 (by omega), o0, o2]; omega
theorem eqE.fresh {C P : Nat} {A B : zMt} (l0 : A (C + 17) 0 = 0) (l1 : A (C + 17) 1 = 0) (l2 : A (C + 17) 2 = 0) (l3 : A (C + 17) 3 = 0) (l4 : A (C + 17) 4 = 0) (l5 : A (C + 17) 5 = 100) (l6 : A (C + 17) 6 = 0) (lq : ∀ j, j < 5 → A (C + 18) j = 0) (lg : ∀ j, j < 10 → A (C + 20) j = 0) (p0 : A (C + 25) 0 = 0) (p1 : A (C + 25) 1 = 0) (q0 : A (C + 91) 0 = 0) (q1 : A (C + 91) 1 = 0) (q2 : A (C + 91) 2 = 0) (q3 : A (C + 91) 3 = 0) (ls : ∀ j, j < 10 → A (C + 19) j = 0) (lp : ∀ j, j < 10 → A (C + 21) j = -1) (lh : ∀ j, j < 10 → A (C + 24) j = -1) (b7 : B P 7 = 0) (b8 : B P 8 = 0) (b9 : B P 9 = 0) (r1 : ∀ j, (j < 10 ∨ (62 ≤ j ∧ j < 69) ∨ j = 70 ∨ j = 71) → B (P + 1) j = 0) (r2 : ∀ j, 10 ≤ j → j < 62 → B (P + 1) j = -1) (r3 : B (P + 1) 69 = 100) (r4 : ∀ j, j < 10 → B (P + 1) (72 + j) = -1) : eqE C P A B := by
  have n0 : (0 : Int32) = nI 0 := by decide
  refine ⟨B (P + 1), B (P + 5), 0, 0, 0, 0, fun _ _ => rfl, fun _ _ => rfl, b7.trans n0, b8.trans n0, jRow_new r1 r2 r3, ?_, ?_, ?_, ?_⟩
  · refine ⟨⟨by omega, by omega, by omega, l0.trans n0, l1.trans n0, l2.trans n0, (r1 70 (by omega)).trans n0⟩, fun u hu => ?_, fun h hh => ?_, fun h hh => absurd hh (Nat.not_lt_zero h), fun h hh => ?_, fun h hh => absurd hh (Nat.not_lt_zero h), fun h p hh => absurd hh (Nat.not_lt_zero h), fun p hp => absurd hp (Nat.not_lt_zero p), ⟨?_, ?_, ?_, ?_⟩, fun h hh => ?_, fun u _ hu => lq u hu, fun h _ hh => lg h hh⟩
    · exact (lq u hu).trans (r1 _ (by omega)).symm
    · exact (ls h hh).trans (r1 _ (by omega)).symm
    · exact ⟨(lp h hh).trans (r2 _ (by omega) (by omega)).symm, Or.inl (lp h hh), Or.inr (lp h hh)⟩
    · exact l3.trans (r1 67 (by omega)).symm
    · exact l4.trans (r1 68 (by omega)).symm
    · exact l5.trans r3.symm
    · exact l6.trans (r1 71 (by omega)).symm
    · exact (lh h hh).trans (r4 h hh).symm
  · exact ⟨q0.trans n0, fun u hu => absurd hu (Nat.not_lt_zero u), Or.inl ⟨q3, fun u hu => absurd hu (Nat.not_lt_zero u)⟩⟩
  · exact ⟨q1.trans n0, q2, fun a ha => absurd ha (Nat.not_lt_zero a)⟩
  · exact ⟨by omega, p0.trans n0, b9.trans n0, 0, by omega, p1.trans n0, fun k hk => absurd hk (Nat.not_lt_zero k)⟩
theorem eqE.vp {C P : Nat} {A B : zMt} (w : eqE C P A B) : vp_in (A (C + 25) 1) 8 := by
  obtain ⟨r, g, U, H, G, K, w⟩ := w
  obtain ⟨-, -, -, nw, hn, a1, -⟩ := w.2.2.2.2.2.2.2.2
  rw [a1]
  exact vp_in_nI hn (by decide)
/-! many, both sides -/
theorem t_ans {C P : Nat} {A B : zMt} {x y : Int32} (h : x = y) : two (zB (D_X7_answer C x A) fun e => some (e.1, e.2)) (zB (D_X8_gives P y B) fun e => some (e.1, e.2)) (fun a b => a.1 = b.1) :=
  two.l (e := (x, zu A C 0 (0 : Int32))) rfl (two.r (e := (y, zu (zu B P 6 (0 : Int32)) P 12 (0 : Int32))) rfl (two.mk h))
theorem t_rfs {C P : Nat} {A B : zMt} {v v' : Int32} : two (zB (D_X7_refuse C v A) fun e => some (e.1, e.2)) (zB (D_X8_refuse P v' B) fun e => some (e.1, e.2)) (fun a b => a.1 = b.1) :=
  two.l (e := ((-1 : Int32), zu A C 0 v)) rfl (two.r (e := ((-1 : Int32), zu (zu B P 6 (0 : Int32)) P 12 v')) rfl (two.mk rfl))
theorem zsum_pad {f : Nat → Int32} {U : Nat} : ∀ n, U ≤ n → (∀ u, U ≤ u → u < n → f u = 0) → zsum f n = zsum f U
  | 0, h, _ => by rw [show U = 0 by omega]
  | n + 1, h, k => by
    by_cases q : U = n + 1
    · rw [q]
    · rw [zsum_s, zsum_pad n (by omega) (fun u h1 h2 => k u h1 (by omega)), k n (by omega) (by omega), Int32.add_zero]
theorem mm_m162 {P U : Nat} {f : Nat → Int32} {B : zMt} (hU : U ≤ 5) (h7 : B P 7 = nI U) (hf : ∀ u, u < U → B (P + 1) (62 + u) = f u) : ∀ (v k : Nat), k ≤ U → U - k < v → D_X8_many_162 P v (zsum f k) (nI k) B = some (zsum f U, zu (zu B P 6 (0 : Int32)) P 12 (0 : Int32)) := by
  intro v
  induction v with
  | zero => intro k _ h; omega
  | succ v ih =>
    intro k hk hv
    rw [D_X8_many_162, h7]
    by_cases hc : U ≤ k
    · rw [if_pos (by exact (nI_leI (by omega) (by omega)).mpr hc), show k = U by omega]
      rfl
    · rw [if_neg (by intro z; exact hc ((nI_leI (by omega) (by omega)).mp z)), nI_62 k (by omega)]
      unfold zI
      rw [if_neg (vp_in_nI (show 62 + k < 82 by omega) (by decide)), nI_clamp (by omega), hf k (by omega), nI_add1, ← zsum_s]
      exact ih (k + 1) (by omega) (by omega)
theorem mm_m196 {P H : Nat} {g : Nat → Int32} {B : zMt} (hH : H ≤ 10) (h8 : B P 8 = nI H) (hg : ∀ h, h < H → B (P + 5) h = g h ∧ (g h = 0 ∨ g h = 1)) : ∀ (v k : Nat), k ≤ H → H - k < v → D_X8_many_196 P v (zsum g k) (nI k) B = some (zsum g H, zu (zu B P 6 (0 : Int32)) P 12 (0 : Int32)) := by
  intro v
  induction v with
  | zero => intro k _ h; omega
  | succ v ih =>
    intro k hk hv
    rw [D_X8_many_196, h8]
    by_cases hc : H ≤ k
    · rw [if_pos (by exact (nI_leI (by omega) (by omega)).mpr hc), show k = H by omega]
      rfl
    · obtain ⟨e1, e2⟩ := hg k (by omega)
      rw [if_neg (by intro z; exact hc ((nI_leI (by omega) (by omega)).mp z))]
      unfold zI
      rw [if_neg (vp_in_nI (show k < 10 by omega) (by decide)), nI_clamp (by omega), e1]
      have := ih (k + 1) (by omega) (by omega)
      rw [zsum_s] at this
      unfold D_X8_many_219
      rw [nI_add1]
      rcases e2 with z | z
      · rw [z] at this ⊢
        rw [if_pos rfl]
        exact this
      · rw [z] at this ⊢
        rw [if_neg (by decide)]
        exact this
theorem t_many {C P : Nat} {A B : zMt} {v0 : Int32} (w0 : eqE C P A B) (_hJ : jJ P B) : two (D_X7_many C v0 A) (D_X8_many P v0 B) (fun a b => a.1 = b.1) := by
  obtain ⟨r, g, U, H, G, K, w⟩ := w0
  obtain ⟨n, B1, hn, l1, l2, l3, l4, l5⟩ := t_laid w
  obtain ⟨w1, w2, w3, w4, w5, w6, w7, w8, w9⟩ := w.k (A' := A) (B' := B1) (fun _ _ _ _ => rfl) (fun i j _ => l5 i j (by omega) (by omega))
  obtain ⟨⟨c1, c2, c3, c4, c5, c6, c7⟩, r1, r2, r3, r4, r5, r6, r9, ⟨s1, s2, s3, s4⟩, u3, u4, u5⟩ := w6
  unfold D_X7_many D_X8_many
  refine two.r l1 ?_
  refine two.ite Iff.rfl (fun _ => t_ans (c4.trans w3.symm)) (fun _ => ?_)
  refine two.ite Iff.rfl (fun _ => t_ans (c5.trans w4.symm)) (fun _ => ?_)
  refine two.ite Iff.rfl (fun _ => two.ir (by unfold vp_in; decide) (t_ans ?_)) (fun _ => ?_)
  · rw [show (70 : Int32).toNatClampNeg = 70 by decide, w1 70 (by omega)]
    exact c6.trans c7.symm
  refine two.ite Iff.rfl (fun _ => t_ans ((show A (C + 91) 1 = nI n from l2.2.2.1).trans l4.1.symm)) (fun _ => ?_)
  refine two.ite Iff.rfl (fun _ => two.ir (by unfold vp_in; decide) (t_ans ?_)) (fun _ => ?_)
  · rw [show (67 : Int32).toNatClampNeg = 67 by decide, w1 67 (by omega)]
    exact s1
  refine two.ite Iff.rfl (fun _ => two.ir (by unfold vp_in; decide) (t_ans ?_)) (fun _ => ?_)
  · rw [show (68 : Int32).toNatClampNeg = 68 by decide, w1 68 (by omega)]
    exact s2
  refine two.ite Iff.rfl (fun _ => two.ir (by unfold vp_in; decide) (t_ans ?_)) (fun _ => ?_)
  · rw [show (69 : Int32).toNatClampNeg = 69 by decide, w1 69 (by omega)]
    exact s3
  refine two.ite Iff.rfl (fun _ => two.ir (by unfold vp_in; decide) (t_ans ?_)) (fun _ => ?_)
  · rw [show (71 : Int32).toNatClampNeg = 71 by decide, w1 71 (by omega)]
    exact s4
  refine two.ite Iff.rfl (fun _ => t_ans (w9.2.1.trans w9.2.2.1.symm)) (fun _ => ?_)
  refine two.ite Iff.rfl (fun _ => ?_) (fun _ => ?_)
  · have e := mm_m162 (P := P) (f := A (C + 18)) c1 w3 (fun u hu => (w1 _ (by omega)).trans (r1 u (by omega)).symm) zFu 0 (by omega) (by unfold zFu; omega)
    rw [show nI 0 = (0 : Int32) by decide, show zsum (A (C + 18)) 0 = (0 : Int32) from rfl] at e
    rw [e]
    exact two.l (e := (zsum (A (C + 18)) 5, zu A C 0 (0 : Int32))) rfl (two.mk (zsum_pad 5 c1 u4))
  refine two.ite Iff.rfl (fun _ => ?_) (fun _ => t_rfs)
  · have e := mm_m196 (P := P) (g := A (C + 20)) c2 w4 (fun h hh => by
      obtain ⟨z1, z2⟩ := r3 h hh
      rw [w2 h (by omega)]
      exact ⟨z1.symm, by rw [show A (C + 20) h = g h from z1]; exact z2⟩) zFu 0 (by omega) (by unfold zFu; omega)
    rw [show nI 0 = (0 : Int32) by decide, show zsum (A (C + 20)) 0 = (0 : Int32) from rfl] at e
    rw [e]
    exact two.l (e := (zsum (A (C + 20)) 10, zu A C 0 (0 : Int32))) rfl (two.mk (zsum_pad 10 c2 u5))
/-! who there is: hunter, unit, applicant, choice, both sides -/
theorem mm_apOf {P n U H h : Nat} {B B1 T : zMt} (hn : n ≤ 10) (hB : D_X8_laysApplicants P B = some B1) (hm : mP P B1 T n U) (hh : gH T n H) (hH : H ≤ 10) (hhH : h < H) : D_X8_applicantOf P (nI h) B = some (nI (aOf T h), B1) := by
  obtain ⟨ha, _, hb⟩ := hh h hhH
  generalize aOf T h = a at ha hb
  have go : ∀ (c u x : Nat), x + c = a → c < u → D_X8_applicantOf_6 P u (nI h) (nI x) B1 = some (nI a, B1) := by
    intro c
    induction c with
    | zero =>
      intro u x hx hu
      obtain ⟨u, rfl⟩ : ∃ y, u = y + 1 := ⟨u - 1, by omega⟩
      have : x = a := by omega
      subst this
      rw [D_X8_applicantOf_6]
      unfold zI
      rw [if_neg (vp_in_nI (show x < 10 by omega) (by decide)), nI_clamp (by omega), (hm.2.2.1 x ha).1, zB_s (mm_has1 ((hb x ha).mpr rfl)), if_neg n10]
    | succ c ih =>
      intro u x hx hu
      obtain ⟨u, rfl⟩ : ∃ y, u = y + 1 := ⟨u - 1, by omega⟩
      rw [D_X8_applicantOf_6]
      unfold zI
      rw [if_neg (vp_in_nI (show x < 10 by omega) (by decide)), nI_clamp (by omega), (hm.2.2.1 x (by omega)).1, zB_s (mm_has0 (fun z => by have := (hb x (by omega)).mp z; omega)), if_pos rfl, nI_add1]
      exact ih u (x + 1) (by omega) (by omega)
  unfold D_X8_applicantOf
  rw [zB_s hB]
  have := go a zFu 0 (by omega) (by unfold zFu; omega)
  rw [show nI 0 = (0 : Int32) by decide] at this
  exact this
theorem t_hunter {C P : Nat} {A B : zMt} {v0 v1 : Int32} (w0 : eqE C P A B) (_hJ : jJ P B) : two (D_X7_hunter C v0 v1 A) (D_X8_hunter P v0 v1 B) (fun a b => a.1 = b.1) := by
  obtain ⟨r, g, U, H, G, K, w⟩ := w0
  obtain ⟨n, B1, hn, l1, l2, l3, l4, l5⟩ := t_laid w
  obtain ⟨w1, w2, w3, w4, w5, w6, w7, w8, w9⟩ := id w
  obtain ⟨⟨c1, c2, c3, c4, c5, c6, c7⟩, r1, r2, r3, r4, r5, r6, r9, ⟨s1, s2, s3, s4⟩, u3, u4, u5⟩ := w6
  unfold D_X7_hunter D_X8_hunter
  rcases t_rng (v := v1) (x := 4) (y := 4) (by decide) with ⟨g1, g2, g3, g4, g5⟩ | ⟨gn, g5⟩
  · rw [if_neg g1, if_pos g2, zB_s g5, if_neg n10]
    rcases t_isH (v := v0) w with ⟨e1, e2, h, hh, hv⟩ | ⟨e1, e2⟩
    · subst hv
      rw [zB_s e1, zB_s e2, if_neg n10, if_neg n10, nI_0p h (by omega), nI_10h h (by omega), nI_72h h (by omega)]
      refine two.ite Iff.rfl (fun _ => two.ir (vp_in_nI (by omega) (by decide)) ?_) (fun _ => ?_)
      · rw [zrd_nI (show h < 10 by omega) (by decide), nI_clamp (by omega)]
        exact t_ans ((r2 h (by omega)).trans (w1 h (by omega)).symm)
      refine two.ite Iff.rfl (fun _ => two.ir (vp_in_nI (by omega) (by decide)) ?_) (fun _ => ?_)
      · rw [zrd_nI (show h < 10 by omega) (by decide), nI_clamp (by omega), w2 h (by omega)]
        obtain ⟨z1, z2⟩ := r3 h hh
        rcases z2 with z | z
        · rw [if_pos z]
          exact t_ans (z1.trans z)
        · rw [if_neg (by rw [z]; decide)]
          exact t_ans (z1.trans z)
      refine two.ite Iff.rfl (fun _ => two.ir (vp_in_nI (by omega) (by decide)) ?_) (fun _ => ?_)
      · rw [zrd_nI (show h < 10 by omega) (by decide), nI_clamp (by omega)]
        exact t_ans ((r4 h (by omega)).1.trans (w1 (10 + h) (by omega)).symm)
      refine two.ite Iff.rfl (fun _ => ?_) (fun _ => two.ir (vp_in_nI (by omega) (by decide)) ?_)
      · rw [zrd_nI (show h < 10 by omega) (by decide)]
        exact two.r (mm_apOf l2.1 l1 l4 l3 c2 hh) (t_ans (l3 h hh).2.1)
      · rw [zrd_nI (show h < 10 by omega) (by decide), nI_clamp (by omega)]
        exact t_ans ((u3 h (by omega)).trans (w1 (72 + h) (by omega)).symm)
    · rw [zB_s e1, zB_s e2, if_pos rfl, if_pos rfl]
      exact t_rfs
  · rw [zB_s g5, if_pos rfl]
    rcases gn with z | ⟨z, z2⟩
    · rw [if_pos z]
      exact t_rfs
    · rw [if_neg z, if_neg z2]
      exact t_rfs
/-- at which place a unit stands -/
def rkF (T : zMt) (a : Nat) (x : Int32) : Nat → Nat → Int32
  | 0, _ => -1
  | d + 1, k => if T 12 (3 * a + k) = x then nI k else rkF T a x d (k + 1)
def rk (T : zMt) (a : Nat) (x : Int32) : Int32 := rkF T a x (T 11 a).toNatClampNeg 0
theorem cc_rank {Q n U a : Nat} {A T : zMt} {x : Int32} (hg : gP T n U) (hT : ∀ i j, i < 13 → A (Q + i) j = T i j) (ha : a < n) : D_X2_rankOf Q A (nI a) x = some (rk T a x) := by
  have g1 := hg.1
  obtain ⟨c, c1, c2, c3, c4⟩ := (hg.2.2.2.2.1 a ha).2.2.2
  have go : ∀ (d u k : Nat), k + d = c → d < u → D_X2_rankOf_2 Q A u (nI a) x (nI k) = some (rkF T a x d k) := by
    intro d
    induction d with
    | zero =>
      intro u k hk hu
      obtain ⟨u, rfl⟩ : ∃ y, u = y + 1 := ⟨u - 1, by omega⟩
      rw [D_X2_rankOf_2, zrd_nI (show a < 10 by omega) (by decide), hT 11 a (by omega), c2, if_pos (by exact (nI_leI (by omega) (by omega)).mpr (by omega))]
      rfl
    | succ d ih =>
      intro u k hk hu
      obtain ⟨u, rfl⟩ : ∃ y, u = y + 1 := ⟨u - 1, by omega⟩
      rw [D_X2_rankOf_2, zrd_nI (show a < 10 by omega) (by decide), hT 11 a (by omega), c2, if_neg (by intro z; exact absurd ((nI_leI (by omega) (by omega)).mp z) (by omega)), zB_s (cc_wish (T := T) (a := a) (k := k) (by omega) (by omega) hT)]
      have e : rkF T a x (d + 1) k = if T 12 (3 * a + k) = x then nI k else rkF T a x d (k + 1) := rfl
      rw [e]
      by_cases q : T 12 (3 * a + k) = x
      · rw [if_pos q, if_pos q]
      · rw [if_neg q, if_neg q, nI_add1]
        exact ih u (k + 1) (by omega) (by omega)
  have := go c zFu 0 (by omega) (by unfold zFu; omega)
  rw [show nI 0 = (0 : Int32) by decide] at this
  unfold D_X2_rankOf rk
  rw [c2, nI_clamp (by omega)]
  exact this
theorem mm_place {P n U a : Nat} {B T : zMt} {x : Int32} (hg : gP T n U) (hm : mP P B T n U) (ha : a < n) : D_X8_placeOf P B (nI a) x = some (rk T a x) := by
  have g1 := hg.1
  obtain ⟨c, c1, c2, c3, c4⟩ := (hg.2.2.2.2.1 a ha).2.2.2
  have go : ∀ (d u k : Nat), k + d = c → d < u → D_X8_placeOf_2 P B u (nI a) x (nI k) = some (rkF T a x d k) := by
    intro d
    induction d with
    | zero =>
      intro u k hk hu
      obtain ⟨u, rfl⟩ : ∃ y, u = y + 1 := ⟨u - 1, by omega⟩
      rw [D_X8_placeOf_2, zB_s (mm_manyC hg hm ha), c2, if_pos (by exact (nI_leI (by omega) (by omega)).mpr (by omega))]
      rfl
    | succ d ih =>
      intro u k hk hu
      obtain ⟨u, rfl⟩ : ∃ y, u = y + 1 := ⟨u - 1, by omega⟩
      rw [D_X8_placeOf_2, zB_s (mm_manyC hg hm ha), c2, if_neg (by intro z; exact absurd ((nI_leI (by omega) (by omega)).mp z) (by omega)), zB_s (mm_choice (k := k) g1 hm ha (by omega))]
      have e : rkF T a x (d + 1) k = if T 12 (3 * a + k) = x then nI k else rkF T a x d (k + 1) := rfl
      rw [e]
      by_cases q : T 12 (3 * a + k) = x
      · rw [if_pos q, if_pos q]
      · rw [if_neg q, if_neg q, nI_add1]
        exact ih u (k + 1) (by omega) (by omega)
  have := go c zFu 0 (by omega) (by unfold zFu; omega)
  rw [show nI 0 = (0 : Int32) by decide] at this
  unfold D_X8_placeOf rk
  rw [c2, nI_clamp (by omega)]
  exact this
theorem rkF_ge {T : zMt} {a : Nat} {x : Int32} : ∀ d k, rkF T a x d k = -1 ∨ ∃ i, k ≤ i ∧ i < k + d ∧ rkF T a x d k = nI i
  | 0, k => Or.inl rfl
  | d + 1, k => by
    have e : rkF T a x (d + 1) k = if T 12 (3 * a + k) = x then nI k else rkF T a x d (k + 1) := rfl
    rw [e]
    by_cases q : T 12 (3 * a + k) = x
    · rw [if_pos q]
      exact Or.inr ⟨k, by omega, by omega, rfl⟩
    · rw [if_neg q]
      rcases rkF_ge d (k + 1) with z | ⟨i, h1, h2, h3⟩
      · exact Or.inl z
      · exact Or.inr ⟨i, by omega, by omega, h3⟩
/-- first among them -/
theorem rk_0 {T : zMt} {a n U u : Nat} (hg : gP T n U) (ha : a < n) (hu : u < U) : rk T a (nI u) = 0 ↔ T 12 (3 * a) = nI u := by
  have g2 := hg.2.1
  have hw := (hg.2.2.2.2.1 a ha).2.2.2
  constructor
  · intro h
    obtain ⟨c, c1, c2, c3, c4⟩ := hw
    unfold rk at h
    rw [c2, nI_clamp (by omega)] at h
    cases c with
    | zero => exact absurd (show (-1 : Int32) = 0 from h) (by decide)
    | succ d =>
      have e : rkF T a (nI u) (d + 1) 0 = if T 12 (3 * a + 0) = nI u then nI 0 else rkF T a (nI u) d (0 + 1) := rfl
      rw [e] at h
      by_cases q : T 12 (3 * a + 0) = nI u
      · exact q
      · rw [if_neg q] at h
        rcases rkF_ge (T := T) (a := a) (x := nI u) d (0 + 1) with z | ⟨i, h1, h2, h3⟩
        · rw [z] at h
          exact absurd h (by decide)
        · rw [h3] at h
          have := nI_inj (a := i) (b := 0) (by omega) (by omega) h
          omega
  · intro h
    have hp := hw.pos (by omega) h
    unfold rk
    obtain ⟨d, hd⟩ : ∃ d, (T 11 a).toNatClampNeg = d + 1 := ⟨(T 11 a).toNatClampNeg - 1, by omega⟩
    rw [hd]
    have e : rkF T a (nI u) (d + 1) 0 = if T 12 (3 * a + 0) = nI u then nI 0 else rkF T a (nI u) d (0 + 1) := rfl
    rw [e, if_pos (by exact h)]
    decide
/-- applicants, hunters whose first choice a unit is; applicants who ask for it -/
def fA1 (T : zMt) (u a : Nat) : Int32 := if T 12 (3 * a) = nI u then 1 else 0
def fH1 (T : zMt) (u a : Nat) : Int32 := if T 12 (3 * a) = nI u then T 5 a else 0
def fK1 (T : zMt) (u a : Nat) : Int32 := if rk T a (nI u) = -1 then 0 else 1
theorem cc_fA {Q n U u : Nat} {A T : zMt} (hg : gP T n U) (hT : ∀ i j, i < 13 → A (Q + i) j = T i j) (hu : u < U) : D_X2_firstApplicants Q A (nI u) = some (zsum (fA1 T u) n) := by
  have g1 := hg.1
  have e1 : A Q 1 = nI n := (hT 0 1 (by omega)).trans hg.2.2.1
  have go : ∀ (v k : Nat), k ≤ n → n - k < v → D_X2_firstApplicants_4 Q A v (nI u) (zsum (fA1 T u) k) (nI k) = some (zsum (fA1 T u) n) := by
    intro v
    induction v with
    | zero => intro k _ h; omega
    | succ v ih =>
      intro k hk hv
      rw [D_X2_firstApplicants_4, e1]
      by_cases hc : n ≤ k
      · rw [if_pos (by exact (nI_leI (by omega) (by omega)).mpr hc), show k = n by omega]
      · rw [if_neg (by intro z; exact hc ((nI_leI (by omega) (by omega)).mp z)), zB_s (cc_rank hg hT (show k < n by omega))]
        have := ih (k + 1) (by omega) (by omega)
        rw [zsum_s, ← nI_add1] at this
        have hr := rk_0 hg (show k < n by omega) hu
        by_cases q : T 12 (3 * k) = nI u
        · rw [if_pos (hr.mpr q)]
          rw [show fA1 T u k = 1 from if_pos q] at this
          exact this
        · rw [if_neg (fun z => q (hr.mp z))]
          rw [show fA1 T u k = 0 from if_neg q] at this
          exact this
  have := go zFu 0 (by omega) (by unfold zFu; omega)
  rw [show nI 0 = (0 : Int32) by decide] at this
  exact this
theorem cc_fH {Q n U u : Nat} {A T : zMt} (hg : gP T n U) (hT : ∀ i j, i < 13 → A (Q + i) j = T i j) (hu : u < U) : D_X2_firstHunters Q A (nI u) = some (zsum (fH1 T u) n) := by
  have g1 := hg.1
  have e1 : A Q 1 = nI n := (hT 0 1 (by omega)).trans hg.2.2.1
  have go : ∀ (v k : Nat), k ≤ n → n - k < v → D_X2_firstHunters_4 Q A v (nI u) (zsum (fH1 T u) k) (nI k) = some (zsum (fH1 T u) n) := by
    intro v
    induction v with
    | zero => intro k _ h; omega
    | succ v ih =>
      intro k hk hv
      rw [D_X2_firstHunters_4, e1]
      by_cases hc : n ≤ k
      · rw [if_pos (by exact (nI_leI (by omega) (by omega)).mpr hc), show k = n by omega]
      · rw [if_neg (by intro z; exact hc ((nI_leI (by omega) (by omega)).mp z)), zB_s (cc_rank hg hT (show k < n by omega)), zrd_nI (show k < 10 by omega) (by decide), hT 5 k (by omega)]
        have := ih (k + 1) (by omega) (by omega)
        rw [zsum_s, ← nI_add1] at this
        have hr := rk_0 hg (show k < n by omega) hu
        by_cases q : T 12 (3 * k) = nI u
        · rw [if_pos (hr.mpr q)]
          rw [show fH1 T u k = T 5 k from if_pos q] at this
          exact this
        · rw [if_neg (fun z => q (hr.mp z))]
          rw [show fH1 T u k = 0 from if_neg q] at this
          exact this
  have := go zFu 0 (by omega) (by unfold zFu; omega)
  rw [show nI 0 = (0 : Int32) by decide] at this
  exact this
theorem cc_fK {Q n U u : Nat} {A T : zMt} (hg : gP T n U) (hT : ∀ i j, i < 13 → A (Q + i) j = T i j) : D_X2_askers Q A (nI u) = some (zsum (fK1 T u) n) := by
  have g1 := hg.1
  have e1 : A Q 1 = nI n := (hT 0 1 (by omega)).trans hg.2.2.1
  have go : ∀ (v k : Nat), k ≤ n → n - k < v → D_X2_askers_4 Q A v (nI u) (zsum (fK1 T u) k) (nI k) = some (zsum (fK1 T u) n) := by
    intro v
    induction v with
    | zero => intro k _ h; omega
    | succ v ih =>
      intro k hk hv
      rw [D_X2_askers_4, e1]
      by_cases hc : n ≤ k
      · rw [if_pos (by exact (nI_leI (by omega) (by omega)).mpr hc), show k = n by omega]
      · rw [if_neg (by intro z; exact hc ((nI_leI (by omega) (by omega)).mp z)), zB_s (cc_rank hg hT (show k < n by omega))]
        have := ih (k + 1) (by omega) (by omega)
        rw [zsum_s, ← nI_add1] at this
        by_cases q : rk T k (nI u) = -1
        · rw [if_pos q]
          rw [show fK1 T u k = 0 from if_pos q] at this
          exact this
        · rw [if_neg q]
          rw [show fK1 T u k = 1 from if_neg q] at this
          exact this
  have := go zFu 0 (by omega) (by unfold zFu; omega)
  rw [show nI 0 = (0 : Int32) by decide] at this
  exact this
/-- the reference counts likewise -/
theorem mm_unit85 {P n U u : Nat} {B T : zMt} {x : Int32} (hg : gP T n U) (hm : mP P B T n U) (hx : x = 3 ∨ x = 4 ∨ x = 5) : ∀ (v k : Nat), k ≤ n → n - k < v → D_X8_unit_85 P v (nI u) x (zsum (if x = 5 then fK1 T u else if x = 4 then fH1 T u else fA1 T u) k) (nI k) B = some (zsum (if x = 5 then fK1 T u else if x = 4 then fH1 T u else fA1 T u) n, zu (zu B P 6 (0 : Int32)) P 12 (0 : Int32)) := by
  have g1 := hg.1
  intro v
  induction v with
  | zero => intro k _ h; omega
  | succ v ih =>
    intro k hk hv
    rw [D_X8_unit_85, hm.1]
    by_cases hc : n ≤ k
    · rw [if_pos (by exact (nI_leI (by omega) (by omega)).mpr hc), show k = n by omega]
      rfl
    · have := ih (k + 1) (by omega) (by omega)
      rw [zsum_s, ← nI_add1] at this
      have ec := mm_choice (k := 0) g1 hm (show k < n by omega) (by omega)
      rw [show nI 0 = (0 : Int32) by decide] at ec
      rw [if_neg (by intro z; exact hc ((nI_leI (by omega) (by omega)).mp z)), zB_s (mm_place hg hm (show k < n by omega)), zB_s ec]
      unfold D_X8_unit_134
      rcases hx with z | z | z <;> subst z
      · have n1 : ¬ (3 : Int32) = 5 := by decide
        have n2 : ¬ (3 : Int32) = 4 := by decide
        simp only [if_neg n1, if_neg n2, if_true] at this ⊢
        by_cases q : T 12 (3 * k + 0) = nI u
        · rw [if_pos q, if_neg n10]
          rw [show fA1 T u k = 1 from if_pos q] at this
          exact this
        · rw [if_neg q]
          rw [show fA1 T u k = 0 from if_neg q] at this
          exact this
      · have n1 : ¬ (4 : Int32) = 5 := by decide
        have n2 : (4 : Int32) = 4 := rfl
        simp only [if_neg n1, if_true] at this ⊢
        by_cases q : T 12 (3 * k + 0) = nI u
        · rw [if_pos q, if_neg n10]
          unfold zI
          rw [if_neg (vp_in_nI (show k < 10 by omega) (by decide)), nI_clamp (by omega), (hm.2.2.1 k (by omega)).2.2.1]
          rw [show fH1 T u k = T 5 k from if_pos q] at this
          exact this
        · rw [if_neg q]
          rw [show fH1 T u k = 0 from if_neg q] at this
          exact this
      · have n1 : (5 : Int32) = 5 := rfl
        have n2 : ¬ (5 : Int32) = 4 := by decide
        simp only [if_neg n2, if_true] at this ⊢
        by_cases q : rk T k (nI u) = -1
        · rw [if_pos q]
          rw [show fK1 T u k = 0 from if_pos q] at this
          exact this
        · rw [if_neg q, if_neg n10]
          rw [show fK1 T u k = 1 from if_neg q] at this
          exact this
theorem i_of {x : Int32} {k : Nat} (h : Int32.toInt x = k) (hk : k < 2147483648) : x = nI k := Int32.toInt_inj.mp (by rw [h, nI_toInt (by omega)])
theorem t_unit {C P : Nat} {A B : zMt} {v0 v1 : Int32} (w0 : eqE C P A B) (_hJ : jJ P B) : two (D_X7_unit C v0 v1 A) (D_X8_unit P v0 v1 B) (fun a b => a.1 = b.1) := by
  obtain ⟨r, g, U, H, G, K, w⟩ := w0
  obtain ⟨n, B1, hn, l1, l2, l3, l4, l5⟩ := t_laid w
  obtain ⟨w1, w2, w3, w4, w5, w6, w7, w8, w9⟩ := id w
  obtain ⟨⟨c1, c2, c3, c4, c5, c6, c7⟩, r1, r2, r3, r4, r5, r6, r9, ⟨s1, s2, s3, s4⟩, u3, u4, u5⟩ := w6
  have o5 : (5 : Int32).toInt = 5 := by decide
  have hT : ∀ i j, i < 13 → A (C + 91 + i) j = tP (C + 91) A i j := fun _ _ _ => rfl
  unfold D_X7_unit D_X8_unit
  rcases t_rng (v := v1) (x := 5) (y := 5) (by decide) with ⟨g1, g2, g3, g4, g5⟩ | ⟨gn, g5⟩
  · rw [if_neg g1, if_pos g2, zB_s g5, if_neg n10]
    rcases t_isU (v := v0) w with ⟨e1, e2, u, hu, hv⟩ | ⟨e1, e2⟩
    · subst hv
      rw [zB_s e1, zB_s e2, if_neg n10, if_neg n10]
      obtain ⟨z1, z2, z3⟩ := w7.2.1 u hu
      have ep : D_X8_preferred P B (nI u) = some (A (C + 93) u) := by
        unfold D_X8_preferred zI
        rw [nI_62 u (by omega), if_neg (vp_in_nI (show 62 + u < 82 by omega) (by decide)), nI_clamp (by omega), if_neg (by decide), show (68 : Int32).toNatClampNeg = 68 by decide, w1 _ (by omega), w1 68 (by omega)]
        exact congrArg some z2.symm
      have eg : D_X8_forGuests P B (nI u) = some (A (C + 94) u) := by
        unfold D_X8_forGuests zI
        rw [nI_62 u (by omega), if_neg (vp_in_nI (show 62 + u < 82 by omega) (by decide)), nI_clamp (by omega), if_neg (by decide), show (69 : Int32).toNatClampNeg = 69 by decide, w1 _ (by omega), w1 69 (by omega)]
        exact congrArg some z3.symm
      have hc : v1 = 0 ∨ v1 = 1 ∨ v1 = 2 ∨ v1 = 3 ∨ v1 = 4 ∨ v1 = 5 := by
        have : v1.toInt = 0 ∨ v1.toInt = 1 ∨ v1.toInt = 2 ∨ v1.toInt = 3 ∨ v1.toInt = 4 ∨ v1.toInt = 5 := by omega
        rcases this with q | q | q | q | q | q
        · exact Or.inl (i_of (k := 0) q (by omega))
        · exact Or.inr (Or.inl (i_of (k := 1) q (by omega)))
        · exact Or.inr (Or.inr (Or.inl (i_of (k := 2) q (by omega))))
        · exact Or.inr (Or.inr (Or.inr (Or.inl (i_of (k := 3) q (by omega)))))
        · exact Or.inr (Or.inr (Or.inr (Or.inr (Or.inl (i_of (k := 4) q (by omega))))))
        · exact Or.inr (Or.inr (Or.inr (Or.inr (Or.inr (i_of (k := 5) q (by omega))))))
      have cnt : ∀ x : Int32, (x = 3 ∨ x = 4 ∨ x = 5) → ∀ y : Int32, y = zsum (if x = 5 then fK1 (tP (C + 91) A) u else if x = 4 then fH1 (tP (C + 91) A) u else fA1 (tP (C + 91) A) u) n → two (zB (D_X7_answer C y A) fun e => some (e.1, e.2)) (zB (D_X8_laysApplicants P B) fun e_77 => D_X8_unit_85 P zFu (nI u) x (0 : Int32) (0 : Int32) e_77) (fun a b => a.1 = b.1) := fun x hx y hy => by
        have hn10 := l2.1
        have em := mm_unit85 (u := u) l2 l4 hx zFu 0 (by omega) (by unfold zFu; omega)
        rw [show nI 0 = (0 : Int32) by decide] at em
        have e0 : ∀ f : Nat → Int32, zsum f 0 = (0 : Int32) := fun _ => rfl
        rw [e0] at em
        refine two.r l1 ?_
        rw [em]
        exact two.l (e := (y, zu A C 0 (0 : Int32))) rfl (two.mk hy)
      rcases hc with q | q | q | q | q | q <;> subst q
      · rw [if_pos (by decide), if_neg (by decide), if_pos rfl, zrd_nI (show u < 5 by omega) (by decide), nI_62 u (by omega)]
        refine two.ir (vp_in_nI (show 62 + u < 82 by omega) (by decide)) ?_
        rw [nI_clamp (by omega)]
        exact t_ans ((r1 u (by omega)).trans (w1 _ (by omega)).symm)
      · rw [if_neg (by decide), if_pos (by decide), if_neg (by decide), if_neg (by decide), if_pos rfl, zrd_nI (show u < 5 by omega) (by decide)]
        exact two.r ep (t_ans rfl)
      · rw [if_neg (by decide), if_neg (by decide), if_pos (by decide), if_neg (by decide), if_neg (by decide), if_neg (by decide), zrd_nI (show u < 5 by omega) (by decide)]
        exact two.r eg (t_ans rfl)
      · rw [if_neg (by decide), if_neg (by decide), if_neg (by decide), if_pos (by decide), if_pos (by decide)]
        exact two.l (cc_fA l2 hT hu) (cnt 3 (Or.inl rfl) _ (by rw [if_neg (by decide), if_neg (by decide)]))
      · rw [if_neg (by decide), if_neg (by decide), if_neg (by decide), if_neg (by decide), if_pos (by decide), if_pos (by decide)]
        exact two.l (cc_fH l2 hT hu) (cnt 4 (Or.inr (Or.inl rfl)) _ (by rw [if_neg (by decide), if_pos rfl]))
      · rw [if_neg (by decide), if_neg (by decide), if_neg (by decide), if_neg (by decide), if_neg (by decide), if_pos (by decide)]
        exact two.l (cc_fK l2 hT) (cnt 5 (Or.inr (Or.inr rfl)) _ (by rw [if_pos rfl]))
    · rw [zB_s e1, zB_s e2, if_pos rfl, if_pos rfl]
      exact t_rfs
  · rw [zB_s g5, if_pos rfl]
    rcases gn with z | ⟨z, z2⟩
    · rw [if_pos z]
      exact t_rfs
    · rw [if_neg z, if_neg z2]
      exact t_rfs
theorem t_applicant {C P : Nat} {A B : zMt} {v0 v1 : Int32} (w0 : eqE C P A B) (_hJ : jJ P B) : two (D_X7_applicant C v0 v1 A) (D_X8_applicant P v0 v1 B) (fun a b => a.1 = b.1) := by
  obtain ⟨r, g, U, H, G, K, w⟩ := w0
  unfold D_X7_applicant D_X8_applicant
  rcases t_rng (v := v1) (x := 6) (y := 6) (by decide) with ⟨g1, g2, g3, g4, g5⟩ | ⟨gn, g5⟩
  · rw [if_neg g1, if_pos g2, zB_s g5, if_neg n10]
    obtain ⟨n, B1, hn, l1, l2, l3, l4, l5, hA⟩ := t_isA (v := v0) w
    have hn10 := l2.1
    rcases hA with ⟨e1, e2, a, ha, hv⟩ | ⟨e1, e2⟩
    · subst hv
      obtain ⟨m1, m2, m3, m4, m5, m6, -⟩ := l4.2.2.1 a ha
      rw [zB_s e1, zB_s e2, if_neg n10, if_neg n10]
      refine two.ite Iff.rfl (fun _ => two.ir (vp_in_nI (by omega) (by decide)) ?_) (fun _ => ?_)
      · rw [zrd_nI (show a < 10 by omega) (by decide), nI_clamp (by omega)]
        exact t_ans m3.symm
      refine two.ite Iff.rfl (fun _ => two.ir (vp_in_nI (by omega) (by decide)) ?_) (fun _ => ?_)
      · rw [zrd_nI (show a < 10 by omega) (by decide), nI_clamp (by omega)]
        exact t_ans m4.symm
      refine two.ite Iff.rfl (fun _ => two.ir (vp_in_nI (by omega) (by decide)) ?_) (fun _ => ?_)
      · rw [zrd_nI (show a < 10 by omega) (by decide), nI_clamp (by omega)]
        exact t_ans m5.symm
      refine two.ite Iff.rfl (fun _ => two.ir (vp_in_nI (by omega) (by decide)) ?_) (fun _ => ?_)
      · rw [zrd_nI (show a < 10 by omega) (by decide), nI_clamp (by omega)]
        exact t_ans m6.symm
      refine two.ite Iff.rfl (fun _ => ?_) (fun _ => ?_)
      · rw [zrd_nI (show a < 10 by omega) (by decide)]
        exact two.r (mm_manyC l2 l4 ha) (t_ans rfl)
      refine two.ite Iff.rfl (fun _ => two.ir (vp_in_nI (by omega) (by decide)) ?_) (fun _ => two.ir (vp_in_nI (by omega) (by decide)) ?_)
      · rw [zrd_nI (show a < 10 by omega) (by decide), nI_clamp (by omega)]
        exact t_ans m1.symm
      · rw [zrd_nI (show a < 10 by omega) (by decide), nI_clamp (by omega)]
        exact t_ans m2.symm
    · rw [zB_s e1, zB_s e2, if_pos rfl, if_pos rfl]
      exact t_rfs
  · rw [zB_s g5, if_pos rfl]
    rcases gn with z | ⟨z, z2⟩
    · rw [if_pos z]
      exact t_rfs
    · rw [if_neg z, if_neg z2]
      exact t_rfs
theorem t_choice {C P : Nat} {A B : zMt} {v0 v1 : Int32} (w0 : eqE C P A B) (_hJ : jJ P B) : two (D_X7_choice C v0 v1 A) (D_X8_choice P v0 v1 B) (fun a b => a.1 = b.1) := by
  obtain ⟨r, g, U, H, G, K, w⟩ := w0
  unfold D_X7_choice D_X8_choice
  refine two.ite Iff.rfl (fun hge => ?_) (fun _ => t_rfs)
  have hge2 := Int32.le_iff_toInt_le.mp hge
  rw [show (0 : Int32).toInt = 0 by decide] at hge2
  obtain ⟨n, B1, hn, l1, l2, l3, l4, l5, hA⟩ := t_isA (v := v0) w
  have hn10 := l2.1
  rcases hA with ⟨e1, e2, a, ha, hv⟩ | ⟨e1, e2⟩
  · subst hv
    obtain ⟨c, c1, c2, c3, c4⟩ := (l2.2.2.2.2.1 a ha).2.2.2
    have c2' : A (C + 102) a = nI c := c2
    have hk : v1 = nI v1.toInt.toNat := z_toN hge2
    have hlt := Int32.toInt_lt v1
    have hkk : v1.toInt.toNat < 2147483648 := by omega
    generalize v1.toInt.toNat = k at hk hkk
    subst hk
    rw [zB_s e1, zB_s e2, if_neg n10, if_neg n10, zrd_nI (show a < 10 by omega) (by decide), c2', zB_s (mm_manyC l2 l4 ha), c2]
    by_cases q : k < c
    · rw [if_pos (by exact (nI_ltI (by omega) (by omega)).mpr q), if_neg (by intro z; exact absurd ((nI_leI (by omega) (by omega)).mp z) (by omega))]
      exact two.l (cc_wish (T := tP (C + 91) A) (a := a) (k := k) (by omega) (by omega) (fun _ _ _ => rfl)) (two.r (mm_choice (k := k) hn10 l4 ha (by omega)) (t_ans rfl))
    · rw [if_neg (by intro z; exact q ((nI_ltI (by omega) (by omega)).mp z)), if_pos (by exact (nI_leI (by omega) (by omega)).mpr (by omega))]
      exact t_rfs
  · rw [zB_s e1, zB_s e2, if_pos rfl, if_pos rfl]
    exact t_rfs
