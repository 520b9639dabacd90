/-! the class gathers its pool out of a register -/
theorem cc_gU15 {Q R U : Nat} {r : Nat → Int32} (hU : U ≤ 5) (hd : R + 8 ≤ Q ∨ Q + 13 ≤ R) : ∀ (u k : Nat) (A : zMt), A Q 0 = nI U → (∀ u, u < 5 → A (R + 1) u = r (62 + u)) → A R 4 = r 68 → A R 5 = r 69 → k ≤ U → U - k < u → (∀ i, i < k → A (Q + 1) i = r (62 + i) ∧ A (Q + 2) i = r (62 + i) * r 68 / 100 ∧ A (Q + 3) i = r (62 + i) * r 69 / 100) → ((A Q 3 = 0 ∧ ∀ i, i < k → A (Q + 2) i ≤ 0) ∨ (A Q 3 = 1 ∧ ∃ i, i < k ∧ ¬ A (Q + 2) i ≤ 0)) → ∃ A', D_X2_gatherUnits_15 Q R u (nI k) A = some A' ∧ cU Q A' r U ∧ (∀ i j, ¬ (i = Q ∧ j = 3) → ¬ (Q + 1 ≤ i ∧ i ≤ Q + 3) → A' i j = A i j) := by
  intro u
  induction u with
  | zero => intro k A _ _ _ _ _ h; omega
  | succ u ih =>
    intro k A h0 hq h4 h5 hk hu hv han
    rw [D_X2_gatherUnits_15, h0]
    by_cases hc : U ≤ k
    · have : k = U := by omega
      subst this
      rw [if_pos (by exact (nI_leI (by omega) (by omega)).mpr hc)]
      exact ⟨A, rfl, ⟨h0, hv, han⟩, fun _ _ _ _ => rfl⟩
    · have hk5 : k < 5 := by omega
      rw [if_neg (by intro z; exact hc ((nI_leI (by omega) (by omega)).mp z)), zrd_nI hk5 (by decide), hq k hk5, zwr_nI hk5 (by decide), zLt_eq]
      generalize hA1 : zu A (Q + 1) k (r (62 + k)) = A1
      have k1 : ∀ i j, ¬ (i = Q + 1 ∧ j = k) → A1 i j = A i j := fun i j h => by rw [← hA1]; exact zu_ne h
      have v1 : A1 (Q + 1) k = r (62 + k) := by rw [← hA1]; exact zu_eq
      rw [zwr_nI hk5 (by decide), k1 R 4 (by omega), h4, zLt_eq]
      generalize hA2 : zu A1 (Q + 2) k (r (62 + k) * r 68 / 100) = A2
      have k2 : ∀ i j, ¬ (i = Q + 2 ∧ j = k) → A2 i j = A1 i j := fun i j h => by rw [← hA2]; exact zu_ne h
      have v2 : A2 (Q + 2) k = r (62 + k) * r 68 / 100 := by rw [← hA2]; exact zu_eq
      rw [zwr_nI hk5 (by decide), k2 R 5 (by omega), k1 R 5 (by omega), h5, zLt_eq]
      generalize hA3 : zu A2 (Q + 3) k (r (62 + k) * r 69 / 100) = A3
      have k3 : ∀ i j, ¬ (i = Q + 3 ∧ j = k) → A3 i j = A2 i j := fun i j h => by rw [← hA3]; exact zu_ne h
      have v3 : A3 (Q + 3) k = r (62 + k) * r 69 / 100 := by rw [← hA3]; exact zu_eq
      have kk : ∀ i j, ¬ (Q + 1 ≤ i ∧ i ≤ Q + 3 ∧ j = k) → A3 i j = A i j := fun i j h => by rw [k3 i j (by omega), k2 i j (by omega), k1 i j (by omega)]
      have w1 : A3 (Q + 1) k = r (62 + k) := by rw [k3 _ _ (by omega), k2 _ _ (by omega), v1]
      have w2 : A3 (Q + 2) k = r (62 + k) * r 68 / 100 := by rw [k3 _ _ (by omega), v2]
      rw [zrd_nI hk5 (by decide)]
      have go : ∀ y : Int32, ((y = 0 ∧ A3 (Q + 2) k ≤ 0) ∨ (y = 1 ∧ ¬ A3 (Q + 2) k ≤ 0)) → ∃ A', D_X2_gatherUnits_96 Q R (D_X2_gatherUnits_15 Q R u) (nI k) (A3 Q 3) y A3 = some A' ∧ cU Q A' r U ∧ (∀ i j, ¬ (i = Q ∧ j = 3) → ¬ (Q + 1 ≤ i ∧ i ≤ Q + 3) → A' i j = A i j) := fun y hy => by
        unfold D_X2_gatherUnits_96
        have e3 : A3 Q 3 = A Q 3 := kk Q 3 (by omega)
        have hz : ∃ z : Int32, A3 Q 3 ||| y = z ∧ (z = 0 ∨ z = 1) ∧ ((z = 0 ∧ ∀ i, i < k + 1 → A3 (Q + 2) i ≤ 0) ∨ (z = 1 ∧ ∃ i, i < k + 1 ∧ ¬ A3 (Q + 2) i ≤ 0)) := by
          rw [e3]
          have old : ∀ i, i < k → A3 (Q + 2) i = A (Q + 2) i := fun i hi => kk _ _ (by omega)
          rcases han with ⟨a0, al⟩ | ⟨a1, i0, hi0, hn⟩
          · rcases hy with ⟨y0, yl⟩ | ⟨y1, yn⟩
            · refine ⟨0, by rw [a0, y0]; decide, Or.inl rfl, Or.inl ⟨rfl, fun i hi => ?_⟩⟩
              by_cases q : i = k
              · subst q; exact yl
              · rw [old i (by omega)]; exact al i (by omega)
            · exact ⟨1, by rw [a0, y1]; decide, Or.inr rfl, Or.inr ⟨rfl, k, by omega, yn⟩⟩
          · have e1 : A Q 3 ||| y = 1 := by
              rcases hy with ⟨y0, _⟩ | ⟨y1, _⟩
              · rw [a1, y0]; decide
              · rw [a1, y1]; decide
            exact ⟨1, e1, Or.inr rfl, Or.inr ⟨rfl, i0, by omega, by rw [old i0 hi0]; exact hn⟩⟩
        obtain ⟨z, ez, hz1, hz2⟩ := hz
        rw [ez]
        unfold zO
        rw [if_pos hz1, zLt_eq, nI_add1]
        have k4 : ∀ i j, ¬ (i = Q ∧ j = 3) → zu A3 Q 3 z i j = A3 i j := fun i j h => zu_ne h
        have k5 : ∀ i j, ¬ (i = Q ∧ j = 3) → ¬ (Q + 1 ≤ i ∧ i ≤ Q + 3 ∧ j = k) → zu A3 Q 3 z i j = A i j := fun i j h1 h2 => (k4 i j h1).trans (kk i j h2)
        obtain ⟨A', f1, f2, f3⟩ := ih (k + 1) (zu A3 Q 3 z) ((k5 Q 0 (by omega) (by omega)).trans h0) (fun i hi => (k5 _ _ (by omega) (by omega)).trans (hq i hi)) ((k5 _ _ (by omega) (by omega)).trans h4) ((k5 _ _ (by omega) (by omega)).trans h5) (by omega) (by omega) (fun i hi => by
          by_cases q : i = k
          · subst q
            rw [k4 _ _ (by omega), k4 _ _ (by omega), k4 _ _ (by omega)]
            exact ⟨w1, w2, v3⟩
          · rw [k5 _ _ (by omega) (by omega), k5 _ _ (by omega) (by omega), k5 _ _ (by omega) (by omega)]
            exact hv i (by omega)) (by
          rcases hz2 with ⟨z0, al⟩ | ⟨z1, i0, h1, h2⟩
          · exact Or.inl ⟨zu_eq.trans z0, fun i hi => by rw [k4 _ _ (by omega)]; exact al i hi⟩
          · exact Or.inr ⟨zu_eq.trans z1, i0, h1, by rw [k4 _ _ (by omega)]; exact h2⟩)
        exact ⟨A', f1, f2, fun i j h1 h2 => (f3 i j h1 h2).trans (k5 i j h1 (by omega))⟩
      by_cases q : A3 (Q + 2) k ≤ 0
      · rw [if_pos q]
        exact go 0 (Or.inl ⟨rfl, q⟩)
      · rw [if_neg q]
        exact go 1 (Or.inr ⟨rfl, q⟩)
theorem cc_gunits {Q R U H G : Nat} {A : zMt} {r g : Nat → Int32} (w : gR R A r g U H G) (hd : R + 8 ≤ Q ∨ Q + 13 ≤ R) : ∃ A', D_X2_gatherUnits Q R A = some A' ∧ cU Q A' r U ∧ (∀ i j, ¬ (i = Q ∧ (j = 0 ∨ j = 3)) → ¬ (Q + 1 ≤ i ∧ i ≤ Q + 3) → A' i j = A i j) := by
  obtain ⟨⟨c1, c2, c3, c4, c5, c6, c7⟩, r1, r2, r3, r4, r5, r6, r9, ⟨s1, s2, s3, s4⟩, u3⟩ := w
  unfold D_X2_gatherUnits
  rw [zLt_eq, c4, zLt_eq]
  have k1 : ∀ i j, ¬ (i = Q ∧ (j = 0 ∨ j = 3)) → zu (zu A Q 0 (nI U)) Q 3 (0 : Int32) i j = A i j := fun i j h => (zu_ne (by omega)).trans (zu_ne (by omega))
  obtain ⟨A', f1, f2, f3⟩ := cc_gU15 (r := r) c1 hd zFu 0 (zu (zu A Q 0 (nI U)) Q 3 (0 : Int32)) ((zu_ne (by omega)).trans zu_eq) (fun u hu => (k1 _ _ (by omega)).trans (r1 u hu)) ((k1 _ _ (by omega)).trans s2) ((k1 _ _ (by omega)).trans s3) (by omega) (by unfold zFu; omega) (fun i hi => absurd hi (Nat.not_lt_zero i)) (Or.inl ⟨zu_eq, fun i hi => absurd hi (Nat.not_lt_zero i)⟩)
  rw [show nI 0 = (0 : Int32) by decide] at f1
  exact ⟨A', f1, f2, fun i j h1 h2 => (f3 i j (by omega) h2).trans (k1 i j h1)⟩
theorem cc_open {Q n : Nat} {A : zMt} {v : Int32} (hn : n < 10) (h1 : A Q 1 = nI n) : ∃ A', D_X2_open Q v A = some A' ∧ A' Q 1 = nI (n + 1) ∧ A' (Q + 5) n = 0 ∧ A' (Q + 6) n = 0 ∧ A' (Q + 7) n = 0 ∧ A' (Q + 9) n = 0 ∧ A' (Q + 10) n = v ∧ (∀ i j, ¬ (i = Q ∧ j = 1) → ¬ (Q + 5 ≤ i ∧ i ≤ Q + 10 ∧ j = n) → A' i j = A i j) := by
  unfold D_X2_open
  rw [h1, zwr_nI hn (by decide), zLt_eq]
  generalize hA1 : zu A (Q + 5) n (0 : Int32) = A1
  have k1 : ∀ i j, ¬ (i = Q + 5 ∧ j = n) → A1 i j = A i j := fun i j h => by rw [← hA1]; exact zu_ne h
  have v1 : A1 (Q + 5) n = 0 := by rw [← hA1]; exact zu_eq
  rw [k1 Q 1 (by omega), h1, zwr_nI hn (by decide), zLt_eq]
  generalize hA2 : zu A1 (Q + 6) n (0 : Int32) = A2
  have k2 : ∀ i j, ¬ (i = Q + 6 ∧ j = n) → A2 i j = A1 i j := fun i j h => by rw [← hA2]; exact zu_ne h
  have v2 : A2 (Q + 6) n = 0 := by rw [← hA2]; exact zu_eq
  rw [k2 Q 1 (by omega), k1 Q 1 (by omega), h1, zwr_nI hn (by decide), zLt_eq]
  generalize hA3 : zu A2 (Q + 7) n (0 : Int32) = A3
  have k3 : ∀ i j, ¬ (i = Q + 7 ∧ j = n) → A3 i j = A2 i j := fun i j h => by rw [← hA3]; exact zu_ne h
  have v3 : A3 (Q + 7) n = 0 := by rw [← hA3]; exact zu_eq
  rw [k3 Q 1 (by omega), k2 Q 1 (by omega), k1 Q 1 (by omega), h1, zwr_nI hn (by decide), zLt_eq]
  generalize hA4 : zu A3 (Q + 9) n (0 : Int32) = A4
  have k4 : ∀ i j, ¬ (i = Q + 9 ∧ j = n) → A4 i j = A3 i j := fun i j h => by rw [← hA4]; exact zu_ne h
  have v4 : A4 (Q + 9) n = 0 := by rw [← hA4]; exact zu_eq
  rw [k4 Q 1 (by omega), k3 Q 1 (by omega), k2 Q 1 (by omega), k1 Q 1 (by omega), h1, zwr_nI hn (by decide), zLt_eq]
  generalize hA5 : zu A4 (Q + 10) n v = A5
  have k5 : ∀ i j, ¬ (i = Q + 10 ∧ j = n) → A5 i j = A4 i j := fun i j h => by rw [← hA5]; exact zu_ne h
  have v5 : A5 (Q + 10) n = v := by rw [← hA5]; exact zu_eq
  have e1 : A5 Q 1 = nI n := by rw [k5 Q 1 (by omega), k4 Q 1 (by omega), k3 Q 1 (by omega), k2 Q 1 (by omega), k1 Q 1 (by omega), h1]
  rw [e1, zLt_eq, nI_add1]
  have k6 : ∀ i j, ¬ (i = Q ∧ j = 1) → zu A5 Q 1 (nI (n + 1)) i j = A5 i j := fun i j h => zu_ne h
  refine ⟨_, rfl, zu_eq, ?_, ?_, ?_, ?_, ?_, fun i j h2 h3 => ?_⟩
  · rw [k6 _ _ (by omega), k5 _ _ (by omega), k4 _ _ (by omega), k3 _ _ (by omega), k2 _ _ (by omega), v1]
  · rw [k6 _ _ (by omega), k5 _ _ (by omega), k4 _ _ (by omega), k3 _ _ (by omega), v2]
  · rw [k6 _ _ (by omega), k5 _ _ (by omega), k4 _ _ (by omega), v3]
  · rw [k6 _ _ (by omega), k5 _ _ (by omega), v4]
  · rw [k6 _ _ (by omega), v5]
  · rw [k6 i j h2, k5 i j (by omega), k4 i j (by omega), k3 i j (by omega), k2 i j (by omega), k1 i j (by omega)]
theorem nI_m3k : ∀ a, a < 10 → ∀ k, k < 3 → nI a * (3 : Int32) + nI k = nI (3 * a + k) := by decide
theorem nI_sub1 {a : Nat} (ha : a < 2147483647) : nI (a + 1) - (1 : Int32) = nI a := by
  rw [show (1 : Int32) = nI 1 by decide]
  exact nI_subn (by omega) (by omega)
theorem cc_join87 {Q R a h : Nat} (ha : a < 10) (hh : h < 10) (hd : R + 8 ≤ Q ∨ Q + 13 ≤ R) : ∀ (u k : Nat) (A : zMt), k ≤ 3 → 3 - k < u → ∃ A', D_X2_join_87 Q R u (nI h) (nI a) (nI k) A = some A' ∧ (∀ x, k ≤ x → x < 3 → A' (Q + 12) (3 * a + x) = A (R + 6) (3 * h + x)) ∧ (∀ i j, ¬ (i = Q + 12 ∧ 3 * a + k ≤ j ∧ j < 3 * a + 3) → A' i j = A i j) := by
  intro u
  induction u with
  | zero => intro k A _ h; omega
  | succ u ih =>
    intro k A hk hu
    rw [D_X2_join_87]
    by_cases hc : 3 ≤ k
    · rw [if_pos (by exact (leL (x := 3) (a := 3) (by decide) (by decide) (by omega)).mpr hc)]
      exact ⟨A, rfl, fun x h1 h2 => by omega, fun _ _ _ => rfl⟩
    · rw [if_neg (by intro z; exact hc ((leL (x := 3) (a := 3) (by decide) (by decide) (by omega)).mp z)), nI_m3k a ha k (by omega), nI_m3k h hh k (by omega), zrd_nI (by omega) (by decide), zwr_nI (by omega) (by decide), zLt_eq, nI_add1]
      obtain ⟨A', f1, f2, f3⟩ := ih (k + 1) (zu A (Q + 12) (3 * a + k) (A (R + 6) (3 * h + k))) (by omega) (by omega)
      refine ⟨A', f1, fun x h1 h2 => ?_, fun i j h => (f3 i j (by omega)).trans (zu_ne (by omega))⟩
      by_cases q : x = k
      · subst q
        rw [f3 _ _ (by omega), zu_eq]
      · rw [f2 x (by omega) h2, zu_ne (by omega)]
theorem cc_join {Q R a h : Nat} {A : zMt} (ha : a < 10) (hh : h < 10) (h1 : A Q 1 = nI (a + 1)) (hd : R + 8 ≤ Q ∨ Q + 13 ≤ R) : ∃ A', D_X2_join Q R (nI h) A = some A' ∧ A' (Q + 4) h = nI a ∧ A' (Q + 5) a = A (Q + 5) a + 1 ∧ A' (Q + 6) a = A (Q + 6) a + A (R + 3) h ∧ A' (Q + 7) a = A (Q + 7) a + A (R + 2) h ∧ A' (Q + 9) a = A (Q + 9) a + ((1 : Int32) <<< (nI h &&& 31)) ∧ A' (Q + 11) a = A (R + 5) h ∧ (∀ k, k < 3 → A' (Q + 12) (3 * a + k) = A (R + 6) (3 * h + k)) ∧ (∀ i j, ¬ (i = Q + 4 ∧ j = h) → ¬ (Q + 5 ≤ i ∧ i ≤ Q + 11 ∧ ¬ i = Q + 10 ∧ j = a) → ¬ (i = Q + 12 ∧ 3 * a ≤ j ∧ j < 3 * a + 3) → A' i j = A i j) := by
  unfold D_X2_join
  rw [h1, nI_sub1 (by omega), zwr_nI hh (by decide), zLt_eq]
  generalize hA1 : zu A (Q + 4) h (nI a) = A1
  have k1 : ∀ i j, ¬ (i = Q + 4 ∧ j = h) → A1 i j = A i j := fun i j h => by rw [← hA1]; exact zu_ne h
  have v1 : A1 (Q + 4) h = nI a := by rw [← hA1]; exact zu_eq
  rw [zrd_nI ha (by decide), zwr_nI ha (by decide), zLt_eq, k1 _ _ (by omega)]
  generalize hA2 : zu A1 (Q + 5) a (A (Q + 5) a + 1) = A2
  have k2 : ∀ i j, ¬ (i = Q + 5 ∧ j = a) → A2 i j = A1 i j := fun i j h => by rw [← hA2]; exact zu_ne h
  have v2 : A2 (Q + 5) a = A (Q + 5) a + 1 := by rw [← hA2]; exact zu_eq
  have x2 : ∀ i j, ¬ (i = Q + 4 ∧ j = h) → ¬ (i = Q + 5 ∧ j = a) → A2 i j = A i j := fun i j p q => (k2 i j q).trans (k1 i j p)
  rw [zrd_nI ha (by decide), zrd_nI hh (by decide), zwr_nI ha (by decide), zLt_eq, x2 (Q + 6) a (by omega) (by omega), x2 (R + 3) h (by omega) (by omega)]
  generalize hA3 : zu A2 (Q + 6) a (A (Q + 6) a + A (R + 3) h) = A3
  have k3 : ∀ i j, ¬ (i = Q + 6 ∧ j = a) → A3 i j = A2 i j := fun i j h => by rw [← hA3]; exact zu_ne h
  have v3 : A3 (Q + 6) a = A (Q + 6) a + A (R + 3) h := by rw [← hA3]; exact zu_eq
  have x3 : ∀ i j, ¬ (i = Q + 4 ∧ j = h) → ¬ (i = Q + 5 ∧ j = a) → ¬ (i = Q + 6 ∧ j = a) → A3 i j = A i j := fun i j p q s => (k3 i j s).trans (x2 i j p q)
  rw [zrd_nI ha (by decide), zrd_nI hh (by decide), zwr_nI ha (by decide), zLt_eq, x3 (Q + 7) a (by omega) (by omega) (by omega), x3 (R + 2) h (by omega) (by omega) (by omega)]
  generalize hA4 : zu A3 (Q + 7) a (A (Q + 7) a + A (R + 2) h) = A4
  have k4 : ∀ i j, ¬ (i = Q + 7 ∧ j = a) → A4 i j = A3 i j := fun i j h => by rw [← hA4]; exact zu_ne h
  have v4 : A4 (Q + 7) a = A (Q + 7) a + A (R + 2) h := by rw [← hA4]; exact zu_eq
  have x4 : ∀ i j, ¬ (i = Q + 4 ∧ j = h) → ¬ (Q + 5 ≤ i ∧ i ≤ Q + 7 ∧ j = a) → A4 i j = A i j := fun i j p q => (k4 i j (by omega)).trans (x3 i j p (by omega) (by omega))
  rw [zrd_nI ha (by decide), zwr_nI ha (by decide), zLt_eq, x4 (Q + 9) a (by omega) (by omega)]
  generalize hA5 : zu A4 (Q + 9) a (A (Q + 9) a + ((1 : Int32) <<< (nI h &&& 31))) = A5
  have k5 : ∀ i j, ¬ (i = Q + 9 ∧ j = a) → A5 i j = A4 i j := fun i j h => by rw [← hA5]; exact zu_ne h
  have v5 : A5 (Q + 9) a = A (Q + 9) a + ((1 : Int32) <<< (nI h &&& 31)) := by rw [← hA5]; exact zu_eq
  have x5 : ∀ i j, ¬ (i = Q + 4 ∧ j = h) → ¬ (Q + 5 ≤ i ∧ i ≤ Q + 9 ∧ j = a) → A5 i j = A i j := fun i j p q => (k5 i j (by omega)).trans (x4 i j p (by omega))
  rw [zrd_nI hh (by decide), zwr_nI ha (by decide), zLt_eq, x5 (R + 5) h (by omega) (by omega)]
  generalize hA6 : zu A5 (Q + 11) a (A (R + 5) h) = A6
  have k6 : ∀ i j, ¬ (i = Q + 11 ∧ j = a) → A6 i j = A5 i j := fun i j h => by rw [← hA6]; exact zu_ne h
  have v6 : A6 (Q + 11) a = A (R + 5) h := by rw [← hA6]; exact zu_eq
  have x6 : ∀ i j, ¬ (i = Q + 4 ∧ j = h) → ¬ (Q + 5 ≤ i ∧ i ≤ Q + 11 ∧ ¬ i = Q + 10 ∧ j = a) → A6 i j = A i j := fun i j p q => (k6 i j (by omega)).trans (x5 i j p (by omega))
  obtain ⟨A', f1, f2, f3⟩ := cc_join87 (Q := Q) (R := R) ha hh hd zFu 0 A6 (by omega) (by unfold zFu; omega)
  rw [show nI 0 = (0 : Int32) by decide] at f1
  refine ⟨A', f1, ?_, ?_, ?_, ?_, ?_, ?_, fun k hk => ?_, fun i j p q s => (f3 i j (by omega)).trans (x6 i j p q)⟩
  · rw [f3 _ _ (by omega), k6 _ _ (by omega), k5 _ _ (by omega), k4 _ _ (by omega), k3 _ _ (by omega), k2 _ _ (by omega), v1]
  · rw [f3 _ _ (by omega), k6 _ _ (by omega), k5 _ _ (by omega), k4 _ _ (by omega), k3 _ _ (by omega), v2]
  · rw [f3 _ _ (by omega), k6 _ _ (by omega), k5 _ _ (by omega), k4 _ _ (by omega), v3]
  · rw [f3 _ _ (by omega), k6 _ _ (by omega), k5 _ _ (by omega), v4]
  · rw [f3 _ _ (by omega), k6 _ _ (by omega), v5]
  · rw [f3 _ _ (by omega), v6]
  · rw [f2 k (Nat.zero_le k) hk, x6 _ _ (by omega) (by omega)]
/-- an applicant, gathered but not closed -/
def rawC (Q : Nat) (A : zMt) (r g : Nat → Int32) (H a : Nat) : Prop := A (Q + 9) a = bv r H a H ∧ A (Q + 10) a = (if a < fr r H then -1 else nI (a - fr r H)) ∧ (∀ base, isBase r H a base → wsC Q A r a base) ∧ A (Q + 5) a = sN r H a ∧ A (Q + 6) a = sG g r H a ∧ A (Q + 7) a = sm r r H a H ∧ (∀ h, memb r H a h → A (Q + 4) h = nI a)
theorem wsC.k {Q : Nat} {A A' : zMt} {r : Nat → Int32} {a base : Nat} (w : wsC Q A r a base) (k1 : A' (Q + 11) a = A (Q + 11) a) (k2 : ∀ j, 3 * a ≤ j → j < 3 * a + 3 → A' (Q + 12) j = A (Q + 12) j) : wsC Q A' r a base := by
  obtain ⟨c, h1, h2, h3, h4⟩ := w
  exact ⟨c, h1, k1.trans h2, fun k hk => (k2 _ (by omega) (by omega)).trans (h3 k hk), h4⟩
theorem rawC.k {Q : Nat} {A A' : zMt} {r g : Nat → Int32} {H a : Nat} (w : rawC Q A r g H a) (k1 : ∀ i, Q + 5 ≤ i → i ≤ Q + 11 → A' i a = A i a) (k2 : ∀ j, 3 * a ≤ j → j < 3 * a + 3 → A' (Q + 12) j = A (Q + 12) j) (k3 : ∀ h, memb r H a h → A' (Q + 4) h = A (Q + 4) h) : rawC Q A' r g H a := by
  obtain ⟨h1, h2, h3, h4, h5, h6, h7⟩ := w
  exact ⟨(k1 _ (by omega) (by omega)).trans h1, (k1 _ (by omega) (by omega)).trans h2, fun base hb => (h3 base hb).k (k1 _ (by omega) (by omega)) k2, (k1 _ (by omega) (by omega)).trans h4, (k1 _ (by omega) (by omega)).trans h5, (k1 _ (by omega) (by omega)).trans h6, fun h hm => (k3 h hm).trans (h7 h hm)⟩
theorem wsR.c {Q R : Nat} {A A' : zMt} {r : Nat → Int32} {h a base : Nat} (w : wsR R A r h base) (k1 : A' (Q + 11) a = A (R + 5) h) (k2 : ∀ k, k < 3 → A' (Q + 12) (3 * a + k) = A (R + 6) (3 * h + k)) : wsC Q A' r a base := by
  obtain ⟨c, h1, h2, h3, h4⟩ := w
  exact ⟨c, h1, k1.trans h2, fun k hk => (k2 k hk).trans (h3 k hk), h4⟩
/-- one hunter stands in one applicant -/
theorem memb_one {r : Nat → Int32} {H a b h : Nat} (ha : memb r H a h) (hb : memb r H b h) (hA : a < fr r H + 4) (hB : b < fr r H + 4) : a = b := by
  obtain ⟨h1, p⟩ := ha
  obtain ⟨_, q⟩ := hb
  rcases p with ⟨p1, p2⟩ | ⟨p1, p2⟩
  · rcases q with ⟨q1, q2⟩ | ⟨q1, q2⟩
    · omega
    · rw [p1] at q2
      exact absurd q2.symm (nI_ne (by omega))
  · rcases q with ⟨q1, q2⟩ | ⟨q1, q2⟩
    · rw [q1] at p2
      exact absurd p2.symm (nI_ne (by omega))
    · rw [p2] at q2
      have := nI_inj (by omega) (by omega) q2
      omega
theorem sm_1 {f r : Nat → Int32} {H h : Nat} (hh : h < H) (e : r (10 + h) = -1) : sm f r H (fr r h) H = f h := by rw [sm_free hh e H (Nat.le_refl H), if_pos hh]
/-- the free hunters -/
theorem cc_g12 {Q R U H G : Nat} {r g : Nat → Int32} (hd : R + 8 ≤ Q ∨ Q + 13 ≤ R) (hH : H ≤ 10) : ∀ (u k : Nat) (A : zMt), gR R A r g U H G → A Q 1 = nI (fr r k) → k ≤ H → H - k < u → (∀ a, a < fr r k → rawC Q A r g H a) → ∃ A', D_X2_gather_12 Q R u (nI k) A = D_X2_gather_51 Q R zFu (0 : Int32) A' ∧ A' Q 1 = nI (fr r H) ∧ (∀ a, a < fr r H → rawC Q A' r g H a) ∧ (∀ i j, ¬ (i = Q ∧ j = 1) → ¬ (Q + 4 ≤ i ∧ i ≤ Q + 12) → A' i j = A i j) := by
  intro u
  induction u with
  | zero => intro k A _ _ _ h; omega
  | succ u ih =>
    intro k A w h1 hk hu hA
    have hle := fr_le r k
    have w0 := w
    obtain ⟨⟨c1, c2, c3, c4, c5, c6, c7⟩, r1, r2, r3, r4, r5, r6, r9, s, u3⟩ := w
    rw [D_X2_gather_12, c5]
    by_cases hc : H ≤ k
    · have : k = H := by omega
      subst this
      rw [if_pos (by exact (nI_leI (by omega) (by omega)).mpr hc)]
      exact ⟨A, rfl, h1, hA, fun _ _ _ _ => rfl⟩
    · have efr : fr r (k + 1) = fr r k + (if r (10 + k) = -1 then 1 else 0) := rfl
      rw [if_neg (by intro z; exact hc ((nI_leI (by omega) (by omega)).mp z)), zrd_nI (show k < 10 by omega) (by decide), (r4 k (by omega)).1]
      by_cases q : r (10 + k) = -1
      · rw [if_pos q]
        obtain ⟨A1, f1, f2, f3, f4, f5, f6, f7, f8⟩ := cc_open (Q := Q) (n := fr r k) (A := A) (v := -1) (by omega) h1
        rw [zB_s f1]
        obtain ⟨A2, e1, e2, e3, e4, e5, e6, e7, e8, e9⟩ := cc_join (Q := Q) (R := R) (a := fr r k) (h := k) (A := A1) (by omega) (by omega) f2 hd
        rw [zB_s e1]
        unfold D_X2_gather_43
        rw [nI_add1]
        have fr1 : ∀ i j, R ≤ i → i < R + 8 → A1 i j = A i j := fun i j h2 h3 => f8 i j (by omega) (by omega)
        have fr2 : ∀ i j, R ≤ i → i < R + 8 → A2 i j = A i j := fun i j h2 h3 => (e9 i j (by omega) (by omega) (by omega)).trans (fr1 i j h2 h3)
        have hlt := fr_lt (show k < H by omega) q
        have kk : ∀ i j, ¬ (i = Q ∧ j = 1) → ¬ (Q + 4 ≤ i ∧ i ≤ Q + 12) → A2 i j = A i j := fun i j p s => (e9 i j (by omega) (by omega) (by omega)).trans (f8 i j p (by omega))
        have new : rawC Q A2 r g H (fr r k) := by
          refine ⟨?_, ?_, fun base hb => ?_, ?_, ?_, ?_, fun h hm => ?_⟩
          · rw [e6, f6, bv_free hH (by omega) q H (Nat.le_refl H), if_pos (by omega), Int32.zero_add]
          · rw [e9 _ _ (by omega) (by omega) (by omega), f7, if_pos hlt]
          · have hb' : base = 20 + 3 * k := by
              rcases hb with ⟨h', h2, h3, h4, h5⟩ | ⟨h2, _⟩
              · rw [h5, fr_inj h3 q h4]
              · omega
            rw [hb']
            exact (r5 k (by omega) ((r4 k (by omega)).1.trans q)).c (e7.trans (fr1 _ _ (by omega) (by omega))) (fun x hx => (e8 x hx).trans (fr1 _ _ (by omega) (by omega)))
          · rw [e3, f3]
            unfold sN
            rw [sm_1 (by omega) q, Int32.zero_add]
          · rw [e4, f4, fr1 _ _ (by omega) (by omega), (r3 k (by omega)).1]
            unfold sG
            rw [sm_1 (by omega) q, Int32.zero_add]
          · rw [e5, f5, fr1 _ _ (by omega) (by omega), r2 k (by omega), sm_1 (by omega) q, Int32.zero_add]
          · rw [(memb_free (by omega) q).mp hm]
            exact e2
        obtain ⟨A', g1, g2, g3, g4⟩ := ih (k + 1) A2 (w0.m fr2 (fun _ _ => rfl) (fun _ _ => rfl)) (by rw [efr, if_pos q, e9 _ _ (by omega) (by omega) (by omega)]; exact f2) (by omega) (by omega) (fun a ha => by
          rw [efr, if_pos q] at ha
          by_cases z : a = fr r k
          · rw [z]; exact new
          · refine (hA a (by omega)).k (fun i h2 h3 => (e9 i a (by omega) (by omega) (by omega)).trans (f8 i a (by omega) (by omega))) (fun j h2 h3 => (e9 _ j (by omega) (by omega) (by omega)).trans (f8 _ j (by omega) (by omega))) (fun h hm => ?_)
            have hne : ¬ h = k := fun y => by
              rw [y] at hm
              exact z (memb_one hm ((memb_free (by omega) q).mpr rfl) (by omega) (by omega))
            exact (e9 _ h (by omega) (by omega) (by omega)).trans (f8 _ h (by omega) (by omega)))
        exact ⟨A', g1, g2, g3, fun i j p s => (g4 i j p s).trans (kk i j p s)⟩
      · rw [if_neg q]
        unfold D_X2_gather_43
        rw [nI_add1]
        exact ih (k + 1) A w0 (by rw [efr, if_neg q]; exact h1) (by omega) (by omega) (fun a ha => by
          rw [efr, if_neg q] at ha
          exact hA a ha)
/-- one party -/
def rawP (Q : Nat) (A : zMt) (r g : Nat → Int32) (H a k : Nat) : Prop := A (Q + 9) a = bv r H a k ∧ A (Q + 10) a = nI (a - fr r H) ∧ ((∃ h, h < k ∧ memb r H a h) → wsC Q A r a (50 + 3 * (a - fr r H))) ∧ A (Q + 5) a = sm (fun _ => 1) r H a k ∧ A (Q + 6) a = sm g r H a k ∧ A (Q + 7) a = sm r r H a k ∧ (∀ h, h < k → memb r H a h → A (Q + 4) h = nI a)
theorem cc_g66 {Q R U H G p : Nat} {r g : Nat → Int32} {k51 : Int32 → zMt → Option zMt} (hd : R + 8 ≤ Q ∨ Q + 13 ≤ R) (hH : H ≤ 10) (hp : p < G) (hFp : fr r H + p < 10) : ∀ (u k : Nat) (A : zMt), gR R A r g U H G → A Q 1 = nI (fr r H + p + 1) → k ≤ H → H - k < u → (∀ a, a < fr r H + p → rawC Q A r g H a) → rawP Q A r g H (fr r H + p) k → ∃ A', D_X2_gather_66 Q R k51 u (nI p) (nI k) A = k51 (nI (p + 1)) A' ∧ A' Q 1 = nI (fr r H + p + 1) ∧ (∀ a, a < fr r H + p → rawC Q A' r g H a) ∧ rawP Q A' r g H (fr r H + p) H ∧ (∀ i j, ¬ (i = Q ∧ j = 1) → ¬ (Q + 4 ≤ i ∧ i ≤ Q + 12) → A' i j = A i j) := by
  intro u
  induction u with
  | zero => intro k A _ _ _ h; omega
  | succ u ih =>
    intro k A w h1 hk hu hA hP
    have w0 := w
    have hP0 := hP
    obtain ⟨⟨c1, c2, c3, c4, c5, c6, c7⟩, r1, r2, r3, r4, r5, r6, r9, s, u3⟩ := w
    obtain ⟨p1, p2, p3, p4, p5, p6, p7⟩ := hP
    rw [D_X2_gather_66, c5]
    by_cases hc : H ≤ k
    · have : k = H := by omega
      subst this
      rw [if_pos (by exact (nI_leI (by omega) (by omega)).mpr hc), nI_add1]
      exact ⟨A, rfl, h1, hA, hP0, fun _ _ _ _ => rfl⟩
    · have hm : memb r H (fr r H + p) k ↔ r (10 + k) = nI p := memb_party (by omega) (by omega)
      rw [if_neg (by intro z; exact hc ((nI_leI (by omega) (by omega)).mp z)), zrd_nI (show k < 10 by omega) (by decide), (r4 k (by omega)).1]
      have b1 : bv r H (fr r H + p) (k + 1) = if memb r H (fr r H + p) k then bv r H (fr r H + p) k ||| ((1 : Int32) <<< (nI k &&& 31)) else bv r H (fr r H + p) k := rfl
      have b2 : ∀ f : Nat → Int32, sm f r H (fr r H + p) (k + 1) = if memb r H (fr r H + p) k then sm f r H (fr r H + p) k + f k else sm f r H (fr r H + p) k := fun _ => rfl
      by_cases q : r (10 + k) = nI p
      · rw [if_pos q]
        obtain ⟨A2, e1, e2, e3, e4, e5, e6, e7, e8, e9⟩ := cc_join (Q := Q) (R := R) (a := fr r H + p) (h := k) (A := A) (by omega) (by omega) h1 hd
        rw [zB_s e1]
        unfold D_X2_gather_92
        rw [nI_add1]
        have hmk := hm.mpr q
        have fr2 : ∀ i j, R ≤ i → i < R + 8 → A2 i j = A i j := fun i j h2 h3 => e9 i j (by omega) (by omega) (by omega)
        have kk : ∀ i j, ¬ (i = Q ∧ j = 1) → ¬ (Q + 4 ≤ i ∧ i ≤ Q + 12) → A2 i j = A i j := fun i j p s => e9 i j (by omega) (by omega) (by omega)
        have sb : fr r H + p - fr r H = p := by omega
        obtain ⟨A', g1, g2, g3, g4, g5⟩ := ih (k + 1) A2 (w0.m fr2 (fun _ _ => rfl) (fun _ _ => rfl)) ((e9 _ _ (by omega) (by omega) (by omega)).trans h1) (by omega) (by omega) (fun a ha => by
          refine (hA a ha).k (fun i h2 h3 => e9 i a (by omega) (by omega) (by omega)) (fun j h2 h3 => e9 _ j (by omega) (by omega) (by omega)) (fun h hmh => ?_)
          have hne : ¬ h = k := fun y => by
            rw [y] at hmh
            have := memb_one hmh hmk (by omega) (by omega)
            omega
          exact e9 _ h (by omega) (by omega) (by omega)) ⟨by rw [e6, p1, b1, if_pos hmk, bv_add (by omega)], (e9 _ _ (by omega) (by omega) (by omega)).trans p2, fun _ => by
            rw [sb]
            exact (r6 k p (by omega) hp ((r4 k (by omega)).1.trans q)).c e7 e8, by rw [e3, p4, b2, if_pos hmk], by rw [e4, p5, (r3 k (by omega)).1, b2, if_pos hmk], by rw [e5, p6, r2 k (by omega), b2, if_pos hmk], fun h hh hmh => by
            by_cases y : h = k
            · rw [y]; exact e2
            · exact (e9 _ h (by omega) (by omega) (by omega)).trans (p7 h (by omega) hmh)⟩
        exact ⟨A', g1, g2, g3, g4, fun i j p s => (g5 i j p s).trans (kk i j p s)⟩
      · rw [if_neg q]
        unfold D_X2_gather_92
        rw [nI_add1]
        have hmk : ¬ memb r H (fr r H + p) k := fun z => q (hm.mp z)
        exact ih (k + 1) A w0 h1 (by omega) (by omega) hA ⟨by rw [p1, b1, if_neg hmk], p2, fun ⟨h, h2, h3⟩ => p3 ⟨h, by
          by_cases y : h = k
          · rw [y] at h3; exact absurd h3 hmk
          · omega, h3⟩, by rw [p4, b2, if_neg hmk], by rw [p5, b2, if_neg hmk], by rw [p6, b2, if_neg hmk], fun h hh hmh => p7 h (by
          by_cases y : h = k
          · rw [y] at hmh; exact absurd hmh hmk
          · omega) hmh⟩
/-- the parties -/
theorem cc_g51 {Q R U H G : Nat} {r g : Nat → Int32} (hd : R + 8 ≤ Q ∨ Q + 13 ≤ R) (hH : H ≤ 10) (hG : G ≤ 4) (hFG : fr r H + G ≤ 10) : ∀ (u p : Nat) (A : zMt), gR R A r g U H G → A Q 1 = nI (fr r H + p) → p ≤ G → G - p < u → (∀ a, a < fr r H + p → rawC Q A r g H a) → ∃ A', D_X2_gather_51 Q R u (nI p) A = D_X2_gather_111 Q R zFu (0 : Int32) (zu A' Q 2 (0 : Int32)) ∧ A' Q 1 = nI (fr r H + G) ∧ (∀ a, a < fr r H + G → rawC Q A' r g H a) ∧ (∀ i j, ¬ (i = Q ∧ j = 1) → ¬ (Q + 4 ≤ i ∧ i ≤ Q + 12) → A' i j = A i j) := by
  intro u
  induction u with
  | zero => intro p A _ _ _ h; omega
  | succ u ih =>
    intro p A w h1 hp hu hA
    have w0 := w
    obtain ⟨⟨c1, c2, c3, c4, c5, c6, c7⟩, r1, r2, r3, r4, r5, r6, r9, s, u3⟩ := w
    rw [D_X2_gather_51, c6]
    by_cases hc : G ≤ p
    · have : p = G := by omega
      subst this
      rw [if_pos (by exact (nI_leI (by omega) (by omega)).mpr hc), zLt_eq]
      exact ⟨A, rfl, h1, hA, fun _ _ _ _ => rfl⟩
    · rw [if_neg (by intro z; exact hc ((nI_leI (by omega) (by omega)).mp z))]
      obtain ⟨A1, f1, f2, f3, f4, f5, f6, f7, f8⟩ := cc_open (Q := Q) (n := fr r H + p) (A := A) (v := nI p) (by omega) h1
      rw [zB_s f1]
      have fr1 : ∀ i j, R ≤ i → i < R + 8 → A1 i j = A i j := fun i j h2 h3 => f8 i j (by omega) (by omega)
      obtain ⟨A2, e1, e2, e3, e4, e5⟩ := cc_g66 (k51 := D_X2_gather_51 Q R u) hd hH (show p < G by omega) (by omega) zFu 0 A1 (w0.m fr1 (fun _ _ => rfl) (fun _ _ => rfl)) f2 (by omega) (by unfold zFu; omega) (fun a ha => (hA a ha).k (fun i h2 h3 => f8 i a (by omega) (by omega)) (fun j h2 h3 => f8 _ j (by omega) (by omega)) (fun h _ => f8 _ h (by omega) (by omega))) ⟨f6, by rw [f7, show fr r H + p - fr r H = p by omega], fun ⟨h, h2, _⟩ => absurd h2 (Nat.not_lt_zero h), f3, f4, f5, fun h hh _ => absurd hh (Nat.not_lt_zero h)⟩
      rw [show nI 0 = (0 : Int32) by decide] at e1
      rw [e1]
      have k2 : ∀ i j, ¬ (i = Q ∧ j = 1) → ¬ (Q + 4 ≤ i ∧ i ≤ Q + 12) → A2 i j = A i j := fun i j p s => (e5 i j p s).trans (f8 i j p (by omega))
      have new : rawC Q A2 r g H (fr r H + p) := by
        obtain ⟨q1, q2, q3, q4, q5, q6, q7⟩ := e4
        refine ⟨q1, by rw [q2, if_neg (by omega)], fun base hb => ?_, q4, q5, q6, fun h hm => q7 h hm.1 hm⟩
        have hb' : base = 50 + 3 * (fr r H + p - fr r H) := by
          rcases hb with ⟨h', h2, h3, h4, h5⟩ | ⟨_, h2⟩
          · have := fr_lt h2 h3
            omega
          · exact h2
        rw [hb']
        obtain ⟨h, hh, he⟩ := r9 p (by omega)
        exact q3 ⟨h, hh, (memb_party (by omega) hh).mpr (((r4 h (by omega)).1).symm.trans he)⟩
      obtain ⟨A', g1, g2, g3, g4⟩ := ih (p + 1) A2 (w0.m (fun i j h2 h3 => k2 i j (by omega) (by omega)) (fun _ _ => rfl) (fun _ _ => rfl)) (by rw [e2]; rfl) (by omega) (by omega) (fun a ha => by
        by_cases z : a = fr r H + p
        · rw [z]; exact new
        · exact e3 a (by omega))
      exact ⟨A', g1, g2, g3, fun i j p s => (g4 i j p s).trans (k2 i j p s)⟩
/-- closed -/
theorem cc_close {Q a : Nat} {A : zMt} {r : Nat → Int32} {H : Nat} (ha : a < 10) (hn : A (Q + 5) a = sN r H a) (hs : A (Q + 7) a = sm r r H a H) (hne : ¬ sN r H a = 0) (hlaw : r 67 = 0 ∨ r 67 = 1 ∨ r 67 = 2) : ∃ A', D_X2_close Q (nI a) (r 67) A = some A' ∧ A' (Q + 7) a = sP r H a ∧ A' (Q + 8) a = sT r H a ∧ (∀ i j, ¬ ((i = Q + 7 ∨ i = Q + 8) ∧ j = a) → A' i j = A i j) := by
  unfold D_X2_close
  rw [zrd_nI ha (by decide), zrd_nI ha (by decide), hn, hs, if_neg hne]
  unfold zZ
  rw [if_neg hne]
  unfold D_X2_close_27
  rw [zwr_nI ha (by decide), zLt_eq]
  have ep : sm r r H a H / sN r H a = sP r H a := rfl
  rw [ep]
  have fin : ∀ v : Int32, v = sT r H a → ∃ A', D_X2_close_72 Q (nI a) v (zu A (Q + 7) a (sP r H a)) = some A' ∧ A' (Q + 7) a = sP r H a ∧ A' (Q + 8) a = sT r H a ∧ (∀ i j, ¬ ((i = Q + 7 ∨ i = Q + 8) ∧ j = a) → A' i j = A i j) := fun v hv => by
    unfold D_X2_close_72
    rw [zwr_nI ha (by decide), zLt_eq]
    exact ⟨_, rfl, (zu_ne (by omega)).trans zu_eq, zu_eq.trans hv, fun i j h => (zu_ne (by omega)).trans (zu_ne (by omega))⟩
  rcases hlaw with z | z | z
  · rw [if_neg (by rw [z]; decide), if_neg (by rw [z]; decide)]
    exact fin _ (by unfold sT; rw [if_pos z])
  · rw [if_neg (by rw [z]; decide), if_pos z]
    exact fin _ (by unfold sT; rw [if_neg (by rw [z]; decide), if_pos z])
  · rw [if_pos z]
    exact fin _ (by unfold sT; rw [if_neg (by rw [z]; decide), if_neg (by rw [z]; decide)])
theorem cc_g111 {Q R H T : Nat} {r g : Nat → Int32} (hd : R + 8 ≤ Q ∨ Q + 13 ≤ R) (hT : T ≤ 10) (hlaw : r 67 = 0 ∨ r 67 = 1 ∨ r 67 = 2) (hne : ∀ a, a < T → ¬ sN r H a = 0) : ∀ (u i : Nat) (A : zMt), A R 3 = r 67 → A Q 1 = nI T → A Q 2 = sTs r H i → i ≤ T → T - i < u → (∀ a, i ≤ a → a < T → rawC Q A r g H a) → (∀ a, a < i → A (Q + 9) a = bv r H a H ∧ A (Q + 10) a = (if a < fr r H then -1 else nI (a - fr r H)) ∧ (∀ base, isBase r H a base → wsC Q A r a base) ∧ A (Q + 5) a = sN r H a ∧ A (Q + 6) a = sG g r H a ∧ A (Q + 7) a = sP r H a ∧ A (Q + 8) a = sT r H a ∧ (∀ h, memb r H a h → A (Q + 4) h = nI a)) → ∃ A', D_X2_gather_111 Q R u (nI i) A = some A' ∧ A' Q 1 = nI T ∧ A' Q 2 = sTs r H T ∧ (∀ a, a < T → A' (Q + 9) a = bv r H a H ∧ A' (Q + 10) a = (if a < fr r H then -1 else nI (a - fr r H)) ∧ (∀ base, isBase r H a base → wsC Q A' r a base) ∧ A' (Q + 5) a = sN r H a ∧ A' (Q + 6) a = sG g r H a ∧ A' (Q + 7) a = sP r H a ∧ A' (Q + 8) a = sT r H a ∧ (∀ h, memb r H a h → A' (Q + 4) h = nI a)) ∧ (∀ i j, ¬ (i = Q ∧ j = 2) → ¬ (Q + 7 ≤ i ∧ i ≤ Q + 8) → A' i j = A i j) := by
  intro u
  induction u with
  | zero => intro i A _ _ _ _ h; omega
  | succ u ih =>
    intro i A h3 h1 h2 hi hu hr hv
    rw [D_X2_gather_111, h1]
    by_cases hc : T ≤ i
    · have : i = T := by omega
      subst this
      rw [if_pos (by exact (nI_leI (by omega) (by omega)).mpr hc)]
      exact ⟨A, rfl, h1, h2, hv, fun _ _ _ _ => rfl⟩
    · rw [if_neg (by intro z; exact hc ((nI_leI (by omega) (by omega)).mp z)), h3]
      obtain ⟨q1, q2, q3, q4, q5, q6, q7⟩ := hr i (Nat.le_refl i) (by omega)
      obtain ⟨A1, e1, e2, e3, e4⟩ := cc_close (Q := Q) (a := i) (A := A) (r := r) (H := H) (by omega) q4 q6 (hne i (by omega)) hlaw
      rw [zB_s e1, zrd_nI (show i < 10 by omega) (by decide), e3, e4 Q 2 (by omega), h2, zLt_eq, nI_add1]
      have k1 : ∀ x j, ¬ (x = Q ∧ j = 2) → ¬ ((x = Q + 7 ∨ x = Q + 8) ∧ j = i) → zu A1 Q 2 (sTs r H i + sT r H i) x j = A x j := fun x j p q => (zu_ne p).trans (e4 x j q)
      obtain ⟨A', f1, f2, f3, f4, f5⟩ := ih (i + 1) (zu A1 Q 2 (sTs r H i + sT r H i)) ((k1 _ _ (by omega) (by omega)).trans h3) ((k1 _ _ (by omega) (by omega)).trans h1) zu_eq (by omega) (by omega) (fun a h4 h5 => (hr a (by omega) h5).k (fun x _ _ => k1 x a (by omega) (by omega)) (fun j _ _ => k1 _ j (by omega) (by omega)) (fun h _ => k1 _ h (by omega) (by omega))) (fun a ha => by
        by_cases z : a = i
        · subst z
          refine ⟨(k1 _ _ (by omega) (by omega)).trans q1, (k1 _ _ (by omega) (by omega)).trans q2, fun base hb => (q3 base hb).k (k1 _ _ (by omega) (by omega)) (fun j _ _ => k1 _ j (by omega) (by omega)), (k1 _ _ (by omega) (by omega)).trans q4, (k1 _ _ (by omega) (by omega)).trans q5, (zu_ne (by omega)).trans e2, (zu_ne (by omega)).trans e3, fun h hm => (k1 _ _ (by omega) (by omega)).trans (q7 h hm)⟩
        · obtain ⟨v1, v2, v3, v4, v5, v6, v7, v8⟩ := hv a (by omega)
          refine ⟨(k1 _ _ (by omega) (by omega)).trans v1, (k1 _ _ (by omega) (by omega)).trans v2, fun base hb => (v3 base hb).k (k1 _ _ (by omega) (by omega)) (fun j _ _ => k1 _ j (by omega) (by omega)), (k1 _ _ (by omega) (by omega)).trans v4, (k1 _ _ (by omega) (by omega)).trans v5, (k1 _ _ (by omega) (by omega)).trans v6, (k1 _ _ (by omega) (by omega)).trans v7, fun h hm => (k1 _ _ (by omega) (by omega)).trans (v8 h hm)⟩)
      exact ⟨A', f1, f2, f3, f4, fun x j p s => (f5 x j p s).trans (k1 x j p (by omega))⟩
/-- all of it -/
theorem cc_gather {Q R U H G : Nat} {A : zMt} {r g : Nat → Int32} (w : gR R A r g U H G) (hd : R + 8 ≤ Q ∨ Q + 13 ≤ R) (hFG : fr r H + G ≤ 10) (hlaw : r 67 = 0 ∨ r 67 = 1 ∨ r 67 = 2) (hne : ∀ a, a < fr r H + G → ¬ sN r H a = 0) : ∃ A', D_X2_gather Q R A = some A' ∧ cU Q A' r U ∧ cL Q A' r g H G ∧ (∀ i j, (i < Q ∨ Q + 13 ≤ i) → A' i j = A i j) := by
  have w0 := w
  obtain ⟨⟨c1, c2, c3, c4, c5, c6, c7⟩, r1, r2, r3, r4, r5, r6, r9, s, u3⟩ := w
  unfold D_X2_gather
  obtain ⟨A1, f1, f2, f3⟩ := cc_gunits w0 hd
  rw [zB_s f1, zLt_eq]
  have k1 : ∀ i j, ¬ (i = Q ∧ j = 1) → zu A1 Q 1 (0 : Int32) i j = A1 i j := fun i j h => zu_ne h
  have k2 : ∀ i j, ¬ i = Q → ¬ (Q + 1 ≤ i ∧ i ≤ Q + 3) → zu A1 Q 1 (0 : Int32) i j = A i j := fun i j h h' => (k1 i j (by omega)).trans (f3 i j (by omega) h')
  have w1 := w0.m (A' := zu A1 Q 1 (0 : Int32)) (fun i j h2 h3 => k2 i j (by omega) (by omega)) (fun _ _ => rfl) (fun _ _ => rfl)
  obtain ⟨A2, g1, g2, g3, g4⟩ := cc_g12 (r := r) (g := g) hd c2 zFu 0 (zu A1 Q 1 (0 : Int32)) w1 (zu_eq.trans (show (0 : Int32) = nI 0 by decide)) (by omega) (by unfold zFu; omega) (fun a ha => absurd ha (Nat.not_lt_zero a))
  rw [show nI 0 = (0 : Int32) by decide] at g1
  rw [g1]
  have w2 := w1.m (A' := A2) (fun i j h2 h3 => g4 i j (by omega) (by omega)) (fun _ _ => rfl) (fun _ _ => rfl)
  obtain ⟨A3, i1, i2, i3, i4⟩ := cc_g51 (r := r) (g := g) hd c2 c3 hFG zFu 0 A2 w2 g2 (by omega) (by unfold zFu; omega) g3
  rw [show nI 0 = (0 : Int32) by decide] at i1
  rw [i1]
  have w3 := w2.m (A' := A3) (fun i j h2 h3 => i4 i j (by omega) (by omega)) (fun _ _ => rfl) (fun _ _ => rfl)
  have k3 : ∀ i j, ¬ (i = Q ∧ j = 2) → zu A3 Q 2 (0 : Int32) i j = A3 i j := fun i j h => zu_ne h
  obtain ⟨A4, j1, j2, j3, j4, j5⟩ := cc_g111 (Q := Q) (R := R) (H := H) (T := fr r H + G) (r := r) (g := g) hd hFG hlaw hne zFu 0 (zu A3 Q 2 (0 : Int32)) ((k3 _ _ (by omega)).trans w3.2.2.2.2.2.2.2.2.1.1) ((k3 _ _ (by omega)).trans i2) zu_eq (by omega) (by unfold zFu; omega) (fun a _ ha => (i3 a ha).k (fun x _ _ => k3 x a (by omega)) (fun j _ _ => k3 _ j (by omega)) (fun h _ => k3 _ h (by omega))) (fun a ha => absurd ha (Nat.not_lt_zero a))
  rw [show nI 0 = (0 : Int32) by decide] at j1
  have kf : ∀ i j, ¬ (i = Q ∧ (j = 1 ∨ j = 2)) → ¬ (Q + 4 ≤ i ∧ i ≤ Q + 12) → A4 i j = A1 i j := fun i j p q => by
    rw [j5 i j (by omega) (by omega), k3 i j (by omega), i4 i j (by omega) q, g4 i j (by omega) q, k1 i j (by omega)]
  refine ⟨A4, j1, ?_, ⟨j2, j3, j4⟩, fun i j h => (kf i j (by omega) (by omega)).trans (f3 i j (by omega) (by omega))⟩
  obtain ⟨u1, u2, u4⟩ := f2
  refine ⟨(kf _ _ (by omega) (by omega)).trans u1, fun u hu => ?_, ?_⟩
  · rw [kf _ _ (by omega) (by omega), kf _ _ (by omega) (by omega), kf _ _ (by omega) (by omega)]
    exact u2 u hu
  · rcases u4 with ⟨z0, al⟩ | ⟨z1, i0, h1, h2⟩
    · exact Or.inl ⟨(kf _ _ (by omega) (by omega)).trans z0, fun i hi => by rw [kf _ _ (by omega) (by omega)]; exact al i hi⟩
    · exact Or.inr ⟨(kf _ _ (by omega) (by omega)).trans z1, i0, h1, by rw [kf _ _ (by omega) (by omega)]; exact h2⟩
