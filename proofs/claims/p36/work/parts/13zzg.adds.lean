/-! the odds: what the reference adds at a leaf -/
theorem nI_7m : ∀ a, a < 7 → ∀ o, o < 7 → (7 : Int32) * nI a + nI o = nI (7 * a + o) := by decide
theorem nI_5m : ∀ a, a < 7 → ∀ u, u < 5 → (5 : Int32) * nI a + nI u = nI (5 * a + u) := by decide
theorem i_split {k a : Nat} {c : Prop} [Decidable c] {x y : Int64} : y + (if a = k ∧ c then x else 0) + (if k + 1 ≤ a ∧ c then x else 0) = y + (if k ≤ a ∧ c then x else 0) := by
  by_cases q : a = k ∧ c
  · rw [if_pos q, if_neg (fun z => by omega), if_pos ⟨by omega, q.2⟩, Int64.add_zero]
  · rw [if_neg q, Int64.add_zero]
    by_cases z : k ≤ a ∧ c
    · rw [if_pos z, if_pos ⟨by
        have : ¬ a = k := fun w => q ⟨w, z.2⟩
        omega, z.2⟩]
    · rw [if_neg z, if_neg (fun w => z ⟨by omega, w.2⟩)]
theorem mm_a134 {P n U k : Nat} {B T s : zMt} {x : Int64} {x3 : Int32} {k5 : Int64 → Int32 → Int32 → zMt → zNt → Option (zMt × zNt)} (hn : n ≤ 7) (hk : k < n) (hm : mP P B T n U) (hs : rM P B s n U) : ∀ (v o : Nat) (N : zNt), o ≤ n → n - o < v → ∃ N', D_X8_adds_134 P k5 v x x3 (nI k) (nI o) B N = D_X8_adds_181 P k5 x x3 (nI k) B N' ∧ (∀ p, p < n → N' (P + 27) (7 * k + p) = N (P + 27) (7 * k + p) + (if o ≤ p ∧ ¬ s 0 p = -1 then x else 0)) ∧ (∀ i j, ¬ (i = P + 27 ∧ 7 * k + o ≤ j ∧ j < 7 * k + n) → N' i j = N i j) := by
  intro v
  induction v with
  | zero => intro o N _ h; omega
  | succ v ih =>
    intro o N ho hv
    rw [D_X8_adds_134, hm.1]
    by_cases hc : n ≤ o
    · rw [if_pos (by exact (nI_leI (by omega) (by omega)).mpr hc)]
      exact ⟨N, rfl, fun p hp => by rw [if_neg (by omega), Int64.add_zero], fun _ _ _ => rfl⟩
    · rw [if_neg (by intro z; exact hc ((nI_leI (by omega) (by omega)).mp z))]
      unfold zI
      rw [nI_7m k (by omega) o (by omega), if_neg (vp_in_nI (show 7 * k + o < 49 by omega) (by decide)), if_neg (vp_in_nI (show o < 10 by omega) (by decide)), nI_clamp (show o < 2147483648 by omega), nI_clamp (show 7 * k + o < 2147483648 by omega), (hs.1 o (by omega)).1]
      have st : ∀ y : Int64, y = (if ¬ s 0 o = -1 then x else 0) → ∃ N', D_X8_adds_173 P k5 (D_X8_adds_134 P k5 v) x x3 (nI k) (nI o) (nI (7 * k + o)) (N (P + 27) (7 * k + o)) y B N = D_X8_adds_181 P k5 x x3 (nI k) B N' ∧ (∀ p, p < n → N' (P + 27) (7 * k + p) = N (P + 27) (7 * k + p) + (if o ≤ p ∧ ¬ s 0 p = -1 then x else 0)) ∧ (∀ i j, ¬ (i = P + 27 ∧ 7 * k + o ≤ j ∧ j < 7 * k + n) → N' i j = N i j) := fun y hy => by
        unfold D_X8_adds_173 zI
        rw [if_neg (vp_in_nI (show 7 * k + o < 49 by omega) (by decide)), nI_clamp (show 7 * k + o < 2147483648 by omega), zLt_eq, nI_add1]
        obtain ⟨N', f1, f2, f3⟩ := ih (o + 1) (zu N (P + 27) (7 * k + o) (N (P + 27) (7 * k + o) + y)) (by omega) (by omega)
        refine ⟨N', f1, fun p hp => ?_, fun i j h => (f3 i j (by omega)).trans (zu_ne (by omega))⟩
        rw [f2 p hp]
        by_cases z : p = o
        · subst z
          rw [zu_eq, hy, if_neg (show ¬ (p + 1 ≤ p ∧ ¬ s 0 p = -1) from fun w => by omega), Int64.add_zero]
          by_cases w : ¬ s 0 p = -1
          · rw [if_pos w, if_pos ⟨Nat.le_refl p, w⟩]
          · rw [if_neg w, if_neg (fun t => w t.2)]
        · rw [zu_ne (by omega)]
          by_cases w : o ≤ p ∧ ¬ s 0 p = -1
          · rw [if_pos w, if_pos ⟨by omega, w.2⟩]
          · rw [if_neg w, if_neg (fun t => w ⟨by omega, t.2⟩)]
      by_cases q : s 0 o = -1
      · rw [if_pos q]
        exact st 0 (by rw [if_neg (fun z => z q)])
      · rw [if_neg q]
        exact st x (by rw [if_pos q])
theorem mm_add1 {P n U k : Nat} {B T s : zMt} {x : Int64} {N : zNt} {v : Nat} (hg : gP T n U) (hn : n ≤ 7) (hk : k < n) (hm : mP P B T n U) (hs : rM P B s n U) (ok : okS T s n U) : ∃ N2, D_X8_adds_5 P (v + 1) x (nI (hvN s k)) (nI k) B N = D_X8_adds_5 P v x (nI (hvN s (k + 1))) (nI (k + 1)) B N2 ∧ (∀ a u, a < n → u < U → N2 (P + 24) (5 * a + u) = N (P + 24) (5 * a + u) + (if a = k ∧ s 0 a = nI u then x else 0)) ∧ (∀ a, a < n → N2 (P + 25) a = N (P + 25) a + (if a = k ∧ ¬ s 0 a = -1 ∧ s 0 a = T 12 (3 * a) then x else 0)) ∧ (∀ a, a < n → N2 (P + 26) a = N (P + 26) a + (if a = k ∧ ¬ s 0 a = -1 ∧ s 1 a = 1 then x else 0)) ∧ (∀ a o, a < n → o < n → N2 (P + 27) (7 * a + o) = N (P + 27) (7 * a + o) + (if a = k ∧ ¬ s 0 a = -1 ∧ ¬ s 0 o = -1 then x else 0)) ∧ (∀ u, u < U → N2 (P + 28) u = N (P + 28) u + (if s 0 k = nI u then x * Int32.toInt64 (T 5 k) else 0)) ∧ (∀ i j, ¬ (P + 24 ≤ i ∧ i ≤ P + 28) → N2 i j = N i j) := by
  have hU := hg.2.1
  rw [D_X8_adds_5, hm.1, if_neg (by intro z; exact absurd ((nI_leI (by omega) (by omega)).mp z) (by omega))]
  unfold zI
  rw [if_neg (vp_in_nI (show k < 10 by omega) (by decide)), nI_clamp (show k < 2147483648 by omega), (hs.1 k hk).1]
  by_cases q : s 0 k = -1
  · have e : hvN s (k + 1) = hvN s k := by
      show hvN s k + (if s 0 k = -1 then 0 else 2 ^ k) = hvN s k
      rw [if_pos q]
      rfl
    rw [if_pos q, e]
    refine ⟨N, ?_, fun a u ha hu => ?_, fun a ha => ?_, fun a ha => ?_, fun a o ha ho => ?_, fun u hu => ?_, fun _ _ _ => rfl⟩
    · unfold D_X8_adds_181
      rw [nI_add1]
    · rw [if_neg (fun z => by
        obtain ⟨z1, z2⟩ := z
        subst z1
        exact nI_ne (k := u) (by omega) (z2.symm.trans q)), Int64.add_zero]
    · rw [if_neg (fun z => by
        obtain ⟨z1, z2, z3⟩ := z
        subst z1
        exact z2 q), Int64.add_zero]
    · rw [if_neg (fun z => by
        obtain ⟨z1, z2, z3⟩ := z
        subst z1
        exact z2 q), Int64.add_zero]
    · rw [if_neg (fun z => by
        obtain ⟨z1, z2, z3⟩ := z
        subst z1
        exact z2 q), Int64.add_zero]
    · rw [if_neg (fun z => nI_ne (k := u) (by omega) (z.symm.trans q)), Int64.add_zero]
  · obtain ⟨j, w, w1, w2, w3, w4⟩ := (ok k hk).resolve_left q
    have hw5 : w < 5 := by omega
    have hor := hvN_or (s := s) (show k < 10 by omega) q
    rw [if_neg q, if_neg (ci (show k < 10 by omega) (by omega)), w4, nI_5m k (by omega) w hw5, if_neg (vp_in_nI (show 5 * k + w < 35 by omega) (by decide)), if_neg (vp_in_nI (show 5 * k + w < 35 by omega) (by decide)), nI_clamp (show 5 * k + w < 2147483648 by omega), zLt_eq, if_neg (ci (show k < 7 by omega) (by omega)), zB_s (mm_hasFirst hg hm hs hk), if_neg q, hor]
    have kz : ∀ i j, ¬ (i = P + 24 ∧ j = 5 * k + w) → zu N (P + 24) (5 * k + w) (N (P + 24) (5 * k + w) + x) i j = N i j := fun i j h => zu_ne h
    have ez : zu N (P + 24) (5 * k + w) (N (P + 24) (5 * k + w) + x) (P + 24) (5 * k + w) = N (P + 24) (5 * k + w) + x := zu_eq
    generalize zu N (P + 24) (5 * k + w) (N (P + 24) (5 * k + w) + x) = N1 at kz ez
    have go : ∀ y : Int64, y = (if s 0 k = T 12 (3 * k) then x else 0) → ∃ N2, D_X8_adds_78 P (D_X8_adds_5 P v) x (nI (hvN s (k + 1))) (nI k) (nI k) (N1 (P + 25) k) y B N1 = D_X8_adds_5 P v x (nI (hvN s (k + 1))) (nI (k + 1)) B N2 ∧ (∀ a u, a < n → u < U → N2 (P + 24) (5 * a + u) = N (P + 24) (5 * a + u) + (if a = k ∧ s 0 a = nI u then x else 0)) ∧ (∀ a, a < n → N2 (P + 25) a = N (P + 25) a + (if a = k ∧ ¬ s 0 a = -1 ∧ s 0 a = T 12 (3 * a) then x else 0)) ∧ (∀ a, a < n → N2 (P + 26) a = N (P + 26) a + (if a = k ∧ ¬ s 0 a = -1 ∧ s 1 a = 1 then x else 0)) ∧ (∀ a o, a < n → o < n → N2 (P + 27) (7 * a + o) = N (P + 27) (7 * a + o) + (if a = k ∧ ¬ s 0 a = -1 ∧ ¬ s 0 o = -1 then x else 0)) ∧ (∀ u, u < U → N2 (P + 28) u = N (P + 28) u + (if nI w = nI u then x * Int32.toInt64 (T 5 k) else 0)) ∧ (∀ i j, ¬ (P + 24 ≤ i ∧ i ≤ P + 28) → N2 i j = N i j) := fun y hy => by
      have go2 : ∀ y' : Int64, y' = (if s 1 k = 1 then x else 0) → ∃ N2, D_X8_adds_104 P (D_X8_adds_5 P v) x (nI (hvN s (k + 1))) (nI k) (nI k) (zu N1 (P + 25) k (N1 (P + 25) k + y) (P + 26) k) y' B (zu N1 (P + 25) k (N1 (P + 25) k + y)) = D_X8_adds_5 P v x (nI (hvN s (k + 1))) (nI (k + 1)) B N2 ∧ (∀ a u, a < n → u < U → N2 (P + 24) (5 * a + u) = N (P + 24) (5 * a + u) + (if a = k ∧ s 0 a = nI u then x else 0)) ∧ (∀ a, a < n → N2 (P + 25) a = N (P + 25) a + (if a = k ∧ ¬ s 0 a = -1 ∧ s 0 a = T 12 (3 * a) then x else 0)) ∧ (∀ a, a < n → N2 (P + 26) a = N (P + 26) a + (if a = k ∧ ¬ s 0 a = -1 ∧ s 1 a = 1 then x else 0)) ∧ (∀ a o, a < n → o < n → N2 (P + 27) (7 * a + o) = N (P + 27) (7 * a + o) + (if a = k ∧ ¬ s 0 a = -1 ∧ ¬ s 0 o = -1 then x else 0)) ∧ (∀ u, u < U → N2 (P + 28) u = N (P + 28) u + (if nI w = nI u then x * Int32.toInt64 (T 5 k) else 0)) ∧ (∀ i j, ¬ (P + 24 ≤ i ∧ i ≤ P + 28) → N2 i j = N i j) := fun y' hy' => by
        unfold D_X8_adds_104 zI
        rw [if_neg (vp_in_nI (show k < 7 by omega) (by decide)), nI_clamp (show k < 2147483648 by omega), zLt_eq, if_neg (ci (show k < 10 by omega) (by omega)), (hs.1 k hk).1, w4, if_neg (vp_in_nI (show w < 5 by omega) (by decide)), if_neg (ci (show k < 10 by omega) (by omega)), if_neg (vp_in_nI (show w < 5 by omega) (by decide)), nI_clamp (show w < 2147483648 by omega), zLt_eq, (hm.2.2.1 k hk).2.2.1]
        have k2 : ∀ i j, ¬ (i = P + 25 ∧ j = k) → ¬ (i = P + 26 ∧ j = k) → ¬ (i = P + 28 ∧ j = w) → zu (zu (zu N1 (P + 25) k (N1 (P + 25) k + y)) (P + 26) k (zu N1 (P + 25) k (N1 (P + 25) k + y) (P + 26) k + y')) (P + 28) w (zu (zu N1 (P + 25) k (N1 (P + 25) k + y)) (P + 26) k (zu N1 (P + 25) k (N1 (P + 25) k + y) (P + 26) k + y') (P + 28) w + x * Int32.toInt64 (T 5 k)) i j = N1 i j := fun i j h1 h2 h3 => (zu_ne h3).trans ((zu_ne h2).trans (zu_ne h1))
        have z25 : zu (zu (zu N1 (P + 25) k (N1 (P + 25) k + y)) (P + 26) k (zu N1 (P + 25) k (N1 (P + 25) k + y) (P + 26) k + y')) (P + 28) w (zu (zu N1 (P + 25) k (N1 (P + 25) k + y)) (P + 26) k (zu N1 (P + 25) k (N1 (P + 25) k + y) (P + 26) k + y') (P + 28) w + x * Int32.toInt64 (T 5 k)) (P + 25) k = N1 (P + 25) k + y := (zu_ne (by omega)).trans ((zu_ne (by omega)).trans zu_eq)
        have z26 : zu (zu (zu N1 (P + 25) k (N1 (P + 25) k + y)) (P + 26) k (zu N1 (P + 25) k (N1 (P + 25) k + y) (P + 26) k + y')) (P + 28) w (zu (zu N1 (P + 25) k (N1 (P + 25) k + y)) (P + 26) k (zu N1 (P + 25) k (N1 (P + 25) k + y) (P + 26) k + y') (P + 28) w + x * Int32.toInt64 (T 5 k)) (P + 26) k = N1 (P + 26) k + y' := by
          rw [zu_ne (by omega), zu_eq, zu_ne (by omega)]
        have z28 : zu (zu (zu N1 (P + 25) k (N1 (P + 25) k + y)) (P + 26) k (zu N1 (P + 25) k (N1 (P + 25) k + y) (P + 26) k + y')) (P + 28) w (zu (zu N1 (P + 25) k (N1 (P + 25) k + y)) (P + 26) k (zu N1 (P + 25) k (N1 (P + 25) k + y) (P + 26) k + y') (P + 28) w + x * Int32.toInt64 (T 5 k)) (P + 28) w = N1 (P + 28) w + x * Int32.toInt64 (T 5 k) := by
          rw [zu_eq, zu_ne (by omega), zu_ne (by omega)]
        generalize zu (zu (zu N1 (P + 25) k (N1 (P + 25) k + y)) (P + 26) k (zu N1 (P + 25) k (N1 (P + 25) k + y) (P + 26) k + y')) (P + 28) w (zu (zu N1 (P + 25) k (N1 (P + 25) k + y)) (P + 26) k (zu N1 (P + 25) k (N1 (P + 25) k + y) (P + 26) k + y') (P + 28) w + x * Int32.toInt64 (T 5 k)) = N3 at k2 z25 z26 z28
        obtain ⟨N2, f1, f2, f3⟩ := mm_a134 (x := x) (x3 := nI (hvN s (k + 1))) (k5 := D_X8_adds_5 P v) hn hk hm hs zFu 0 N3 (by omega) (by unfold zFu; omega)
        rw [show nI 0 = (0 : Int32) by decide] at f1
        refine ⟨N2, ?_, fun a u ha hu => ?_, fun a ha => ?_, fun a ha => ?_, fun a o ha ho => ?_, fun u hu => ?_, fun i j h => (f3 _ _ (by omega)).trans ((k2 _ _ (by omega) (by omega) (by omega)).trans (kz _ _ (by omega)))⟩
        · rw [f1]
          unfold D_X8_adds_181
          rw [nI_add1]
        · rw [f3 _ _ (by omega), k2 _ _ (by omega) (by omega) (by omega)]
          by_cases z : a = k ∧ s 0 a = nI u
          · obtain ⟨z1, z2⟩ := z
            subst z1
            have : u = w := nI_inj (by omega) (by omega) (z2.symm.trans w4)
            subst this
            rw [ez, if_pos ⟨rfl, w4⟩]
          · rw [if_neg z, Int64.add_zero]
            refine kz _ _ (fun y => z ?_)
            have h1 : a = k ∧ u = w := by omega
            obtain ⟨h2, h3⟩ := h1
            subst h2 h3
            exact ⟨rfl, w4⟩
        · rw [f3 _ _ (by omega)]
          by_cases z : a = k
          · subst z
            rw [z25, kz _ _ (by omega), hy]
            by_cases t : s 0 a = T 12 (3 * a)
            · rw [if_pos t, if_pos ⟨rfl, q, t⟩]
            · rw [if_neg t, if_neg (fun p => t p.2.2)]
          · rw [k2 _ _ (by omega) (by omega) (by omega), kz _ _ (by omega), if_neg (fun p => z p.1), Int64.add_zero]
        · rw [f3 _ _ (by omega)]
          by_cases z : a = k
          · subst z
            rw [z26, kz _ _ (by omega), hy']
            by_cases t : s 1 a = 1
            · rw [if_pos t, if_pos ⟨rfl, q, t⟩]
            · rw [if_neg t, if_neg (fun p => t p.2.2)]
          · rw [k2 _ _ (by omega) (by omega) (by omega), kz _ _ (by omega), if_neg (fun p => z p.1), Int64.add_zero]
        · by_cases z : a = k
          · subst z
            rw [f2 o ho, k2 _ _ (by omega) (by omega) (by omega), kz _ _ (by omega)]
            by_cases t : ¬ s 0 o = -1
            · rw [if_pos ⟨Nat.zero_le o, t⟩, if_pos ⟨rfl, q, t⟩]
            · rw [if_neg (fun p => t p.2), if_neg (fun p => t p.2.2)]
          · rw [f3 _ _ (by omega), k2 _ _ (by omega) (by omega) (by omega), kz _ _ (by omega), if_neg (fun p => z p.1), Int64.add_zero]
        · rw [f3 _ _ (by omega)]
          by_cases z : u = w
          · subst z
            rw [z28, kz _ _ (by omega), if_pos rfl]
          · rw [k2 _ _ (by omega) (by omega) (by omega), kz _ _ (by omega), if_neg (fun p => z (nI_inj (by omega) (by omega) p.symm)), Int64.add_zero]
      unfold D_X8_adds_78 zI
      rw [if_neg (vp_in_nI (show k < 7 by omega) (by decide)), nI_clamp (show k < 2147483648 by omega), zLt_eq, if_neg (ci (show k < 7 by omega) (by omega)), if_neg (ci (show k < 10 by omega) (by omega)), (hs.1 k hk).2]
      by_cases t : s 1 k = 1
      · rw [if_pos t]
        exact go2 x (by rw [if_pos t])
      · rw [if_neg t]
        exact go2 0 (by rw [if_neg t])
    by_cases t : s 0 k = T 12 (3 * k)
    · rw [if_pos t, if_neg n10]
      exact go x (by rw [if_pos t])
    · rw [if_neg t, if_pos rfl]
      exact go 0 (by rw [if_neg t])
