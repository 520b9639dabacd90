/-! demand, share: in lowest terms, both sides -/
theorem i_rem {x y : Int32} : x - x / y * y = x % y := by
  rw [← Int32.toInt_inj, Int32.toInt_sub, Int32.toInt_mul, Int32.toInt_div, Int32.toInt_mod]
  have h1 := Int.tmod_add_tdiv_mul x.toInt y.toInt
  rw [Int.bmod_mul_bmod, Int.sub_bmod_bmod]
  rw [show x.toInt - x.toInt.tdiv y.toInt * y.toInt = x.toInt.tmod y.toInt by omega]
  rw [← Int32.toInt_mod]
  exact Int32.toInt_bmod_size _
theorem nI_rem {a b : Nat} (ha : a < 2147483648) (hb : b < 2147483648) (h0 : 0 < b) : nI a - nI a / nI b * nI b = nI (a % b) := by
  have hlt := Nat.mod_lt a h0
  rw [i_rem]
  apply Int32.toInt_inj.mp
  rw [Int32.toInt_mod, nI_toInt (by omega), nI_toInt (by omega), nI_toInt (by omega)]
  rfl
theorem nI_0i {b : Nat} (hb : b < 2147483648) : nI b = 0 ↔ b = 0 := ⟨fun z => nI_inj (b := 0) hb (by omega) z, fun z => by subst z; decide⟩
theorem gcd2 : ∀ (d u v a b k : Nat), d < u → d < v → b ≤ a → a * b < 2 ^ d → a < 2147483648 → k + d < 100 → ∃ g, g < 2147483648 ∧ D_X7_commonDivisor_7 u (nI a) (nI b) (nI k) = some (nI g) ∧ D_X8_common_4 v (nI a) (nI b) = some (nI g) ∧ (0 < a → 0 < g) := by
  intro d
  induction d with
  | zero =>
    intro u v a b k hu hv hba hp ha hk
    obtain ⟨u, rfl⟩ : ∃ y, u = y + 1 := ⟨u - 1, by omega⟩
    obtain ⟨v, rfl⟩ : ∃ y, v = y + 1 := ⟨v - 1, by omega⟩
    have hb : b = 0 := by
      by_cases q : b = 0
      · exact q
      · have := Nat.mul_le_mul (show 1 ≤ a by omega) (show 1 ≤ b by omega)
        rw [Nat.pow_zero] at hp
        omega
    subst hb
    rw [D_X7_commonDivisor_7, D_X8_common_4, if_neg (by intro z; exact absurd ((leL (x := 100) (a := 100) (by decide) (by decide) (by omega)).mp z) (by omega)), if_pos (by decide), if_pos (by decide)]
    exact ⟨a, ha, rfl, rfl, fun z => z⟩
  | succ d ih =>
    intro u v a b k hu hv hba hp ha hk
    obtain ⟨u, rfl⟩ : ∃ y, u = y + 1 := ⟨u - 1, by omega⟩
    obtain ⟨v, rfl⟩ : ∃ y, v = y + 1 := ⟨v - 1, by omega⟩
    rw [D_X7_commonDivisor_7, D_X8_common_4, if_neg (by intro z; exact absurd ((leL (x := 100) (a := 100) (by decide) (by decide) (by omega)).mp z) (by omega))]
    by_cases q : b = 0
    · subst q
      rw [if_pos (by decide), if_pos (by decide)]
      exact ⟨a, ha, rfl, rfl, fun z => z⟩
    · have qn : ¬ nI b = 0 := fun z => q ((nI_0i (by omega)).mp z)
      rw [if_neg qn, if_neg qn]
      unfold zZ
      rw [if_neg qn, if_neg qn, nI_rem ha (by omega) (by omega), nI_add1]
      have h1 : a % b < b := Nat.mod_lt a (by omega)
      have h2 : a % b ≤ a - b := by
        rw [Nat.mod_eq_sub_mod hba]
        exact Nat.mod_le _ _
      have h3 : b * (2 * (a % b)) ≤ b * a := Nat.mul_le_mul_left b (by omega)
      have h4 : b * (2 * (a % b)) = 2 * (b * (a % b)) := Nat.mul_left_comm b 2 (a % b)
      have h5 : b * a = a * b := Nat.mul_comm b a
      have h6 : 2 ^ (d + 1) = 2 ^ d * 2 := Nat.pow_succ 2 d
      obtain ⟨g, g0, g1, g2, g3⟩ := ih u v b (a % b) (k + 1) (by omega) (by omega) (by omega) (by omega) (by omega) (by omega)
      exact ⟨g, g0, g1, g2, fun _ => g3 (by omega)⟩
theorem gcd3 {a b : Nat} (ha : a < 8192) (hb : b < 8192) (h0 : 0 < b) : ∃ g, g < 2147483648 ∧ 0 < g ∧ D_X7_commonDivisor (nI a) (nI b) = some (nI g) ∧ D_X8_common (nI a) (nI b) = some (nI g) := by
  have hp : ∀ x y : Nat, x < 8192 → y < 8192 → x * y < 2 ^ 26 := fun x y hx hy => by
    have := Nat.mul_le_mul (show x ≤ 8191 by omega) (show y ≤ 8191 by omega)
    omega
  have key : ∀ u v : Nat, 40 < u → 40 < v → ∃ g, g < 2147483648 ∧ 0 < g ∧ D_X7_commonDivisor_7 u (nI a) (nI b) (nI 0) = some (nI g) ∧ D_X8_common_4 v (nI a) (nI b) = some (nI g) := fun u v hu hv => by
    by_cases q : b ≤ a
    · obtain ⟨g, g0, g1, g2, g3⟩ := gcd2 26 u v a b 0 (by omega) (by omega) q (hp a b ha hb) (by omega) (by omega)
      exact ⟨g, g0, g3 (by omega), g1, g2⟩
    · obtain ⟨u, rfl⟩ : ∃ y, u = y + 1 := ⟨u - 1, by omega⟩
      obtain ⟨v, rfl⟩ : ∃ y, v = y + 1 := ⟨v - 1, by omega⟩
      have qn : ¬ nI b = 0 := fun z => absurd ((nI_0i (by omega)).mp z) (by omega)
      rw [D_X7_commonDivisor_7, D_X8_common_4, if_neg (by intro z; exact absurd ((leL (x := 100) (a := 100) (by decide) (by decide) (by omega)).mp z) (by omega)), if_neg qn, if_neg qn]
      unfold zZ
      rw [if_neg qn, if_neg qn, nI_rem (by omega) (by omega) h0, nI_add1, Nat.mod_eq_of_lt (by omega)]
      obtain ⟨g, g0, g1, g2, g3⟩ := gcd2 26 u v b a (0 + 1) (by omega) (by omega) (by omega) (hp b a hb ha) (by omega) (by omega)
      exact ⟨g, g0, g3 (by omega), g1, g2⟩
  obtain ⟨g, g0, g1, g2, g3⟩ := key zFu zFu (by unfold zFu; omega) (by unfold zFu; omega)
  rw [show nI 0 = (0 : Int32) by decide] at g2
  exact ⟨g, g0, g1, g2, g3⟩
theorem t_low {P a b : Nat} {w : Int32} {B : zMt} (ha : a < 8192) (hb : b < 8192) (h0 : 0 < b) : ∃ z, D_X7_lowest (nI a) (nI b) w = some z ∧ D_X8_term P (nI a) (nI b) w B = some (z, zu (zu B P 6 (0 : Int32)) P 12 (0 : Int32)) := by
  obtain ⟨g, g0, g1, g2, g3⟩ := gcd3 ha hb h0
  have qn : ¬ nI g = 0 := fun z => absurd ((nI_0i g0).mp z) (by omega)
  unfold D_X7_lowest D_X8_term D_X7_lowest_15 zZ
  rw [zB_s g2, zB_s g3, if_neg qn, if_neg qn, if_neg qn, if_neg qn, if_neg qn]
  by_cases q : w = 0
  · rw [if_pos q, if_pos q]
    exact ⟨_, rfl, rfl⟩
  · rw [if_neg q, if_neg q, if_neg qn]
    exact ⟨_, rfl, rfl⟩
theorem zsum_rng {f : Nat → Int32} {m : Nat} : ∀ n, m * n < 2147483648 → (∀ a, a < n → ∃ v, v ≤ m ∧ f a = nI v) → ∃ v, v ≤ m * n ∧ zsum f n = nI v
  | 0, _, _ => ⟨0, by omega, show (0 : Int32) = nI 0 by decide⟩
  | n + 1, h, k => by
    have e : m * (n + 1) = m * n + m := Nat.mul_succ m n
    obtain ⟨v, h1, h2⟩ := zsum_rng n (by omega) (fun a ha => k a (by omega))
    obtain ⟨x, h3, h4⟩ := k n (by omega)
    rw [zsum_s, h2, h4, nI_addk (by omega)]
    exact ⟨v + x, by omega, rfl⟩
theorem mm_dem57 {P n U u : Nat} {B T : zMt} {x : Int32} (hg : gP T n U) (hm : mP P B T n U) (hu : u < U) : ∀ (v k : Nat), k ≤ n → n - k < v → D_X8_demand_57 P v (nI u) x (zsum (fH1 T u) k) (nI k) B = zB (D_X8_term P (zsum (fH1 T u) n) (B (P + 1) (62 + u)) x B) fun e => some (e.1, e.2) := by
  have g1 := hg.1
  have g2 := hg.2.1
  intro v
  induction v with
  | zero => intro k _ h; omega
  | succ v ih =>
    intro k hk hv
    rw [D_X8_demand_57, hm.1]
    by_cases hc : n ≤ k
    · rw [if_pos (by exact (nI_leI (by omega) (by omega)).mpr hc), show k = n by omega, nI_62 u (by omega)]
      unfold zI
      rw [if_neg (vp_in_nI (show 62 + u < 82 by omega) (by decide)), nI_clamp (by omega)]
    · have := ih (k + 1) (by omega) (by omega)
      rw [zsum_s, ← nI_add1] at this
      have ec := mm_choice (k := 0) g1 hm (show k < n by omega) (by omega)
      rw [show nI 0 = (0 : Int32) by decide] at ec
      rw [if_neg (by intro z; exact hc ((nI_leI (by omega) (by omega)).mp z)), zB_s ec]
      by_cases q : T 12 (3 * k + 0) = nI u
      · rw [if_pos q]
        unfold zI
        rw [if_neg (vp_in_nI (show k < 10 by omega) (by decide)), nI_clamp (by omega), (hm.2.2.1 k (by omega)).2.2.1]
        rw [show fH1 T u k = T 5 k from if_pos q] at this
        exact this
      · rw [if_neg q]
        rw [show fH1 T u k = 0 from if_neg q] at this
        exact this
theorem t_demand {C P : Nat} {A B : zMt} {v0 v1 : Int32} (w0 : eqE C P A B) (_hJ : jJ P B) : two (D_X7_demand C v0 v1 A) (D_X8_demand P v0 v1 B) (fun a b => a.1 = b.1) := by
  obtain ⟨r, g, U, H, G, K, w⟩ := w0
  obtain ⟨n, B1, hn, l1, l2, l3, l4, l5⟩ := t_laid w
  obtain ⟨w1, w2, w3, w4, w5, w6, w7, w8, w9⟩ := id w
  obtain ⟨⟨c1, c2, c3, c4, c5, c6, c7⟩, r1, r2, r3, r4, r5, r6, r9, ⟨s1, s2, s3, s4⟩, u3, u4, u5⟩ := w6
  have hT : ∀ i j, i < 13 → A (C + 91 + i) j = tP (C + 91) A i j := fun _ _ _ => rfl
  unfold D_X7_demand D_X8_demand
  rcases t_rng (v := v1) (x := 1) (y := 1) (by decide) with ⟨g1, g2, g3, g4, g5⟩ | ⟨gn, g5⟩
  · rw [if_neg g1, if_pos g2, zB_s g5, if_neg n10]
    rcases t_isU (v := v0) w with ⟨e1, e2, u, hu, hv⟩ | ⟨e1, e2⟩
    · subst hv
      rw [zB_s e1, zB_s e2, if_neg n10, if_neg n10, zrd_nI (show u < 5 by omega) (by decide), nI_62 u (by omega)]
      refine two.ir (vp_in_nI (show 62 + u < 82 by omega) (by decide)) ?_
      rw [nI_clamp (by omega)]
      have eq : A (C + 18) u = B (P + 1) (62 + u) := (r1 u (by omega)).trans (w1 _ (by omega)).symm
      rw [eq]
      refine two.ite Iff.rfl (fun _ => t_rfs) (fun hne => ?_)
      have hn10 := l2.1
      have em := mm_dem57 (x := v1) l2 l4 hu zFu 0 (by omega) (by unfold zFu; omega)
      rw [show nI 0 = (0 : Int32) by decide, show zsum (fH1 (tP (C + 91) A) u) 0 = (0 : Int32) from rfl, l5 _ _ (by omega) (by omega)] at em
      obtain ⟨x, x1, x2⟩ := zsum_rng (f := fH1 (tP (C + 91) A) u) (m := 10) n (by have := l2.1; omega) (fun a ha => by
        obtain ⟨y, y1, y2, y3⟩ := (l2.2.2.2.2.1 a ha).1
        unfold fH1
        by_cases q : tP (C + 91) A 12 (3 * a) = nI u
        · rw [if_pos q]; exact ⟨y, y2, y3⟩
        · rw [if_neg q]; exact ⟨0, by omega, by decide⟩)
      have hq := w5.2.2.2.1 u (by omega)
      rw [← w1 (62 + u) (by omega)] at hq
      have ey := z_toN hq.1
      have h0 : ¬ (B (P + 1) (62 + u)).toInt.toNat = 0 := fun z => hne (by rw [ey, z]; decide)
      have hl2 := l2.1
      obtain ⟨z, z1, z2⟩ := t_low (P := P) (a := x) (b := (B (P + 1) (62 + u)).toInt.toNat) (w := v1) (B := B1) (by omega) (by omega) (by omega)
      rw [← ey, ← x2] at z1 z2
      refine two.l (cc_fH l2 hT hu) (two.l z1 (two.r l1 ?_))
      rw [em]
      exact two.l (e := (z, zu A C 0 (0 : Int32))) rfl (two.r z2 (two.mk rfl))
    · rw [zB_s e1, zB_s e2, if_pos rfl, if_pos rfl]
      exact t_rfs
  · rw [zB_s g5, if_pos rfl]
    rcases gn with z | ⟨z, z2⟩
    · rw [if_pos z]
      exact t_rfs
    · rw [if_neg z, if_neg z2]
      exact t_rfs
theorem zs_St {t : Nat → Int32} : ∀ n, n ≤ 10 → (∀ a, a < n → isN (t a) 1 401) → (zsum t n).toInt = St t 0 n
  | 0, _, _ => by show (0 : Int32).toInt = 0; decide
  | n + 1, hn, h => by
    have ih := zs_St (t := t) n (by omega) (fun a ha => h a (by omega))
    have h3 := (h n (by omega)).i (by omega)
    have h4 := St_le (t := t) (b := 0) n (fun a ha => by
      have := (h a (by omega)).i (by omega)
      omega)
    rw [zsum_s]
    show (zsum t n + t n).toInt = St t 0 n + _
    rw [if_neg bit_0, z_add (by omega) (by omega), ih]
theorem mm_sh35 {P n U a : Nat} {B T : zMt} {x : Int32} (hg : gP T n U) (hm : mP P B T n U) (ha : a < n) : ∀ (v k : Nat), k ≤ n → n - k < v → D_X8_share_35 P v (nI a) x (zsum (T 8) k) (nI k) B = zB (D_X8_term P (T 8 a) (zsum (T 8) n) x B) fun e => some (e.1, e.2) := by
  have g1 := hg.1
  intro v
  induction v with
  | zero => intro k _ h; omega
  | succ v ih =>
    intro k hk hv
    rw [D_X8_share_35, hm.1]
    by_cases hc : n ≤ k
    · rw [if_pos (by exact (nI_leI (by omega) (by omega)).mpr hc), show k = n by omega]
      unfold zI
      rw [if_neg (vp_in_nI (show a < 10 by omega) (by decide)), nI_clamp (by omega), (hm.2.2.1 a ha).2.2.2.2.2.1]
    · have := ih (k + 1) (by omega) (by omega)
      rw [zsum_s, ← nI_add1] at this
      rw [if_neg (by intro z; exact hc ((nI_leI (by omega) (by omega)).mp z))]
      unfold zI
      rw [if_neg (vp_in_nI (show k < 10 by omega) (by decide)), nI_clamp (show k < 2147483648 by omega), (hm.2.2.1 k (by omega)).2.2.2.2.2.1]
      exact this
theorem t_share {C P : Nat} {A B : zMt} {v0 v1 : Int32} (w0 : eqE C P A B) (_hJ : jJ P B) : two (D_X7_share C v0 v1 A) (D_X8_share P v0 v1 B) (fun a b => a.1 = b.1) := by
  obtain ⟨r, g, U, H, G, K, w⟩ := w0
  unfold D_X7_share D_X8_share
  rcases t_rng (v := v1) (x := 1) (y := 1) (by decide) with ⟨g1, g2, g3, g4, g5⟩ | ⟨gn, g5⟩
  · rw [if_neg g1, if_pos g2, zB_s g5, if_neg n10]
    obtain ⟨n, B1, hn, l1, l2, l3, l4, l5, hA⟩ := t_isA (v := v0) w
    have hn10 := l2.1
    rcases hA with ⟨e1, e2, a, ha, hv⟩ | ⟨e1, e2⟩
    · subst hv
      have ht : ∀ k, k < n → isN (tP (C + 91) A 8 k) 1 401 := fun k hk => (l2.2.2.2.2.1 k hk).2.2.1
      have es : A (C + 91) 2 = zsum (tP (C + 91) A 8) n := Int32.toInt_inj.mp ((show (A (C + 91) 2).toInt = St (tP (C + 91) A 8) 0 n from l2.2.2.2.2.2.1).trans (zs_St n hn10 ht).symm)
      have em := mm_sh35 (x := v1) l2 l4 ha zFu 0 (by omega) (by unfold zFu; omega)
      rw [show nI 0 = (0 : Int32) by decide, show zsum (tP (C + 91) A 8) 0 = (0 : Int32) from rfl] at em
      obtain ⟨x, x1, x2⟩ := zsum_rng (f := tP (C + 91) A 8) (m := 401) n (by omega) (fun k hk => by
        obtain ⟨y, y1, y2, y3⟩ := ht k hk
        exact ⟨y, y2, y3⟩)
      have x0 : 0 < x := by
        have h1 := zs_St n hn10 ht
        have h2 : ∀ m, m ≤ n → (∃ k, k < m) → 1 ≤ St (tP (C + 91) A 8) 0 m := fun m hm hk => by
          obtain ⟨k, hk⟩ := hk
          obtain ⟨m, rfl⟩ : ∃ y, m = y + 1 := ⟨m - 1, by omega⟩
          have h3 := St_le (t := tP (C + 91) A 8) (b := 0) m (fun a ha => by
            have := (ht a (by omega)).i (by omega)
            omega)
          have h4 := (ht m (by omega)).i (by omega)
          show 1 ≤ St (tP (C + 91) A 8) 0 m + _
          rw [if_neg bit_0]
          omega
        have h3 := h2 n (Nat.le_refl n) ⟨a, ha⟩
        rw [x2, nI_toInt (by omega)] at h1
        omega
      obtain ⟨y, y1, y2, y3⟩ := ht a ha
      obtain ⟨z, z1, z2⟩ := t_low (P := P) (a := y) (b := x) (w := v1) (B := B1) (by omega) (by omega) x0
      rw [← x2, ← y3] at z1 z2
      rw [zB_s e1, zB_s e2, if_neg n10, if_neg n10, zrd_nI (show a < 10 by omega) (by decide), es]
      refine two.l z1 ?_
      show two _ (D_X8_share_35 P zFu (nI a) v1 (0 : Int32) (0 : Int32) B1) _
      rw [em]
      exact two.l (e := (z, zu A C 0 (0 : Int32))) rfl (two.r z2 (two.mk rfl))
    · rw [zB_s e1, zB_s e2, if_pos rfl, if_pos rfl]
      exact t_rfs
  · rw [zB_s g5, if_pos rfl]
    rcases gn with z | ⟨z, z2⟩
    · rw [if_pos z]
      exact t_rfs
    · rw [if_neg z, if_neg z2]
      exact t_rfs
