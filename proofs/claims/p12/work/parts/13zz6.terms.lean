/-! demand, share: in lowest terms, both sides -/
theorem i_rem {x y : Int32} : x - x / y * y = x % y := by
  rw [← Int32.toInt_inj, Int32.toInt_sub, Int32.toInt_mul, Int32.toInt_div, Int32.toInt_mod]
  have h1 := Int.tmod_add_tdiv_mul x.toInt y.toInt
  rw [Int.bmod_mul_bmod, Int.sub_bmod_bmod]
  rw [show x.toInt - x.toInt.tdiv y.toInt * y.toInt = x.toInt.tmod y.toInt by omega]
  rw [← Int32.toInt_mod]
  exact Int32.toInt_bmod_size _
theorem nI_rem {a b : Nat} (ha : a < 2147483648) (hb : b < 2147483648) (h0 : 0 < b) : nI a - nI a / nI b * nI b = nI (a % b) := by
  have hlt := Nat.mod_lt a h0
  rw [i_rem]
  apply Int32.toInt_inj.mp
  rw [Int32.toInt_mod, nI_toInt (by omega), nI_toInt (by omega), nI_toInt (by omega)]
  rfl
theorem nI_0i {b : Nat} (hb : b < 2147483648) : nI b = 0 ↔ b = 0 := ⟨fun z => nI_inj (b := 0) hb (by omega) z, fun z => by subst z; decide⟩
theorem gcd2 : ∀ (d u v a b k : Nat), d < u → d < v → b ≤ a → a * b < 2 ^ d → a < 2147483648 → k + d < 100 → ∃ g, g < 2147483648 ∧ D_X7_commonDivisor_7 u (nI a) (nI b) (nI k) = some (nI g) ∧ D_X8_common_4 v (nI a) (nI b) = some (nI g) ∧ (0 < a → 0 < g) := by
  intro d
  induction d with
  | zero =>
    intro u v a b k hu hv hba hp ha hk
    obtain ⟨u, rfl⟩ : ∃ y, u = y + 1 := ⟨u - 1, by omega⟩
    obtain ⟨v, rfl⟩ : ∃ y, v = y + 1 := ⟨v - 1, by omega⟩
    have hb : b = 0 := by
      by_cases q : b = 0
      · exact q
      · have := Nat.mul_le_mul (show 1 ≤ a by omega) (show 1 ≤ b by omega)
        rw [Nat.pow_zero] at hp
        omega
    subst hb
    rw [D_X7_commonDivisor_7, D_X8_common_4, if_neg (by intro z; exact absurd ((leL (x := 100) (a := 100) (by decide) (by decide) (by omega)).mp z) (by omega)), if_pos (by decide), if_pos (by decide)]
    exact ⟨a, ha, rfl, rfl, fun z => z⟩
  | succ d ih =>
    intro u v a b k hu hv hba hp ha hk
    obtain ⟨u, rfl⟩ : ∃ y, u = y + 1 := ⟨u - 1, by omega⟩
    obtain ⟨v, rfl⟩ : ∃ y, v = y + 1 := ⟨v - 1, by omega⟩
    rw [D_X7_commonDivisor_7, D_X8_common_4, if_neg (by intro z; exact absurd ((leL (x := 100) (a := 100) (by decide) (by decide) (by omega)).mp z) (by omega))]
    by_cases q : b = 0
    · subst q
      rw [if_pos (by decide), if_pos (by decide)]
      exact ⟨a, ha, rfl, rfl, fun z => z⟩
    · have qn : ¬ nI b = 0 := fun z => q ((nI_0i (by omega)).mp z)
      rw [if_neg qn, if_neg qn]
      unfold zZ
      rw [if_neg qn, if_neg qn, nI_rem ha (by omega) (by omega), nI_add1]
      have h1 : a % b < b := Nat.mod_lt a (by omega)
      have h2 : a % b ≤ a - b := by
        rw [Nat.mod_eq_sub_mod hba]
        exact Nat.mod_le _ _
      have h3 : b * (2 * (a % b)) ≤ b * a := Nat.mul_le_mul_left b (by omega)
      have h4 : b * (2 * (a % b)) = 2 * (b * (a % b)) := Nat.mul_left_comm b 2 (a % b)
      have h5 : b * a = a * b := Nat.mul_comm b a
      have h6 : 2 ^ (d + 1) = 2 ^ d * 2 := Nat.pow_succ 2 d
      obtain ⟨g, g0, g1, g2, g3⟩ := ih u v b (a % b) (k + 1) (by omega) (by omega) (by omega) (by omega) (by omega) (by omega)
      exact ⟨g, g0, g1, g2, fun _ => g3 (by omega)⟩
theorem gcd3 {a b : Nat} (ha : a < 8192) (hb : b < 8192) (h0 : 0 < b) : ∃ g, g < 2147483648 ∧ 0 < g ∧ D_X7_commonDivisor (nI a) (nI b) = some (nI g) ∧ D_X8_common (nI a) (nI b) = some (nI g) := by
  have hp : ∀ x y : Nat, x < 8192 → y < 8192 → x * y < 2 ^ 26 := fun x y hx hy => by
    have := Nat.mul_le_mul (show x ≤ 8191 by omega) (show y ≤ 8191 by omega)
    omega
  have key : ∀ u v : Nat, 40 < u → 40 < v → ∃ g, g < 2147483648 ∧ 0 < g ∧ D_X7_commonDivisor_7 u (nI a) (nI b) (nI 0) = some (nI g) ∧ D_X8_common_4 v (nI a) (nI b) = some (nI g) := fun u v hu hv => by
    by_cases q : b ≤ a
    · obtain ⟨g, g0, g1, g2, g3⟩ := gcd2 26 u v a b 0 (by omega) (by omega) q (hp a b ha hb) (by omega) (by omega)
      exact ⟨g, g0, g3 (by omega), g1, g2⟩
    · obtain ⟨u, rfl⟩ : ∃ y, u = y + 1 := ⟨u - 1, by omega⟩
      obtain ⟨v, rfl⟩ : ∃ y, v = y + 1 := ⟨v - 1, by omega⟩
      have qn : ¬ nI b = 0 := fun z => absurd ((nI_0i (by omega)).mp z) (by omega)
      rw [D_X7_commonDivisor_7, D_X8_common_4, if_neg (by intro z; exact absurd ((leL (x := 100) (a := 100) (by decide) (by decide) (by omega)).mp z) (by omega)), if_neg qn, if_neg qn]
      unfold zZ
      rw [if_neg qn, if_neg qn, nI_rem (by omega) (by omega) h0, nI_add1, Nat.mod_eq_of_lt (by omega)]
      obtain ⟨g, g0, g1, g2, g3⟩ := gcd2 26 u v b a (0 + 1) (by omega) (by omega) (by omega) (hp b a hb ha) (by omega) (by omega)
      exact ⟨g, g0, g3 (by omega), g1, g2⟩
  obtain ⟨g, g0, g1, g2, g3⟩ := key zFu zFu (by unfold zFu; omega) (by unfold zFu; omega)
  rw [show nI 0 = (0 : Int32) by decide] at g2
  exact ⟨g, g0, g1, g2, g3⟩
theorem t_low {P a b : Nat} {w : Int32} {B : zMt} (ha : a < 8192) (hb : b < 8192) (h0 : 0 < b) : ∃ z, D_X7_lowest (nI a) (nI b) w = some z ∧ D_X8_term P (nI a) (nI b) w B = some (z, zu (zu B P 6 (0 : Int32)) P 12 (0 : Int32)) := by
  obtain ⟨g, g0, g1, g2, g3⟩ := gcd3 ha hb h0
  have qn : ¬ nI g = 0 := fun z => absurd ((nI_0i g0).mp z) (by omega)
  unfold D_X7_lowest D_X8_term D_X7_lowest_15 zZ
  rw [zB_s g2, zB_s g3, if_neg qn, if_neg qn, if_neg qn, if_neg qn, if_neg qn]
  by_cases q : w = 0
  · rw [if_pos q, if_pos q]
    exact ⟨_, rfl, rfl⟩
  · rw [if_neg q, if_neg q, if_neg qn]
    exact ⟨_, rfl, rfl⟩
theorem zsum_rng {f : Nat → Int32} {m : Nat} : ∀ n, m * n < 2147483648 → (∀ a, a < n → ∃ v, v ≤ m ∧ f a = nI v) → ∃ v, v ≤ m * n ∧ zsum f n = nI v
  | 0, _, _ => ⟨0, by omega, show (0 : Int32) = nI 0 by decide⟩
  | n + 1, h, k => by
    have e : m * (n + 1) = m * n + m := Nat.mul_succ m n
    obtain ⟨v, h1, h2⟩ := zsum_rng n (by omega) (fun a ha => k a (by omega))
    obtain ⟨x, h3, h4⟩ := k n (by omega)
    rw [zsum_s, h2, h4, nI_addk (by omega)]
    exact ⟨v + x, by omega, rfl⟩
theorem mm_dem57 {P n U u : Nat} {B T : zMt} {x : Int32} (hg : gP T n U) (hm : mP P B T n U) (hu : u < U) : ∀ (v k : Nat), k ≤ n → n - k < v → D_X8_demand_57 P v (nI u) x (zsum (fH1 T u) k) (nI k) B = zB (D_X8_term P (zsum (fH1 T u) n) (B (P + 1) (62 + u)) x B) fun e => some (e.1, e.2) := by
  have g1 := hg.1
  have g2 := hg.2.1
  intro v
  induction v with
  | zero => intro k _ h; omega
  | succ v ih =>
    intro k hk hv
    rw [D_X8_demand_57, hm.1]
    by_cases hc : n ≤ k
    · rw [if_pos (by exact (nI_leI (by omega) (by omega)).mpr hc), show k = n by omega, nI_62 u (by omega)]
      unfold zI
      rw [if_neg (vp_in_nI (show 62 + u < 82 by omega) (by decide)), nI_clamp (by omega)]
    · have := ih (k + 1) (by omega) (by omega)
      rw [zsum_s, ← nI_add1] at this
      have ec := mm_choice (k := 0) g1 hm (show k < n by omega) (by omega)
      rw [show nI 0 = (0 : Int32) by decide] at ec
      rw [if_neg (by intro z; exact hc ((nI_leI (by omega) (by omega)).mp z)), zB_s ec]
      by_cases q : T 12 (3 * k + 0) = nI u
      · rw [if_pos q]
        unfold zI
        rw [if_neg (vp_in_nI (show k < 10 by omega) (by decide)), nI_clamp (by omega), (hm.2.2.1 k (by omega)).2.2.1]
        rw [show fH1 T u k = T 5 k from if_pos q] at this
        exact this
      · rw [if_neg q]
        rw [show fH1 T u k = 0 from if_neg q] at this
        exact this
theorem t_demand {C P : Nat} {A B : zMt} {v0 v1 : Int32} (w0 : eqE C P A B) (_hJ : jJ P B) : two (D_X7_demand C v0 v1 A) (D_X8_demand P v0 v1 B) (fun a b => a.1 = b.1) := by
  obtain ⟨r, g, U, H, G, K, w⟩ := w0
  obtain ⟨n, B1, hn, l1, l2, l3, l4, l5⟩ := t_laid w
  obtain ⟨w1, w2, w3, w4, w5, w6, w7, w8, w9⟩ := id w
  obtain ⟨⟨c1, c2, c3, c4, c5, c6, c7⟩, r1, r2, r3, r4, r5, r6, r9, ⟨s1, s2, s3, s4⟩, u3, u4, u5⟩ := w6
  have hT : ∀ i j, i < 13 → A (C + 91 + i) j = tP (C + 91) A i j := fun _ _ _ => rfl
  unfold D_X7_demand D_X8_demand
  rcases t_rng (v := v1) (x := 1) (y := 1) (by decide) with ⟨g1, g2, g3, g4, g5⟩ | ⟨gn, g5⟩
  · rw [if_neg g1, if_pos g2, zB_s g5, if_neg n10]
    rcases t_isU (v := v0) w with ⟨e1, e2, u, hu, hv⟩ | ⟨e1, e2⟩
    · subst hv
      rw [zB_s e1, zB_s e2, if_neg n10, if_neg n10, zrd_nI (show u < 5 by omega) (by decide), nI_62 u (by omega)]
      refine two.ir (vp_in_nI (show 62 + u < 82 by omega) (by decide)) ?_
      rw [nI_clamp (by omega)]
      have eq : A (C + 18) u = B (P + 1) (62 + u) := (r1 u (by omega)).trans (w1 _ (by omega)).symm
      rw [eq]
      refine two.ite Iff.rfl (fun _ => t_rfs) (fun hne => ?_)
      have hn10 := l2.1
      have em := mm_dem57 (x := v1) l2 l4 hu zFu 0 (by omega) (by unfold zFu; omega)
      rw [show nI 0 = (0 : Int32) by decide, show zsum (fH1 (tP (C + 91) A) u) 0 = (0 : Int32) from rfl, l5 _ _ (by omega) (by omega)] at em
      obtain ⟨x, x1, x2⟩ := zsum_rng (f := fH1 (tP (C + 91) A) u) (m := 10) n (by have := l2.1; omega) (fun a ha => by
        obtain ⟨y, y1, y2, y3⟩ := (l2.2.2.2.2.1 a ha).1
        unfold fH1
        by_cases q : tP (C + 91) A 12 (3 * a) = nI u
        · rw [if_pos q]; exact ⟨y, y2, y3⟩
        · rw [if_neg q]; exact ⟨0, by omega, by decide⟩)
      have hq := w5.2.2.2.1 u (by omega)
      rw [← w1 (62 + u) (by omega)] at hq
      have ey := z_toN hq.1
      have h0 : ¬ (B (P + 1) (62 + u)).toInt.toNat = 0 := fun z => hne (by rw [ey, z]; decide)
      have hl2 := l2.1
      obtain ⟨z, z1, z2⟩ := t_low (P := P) (a := x) (b := (B (P + 1) (62 + u)).toInt.toNat) (w := v1) (B := B1) (by omega) (by omega) (by omega)
      rw [← ey, ← x2] at z1 z2
      refine two.l (cc_fH l2 hT hu) (two.l z1 (two.r l1 ?_))
      rw [em]
      exact two.l (e := (z, zu A C 0 (0 : Int32))) rfl (two.r z2 (two.mk rfl))
    · rw [zB_s e1, zB_s e2, if_pos rfl, if_pos rfl]
      exact t_rfs
  · rw [zB_s g5, if_pos rfl]
    rcases gn with z | ⟨z, z2⟩
    · rw [if_pos z]
      exact t_rfs
    · rw [if_neg z, if_neg z2]
      exact t_rfs
theorem zs_St {t : Nat → Int32} : ∀ n, n ≤ 10 → (∀ a, a < n → isN (t a) 1 401) → (zsum t n).toInt = St t 0 n
  | 0, _, _ => by show (0 : Int32).toInt = 0; decide
  | n + 1, hn, h => by
    have ih := zs_St (t := t) n (by omega) (fun a ha => h a (by omega))
    have h3 := (h n (by omega)).i (by omega)
    have h4 := St_le (t := t) (b := 0) n (fun a ha => by
      have := (h a (by omega)).i (by omega)
      omega)
    rw [zsum_s]
    show (zsum t n + t n).toInt = St t 0 n + _
    rw [if_neg bit_0, z_add (by omega) (by omega), ih]
theorem mm_sh35 {P n U a : Nat} {B T : zMt} {x : Int32} (hg : gP T n U) (hm : mP P B T n U) (ha : a < n) : ∀ (v k : Nat), k ≤ n → n - k < v → D_X8_share_35 P v (nI a) x (zsum (T 8) k) (nI k) B = zB (D_X8_term P (T 8 a) (zsum (T 8) n) x B) fun e => some (e.1, e.2) := by
  have g1 := hg.1
  intro v
  induction v with
  | zero => intro k _ h; omega
  | succ v ih =>
    intro k hk hv
    rw [D_X8_share_35, hm.1]
    by_cases hc : n ≤ k
    · rw [if_pos (by exact (nI_leI (by omega) (by omega)).mpr hc), show k = n by omega]
      unfold zI
      rw [if_neg (vp_in_nI (show a < 10 by omega) (by decide)), nI_clamp (by omega), (hm.2.2.1 a ha).2.2.2.2.2.1]
    · have := ih (k + 1) (by omega) (by omega)
      rw [zsum_s, ← nI_add1] at this
      rw [if_neg (by intro z; exact hc ((nI_leI (by omega) (by omega)).mp z))]
      unfold zI
      rw [if_neg (vp_in_nI (show k < 10 by omega) (by decide)), nI_clamp (show k < 2147483648 by omega), (hm.2.2.1 k (by omega)).2.2.2.2.2.1]
      exact this
theorem t_share {C P : Nat} {A B : zMt} {v0 v1 : Int32} (w0 : eqE C P A B) (_hJ : jJ P B) : two (D_X7_share C v0 v1 A) (D_X8_share P v0 v1 B) (fun a b => a.1 = b.1) := by
  obtain ⟨r, g, U, H, G, K, w⟩ := w0
  unfold D_X7_share D_X8_share
  rcases t_rng (v := v1) (x := 1) (y := 1) (by decide) with ⟨g1, g2, g3, g4, g5⟩ | ⟨gn, g5⟩
  · rw [if_neg g1, if_pos g2, zB_s g5, if_neg n10]
    obtain ⟨n, B1, hn, l1, l2, l3, l4, l5, hA⟩ := t_isA (v := v0) w
    have hn10 := l2.1
    rcases hA with ⟨e1, e2, a, ha, hv⟩ | ⟨e1, e2⟩
    · subst hv
      have ht : ∀ k, k < n → isN (tP (C + 91) A 8 k) 1 401 := fun k hk => (l2.2.2.2.2.1 k hk).2.2.1
      have es : A (C + 91) 2 = zsum (tP (C + 91) A 8) n := Int32.toInt_inj.mp ((show (A (C + 91) 2).toInt = St (tP (C + 91) A 8) 0 n from l2.2.2.2.2.2.1).trans (zs_St n hn10 ht).symm)
      have em := mm_sh35 (x := v1) l2 l4 ha zFu 0 (by omega) (by unfold zFu; omega)
      rw [show nI 0 = (0 : Int32) by decide, show zsum (tP (C + 91) A 8) 0 = (0 : Int32) from rfl] at em
      obtain ⟨x, x1, x2⟩ := zsum_rng (f := tP (C + 91) A 8) (m := 401) n (by omega) (fun k hk => by
        obtain ⟨y, y1, y2, y3⟩ := ht k hk
        exact ⟨y, y2, y3⟩)
      have x0 : 0 < x := by
        have h1 := zs_St n hn10 ht
        have h2 : ∀ m, m ≤ n → (∃ k, k < m) → 1 ≤ St (tP (C + 91) A 8) 0 m := fun m hm hk => by
          obtain ⟨k, hk⟩ := hk
          obtain ⟨m, rfl⟩ : ∃ y, m = y + 1 := ⟨m - 1, by omega⟩
          have h3 := St_le (t := tP (C + 91) A 8) (b := 0) m (fun a ha => by
            have := (ht a (by omega)).i (by omega)
            omega)
          have h4 := (ht m (by omega)).i (by omega)
          show 1 ≤ St (tP (C + 91) A 8) 0 m + _
          rw [if_neg bit_0]
          omega
        have h3 := h2 n (Nat.le_refl n) ⟨a, ha⟩
        rw [x2, nI_toInt (by omega)] at h1
        omega
      obtain ⟨y, y1, y2, y3⟩ := ht a ha
      obtain ⟨z, z1, z2⟩ := t_low (P := P) (a := y) (b := x) (w := v1) (B := B1) (by omega) (by omega) x0
      rw [← x2, ← y3] at z1 z2
      rw [zB_s e1, zB_s e2, if_neg n10, if_neg n10, zrd_nI (show a < 10 by omega) (by decide), es]
      refine two.l z1 ?_
      show two _ (D_X8_share_35 P zFu (nI a) v1 (0 : Int32) (0 : Int32) B1) _
      rw [em]
      exact two.l (e := (z, zu A C 0 (0 : Int32))) rfl (two.r z2 (two.mk rfl))
    · rw [zB_s e1, zB_s e2, if_pos rfl, if_pos rfl]
      exact t_rfs
  · rw [zB_s g5, if_pos rfl]
    rcases gn with z | ⟨z, z2⟩
    · rw [if_pos z]
      exact t_rfs
    · rw [if_neg z, if_neg z2]
      exact t_rfs
/-! what a call of the law does to the two objects, whatever they hold -/
def jI (S : zS) : Prop := LX7 S.1 0 ∧ LX8 S.1 200 ∧ vp_in (S.2.1 25 1) 8 ∧ jJ 200 S.2.1 ∧ tpe 0 200 S.2.1 S.2.1 ∧ flt 0 200 S.2.1 S.2.1 ∧ eqE 0 200 S.2.1 S.2.1
theorem tpe.k {A A' B B' : zMt} (h : tpe 0 200 A B) (a : ∀ r j, ((r = 0 ∧ j = 1) ∨ r = 1) → A' r j = A r j) (b : ∀ r j, ((r = 200 ∧ j = 11) ∨ r = 207) → B' r j = B r j) : tpe 0 200 A' B' := by
  obtain ⟨m, h1, h2, h3, h4⟩ := h
  refine ⟨m, h1, (a 0 1 (by omega)).trans h2, (b 200 11 (by omega)).trans h3, fun k hk => ?_⟩
  have e1 : A' (0 + 1) k = A (0 + 1) k := a 1 k (by omega)
  have e2 : B' (200 + 7) k = B (200 + 7) k := b 207 k (by omega)
  rw [e1, e2]
  exact h4 k hk
theorem flt.k {A A' B B' : zMt} (h : flt 0 200 A B) (a : ∀ j, (j = 1 ∨ j = 2) → A' 3 j = A 3 j) (b : ∀ j, (j = 13 ∨ j = 14) → B' 200 j = B 200 j) : flt 0 200 A' B' :=
  ⟨(a 1 (by omega)).trans (h.1.trans (b 13 (by omega)).symm), (a 2 (by omega)).trans (h.2.trans (b 14 (by omega)).symm)⟩
theorem jI.cls {L : List zC} {M M' : zMt} {N N' : zNt} (h : jI (L, M, N)) (hf : ∀ a j, (200 ≤ a ∨ (a = 0 ∧ j = 1) ∨ a = 1 ∨ (a = 3 ∧ (j = 1 ∨ j = 2)) ∨ (17 ≤ a ∧ a < 104)) → M' a j = M a j) : jI (L, M', N') :=
  ⟨h.1, h.2.1, by show vp_in (M' 25 1) 8; rw [hf 25 1 (by omega)]; exact h.2.2.1, h.2.2.2.1.mono (fun a j q => hf a j (by omega)), h.2.2.2.2.1.k (fun a j q => hf a j (by omega)) (fun a j q => hf a j (by omega)), h.2.2.2.2.2.1.k (fun j q => hf 3 j (by omega)) (fun j q => hf 200 j (by omega)), h.2.2.2.2.2.2.k (fun i j _ _ => hf i j (by omega)) (fun i j q => hf i j (by omega))⟩
theorem jI.mod {L : List zC} {M M' : zMt} {N N' : zNt} (h : jI (L, M, N)) (hf : ∀ a j, (a < 200 ∨ (a = 200 ∧ (j = 7 ∨ j = 8 ∨ j = 9 ∨ j = 11 ∨ j = 13 ∨ j = 14)) ∨ a = 204 ∨ a = 205 ∨ a = 207) → M' a j = M a j) (h1 : ∀ j, j < 82 → M' 201 j = M 201 j) (hJ : jJ 200 M') : jI (L, M', N') :=
  ⟨h.1, h.2.1, by show vp_in (M' 25 1) 8; rw [hf 25 1 (by omega)]; exact h.2.2.1, hJ, h.2.2.2.2.1.k (fun a j q => hf a j (by omega)) (fun a j q => hf a j (by omega)), h.2.2.2.2.2.1.k (fun j q => hf 3 j (by omega)) (fun j q => hf 200 j (by omega)), h.2.2.2.2.2.2.k (fun i j _ _ => hf i j (by omega)) (fun i j q => by
    by_cases z : i = 201
    · subst z; exact h1 j (by omega)
    · exact hf i j (by omega))⟩
theorem jI.at {S S' : zS} (h : jI S) (e : S' = S) : jI S' := e ▸ h
theorem f_status {l : Launch} {G : zG} {b : Nat} {S : zS} (h : jI S) : zM l G b yX7_status cX7_status 1 (some .int) 0 0 0 [.ref 0] S (fun r z => (∃ v, r = some (.int v)) ∧ jI z) := by
  obtain ⟨L, M, N⟩ := S
  obtain ⟨r, e, q⟩ := v_X7_status (P := 0) (M := M)
  refine zM.weaken (t_X7_status (L := L) (N := N) h.1 e) (fun r2 z q2 => ?_)
  obtain ⟨rfl, rfl⟩ := q2
  exact ⟨⟨_, rfl⟩, h⟩
theorem m_status {l : Launch} {G : zG} {b : Nat} {S : zS} (h : jI S) : zM l G b yX8_status cX8_status 1 (some .int) 0 0 0 [.ref 200] S (fun r z => (∃ v, r = some (.int v)) ∧ jI z) := by
  obtain ⟨L, M, N⟩ := S
  obtain ⟨r, e, q⟩ := v_X8_status (P := 200) (M0 := M)
  refine zM.weaken (t_X8_status (L := L) (N := N) h.2.1 e) (fun r2 z q2 => ?_)
  obtain ⟨rfl, rfl⟩ := q2
  exact ⟨⟨_, rfl⟩, h.mod (fun a j hh => q a j (by unfold WM_X8_status; omega)) (fun j _ => q 201 j (by unfold WM_X8_status; omega)) (h.2.2.2.1.mono (fun a j hh => q a j (by unfold WM_X8_status; omega)))⟩
theorem f_feed {l : Launch} {G : zG} {b : Nat} {S : zS} {v0 : Int32} {v1 : Int32} {v2 : Int32} {v3 : Int32} {v4 : Int32} (h : jI S) : zM l G b yX7_feed cX7_feed 6 (some .int) 2 0 0 [.ref 0, .int v0, .int v1, .int v2, .int v3, .int v4] S (fun r z => ∃ e, D_X7_feed 0 v0 v1 v2 v3 v4 S.2.1 = some e ∧ r = some (.int e.1) ∧ z = (S.1, e.2, S.2.2)) := by
  obtain ⟨L, M, N⟩ := S
  obtain ⟨e, he, -⟩ := v_X7_feed (P := 0) (M0 := M) (v0 := v0) (v1 := v1) (v2 := v2) (v3 := v3) (v4 := v4)
  exact zM.weaken (t_X7_feed (L := L) (N := N) h.1 he) (fun r2 z q => ⟨e, he, q.1, q.2⟩)
theorem m_feed {l : Launch} {G : zG} {b : Nat} {S : zS} {v0 : Int32} {v1 : Int32} {v2 : Int32} {v3 : Int32} {v4 : Int32} (h : jI S) {e} (he : D_X7_feed 0 v0 v1 v2 v3 v4 S.2.1 = some e) : zM l G b yX8_feed cX8_feed 6 (some .int) 1 0 0 [.ref 200, .int v0, .int v1, .int v2, .int v3, .int v4] (S.1, e.2, S.2.2) (fun r z => r = some (.int e.1) ∧ jI z) := by
  obtain ⟨L, M, N⟩ := S
  obtain ⟨h7, h8, hv, hJ, hT, hF, hE⟩ := h
  have he : D_X7_feed 0 v0 v1 v2 v3 v4 M = some e := he
  have hv : vp_in (M 25 1) 8 := hv
  have hJ : jJ 200 M := hJ
  have hT : tpe 0 200 M M := hT
  have hF : flt 0 200 M M := hF
  have hE : eqE 0 200 M M := hE
  obtain ⟨e', he', kc, -⟩ := v_X7_feed (P := 0) (M0 := M) (v0 := v0) (v1 := v1) (v2 := v2) (v3 := v3) (v4 := v4)
  rw [he] at he'
  cases he'
  have kc : ∀ a j, (200 ≤ a ∨ a = 3 ∨ (17 ≤ a ∧ a < 104)) → e.2 a j = M a j := fun a j hh => kc a j (by unfold WM_X7_feed; omega)
  have hJ' : jJ 200 e.2 := hJ.mono (fun a j q => kc a j (by omega))
  have hE' : eqE 0 200 M e.2 := hE.k (fun _ _ _ _ => rfl) (fun i j q => kc i j (by omega))
  have hT' : tpe 0 200 M e.2 := hT.k (fun _ _ _ => rfl) (fun a j q => kc a j (by omega))
  obtain ⟨a, ea, b, eb, hab, htp⟩ := t_feed hT' (v0 := v0) (v1 := v1) (v2 := v2) (v3 := v3) (v4 := v4)
  rw [he] at ea
  cases ea
  obtain ⟨b', eb', kb, hjT, -⟩ := v_X8_feed (P := 200) (M0 := e.2) (v0 := v0) (v1 := v1) (v2 := v2) (v3 := v3) (v4 := v4) hJ'.2.2.2.2
  rw [eb] at eb'
  cases eb'
  have kb : ∀ a j, (a < 200 ∨ (a = 200 ∧ (j = 7 ∨ j = 8 ∨ j = 9 ∨ j = 13 ∨ j = 14 ∨ j = 33)) ∨ a = 201 ∨ a = 204 ∨ a = 205 ∨ a = 219) → b.2 a j = e.2 a j := fun a j hh => kb a j (by unfold WM_X8_feed; omega)
  have hJ2 : jJ 200 b.2 := ⟨hJ'.1.mono (fun a j q => kb a j (by omega)), hJ'.2.1.mono (fun a j q => kb a j (by omega)), hJ'.2.2.1.mono (fun a j q => kb a j (by omega)), hJ'.2.2.2.1.mono (fun a j q => kb a j (by omega)), hjT⟩
  have hE2 : eqE 0 200 b.2 b.2 := hE.k (fun i j _ _ => (kb i j (by omega)).trans (kc i j (by omega))) (fun i j q => (kb i j (by omega)).trans (kc i j (by omega)))
  refine zM.weaken (t_X8_feed (L := L) (N := N) h8 eb) (fun r2 z q2 => ?_)
  obtain ⟨rfl, rfl⟩ := q2
  have hab2 : e.1 = b.1 := hab
  exact ⟨by rw [hab2], h7, h8, hE2.vp, hJ2, htp.k (fun a j q => kb a j (by omega)) (fun _ _ _ => rfl), hF.k (fun j q => (kb 3 j (by omega)).trans (kc 3 j (by omega))) (fun j q => (kb 200 j (by omega)).trans (kc 200 j (by omega))), hE2⟩
theorem f_load {l : Launch} {G : zG} {b : Nat} {S : zS} {v0 : Int32} (h : jI S) : zM l G b yX7_load cX7_load 3 (some .int) 10 0 0 [.ref 0, .int v0] S (fun r z => ∃ e, D_X7_load 0 v0 S.2.1 S.2.2 = some e ∧ r = some (.int e.1) ∧ z = (S.1, e.2.1, e.2.2)) := by
  obtain ⟨L, M, N⟩ := S
  obtain ⟨e, he, -⟩ := v_X7_load (P := 0) (M0 := M) (N0 := N) (v0 := v0)
  exact zM.weaken (t_X7_load (L := L) (N := N) h.1 he) (fun r2 z q => ⟨e, he, q.1, q.2⟩)
theorem m_load {l : Launch} {G : zG} {b : Nat} {S : zS} {v0 : Int32} (h : jI S) {e} (he : D_X7_load 0 v0 S.2.1 S.2.2 = some e) : zM l G b yX8_load cX8_load 4 (some .int) 9 0 0 [.ref 200, .int v0] (S.1, e.2.1, e.2.2) (fun r z => r = some (.int e.1) ∧ jI z) := by
  obtain ⟨L, M, N⟩ := S
  obtain ⟨h7, h8, hv, hJ, hT, hF, hE⟩ := h
  have he : D_X7_load 0 v0 M N = some e := he
  have hv : vp_in (M 25 1) 8 := hv
  have hJ : jJ 200 M := hJ
  have hT : tpe 0 200 M M := hT
  have hF : flt 0 200 M M := hF
  have hE : eqE 0 200 M M := hE
  obtain ⟨e', he', kc, -⟩ := v_X7_load (P := 0) (M0 := M) (N0 := N) (v0 := v0)
  rw [he] at he'
  cases he'
  have kc : ∀ a j, (200 ≤ a ∨ a = 1) → e.2.1 a j = M a j := fun a j hh => kc a j (by unfold WM_X7_load; omega)
  have hJ' : jJ 200 e.2.1 := hJ.mono (fun a j q => kc a j (by omega))
  have hE' : eqE 0 200 M e.2.1 := hE.k (fun _ _ _ _ => rfl) (fun i j q => kc i j (by omega))
  have hT' : tpe 0 200 M e.2.1 := hT.k (fun _ _ _ => rfl) (fun a j q => kc a j (by omega))
  have hF' : flt 0 200 M e.2.1 := hF.k (fun _ _ => rfl) (fun j q => kc 200 j (by omega))
  obtain ⟨a, ea, b, eb, hab, hfl, hEq, hth⟩ := t_loadE hT' hJ' hF' hE' (NA := N) (NB := e.2.2) (v0 := v0)
  rw [he] at ea
  cases ea
  obtain ⟨b', eb', kb, -, hJ2, g⟩ := v_X8_load (P := 200) (M0 := e.2.1) (N0 := e.2.2) (v0 := v0) hJ'.1 hJ'.2.1 hJ'.2.2.1 hJ'.2.2.2.1 hJ'.2.2.2.2
  rw [eb] at eb'
  cases eb'
  have kb : ∀ a j, (a < 200) → b.2.1 a j = e.2.1 a j := fun a j hh => kb a j (by unfold WM_X8_load; omega)
  have w7 : ((v0 < 0 ∨ ¬ v0 ≤ M 0 1) ∧ e.2.1 0 1 = M 0 1) ∨ (¬ v0 < 0 ∧ v0 ≤ M 0 1) ∧ e.2.1 0 1 = 0 := by
    obtain ⟨e9, he9, g9⟩ := w_X7_load (P := 0) (M0 := M) (N0 := N) (v0 := v0)
    rw [he] at he9
    cases he9
    exact g9
  have k1 : ∀ j, e.2.1 1 j = M 1 j := fun j => kc 1 j (by omega)
  have k207 : ∀ j, b.2.1 207 j = M 207 j := fun j => by
    obtain ⟨b9, hb9, k9, -⟩ := v_X8_load (P := 200) (M0 := e.2.1) (N0 := e.2.2) (v0 := v0) hJ'.1 hJ'.2.1 hJ'.2.2.1 hJ'.2.2.2.1 hJ'.2.2.2.2
    rw [eb] at hb9
    cases hb9
    exact (k9 207 j (by unfold WM_X8_load; omega)).trans (kc 207 j (by omega))
  have tpe0 : tpe 0 200 b.2.1 b.2.1 := by
    obtain ⟨m, h1, h2, h3, h4⟩ := hT
    have e11 : e.2.1 200 11 = M 200 11 := kc 200 11 (by omega)
    rw [e11, h3] at g
    rw [h2] at w7
    have b01 : b.2.1 0 1 = e.2.1 0 1 := kb 0 1 (by omega)
    rcases w7 with ⟨g1, g2⟩ | ⟨g1, g2⟩
    · rcases g with ⟨f1, f2⟩ | ⟨f1, f2⟩
      · refine ⟨m, h1, b01.trans g2, f2, fun k hk => ?_⟩
        have e1 : b.2.1 (0 + 1) k = M (0 + 1) k := (kb 1 k (by omega)).trans (k1 k)
        have e2 : b.2.1 (200 + 7) k = M (200 + 7) k := k207 k
        rw [e1, e2]
        exact h4 k hk
      · exact absurd g1 (fun z => z.elim f1.1 (fun y => y f1.2))
    · rcases g with ⟨f1, f2⟩ | ⟨f1, f2⟩
      · exact absurd f1 (fun z => z.elim g1.1 (fun y => y g1.2))
      · exact ⟨0, by omega, b01.trans (g2.trans (by decide)), f2.trans (by decide), fun k hk => by omega⟩
  have hE2 : eqE 0 200 b.2.1 b.2.1 := eqE.k (A := e.2.1) (B := b.2.1) hEq (fun i j _ _ => kb i j (by omega)) (fun _ _ _ => rfl)
  refine zM.weaken (t_X8_load (L := L) (N := e.2.2) h8 eb) (fun r2 z q2 => ?_)
  obtain ⟨rfl, rfl⟩ := q2
  have hab2 : e.1 = b.1 := hab
  exact ⟨by rw [hab2], h7, h8, hE2.vp, hJ2, tpe0, hfl.k (fun j q => kb 3 j (by omega)) (fun _ _ => rfl), hE2⟩
theorem f_fault {l : Launch} {G : zG} {b : Nat} {S : zS} {v0 : Int32} (h : jI S) : zM l G b yX7_fault cX7_fault 2 (some .int) 0 0 0 [.ref 0, .int v0] S (fun r z => (∃ v, r = some (.int v)) ∧ jI z) := by
  obtain ⟨L, M, N⟩ := S
  obtain ⟨r, e, q⟩ := v_X7_fault (P := 0) (M := M) (v0 := v0)
  refine zM.weaken (t_X7_fault (L := L) (N := N) h.1 e) (fun r2 z q2 => ?_)
  obtain ⟨rfl, rfl⟩ := q2
  exact ⟨⟨_, rfl⟩, h⟩
theorem m_fault {l : Launch} {G : zG} {b : Nat} {S : zS} {v0 : Int32} (h : jI S) : zM l G b yX8_fault cX8_fault 2 (some .int) 0 0 0 [.ref 200, .int v0] S (fun r z => (∃ v, r = some (.int v)) ∧ jI z) := by
  obtain ⟨L, M, N⟩ := S
  obtain ⟨r, e, q⟩ := v_X8_fault (P := 200) (M0 := M) (v0 := v0)
  refine zM.weaken (t_X8_fault (L := L) (N := N) h.2.1 e) (fun r2 z q2 => ?_)
  obtain ⟨rfl, rfl⟩ := q2
  exact ⟨⟨_, rfl⟩, h.mod (fun a j hh => q a j (by unfold WM_X8_fault; omega)) (fun j _ => q 201 j (by unfold WM_X8_fault; omega)) (h.2.2.2.1.mono (fun a j hh => q a j (by unfold WM_X8_fault; omega)))⟩
theorem f_many {l : Launch} {G : zG} {b : Nat} {S : zS} {v0 : Int32} (h : jI S) : zM l G b yX7_many cX7_many 2 (some .int) 1 0 0 [.ref 0, .int v0] S (fun r z => (∃ v, r = some (.int v)) ∧ jI z) := by
  obtain ⟨L, M, N⟩ := S
  obtain ⟨r, e, q⟩ := v_X7_many (P := 0) (M0 := M) (v0 := v0)
  refine zM.weaken (t_X7_many (L := L) (N := N) h.1 e) (fun r2 z q2 => ?_)
  obtain ⟨rfl, rfl⟩ := q2
  exact ⟨⟨_, rfl⟩, h.cls (fun a j hh => q a j (by unfold WM_X7_many; omega))⟩
theorem m_many {l : Launch} {G : zG} {b : Nat} {S : zS} {v0 : Int32} (h : jI S) : zM l G b yX8_many cX8_many 4 (some .int) 3 0 0 [.ref 200, .int v0] S (fun r z => (∃ v, r = some (.int v)) ∧ jI z) := by
  obtain ⟨L, M, N⟩ := S
  obtain ⟨r, e, q⟩ := v_X8_many (P := 200) (M0 := M) (v0 := v0) h.2.2.2.1.1 h.2.2.2.1.2.1 h.2.2.2.1.2.2.1 h.2.2.2.1.2.2.2.1 h.2.2.2.1.2.2.2.2
  refine zM.weaken (t_X8_many (L := L) (N := N) h.2.1 e) (fun r2 z q2 => ?_)
  obtain ⟨rfl, rfl⟩ := q2
  exact ⟨⟨_, rfl⟩, h.mod (fun a j hh => q.1 a j (by unfold WM_X8_many; omega)) (fun j _ => q.1 201 j (by unfold WM_X8_many; omega)) (q.2)⟩
theorem f_hunter {l : Launch} {G : zG} {b : Nat} {S : zS} {v0 : Int32} {v1 : Int32} (h : jI S) : zM l G b yX7_hunter cX7_hunter 3 (some .int) 1 0 0 [.ref 0, .int v0, .int v1] S (fun r z => (∃ v, r = some (.int v)) ∧ jI z) := by
  obtain ⟨L, M, N⟩ := S
  obtain ⟨r, e, q⟩ := v_X7_hunter (P := 0) (M0 := M) (v0 := v0) (v1 := v1)
  refine zM.weaken (t_X7_hunter (L := L) (N := N) h.1 e) (fun r2 z q2 => ?_)
  obtain ⟨rfl, rfl⟩ := q2
  exact ⟨⟨_, rfl⟩, h.cls (fun a j hh => q a j (by unfold WM_X7_hunter; omega))⟩
theorem m_hunter {l : Launch} {G : zG} {b : Nat} {S : zS} {v0 : Int32} {v1 : Int32} (h : jI S) : zM l G b yX8_hunter cX8_hunter 3 (some .int) 4 0 0 [.ref 200, .int v0, .int v1] S (fun r z => (∃ v, r = some (.int v)) ∧ jI z) := by
  obtain ⟨L, M, N⟩ := S
  obtain ⟨r, e, q⟩ := v_X8_hunter (P := 200) (M0 := M) (v0 := v0) (v1 := v1) h.2.2.2.1.1 h.2.2.2.1.2.1 h.2.2.2.1.2.2.1 h.2.2.2.1.2.2.2.1 h.2.2.2.1.2.2.2.2
  refine zM.weaken (t_X8_hunter (L := L) (N := N) h.2.1 e) (fun r2 z q2 => ?_)
  obtain ⟨rfl, rfl⟩ := q2
  exact ⟨⟨_, rfl⟩, h.mod (fun a j hh => q.1 a j (by unfold WM_X8_hunter; omega)) (fun j _ => q.1 201 j (by unfold WM_X8_hunter; omega)) (q.2)⟩
theorem f_unit {l : Launch} {G : zG} {b : Nat} {S : zS} {v0 : Int32} {v1 : Int32} (h : jI S) : zM l G b yX7_unit cX7_unit 3 (some .int) 4 0 0 [.ref 0, .int v0, .int v1] S (fun r z => (∃ v, r = some (.int v)) ∧ jI z) := by
  obtain ⟨L, M, N⟩ := S
  obtain ⟨r, e, q⟩ := v_X7_unit (P := 0) (M0 := M) (v0 := v0) (v1 := v1)
  refine zM.weaken (t_X7_unit (L := L) (N := N) h.1 e) (fun r2 z q2 => ?_)
  obtain ⟨rfl, rfl⟩ := q2
  exact ⟨⟨_, rfl⟩, h.cls (fun a j hh => q a j (by unfold WM_X7_unit; omega))⟩
theorem m_unit {l : Launch} {G : zG} {b : Nat} {S : zS} {v0 : Int32} {v1 : Int32} (h : jI S) : zM l G b yX8_unit cX8_unit 6 (some .int) 3 0 0 [.ref 200, .int v0, .int v1] S (fun r z => (∃ v, r = some (.int v)) ∧ jI z) := by
  obtain ⟨L, M, N⟩ := S
  obtain ⟨r, e, q⟩ := v_X8_unit (P := 200) (M0 := M) (v0 := v0) (v1 := v1) h.2.2.2.1.1 h.2.2.2.1.2.1 h.2.2.2.1.2.2.1 h.2.2.2.1.2.2.2.1 h.2.2.2.1.2.2.2.2
  refine zM.weaken (t_X8_unit (L := L) (N := N) h.2.1 e) (fun r2 z q2 => ?_)
  obtain ⟨rfl, rfl⟩ := q2
  exact ⟨⟨_, rfl⟩, h.mod (fun a j hh => q.1 a j (by unfold WM_X8_unit; omega)) (fun j _ => q.1 201 j (by unfold WM_X8_unit; omega)) (q.2)⟩
theorem f_applicant {l : Launch} {G : zG} {b : Nat} {S : zS} {v0 : Int32} {v1 : Int32} (h : jI S) : zM l G b yX7_applicant cX7_applicant 3 (some .int) 1 0 0 [.ref 0, .int v0, .int v1] S (fun r z => (∃ v, r = some (.int v)) ∧ jI z) := by
  obtain ⟨L, M, N⟩ := S
  obtain ⟨r, e, q⟩ := v_X7_applicant (P := 0) (M0 := M) (v0 := v0) (v1 := v1)
  refine zM.weaken (t_X7_applicant (L := L) (N := N) h.1 e) (fun r2 z q2 => ?_)
  obtain ⟨rfl, rfl⟩ := q2
  exact ⟨⟨_, rfl⟩, h.cls (fun a j hh => q a j (by unfold WM_X7_applicant; omega))⟩
theorem m_applicant {l : Launch} {G : zG} {b : Nat} {S : zS} {v0 : Int32} {v1 : Int32} (h : jI S) : zM l G b yX8_applicant cX8_applicant 3 (some .int) 4 0 0 [.ref 200, .int v0, .int v1] S (fun r z => (∃ v, r = some (.int v)) ∧ jI z) := by
  obtain ⟨L, M, N⟩ := S
  obtain ⟨r, e, q⟩ := v_X8_applicant (P := 200) (M0 := M) (v0 := v0) (v1 := v1) h.2.2.2.1.1 h.2.2.2.1.2.1 h.2.2.2.1.2.2.1 h.2.2.2.1.2.2.2.1 h.2.2.2.1.2.2.2.2
  refine zM.weaken (t_X8_applicant (L := L) (N := N) h.2.1 e) (fun r2 z q2 => ?_)
  obtain ⟨rfl, rfl⟩ := q2
  exact ⟨⟨_, rfl⟩, h.mod (fun a j hh => q.1 a j (by unfold WM_X8_applicant; omega)) (fun j _ => q.1 201 j (by unfold WM_X8_applicant; omega)) (q.2)⟩
theorem f_choice {l : Launch} {G : zG} {b : Nat} {S : zS} {v0 : Int32} {v1 : Int32} (h : jI S) : zM l G b yX7_choice cX7_choice 3 (some .int) 2 0 0 [.ref 0, .int v0, .int v1] S (fun r z => (∃ v, r = some (.int v)) ∧ jI z) := by
  obtain ⟨L, M, N⟩ := S
  obtain ⟨r, e, q⟩ := v_X7_choice (P := 0) (M0 := M) (v0 := v0) (v1 := v1)
  refine zM.weaken (t_X7_choice (L := L) (N := N) h.1 e) (fun r2 z q2 => ?_)
  obtain ⟨rfl, rfl⟩ := q2
  exact ⟨⟨_, rfl⟩, h.cls (fun a j hh => q a j (by unfold WM_X7_choice; omega))⟩
theorem m_choice {l : Launch} {G : zG} {b : Nat} {S : zS} {v0 : Int32} {v1 : Int32} (h : jI S) : zM l G b yX8_choice cX8_choice 3 (some .int) 4 0 0 [.ref 200, .int v0, .int v1] S (fun r z => (∃ v, r = some (.int v)) ∧ jI z) := by
  obtain ⟨L, M, N⟩ := S
  obtain ⟨r, e, q⟩ := v_X8_choice (P := 200) (M0 := M) (v0 := v0) (v1 := v1) h.2.2.2.1.1 h.2.2.2.1.2.1 h.2.2.2.1.2.2.1 h.2.2.2.1.2.2.2.1 h.2.2.2.1.2.2.2.2
  refine zM.weaken (t_X8_choice (L := L) (N := N) h.2.1 e) (fun r2 z q2 => ?_)
  obtain ⟨rfl, rfl⟩ := q2
  exact ⟨⟨_, rfl⟩, h.mod (fun a j hh => q.1 a j (by unfold WM_X8_choice; omega)) (fun j _ => q.1 201 j (by unfold WM_X8_choice; omega)) (q.2)⟩
theorem f_demand {l : Launch} {G : zG} {b : Nat} {S : zS} {v0 : Int32} {v1 : Int32} (h : jI S) : zM l G b yX7_demand cX7_demand 3 (some .int) 4 0 0 [.ref 0, .int v0, .int v1] S (fun r z => (∃ v, r = some (.int v)) ∧ jI z) := by
  obtain ⟨L, M, N⟩ := S
  obtain ⟨r, e, q⟩ := v_X7_demand (P := 0) (M0 := M) (v0 := v0) (v1 := v1)
  refine zM.weaken (t_X7_demand (L := L) (N := N) h.1 e) (fun r2 z q2 => ?_)
  obtain ⟨rfl, rfl⟩ := q2
  exact ⟨⟨_, rfl⟩, h.cls (fun a j hh => q a j (by unfold WM_X7_demand; omega))⟩
theorem m_demand {l : Launch} {G : zG} {b : Nat} {S : zS} {v0 : Int32} {v1 : Int32} (h : jI S) : zM l G b yX8_demand cX8_demand 5 (some .int) 3 0 0 [.ref 200, .int v0, .int v1] S (fun r z => (∃ v, r = some (.int v)) ∧ jI z) := by
  obtain ⟨L, M, N⟩ := S
  obtain ⟨r, e, q⟩ := v_X8_demand (P := 200) (M0 := M) (v0 := v0) (v1 := v1) h.2.2.2.1.1 h.2.2.2.1.2.1 h.2.2.2.1.2.2.1 h.2.2.2.1.2.2.2.1 h.2.2.2.1.2.2.2.2
  refine zM.weaken (t_X8_demand (L := L) (N := N) h.2.1 e) (fun r2 z q2 => ?_)
  obtain ⟨rfl, rfl⟩ := q2
  exact ⟨⟨_, rfl⟩, h.mod (fun a j hh => q.1 a j (by unfold WM_X8_demand; omega)) (fun j _ => q.1 201 j (by unfold WM_X8_demand; omega)) (q.2)⟩
theorem f_share {l : Launch} {G : zG} {b : Nat} {S : zS} {v0 : Int32} {v1 : Int32} (h : jI S) : zM l G b yX7_share cX7_share 3 (some .int) 2 0 0 [.ref 0, .int v0, .int v1] S (fun r z => ∃ e, D_X7_share 0 v0 v1 S.2.1 = some e ∧ r = some (.int e.1) ∧ z = (S.1, e.2, S.2.2)) := by
  obtain ⟨L, M, N⟩ := S
  obtain ⟨e, he, -⟩ := v_X7_share (P := 0) (M0 := M) (v0 := v0) (v1 := v1)
  exact zM.weaken (t_X7_share (L := L) (N := N) h.1 he) (fun r2 z q => ⟨e, he, q.1, q.2⟩)
theorem m_share {l : Launch} {G : zG} {b : Nat} {S : zS} {v0 : Int32} {v1 : Int32} (h : jI S) {e} (he : D_X7_share 0 v0 v1 S.2.1 = some e) : zM l G b yX8_share cX8_share 5 (some .int) 4 0 0 [.ref 200, .int v0, .int v1] (S.1, e.2, S.2.2) (fun r z => r = some (.int e.1) ∧ jI z) := by
  obtain ⟨L, M, N⟩ := S
  obtain ⟨h7, h8, hv, hJ, hT, hF, hE⟩ := h
  have he : D_X7_share 0 v0 v1 M = some e := he
  have hv : vp_in (M 25 1) 8 := hv
  have hJ : jJ 200 M := hJ
  have hT : tpe 0 200 M M := hT
  have hF : flt 0 200 M M := hF
  have hE : eqE 0 200 M M := hE
  obtain ⟨e', he', kc⟩ := v_X7_share (P := 0) (M0 := M) (v0 := v0) (v1 := v1)
  rw [he] at he'
  cases he'
  have kc : ∀ a j, (200 ≤ a ∨ (a = 0 ∧ j = 1) ∨ a = 1 ∨ (a = 3 ∧ (j = 1 ∨ j = 2)) ∨ (17 ≤ a ∧ a < 104)) → e.2 a j = M a j := fun a j hh => kc a j (by unfold WM_X7_share; omega)
  have hJ' : jJ 200 e.2 := hJ.mono (fun a j q => kc a j (by omega))
  have hE' : eqE 0 200 M e.2 := hE.k (fun _ _ _ _ => rfl) (fun i j q => kc i j (by omega))
  obtain ⟨a, ea, b, eb, hab⟩ := t_share hE' hJ' (v0 := v0) (v1 := v1)
  rw [he] at ea
  cases ea
  obtain ⟨b', eb', kb, hJ2⟩ := v_X8_share (P := 200) (M0 := e.2) (v0 := v0) (v1 := v1) hJ'.1 hJ'.2.1 hJ'.2.2.1 hJ'.2.2.2.1 hJ'.2.2.2.2
  rw [eb] at eb'
  cases eb'
  have kb : ∀ a j, (a < 200 ∨ (a = 200 ∧ (j = 11 ∨ j = 13 ∨ j = 14)) ∨ a = 207 ∨ (a = 200 ∧ (j = 7 ∨ j = 8 ∨ j = 9)) ∨ a = 204 ∨ a = 205 ∨ a = 201) → b.2 a j = e.2 a j := fun a j hh => kb a j (by unfold WM_X8_share; omega)
  have hE2 : eqE 0 200 b.2 b.2 := hE.k (fun i j _ _ => (kb i j (by omega)).trans (kc i j (by omega))) (fun i j q => (kb i j (by omega)).trans (kc i j (by omega)))
  refine zM.weaken (t_X8_share (L := L) (N := N) h8 eb) (fun r2 z q2 => ?_)
  obtain ⟨rfl, rfl⟩ := q2
  have hab2 : e.1 = b.1 := hab
  exact ⟨by rw [hab2], h7, h8, hE2.vp, hJ2, hT.k (fun a j q => (kb a j (by omega)).trans (kc a j (by omega))) (fun a j q => (kb a j (by omega)).trans (kc a j (by omega))), hF.k (fun j q => (kb 3 j (by omega)).trans (kc 3 j (by omega))) (fun j q => (kb 200 j (by omega)).trans (kc 200 j (by omega))), hE2⟩
theorem f_order {l : Launch} {G : zG} {b : Nat} {S : zS} {v0 : Int32} {v1 : Int32} (h : jI S) : zM l G b yX7_order cX7_order 3 (some .int) 3 0 0 [.ref 0, .int v0, .int v1] S (fun r z => (∃ v, r = some (.int v)) ∧ jI z) := by
  obtain ⟨L, M, N⟩ := S
  obtain ⟨r, e, q⟩ := v_X7_order (P := 0) (M0 := M) (v0 := v0) (v1 := v1)
  refine zM.weaken (t_X7_order (L := L) (N := N) h.1 e) (fun r2 z q2 => ?_)
  obtain ⟨rfl, rfl⟩ := q2
  exact ⟨⟨_, rfl⟩, h.cls (fun a j hh => q a j (by unfold WM_X7_order; omega))⟩
theorem m_order {l : Launch} {G : zG} {b : Nat} {S : zS} {v0 : Int32} {v1 : Int32} (h : jI S) : zM l G b yX8_order cX8_order 3 (some .int) 4 0 0 [.ref 200, .int v0, .int v1] S (fun r z => (∃ v, r = some (.int v)) ∧ jI z) := by
  obtain ⟨L, M, N⟩ := S
  obtain ⟨r, e, q⟩ := v_X8_order (P := 200) (M0 := M) (N0 := N) (v0 := v0) (v1 := v1) h.2.2.2.1.1 h.2.2.2.1.2.1 h.2.2.2.1.2.2.1 h.2.2.2.1.2.2.2.1 h.2.2.2.1.2.2.2.2
  refine zM.weaken (t_X8_order (L := L) (N := N) h.2.1 e) (fun r2 z q2 => ?_)
  obtain ⟨rfl, rfl⟩ := q2
  exact ⟨⟨_, rfl⟩, h.mod (fun a j hh => q.1 a j (by unfold WM_X8_order; omega)) (fun j _ => q.1 201 j (by unfold WM_X8_order; omega)) (q.2.2)⟩
theorem f_drawn {l : Launch} {G : zG} {b : Nat} {S : zS} {v0 : Int32} {v1 : Int32} (h : jI S) : zM l G b yX7_drawn cX7_drawn 4 (some .int) 5 0 0 [.ref 0, .int v0, .int v1] S (fun r z => (∃ v, r = some (.int v)) ∧ jI z) := by
  obtain ⟨L, M, N⟩ := S
  obtain ⟨r, e, q⟩ := v_X7_drawn (P := 0) (M0 := M) (v0 := v0) (v1 := v1)
  refine zM.weaken (t_X7_drawn (L := L) (N := N) h.1 e) (fun r2 z q2 => ?_)
  obtain ⟨rfl, rfl⟩ := q2
  exact ⟨⟨_, rfl⟩, h.cls (fun a j hh => q a j (by unfold WM_X7_drawn; omega))⟩
theorem m_drawn {l : Launch} {G : zG} {b : Nat} {S : zS} {v0 : Int32} {v1 : Int32} (h : jI S) : zM l G b yX8_drawn cX8_drawn 3 (some .int) 5 0 0 [.ref 200, .int v0, .int v1] S (fun r z => (∃ v, r = some (.int v)) ∧ jI z) := by
  obtain ⟨L, M, N⟩ := S
  obtain ⟨r, e, q⟩ := v_X8_drawn (P := 200) (M0 := M) (N0 := N) (v0 := v0) (v1 := v1) h.2.2.2.1.1 h.2.2.2.1.2.1 h.2.2.2.1.2.2.1 h.2.2.2.1.2.2.2.1 h.2.2.2.1.2.2.2.2
  refine zM.weaken (t_X8_drawn (L := L) (N := N) h.2.1 e) (fun r2 z q2 => ?_)
  obtain ⟨rfl, rfl⟩ := q2
  exact ⟨⟨_, rfl⟩, h.mod (fun a j hh => q.1 a j (by unfold WM_X8_drawn; omega)) (fun j _ => q.1 201 j (by unfold WM_X8_drawn; omega)) (q.2.2)⟩
theorem f_round {l : Launch} {G : zG} {b : Nat} {S : zS} {v0 : Int32} {v1 : Int32} (h : jI S) : zM l G b yX7_round cX7_round 3 (some .int) 5 0 0 [.ref 0, .int v0, .int v1] S (fun r z => (∃ v, r = some (.int v)) ∧ jI z) := by
  obtain ⟨L, M, N⟩ := S
  obtain ⟨r, e, q⟩ := v_X7_round (P := 0) (M0 := M) (v0 := v0) (v1 := v1)
  refine zM.weaken (t_X7_round (L := L) (N := N) h.1 e) (fun r2 z q2 => ?_)
  obtain ⟨rfl, rfl⟩ := q2
  exact ⟨⟨_, rfl⟩, h.cls (fun a j hh => q a j (by unfold WM_X7_round; omega))⟩
theorem m_round {l : Launch} {G : zG} {b : Nat} {S : zS} {v0 : Int32} {v1 : Int32} (h : jI S) : zM l G b yX8_round cX8_round 3 (some .int) 5 0 0 [.ref 200, .int v0, .int v1] S (fun r z => (∃ v, r = some (.int v)) ∧ jI z) := by
  obtain ⟨L, M, N⟩ := S
  obtain ⟨r, e, q⟩ := v_X8_round (P := 200) (M0 := M) (N0 := N) (v0 := v0) (v1 := v1) h.2.2.2.1.1 h.2.2.2.1.2.1 h.2.2.2.1.2.2.1 h.2.2.2.1.2.2.2.1 h.2.2.2.1.2.2.2.2
  refine zM.weaken (t_X8_round (L := L) (N := N) h.2.1 e) (fun r2 z q2 => ?_)
  obtain ⟨rfl, rfl⟩ := q2
  exact ⟨⟨_, rfl⟩, h.mod (fun a j hh => q.1 a j (by unfold WM_X8_round; omega)) (fun j _ => q.1 201 j (by unfold WM_X8_round; omega)) (q.2.2)⟩
theorem f_left {l : Launch} {G : zG} {b : Nat} {S : zS} {v0 : Int32} {v1 : Int32} {v2 : Int32} (h : jI S) : zM l G b yX7_left cX7_left 5 (some .int) 5 0 0 [.ref 0, .int v0, .int v1, .int v2] S (fun r z => (∃ v, r = some (.int v)) ∧ jI z) := by
  obtain ⟨L, M, N⟩ := S
  obtain ⟨r, e, q⟩ := v_X7_left (P := 0) (M0 := M) (v0 := v0) (v1 := v1) (v2 := v2)
  refine zM.weaken (t_X7_left (L := L) (N := N) h.1 e) (fun r2 z q2 => ?_)
  obtain ⟨rfl, rfl⟩ := q2
  exact ⟨⟨_, rfl⟩, h.cls (fun a j hh => q a j (by unfold WM_X7_left; omega))⟩
theorem m_left {l : Launch} {G : zG} {b : Nat} {S : zS} {v0 : Int32} {v1 : Int32} {v2 : Int32} (h : jI S) : zM l G b yX8_left cX8_left 7 (some .int) 5 0 0 [.ref 200, .int v0, .int v1, .int v2] S (fun r z => (∃ v, r = some (.int v)) ∧ jI z) := by
  obtain ⟨L, M, N⟩ := S
  obtain ⟨r, e, q⟩ := v_X8_left (P := 200) (M0 := M) (N0 := N) (v0 := v0) (v1 := v1) (v2 := v2) h.2.2.2.1.1 h.2.2.2.1.2.1 h.2.2.2.1.2.2.1 h.2.2.2.1.2.2.2.1 h.2.2.2.1.2.2.2.2
  refine zM.weaken (t_X8_left (L := L) (N := N) h.2.1 e) (fun r2 z q2 => ?_)
  obtain ⟨rfl, rfl⟩ := q2
  exact ⟨⟨_, rfl⟩, h.mod (fun a j hh => q.1 a j (by unfold WM_X8_left; omega)) (fun j _ => q.1 201 j (by unfold WM_X8_left; omega)) (q.2.2)⟩
theorem f_winners {l : Launch} {G : zG} {b : Nat} {S : zS} {v0 : Int32} (h : jI S) : zM l G b yX7_winners cX7_winners 4 (some .int) 5 0 0 [.ref 0, .int v0] S (fun r z => (∃ v, r = some (.int v)) ∧ jI z) := by
  obtain ⟨L, M, N⟩ := S
  obtain ⟨r, e, q⟩ := v_X7_winners (P := 0) (M0 := M) (v0 := v0)
  refine zM.weaken (t_X7_winners (L := L) (N := N) h.1 e) (fun r2 z q2 => ?_)
  obtain ⟨rfl, rfl⟩ := q2
  exact ⟨⟨_, rfl⟩, h.cls (fun a j hh => q a j (by unfold WM_X7_winners; omega))⟩
theorem m_winners {l : Launch} {G : zG} {b : Nat} {S : zS} {v0 : Int32} (h : jI S) : zM l G b yX8_winners cX8_winners 2 (some .int) 5 0 0 [.ref 200, .int v0] S (fun r z => (∃ v, r = some (.int v)) ∧ jI z) := by
  obtain ⟨L, M, N⟩ := S
  obtain ⟨r, e, q⟩ := v_X8_winners (P := 200) (M0 := M) (N0 := N) (v0 := v0) h.2.2.2.1.1 h.2.2.2.1.2.1 h.2.2.2.1.2.2.1 h.2.2.2.1.2.2.2.1 h.2.2.2.1.2.2.2.2
  refine zM.weaken (t_X8_winners (L := L) (N := N) h.2.1 e) (fun r2 z q2 => ?_)
  obtain ⟨rfl, rfl⟩ := q2
  exact ⟨⟨_, rfl⟩, h.mod (fun a j hh => q.1 a j (by unfold WM_X8_winners; omega)) (fun j _ => q.1 201 j (by unfold WM_X8_winners; omega)) (q.2.2)⟩
theorem f_waits {l : Launch} {G : zG} {b : Nat} {S : zS} {v0 : Int32} {v1 : Int32} {v2 : Int32} (h : jI S) : zM l G b yX7_waits cX7_waits 7 (some .int) 5 0 0 [.ref 0, .int v0, .int v1, .int v2] S (fun r z => (∃ v, r = some (.int v)) ∧ jI z) := by
  obtain ⟨L, M, N⟩ := S
  obtain ⟨r, e, q⟩ := v_X7_waits (P := 0) (M0 := M) (v0 := v0) (v1 := v1) (v2 := v2)
  refine zM.weaken (t_X7_waits (L := L) (N := N) h.1 e) (fun r2 z q2 => ?_)
  obtain ⟨rfl, rfl⟩ := q2
  exact ⟨⟨_, rfl⟩, h.cls (fun a j hh => q a j (by unfold WM_X7_waits; omega))⟩
theorem m_waits {l : Launch} {G : zG} {b : Nat} {S : zS} {v0 : Int32} {v1 : Int32} {v2 : Int32} (h : jI S) : zM l G b yX8_waits cX8_waits 6 (some .int) 5 0 0 [.ref 200, .int v0, .int v1, .int v2] S (fun r z => (∃ v, r = some (.int v)) ∧ jI z) := by
  obtain ⟨L, M, N⟩ := S
  obtain ⟨r, e, q⟩ := v_X8_waits (P := 200) (M0 := M) (N0 := N) (v0 := v0) (v1 := v1) (v2 := v2) h.2.2.2.1.1 h.2.2.2.1.2.1 h.2.2.2.1.2.2.1 h.2.2.2.1.2.2.2.1 h.2.2.2.1.2.2.2.2
  refine zM.weaken (t_X8_waits (L := L) (N := N) h.2.1 e) (fun r2 z q2 => ?_)
  obtain ⟨rfl, rfl⟩ := q2
  exact ⟨⟨_, rfl⟩, h.mod (fun a j hh => q.1 a j (by unfold WM_X8_waits; omega)) (fun j _ => q.1 201 j (by unfold WM_X8_waits; omega)) (q.2.2)⟩
theorem f_next {l : Launch} {G : zG} {b : Nat} {S : zS} {v0 : Int32} {v1 : Int32} {v2 : Int32} (h : jI S) : zM l G b yX7_next cX7_next 8 (some .int) 5 0 0 [.ref 0, .int v0, .int v1, .int v2] S (fun r z => (∃ v, r = some (.int v)) ∧ jI z) := by
  obtain ⟨L, M, N⟩ := S
  obtain ⟨r, e, q⟩ := v_X7_next (P := 0) (M0 := M) (v0 := v0) (v1 := v1) (v2 := v2)
  refine zM.weaken (t_X7_next (L := L) (N := N) h.1 e) (fun r2 z q2 => ?_)
  obtain ⟨rfl, rfl⟩ := q2
  exact ⟨⟨_, rfl⟩, h.cls (fun a j hh => q a j (by unfold WM_X7_next; omega))⟩
theorem m_next {l : Launch} {G : zG} {b : Nat} {S : zS} {v0 : Int32} {v1 : Int32} {v2 : Int32} (h : jI S) : zM l G b yX8_next_ cX8_next_ 5 (some .int) 5 0 0 [.ref 200, .int v0, .int v1, .int v2] S (fun r z => (∃ v, r = some (.int v)) ∧ jI z) := by
  obtain ⟨L, M, N⟩ := S
  obtain ⟨r, e, q⟩ := v_X8_next_ (P := 200) (M0 := M) (N0 := N) (v0 := v0) (v1 := v1) (v2 := v2) h.2.2.2.1.1 h.2.2.2.1.2.1 h.2.2.2.1.2.2.1 h.2.2.2.1.2.2.2.1 h.2.2.2.1.2.2.2.2
  refine zM.weaken (t_X8_next_ (L := L) (N := N) h.2.1 e) (fun r2 z q2 => ?_)
  obtain ⟨rfl, rfl⟩ := q2
  exact ⟨⟨_, rfl⟩, h.mod (fun a j hh => q.1 a j (by unfold WM_X8_next_; omega)) (fun j _ => q.1 201 j (by unfold WM_X8_next_; omega)) (q.2.2)⟩
theorem f_envies {l : Launch} {G : zG} {b : Nat} {S : zS} {v0 : Int32} {v1 : Int32} (h : jI S) : zM l G b yX7_envies cX7_envies 7 (some .int) 5 0 0 [.ref 0, .int v0, .int v1] S (fun r z => (∃ v, r = some (.int v)) ∧ jI z) := by
  obtain ⟨L, M, N⟩ := S
  obtain ⟨r, e, q⟩ := v_X7_envies (P := 0) (M0 := M) (v0 := v0) (v1 := v1)
  refine zM.weaken (t_X7_envies (L := L) (N := N) h.1 e) (fun r2 z q2 => ?_)
  obtain ⟨rfl, rfl⟩ := q2
  exact ⟨⟨_, rfl⟩, h.cls (fun a j hh => q a j (by unfold WM_X7_envies; omega))⟩
theorem m_envies {l : Launch} {G : zG} {b : Nat} {S : zS} {v0 : Int32} {v1 : Int32} (h : jI S) : zM l G b yX8_envies cX8_envies 6 (some .int) 5 0 0 [.ref 200, .int v0, .int v1] S (fun r z => (∃ v, r = some (.int v)) ∧ jI z) := by
  obtain ⟨L, M, N⟩ := S
  obtain ⟨r, e, q⟩ := v_X8_envies (P := 200) (M0 := M) (N0 := N) (v0 := v0) (v1 := v1) h.2.2.2.1.1 h.2.2.2.1.2.1 h.2.2.2.1.2.2.1 h.2.2.2.1.2.2.2.1 h.2.2.2.1.2.2.2.2
  refine zM.weaken (t_X8_envies (L := L) (N := N) h.2.1 e) (fun r2 z q2 => ?_)
  obtain ⟨rfl, rfl⟩ := q2
  exact ⟨⟨_, rfl⟩, h.mod (fun a j hh => q.1 a j (by unfold WM_X8_envies; omega)) (fun j _ => q.1 201 j (by unfold WM_X8_envies; omega)) (q.2.2)⟩
theorem f_spoils {l : Launch} {G : zG} {b : Nat} {S : zS} {v0 : Int32} {v1 : Int32} (h : jI S) : zM l G b yX7_spoils cX7_spoils 5 (some .int) 5 0 0 [.ref 0, .int v0, .int v1] S (fun r z => (∃ v, r = some (.int v)) ∧ jI z) := by
  obtain ⟨L, M, N⟩ := S
  obtain ⟨r, e, q⟩ := v_X7_spoils (P := 0) (M0 := M) (v0 := v0) (v1 := v1)
  refine zM.weaken (t_X7_spoils (L := L) (N := N) h.1 e) (fun r2 z q2 => ?_)
  obtain ⟨rfl, rfl⟩ := q2
  exact ⟨⟨_, rfl⟩, h.cls (fun a j hh => q a j (by unfold WM_X7_spoils; omega))⟩
theorem m_spoils {l : Launch} {G : zG} {b : Nat} {S : zS} {v0 : Int32} {v1 : Int32} (h : jI S) : zM l G b yX8_spoils cX8_spoils 5 (some .int) 5 0 0 [.ref 200, .int v0, .int v1] S (fun r z => (∃ v, r = some (.int v)) ∧ jI z) := by
  obtain ⟨L, M, N⟩ := S
  obtain ⟨r, e, q⟩ := v_X8_spoils (P := 200) (M0 := M) (N0 := N) (v0 := v0) (v1 := v1) h.2.2.2.1.1 h.2.2.2.1.2.1 h.2.2.2.1.2.2.1 h.2.2.2.1.2.2.2.1 h.2.2.2.1.2.2.2.2
  refine zM.weaken (t_X8_spoils (L := L) (N := N) h.2.1 e) (fun r2 z q2 => ?_)
  obtain ⟨rfl, rfl⟩ := q2
  exact ⟨⟨_, rfl⟩, h.mod (fun a j hh => q.1 a j (by unfold WM_X8_spoils; omega)) (fun j _ => q.1 201 j (by unfold WM_X8_spoils; omega)) (q.2.2)⟩
theorem f_behind {l : Launch} {G : zG} {b : Nat} {S : zS} {v0 : Int32} {v1 : Int32} (h : jI S) : zM l G b yX7_behind cX7_behind 3 (some .int) 5 0 0 [.ref 0, .int v0, .int v1] S (fun r z => (∃ v, r = some (.int v)) ∧ jI z) := by
  obtain ⟨L, M, N⟩ := S
  obtain ⟨r, e, q⟩ := v_X7_behind (P := 0) (M0 := M) (v0 := v0) (v1 := v1)
  refine zM.weaken (t_X7_behind (L := L) (N := N) h.1 e) (fun r2 z q2 => ?_)
  obtain ⟨rfl, rfl⟩ := q2
  exact ⟨⟨_, rfl⟩, h.cls (fun a j hh => q a j (by unfold WM_X7_behind; omega))⟩
theorem m_behind {l : Launch} {G : zG} {b : Nat} {S : zS} {v0 : Int32} {v1 : Int32} (h : jI S) : zM l G b yX8_behind cX8_behind 3 (some .int) 5 0 0 [.ref 200, .int v0, .int v1] S (fun r z => (∃ v, r = some (.int v)) ∧ jI z) := by
  obtain ⟨L, M, N⟩ := S
  obtain ⟨r, e, q⟩ := v_X8_behind (P := 200) (M0 := M) (N0 := N) (v0 := v0) (v1 := v1) h.2.2.2.1.1 h.2.2.2.1.2.1 h.2.2.2.1.2.2.1 h.2.2.2.1.2.2.2.1 h.2.2.2.1.2.2.2.2
  refine zM.weaken (t_X8_behind (L := L) (N := N) h.2.1 e) (fun r2 z q2 => ?_)
  obtain ⟨rfl, rfl⟩ := q2
  exact ⟨⟨_, rfl⟩, h.mod (fun a j hh => q.1 a j (by unfold WM_X8_behind; omega)) (fun j _ => q.1 201 j (by unfold WM_X8_behind; omega)) (q.2.2)⟩
theorem f_lucky {l : Launch} {G : zG} {b : Nat} {S : zS} {v0 : Int32} {v1 : Int32} (h : jI S) : zM l G b yX7_lucky cX7_lucky 4 (some .int) 5 0 0 [.ref 0, .int v0, .int v1] S (fun r z => (∃ v, r = some (.int v)) ∧ jI z) := by
  obtain ⟨L, M, N⟩ := S
  obtain ⟨r, e, q⟩ := v_X7_lucky (P := 0) (M0 := M) (v0 := v0) (v1 := v1)
  refine zM.weaken (t_X7_lucky (L := L) (N := N) h.1 e) (fun r2 z q2 => ?_)
  obtain ⟨rfl, rfl⟩ := q2
  exact ⟨⟨_, rfl⟩, h.cls (fun a j hh => q a j (by unfold WM_X7_lucky; omega))⟩
theorem m_lucky {l : Launch} {G : zG} {b : Nat} {S : zS} {v0 : Int32} {v1 : Int32} (h : jI S) : zM l G b yX8_lucky cX8_lucky 4 (some .int) 5 0 0 [.ref 200, .int v0, .int v1] S (fun r z => (∃ v, r = some (.int v)) ∧ jI z) := by
  obtain ⟨L, M, N⟩ := S
  obtain ⟨r, e, q⟩ := v_X8_lucky (P := 200) (M0 := M) (N0 := N) (v0 := v0) (v1 := v1) h.2.2.2.1.1 h.2.2.2.1.2.1 h.2.2.2.1.2.2.1 h.2.2.2.1.2.2.2.1 h.2.2.2.1.2.2.2.2
  refine zM.weaken (t_X8_lucky (L := L) (N := N) h.2.1 e) (fun r2 z q2 => ?_)
  obtain ⟨rfl, rfl⟩ := q2
  exact ⟨⟨_, rfl⟩, h.mod (fun a j hh => q.1 a j (by unfold WM_X8_lucky; omega)) (fun j _ => q.1 201 j (by unfold WM_X8_lucky; omega)) (q.2.2)⟩
theorem f_chance {l : Launch} {G : zG} {b : Nat} {S : zS} {v0 : Int32} {v1 : Int32} (h : jI S) : zM l G b yX7_chance cX7_chance 3 (some .long) 15 0 0 [.ref 0, .int v0, .int v1] S (fun r z => (∃ v, r = some (.long v)) ∧ jI z) := by
  obtain ⟨L, M, N⟩ := S
  obtain ⟨r, e, q⟩ := v_X7_chance (P := 0) (M0 := M) (N0 := N) (v0 := v0) (v1 := v1)
  refine zM.weaken (t_X7_chance (L := L) (N := N) h.1 e) (fun r2 z q2 => ?_)
  obtain ⟨rfl, rfl⟩ := q2
  exact ⟨⟨_, rfl⟩, h.cls (fun a j hh => q.1 a j (by unfold WM_X7_chance; omega))⟩
theorem m_chance {l : Launch} {G : zG} {b : Nat} {S : zS} {v0 : Int32} {v1 : Int32} (h : jI S) : zM l G b yX8_chance cX8_chance 3 (some .long) 14 0 0 [.ref 200, .int v0, .int v1] S (fun r z => (∃ v, r = some (.long v)) ∧ jI z) := by
  obtain ⟨L, M, N⟩ := S
  obtain ⟨r, e, q⟩ := v_X8_chance (P := 200) (M0 := M) (N0 := N) (v0 := v0) (v1 := v1) h.2.2.2.1.1 h.2.2.2.1.2.1 h.2.2.2.1.2.2.1 h.2.2.2.1.2.2.2.1 h.2.2.2.1.2.2.2.2
  refine zM.weaken (t_X8_chance (L := L) (N := N) h.2.1 e) (fun r2 z q2 => ?_)
  obtain ⟨rfl, rfl⟩ := q2
  exact ⟨⟨_, rfl⟩, h.mod (fun a j hh => q.1 a j (by unfold WM_X8_chance; omega)) (fun j _ => q.1 201 j (by unfold WM_X8_chance; omega)) (q.2.2)⟩
theorem f_at {l : Launch} {G : zG} {b : Nat} {S : zS} {v0 : Int32} {v1 : Int32} (h : jI S) : zM l G b yX7_at cX7_at 3 (some .long) 15 0 0 [.ref 0, .int v0, .int v1] S (fun r z => (∃ v, r = some (.long v)) ∧ jI z) := by
  obtain ⟨L, M, N⟩ := S
  obtain ⟨r, e, q⟩ := v_X7_at (P := 0) (M0 := M) (N0 := N) (v0 := v0) (v1 := v1)
  refine zM.weaken (t_X7_at (L := L) (N := N) h.1 e) (fun r2 z q2 => ?_)
  obtain ⟨rfl, rfl⟩ := q2
  exact ⟨⟨_, rfl⟩, h.cls (fun a j hh => q.1 a j (by unfold WM_X7_at; omega))⟩
theorem m_at {l : Launch} {G : zG} {b : Nat} {S : zS} {v0 : Int32} {v1 : Int32} (h : jI S) : zM l G b yX8_at cX8_at 3 (some .long) 14 0 0 [.ref 200, .int v0, .int v1] S (fun r z => (∃ v, r = some (.long v)) ∧ jI z) := by
  obtain ⟨L, M, N⟩ := S
  obtain ⟨r, e, q⟩ := v_X8_at (P := 200) (M0 := M) (N0 := N) (v0 := v0) (v1 := v1) h.2.2.2.1.1 h.2.2.2.1.2.1 h.2.2.2.1.2.2.1 h.2.2.2.1.2.2.2.1 h.2.2.2.1.2.2.2.2
  refine zM.weaken (t_X8_at (L := L) (N := N) h.2.1 e) (fun r2 z q2 => ?_)
  obtain ⟨rfl, rfl⟩ := q2
  exact ⟨⟨_, rfl⟩, h.mod (fun a j hh => q.1 a j (by unfold WM_X8_at; omega)) (fun j _ => q.1 201 j (by unfold WM_X8_at; omega)) (q.2.2)⟩
theorem f_both {l : Launch} {G : zG} {b : Nat} {S : zS} {v0 : Int32} {v1 : Int32} (h : jI S) : zM l G b yX7_both cX7_both 3 (some .long) 15 0 0 [.ref 0, .int v0, .int v1] S (fun r z => (∃ v, r = some (.long v)) ∧ jI z) := by
  obtain ⟨L, M, N⟩ := S
  obtain ⟨r, e, q⟩ := v_X7_both (P := 0) (M0 := M) (N0 := N) (v0 := v0) (v1 := v1)
  refine zM.weaken (t_X7_both (L := L) (N := N) h.1 e) (fun r2 z q2 => ?_)
  obtain ⟨rfl, rfl⟩ := q2
  exact ⟨⟨_, rfl⟩, h.cls (fun a j hh => q.1 a j (by unfold WM_X7_both; omega))⟩
theorem m_both {l : Launch} {G : zG} {b : Nat} {S : zS} {v0 : Int32} {v1 : Int32} (h : jI S) : zM l G b yX8_both cX8_both 3 (some .long) 14 0 0 [.ref 200, .int v0, .int v1] S (fun r z => (∃ v, r = some (.long v)) ∧ jI z) := by
  obtain ⟨L, M, N⟩ := S
  obtain ⟨r, e, q⟩ := v_X8_both (P := 200) (M0 := M) (N0 := N) (v0 := v0) (v1 := v1) h.2.2.2.1.1 h.2.2.2.1.2.1 h.2.2.2.1.2.2.1 h.2.2.2.1.2.2.2.1 h.2.2.2.1.2.2.2.2
  refine zM.weaken (t_X8_both (L := L) (N := N) h.2.1 e) (fun r2 z q2 => ?_)
  obtain ⟨rfl, rfl⟩ := q2
  exact ⟨⟨_, rfl⟩, h.mod (fun a j hh => q.1 a j (by unfold WM_X8_both; omega)) (fun j _ => q.1 201 j (by unfold WM_X8_both; omega)) (q.2.2)⟩
theorem f_sure {l : Launch} {G : zG} {b : Nat} {S : zS} {v0 : Int32} (h : jI S) : zM l G b yX7_sure cX7_sure 3 (some .int) 15 0 0 [.ref 0, .int v0] S (fun r z => (∃ v, r = some (.int v)) ∧ jI z) := by
  obtain ⟨L, M, N⟩ := S
  obtain ⟨r, e, q⟩ := v_X7_sure (P := 0) (M0 := M) (N0 := N) (v0 := v0)
  refine zM.weaken (t_X7_sure (L := L) (N := N) h.1 e) (fun r2 z q2 => ?_)
  obtain ⟨rfl, rfl⟩ := q2
  exact ⟨⟨_, rfl⟩, h.cls (fun a j hh => q.1 a j (by unfold WM_X7_sure; omega))⟩
theorem m_sure {l : Launch} {G : zG} {b : Nat} {S : zS} {v0 : Int32} (h : jI S) : zM l G b yX8_sure cX8_sure 2 (some .int) 14 0 0 [.ref 200, .int v0] S (fun r z => (∃ v, r = some (.int v)) ∧ jI z) := by
  obtain ⟨L, M, N⟩ := S
  obtain ⟨r, e, q⟩ := v_X8_sure (P := 200) (M0 := M) (N0 := N) (v0 := v0) h.2.2.2.1.1 h.2.2.2.1.2.1 h.2.2.2.1.2.2.1 h.2.2.2.1.2.2.2.1 h.2.2.2.1.2.2.2.2
  refine zM.weaken (t_X8_sure (L := L) (N := N) h.2.1 e) (fun r2 z q2 => ?_)
  obtain ⟨rfl, rfl⟩ := q2
  exact ⟨⟨_, rfl⟩, h.mod (fun a j hh => q.1 a j (by unfold WM_X8_sure; omega)) (fun j _ => q.1 201 j (by unfold WM_X8_sure; omega)) (q.2.2)⟩
theorem f_mean {l : Launch} {G : zG} {b : Nat} {S : zS} {v0 : Int32} (h : jI S) : zM l G b yX7_mean cX7_mean 5 (some .long) 15 0 0 [.ref 0, .int v0] S (fun r z => (∃ v, r = some (.long v)) ∧ jI z) := by
  obtain ⟨L, M, N⟩ := S
  obtain ⟨r, e, q⟩ := v_X7_mean (P := 0) (M0 := M) (N0 := N) (v0 := v0)
  refine zM.weaken (t_X7_mean (L := L) (N := N) h.1 e) (fun r2 z q2 => ?_)
  obtain ⟨rfl, rfl⟩ := q2
  exact ⟨⟨_, rfl⟩, h.cls (fun a j hh => q.1 a j (by unfold WM_X7_mean; omega))⟩
theorem m_mean {l : Launch} {G : zG} {b : Nat} {S : zS} {v0 : Int32} (h : jI S) : zM l G b yX8_mean cX8_mean 2 (some .long) 14 0 0 [.ref 200, .int v0] S (fun r z => (∃ v, r = some (.long v)) ∧ jI z) := by
  obtain ⟨L, M, N⟩ := S
  obtain ⟨r, e, q⟩ := v_X8_mean (P := 200) (M0 := M) (N0 := N) (v0 := v0) h.2.2.2.1.1 h.2.2.2.1.2.1 h.2.2.2.1.2.2.1 h.2.2.2.1.2.2.2.1 h.2.2.2.1.2.2.2.2
  refine zM.weaken (t_X8_mean (L := L) (N := N) h.2.1 e) (fun r2 z q2 => ?_)
  obtain ⟨rfl, rfl⟩ := q2
  exact ⟨⟨_, rfl⟩, h.mod (fun a j hh => q.1 a j (by unfold WM_X8_mean; omega)) (fun j _ => q.1 201 j (by unfold WM_X8_mean; omega)) (q.2.2)⟩
theorem f_given {l : Launch} {G : zG} {b : Nat} {S : zS} {v0 : Int32} (h : jI S) : zM l G b yX7_given cX7_given 2 (some .int) 15 0 0 [.ref 0, .int v0] S (fun r z => (∃ v, r = some (.int v)) ∧ jI z) := by
  obtain ⟨L, M, N⟩ := S
  obtain ⟨r, e, q⟩ := v_X7_given (P := 0) (M0 := M) (N0 := N) (v0 := v0)
  refine zM.weaken (t_X7_given (L := L) (N := N) h.1 e) (fun r2 z q2 => ?_)
  obtain ⟨rfl, rfl⟩ := q2
  exact ⟨⟨_, rfl⟩, h.cls (fun a j hh => q.1 a j (by unfold WM_X7_given; omega))⟩
theorem m_given {l : Launch} {G : zG} {b : Nat} {S : zS} {v0 : Int32} (h : jI S) : zM l G b yX8_given cX8_given 2 (some .int) 14 0 0 [.ref 200, .int v0] S (fun r z => (∃ v, r = some (.int v)) ∧ jI z) := by
  obtain ⟨L, M, N⟩ := S
  obtain ⟨r, e, q⟩ := v_X8_given (P := 200) (M0 := M) (N0 := N) (v0 := v0) h.2.2.2.1.1 h.2.2.2.1.2.1 h.2.2.2.1.2.2.1 h.2.2.2.1.2.2.2.1 h.2.2.2.1.2.2.2.2
  refine zM.weaken (t_X8_given (L := L) (N := N) h.2.1 e) (fun r2 z q2 => ?_)
  obtain ⟨rfl, rfl⟩ := q2
  exact ⟨⟨_, rfl⟩, h.mod (fun a j hh => q.1 a j (by unfold WM_X8_given; omega)) (fun j _ => q.1 201 j (by unfold WM_X8_given; omega)) (q.2.2)⟩
theorem f_ends {l : Launch} {G : zG} {b : Nat} {S : zS} (h : jI S) : zM l G b yX7_ends cX7_ends 1 (some .int) 15 0 0 [.ref 0] S (fun r z => (∃ v, r = some (.int v)) ∧ jI z) := by
  obtain ⟨L, M, N⟩ := S
  obtain ⟨r, e, q⟩ := v_X7_ends (P := 0) (M0 := M) (N0 := N)
  refine zM.weaken (t_X7_ends (L := L) (N := N) h.1 e) (fun r2 z q2 => ?_)
  obtain ⟨rfl, rfl⟩ := q2
  exact ⟨⟨_, rfl⟩, h.cls (fun a j hh => q.1 a j (by unfold WM_X7_ends; omega))⟩
theorem m_ends {l : Launch} {G : zG} {b : Nat} {S : zS} (h : jI S) : zM l G b yX8_ends cX8_ends 3 (some .int) 14 0 0 [.ref 200] S (fun r z => (∃ v, r = some (.int v)) ∧ jI z) := by
  obtain ⟨L, M, N⟩ := S
  obtain ⟨r, e, q⟩ := v_X8_ends (P := 200) (M0 := M) (N0 := N) h.2.2.2.1.1 h.2.2.2.1.2.1 h.2.2.2.1.2.2.1 h.2.2.2.1.2.2.2.1 h.2.2.2.1.2.2.2.2
  refine zM.weaken (t_X8_ends (L := L) (N := N) h.2.1 e) (fun r2 z q2 => ?_)
  obtain ⟨rfl, rfl⟩ := q2
  exact ⟨⟨_, rfl⟩, h.mod (fun a j hh => q.1 a j (by unfold WM_X8_ends; omega)) (fun j _ => q.1 201 j (by unfold WM_X8_ends; omega)) (q.2.2)⟩
theorem f_need {l : Launch} {G : zG} {b : Nat} {S : zS} {v0 : Int32} {v1 : Int32} (h : jI S) : zM l G b yX7_need cX7_need 5 (some .int) 14 0 0 [.ref 0, .int v0, .int v1] S (fun r z => (∃ v, r = some (.int v)) ∧ jI z) := by
  obtain ⟨L, M, N⟩ := S
  obtain ⟨r, e, q⟩ := v_X7_need (P := 0) (M0 := M) (N0 := N) (v0 := v0) (v1 := v1)
  refine zM.weaken (t_X7_need (L := L) (N := N) h.1 e) (fun r2 z q2 => ?_)
  obtain ⟨rfl, rfl⟩ := q2
  exact ⟨⟨_, rfl⟩, h.cls (fun a j hh => q.1 a j (by unfold WM_X7_need; omega))⟩
theorem m_need {l : Launch} {G : zG} {b : Nat} {S : zS} {v0 : Int32} {v1 : Int32} (h : jI S) : zM l G b yX8_need cX8_need 6 (some .int) 14 0 0 [.ref 200, .int v0, .int v1] S (fun r z => (∃ v, r = some (.int v)) ∧ jI z) := by
  obtain ⟨L, M, N⟩ := S
  obtain ⟨r, e, q⟩ := v_X8_need (P := 200) (M0 := M) (N0 := N) (v0 := v0) (v1 := v1) h.2.2.2.1.1 h.2.2.2.1.2.1 h.2.2.2.1.2.2.1 h.2.2.2.1.2.2.2.1 h.2.2.2.1.2.2.2.2
  refine zM.weaken (t_X8_need (L := L) (N := N) h.2.1 e) (fun r2 z q2 => ?_)
  obtain ⟨rfl, rfl⟩ := q2
  exact ⟨⟨_, rfl⟩, h.mod (fun a j hh => q.1 a j (by unfold WM_X8_need; omega)) (fun j hj => p11_X8_need e j hj) (q.2.2)⟩
theorem f_wise {l : Launch} {G : zG} {b : Nat} {S : zS} {v0 : Int32} (h : jI S) : zM l G b yX7_wise cX7_wise 9 (some .int) 15 0 0 [.ref 0, .int v0] S (fun r z => (∃ v, r = some (.int v)) ∧ jI z) := by
  obtain ⟨L, M, N⟩ := S
  obtain ⟨r, e, q⟩ := v_X7_wise (P := 0) (M0 := M) (N0 := N) (v0 := v0)
  refine zM.weaken (t_X7_wise (L := L) (N := N) h.1 e) (fun r2 z q2 => ?_)
  obtain ⟨rfl, rfl⟩ := q2
  exact ⟨⟨_, rfl⟩, h.cls (fun a j hh => q.1 a j (by unfold WM_X7_wise; omega))⟩
theorem m_wise {l : Launch} {G : zG} {b : Nat} {S : zS} {v0 : Int32} (h : jI S) : zM l G b yX8_wise cX8_wise 3 (some .int) 15 0 0 [.ref 200, .int v0] S (fun r z => (∃ v, r = some (.int v)) ∧ jI z) := by
  obtain ⟨L, M, N⟩ := S
  obtain ⟨r, e, q⟩ := v_X8_wise (P := 200) (M0 := M) (N0 := N) (v0 := v0) h.2.2.2.1.1 h.2.2.2.1.2.1 h.2.2.2.1.2.2.1 h.2.2.2.1.2.2.2.1 h.2.2.2.1.2.2.2.2
  refine zM.weaken (t_X8_wise (L := L) (N := N) h.2.1 e) (fun r2 z q2 => ?_)
  obtain ⟨rfl, rfl⟩ := q2
  exact ⟨⟨_, rfl⟩, h.mod (fun a j hh => q.1 a j (by unfold WM_X8_wise; omega)) (fun j hj => p11_X8_wise e j hj) (q.2.2)⟩
theorem f_wiseChance {l : Launch} {G : zG} {b : Nat} {S : zS} {v0 : Int32} (h : jI S) : zM l G b yX7_wiseChance cX7_wiseChance 6 (some .long) 15 0 0 [.ref 0, .int v0] S (fun r z => (∃ v, r = some (.long v)) ∧ jI z) := by
  obtain ⟨L, M, N⟩ := S
  obtain ⟨r, e, q⟩ := v_X7_wiseChance (P := 0) (M0 := M) (N0 := N) (v0 := v0)
  refine zM.weaken (t_X7_wiseChance (L := L) (N := N) h.1 e) (fun r2 z q2 => ?_)
  obtain ⟨rfl, rfl⟩ := q2
  exact ⟨⟨_, rfl⟩, h.cls (fun a j hh => q.1 a j (by unfold WM_X7_wiseChance; omega))⟩
theorem m_wiseChance {l : Launch} {G : zG} {b : Nat} {S : zS} {v0 : Int32} (h : jI S) : zM l G b yX8_wiseChance cX8_wiseChance 2 (some .long) 15 0 0 [.ref 200, .int v0] S (fun r z => (∃ v, r = some (.long v)) ∧ jI z) := by
  obtain ⟨L, M, N⟩ := S
  obtain ⟨r, e, q⟩ := v_X8_wiseChance (P := 200) (M0 := M) (N0 := N) (v0 := v0) h.2.2.2.1.1 h.2.2.2.1.2.1 h.2.2.2.1.2.2.1 h.2.2.2.1.2.2.2.1 h.2.2.2.1.2.2.2.2
  refine zM.weaken (t_X8_wiseChance (L := L) (N := N) h.2.1 e) (fun r2 z q2 => ?_)
  obtain ⟨rfl, rfl⟩ := q2
  exact ⟨⟨_, rfl⟩, h.mod (fun a j hh => q.1 a j (by unfold WM_X8_wiseChance; omega)) (fun j hj => p11_X8_wiseChance e j hj) (q.2.2)⟩
theorem f_together {l : Launch} {G : zG} {b : Nat} {S : zS} {v0 : Int32} {v1 : Int32} (h : jI S) : zM l G b yX7_together cX7_together 3 (some .long) 14 0 0 [.ref 0, .int v0, .int v1] S (fun r z => (∃ v, r = some (.long v)) ∧ jI z) := by
  obtain ⟨L, M, N⟩ := S
  obtain ⟨r, e, q⟩ := v_X7_together (P := 0) (M0 := M) (N0 := N) (v0 := v0) (v1 := v1)
  refine zM.weaken (t_X7_together (L := L) (N := N) h.1 e) (fun r2 z q2 => ?_)
  obtain ⟨rfl, rfl⟩ := q2
  exact ⟨⟨_, rfl⟩, h.cls (fun a j hh => q.1 a j (by unfold WM_X7_together; omega))⟩
theorem m_together {l : Launch} {G : zG} {b : Nat} {S : zS} {v0 : Int32} {v1 : Int32} (h : jI S) : zM l G b yX8_together cX8_together 4 (some .long) 13 0 0 [.ref 200, .int v0, .int v1] S (fun r z => (∃ v, r = some (.long v)) ∧ jI z) := by
  obtain ⟨L, M, N⟩ := S
  obtain ⟨r, e, q⟩ := v_X8_together (P := 200) (M0 := M) (N0 := N) (v0 := v0) (v1 := v1) h.2.2.2.1.1 h.2.2.2.1.2.1 h.2.2.2.1.2.2.1 h.2.2.2.1.2.2.2.1 h.2.2.2.1.2.2.2.2
  refine zM.weaken (t_X8_together (L := L) (N := N) h.2.1 e) (fun r2 z q2 => ?_)
  obtain ⟨rfl, rfl⟩ := q2
  exact ⟨⟨_, rfl⟩, h.mod (fun a j hh => q.1 a j (by unfold WM_X8_together; omega)) (fun j _ => q.1 201 j (by unfold WM_X8_together; omega)) (q.2.2)⟩
theorem f_apart {l : Launch} {G : zG} {b : Nat} {S : zS} {v0 : Int32} (h : jI S) : zM l G b yX7_apart cX7_apart 4 (some .long) 14 0 0 [.ref 0, .int v0] S (fun r z => (∃ v, r = some (.long v)) ∧ jI z) := by
  obtain ⟨L, M, N⟩ := S
  obtain ⟨r, e, q⟩ := v_X7_apart (P := 0) (M0 := M) (N0 := N) (v0 := v0)
  refine zM.weaken (t_X7_apart (L := L) (N := N) h.1 e) (fun r2 z q2 => ?_)
  obtain ⟨rfl, rfl⟩ := q2
  exact ⟨⟨_, rfl⟩, h.cls (fun a j hh => q.1 a j (by unfold WM_X7_apart; omega))⟩
theorem m_apart {l : Launch} {G : zG} {b : Nat} {S : zS} {v0 : Int32} (h : jI S) : zM l G b yX8_apart cX8_apart 5 (some .long) 14 0 0 [.ref 200, .int v0] S (fun r z => (∃ v, r = some (.long v)) ∧ jI z) := by
  obtain ⟨L, M, N⟩ := S
  obtain ⟨r, e, q⟩ := v_X8_apart (P := 200) (M0 := M) (N0 := N) (v0 := v0) h.2.2.2.1.1 h.2.2.2.1.2.1 h.2.2.2.1.2.2.1 h.2.2.2.1.2.2.2.1 h.2.2.2.1.2.2.2.2
  refine zM.weaken (t_X8_apart (L := L) (N := N) h.2.1 e) (fun r2 z q2 => ?_)
  obtain ⟨rfl, rfl⟩ := q2
  exact ⟨⟨_, rfl⟩, h.mod (fun a j hh => q.1 a j (by unfold WM_X8_apart; omega)) (fun j hj => p11_X8_apart e j hj) (q.2.2)⟩
theorem f_likes {l : Launch} {G : zG} {b : Nat} {S : zS} {v0 : Int32} (h : jI S) : zM l G b yX7_likes cX7_likes 8 (some .int) 14 0 0 [.ref 0, .int v0] S (fun r z => (∃ v, r = some (.int v)) ∧ jI z) := by
  obtain ⟨L, M, N⟩ := S
  obtain ⟨r, e, q⟩ := v_X7_likes (P := 0) (M0 := M) (N0 := N) (v0 := v0)
  refine zM.weaken (t_X7_likes (L := L) (N := N) h.1 e) (fun r2 z q2 => ?_)
  obtain ⟨rfl, rfl⟩ := q2
  exact ⟨⟨_, rfl⟩, h.cls (fun a j hh => q.1 a j (by unfold WM_X7_likes; omega))⟩
theorem m_likes {l : Launch} {G : zG} {b : Nat} {S : zS} {v0 : Int32} (h : jI S) : zM l G b yX8_likes cX8_likes 6 (some .int) 14 0 0 [.ref 200, .int v0] S (fun r z => (∃ v, r = some (.int v)) ∧ jI z) := by
  obtain ⟨L, M, N⟩ := S
  obtain ⟨r, e, q⟩ := v_X8_likes (P := 200) (M0 := M) (N0 := N) (v0 := v0) h.2.2.2.1.1 h.2.2.2.1.2.1 h.2.2.2.1.2.2.1 h.2.2.2.1.2.2.2.1 h.2.2.2.1.2.2.2.2
  refine zM.weaken (t_X8_likes (L := L) (N := N) h.2.1 e) (fun r2 z q2 => ?_)
  obtain ⟨rfl, rfl⟩ := q2
  exact ⟨⟨_, rfl⟩, h.mod (fun a j hh => q.1 a j (by unfold WM_X8_likes; omega)) (fun j hj => p11_X8_likes e j hj) (q.2.2)⟩
theorem f_years {l : Launch} {G : zG} {b : Nat} {S : zS} {v0 : Int32} {v1 : Int32} {v2 : Int32} (h : jI S) : zM l G b yX7_years cX7_years 4 (some .int) 6 0 0 [.ref 0, .int v0, .int v1, .int v2] S (fun r z => (∃ v, r = some (.int v)) ∧ jI z) := by
  obtain ⟨L, M, N⟩ := S
  obtain ⟨r, e, q⟩ := v_X7_years (P := 0) (M0 := M) (v0 := v0) (v1 := v1) (v2 := v2)
  refine zM.weaken (t_X7_years (L := L) (N := N) h.1 e) (fun r2 z q2 => ?_)
  obtain ⟨rfl, rfl⟩ := q2
  exact ⟨⟨_, rfl⟩, h.cls (fun a j hh => q a j (by unfold WM_X7_years; omega))⟩
theorem m_years {l : Launch} {G : zG} {b : Nat} {S : zS} {v0 : Int32} {v1 : Int32} {v2 : Int32} (h : jI S) : zM l G b yX8_years cX8_years 9 (some .int) 6 0 0 [.ref 200, .int v0, .int v1, .int v2] S (fun r z => (∃ v, r = some (.int v)) ∧ jI z) := by
  obtain ⟨L, M, N⟩ := S
  obtain ⟨r, e, q⟩ := v_X8_years (P := 200) (M0 := M) (N0 := N) (v0 := v0) (v1 := v1) (v2 := v2) h.2.2.2.1.1 h.2.2.2.1.2.1 h.2.2.2.1.2.2.1 h.2.2.2.1.2.2.2.1 h.2.2.2.1.2.2.2.2
  refine zM.weaken (t_X8_years (L := L) (N := N) h.2.1 e) (fun r2 z q2 => ?_)
  obtain ⟨rfl, rfl⟩ := q2
  exact ⟨⟨_, rfl⟩, h.mod (fun a j hh => q.1 a j (by unfold WM_X8_years; omega)) (fun j hj => p11_X8_years e j hj) (q.2.2)⟩
theorem f_often {l : Launch} {G : zG} {b : Nat} {S : zS} {v0 : Int32} {v1 : Int32} {v2 : Int32} (h : jI S) : zM l G b yX7_often cX7_often 4 (some .int) 6 0 0 [.ref 0, .int v0, .int v1, .int v2] S (fun r z => (∃ v, r = some (.int v)) ∧ jI z) := by
  obtain ⟨L, M, N⟩ := S
  obtain ⟨r, e, q⟩ := v_X7_often (P := 0) (M0 := M) (v0 := v0) (v1 := v1) (v2 := v2)
  refine zM.weaken (t_X7_often (L := L) (N := N) h.1 e) (fun r2 z q2 => ?_)
  obtain ⟨rfl, rfl⟩ := q2
  exact ⟨⟨_, rfl⟩, h.cls (fun a j hh => q a j (by unfold WM_X7_often; omega))⟩
theorem m_often {l : Launch} {G : zG} {b : Nat} {S : zS} {v0 : Int32} {v1 : Int32} {v2 : Int32} (h : jI S) : zM l G b yX8_often cX8_often 6 (some .int) 6 0 0 [.ref 200, .int v0, .int v1, .int v2] S (fun r z => (∃ v, r = some (.int v)) ∧ jI z) := by
  obtain ⟨L, M, N⟩ := S
  obtain ⟨r, e, q⟩ := v_X8_often (P := 200) (M0 := M) (N0 := N) (v0 := v0) (v1 := v1) (v2 := v2) h.2.2.2.1.1 h.2.2.2.1.2.1 h.2.2.2.1.2.2.1 h.2.2.2.1.2.2.2.1 h.2.2.2.1.2.2.2.2
  refine zM.weaken (t_X8_often (L := L) (N := N) h.2.1 e) (fun r2 z q2 => ?_)
  obtain ⟨rfl, rfl⟩ := q2
  exact ⟨⟨_, rfl⟩, h.mod (fun a j hh => q.1 a j (by unfold WM_X8_often; omega)) (fun j hj => p11_X8_often e j hj) (q.2.2)⟩
theorem f_soonest {l : Launch} {G : zG} {b : Nat} {S : zS} {v0 : Int32} {v1 : Int32} {v2 : Int32} (h : jI S) : zM l G b yX7_soonest cX7_soonest 5 (some .int) 6 0 0 [.ref 0, .int v0, .int v1, .int v2] S (fun r z => (∃ v, r = some (.int v)) ∧ jI z) := by
  obtain ⟨L, M, N⟩ := S
  obtain ⟨r, e, q⟩ := v_X7_soonest (P := 0) (M0 := M) (v0 := v0) (v1 := v1) (v2 := v2)
  refine zM.weaken (t_X7_soonest (L := L) (N := N) h.1 e) (fun r2 z q2 => ?_)
  obtain ⟨rfl, rfl⟩ := q2
  exact ⟨⟨_, rfl⟩, h.cls (fun a j hh => q a j (by unfold WM_X7_soonest; omega))⟩
theorem m_soonest {l : Launch} {G : zG} {b : Nat} {S : zS} {v0 : Int32} {v1 : Int32} {v2 : Int32} (h : jI S) : zM l G b yX8_soonest cX8_soonest 7 (some .int) 6 0 0 [.ref 200, .int v0, .int v1, .int v2] S (fun r z => (∃ v, r = some (.int v)) ∧ jI z) := by
  obtain ⟨L, M, N⟩ := S
  obtain ⟨r, e, q⟩ := v_X8_soonest (P := 200) (M0 := M) (N0 := N) (v0 := v0) (v1 := v1) (v2 := v2) h.2.2.2.1.1 h.2.2.2.1.2.1 h.2.2.2.1.2.2.1 h.2.2.2.1.2.2.2.1 h.2.2.2.1.2.2.2.2
  refine zM.weaken (t_X8_soonest (L := L) (N := N) h.2.1 e) (fun r2 z q2 => ?_)
  obtain ⟨rfl, rfl⟩ := q2
  exact ⟨⟨_, rfl⟩, h.mod (fun a j hh => q.1 a j (by unfold WM_X8_soonest; omega)) (fun j hj => p11_X8_soonest e j hj) (q.2.2)⟩
theorem f_draw {l : Launch} {G : zG} {b : Nat} {S : zS} {v0 : Int32} (h : jI S) : zM l G b yX7_draw cX7_draw 2 (some .int) 5 0 0 [.ref 0, .int v0] S (fun r z => ∃ e, D_X7_draw 0 v0 S.2.1 = some e ∧ r = some (.int e.1) ∧ z = (S.1, e.2, S.2.2)) := by
  obtain ⟨L, M, N⟩ := S
  obtain ⟨e, he, -⟩ := v_X7_draw (P := 0) (M0 := M) (v0 := v0) h.2.2.1
  exact zM.weaken (t_X7_draw (L := L) (N := N) h.1 he) (fun r2 z q => ⟨e, he, q.1, q.2⟩)
theorem m_draw {l : Launch} {G : zG} {b : Nat} {S : zS} {v0 : Int32} (h : jI S) {e} (he : D_X7_draw 0 v0 S.2.1 = some e) : zM l G b yX8_draw cX8_draw 3 (some .int) 6 0 0 [.ref 200, .int v0] (S.1, e.2, S.2.2) (fun r z => r = some (.int e.1) ∧ jI z) := by
  obtain ⟨L, M, N⟩ := S
  obtain ⟨h7, h8, hv, hJ, hT, hF, hE⟩ := h
  have he : D_X7_draw 0 v0 M = some e := he
  have hv : vp_in (M 25 1) 8 := hv
  have hJ : jJ 200 M := hJ
  have hT : tpe 0 200 M M := hT
  have hF : flt 0 200 M M := hF
  have hE : eqE 0 200 M M := hE
  obtain ⟨e', he', kc, -⟩ := v_X7_draw (P := 0) (M0 := M) (v0 := v0) hv
  rw [he] at he'
  cases he'
  have kc : ∀ a j, (200 ≤ a ∨ (a = 0 ∧ j = 1) ∨ a = 1 ∨ (a = 3 ∧ (j = 1 ∨ j = 2))) → e.2 a j = M a j := fun a j hh => kc a j (by unfold WM_X7_draw; omega)
  have hJ' : jJ 200 e.2 := hJ.mono (fun a j q => kc a j (by omega))
  have hE' : eqE 0 200 M e.2 := hE.k (fun _ _ _ _ => rfl) (fun i j q => kc i j (by omega))
  obtain ⟨a, ea, b, eb, hab, hEq, hth⟩ := t_draw hE' hJ' (N := N) (v0 := v0)
  rw [he] at ea
  cases ea
  obtain ⟨b', eb', kb, -, hJ2⟩ := v_X8_draw (P := 200) (M0 := e.2) (N0 := N) (v0 := v0) hJ'.1 hJ'.2.1 hJ'.2.2.1 hJ'.2.2.2.1 hJ'.2.2.2.2
  rw [eb] at eb'
  cases eb'
  have kb : ∀ a j, (a < 200 ∨ (a = 200 ∧ (j = 11 ∨ j = 13 ∨ j = 14)) ∨ a = 207) → b.2.1 a j = e.2 a j := fun a j hh => kb a j (by unfold WM_X8_draw; omega)
  have hE2 : eqE 0 200 b.2.1 b.2.1 := eqE.k (A := e.2) (B := b.2.1) hEq (fun i j _ _ => kb i j (by omega)) (fun _ _ _ => rfl)
  refine zM.weaken (t_X8_draw (L := L) (N := N) h8 eb) (fun r2 z q2 => ?_)
  obtain ⟨rfl, rfl⟩ := q2
  have hab2 : e.1 = b.1 := hab
  exact ⟨by rw [hab2], h7, h8, hE2.vp, hJ2, hT.k (fun a j q => (kb a j (by omega)).trans (kc a j (by omega))) (fun a j q => (kb a j (by omega)).trans (kc a j (by omega))), hF.k (fun j q => (kb 3 j (by omega)).trans (kc 3 j (by omega))) (fun j q => (kb 200 j (by omega)).trans (kc 200 j (by omega))), hE2⟩
theorem f_points {l : Launch} {G : zG} {b : Nat} {S : zS} {v0 : Int32} {v1 : Int32} (h : jI S) : zM l G b yX7_points cX7_points 4 (some .int) 4 0 0 [.ref 0, .int v0, .int v1] S (fun r z => ∃ e, D_X7_points 0 v0 v1 S.2.1 = some e ∧ r = some (.int e.1) ∧ z = (S.1, e.2, S.2.2)) := by
  obtain ⟨L, M, N⟩ := S
  obtain ⟨e, he, -⟩ := v_X7_points (P := 0) (M0 := M) (v0 := v0) (v1 := v1) h.2.2.1
  exact zM.weaken (t_X7_points (L := L) (N := N) h.1 he) (fun r2 z q => ⟨e, he, q.1, q.2⟩)
theorem m_points {l : Launch} {G : zG} {b : Nat} {S : zS} {v0 : Int32} {v1 : Int32} (h : jI S) {e} (he : D_X7_points 0 v0 v1 S.2.1 = some e) : zM l G b yX8_points cX8_points 3 (some .int) 2 0 0 [.ref 200, .int v0, .int v1] (S.1, e.2, S.2.2) (fun r z => r = some (.int e.1) ∧ jI z) := by
  obtain ⟨L, M, N⟩ := S
  obtain ⟨h7, h8, hv, hJ, hT, hF, hE⟩ := h
  have he : D_X7_points 0 v0 v1 M = some e := he
  have hv : vp_in (M 25 1) 8 := hv
  have hJ : jJ 200 M := hJ
  have hT : tpe 0 200 M M := hT
  have hF : flt 0 200 M M := hF
  have hE : eqE 0 200 M M := hE
  obtain ⟨e', he', kc, -⟩ := v_X7_points (P := 0) (M0 := M) (v0 := v0) (v1 := v1) hv
  rw [he] at he'
  cases he'
  have kc : ∀ a j, (200 ≤ a ∨ (a = 0 ∧ j = 1) ∨ a = 1 ∨ (a = 3 ∧ (j = 1 ∨ j = 2))) → e.2 a j = M a j := fun a j hh => kc a j (by unfold WM_X7_points; omega)
  have hJ' : jJ 200 e.2 := hJ.mono (fun a j q => kc a j (by omega))
  have hE' : eqE 0 200 M e.2 := hE.k (fun _ _ _ _ => rfl) (fun i j q => kc i j (by omega))
  obtain ⟨a, ea, b, eb, hab, hEq, hth⟩ := t_points hE' hJ' (v0 := v0) (v1 := v1)
  rw [he] at ea
  cases ea
  obtain ⟨b', eb', kb, hJ2⟩ := v_X8_points (P := 200) (M0 := e.2) (v0 := v0) (v1 := v1) hJ'.1 hJ'.2.1 hJ'.2.2.1 hJ'.2.2.2.1 hJ'.2.2.2.2
  rw [eb] at eb'
  cases eb'
  have kb : ∀ a j, (a < 200 ∨ (a = 200 ∧ (j = 11 ∨ j = 13 ∨ j = 14)) ∨ a = 207) → b.2 a j = e.2 a j := fun a j hh => kb a j (by unfold WM_X8_points; omega)
  have hE2 : eqE 0 200 b.2 b.2 := eqE.k (A := e.2) (B := b.2) hEq (fun i j _ _ => kb i j (by omega)) (fun _ _ _ => rfl)
  refine zM.weaken (t_X8_points (L := L) (N := N) h8 eb) (fun r2 z q2 => ?_)
  obtain ⟨rfl, rfl⟩ := q2
  have hab2 : e.1 = b.1 := hab
  exact ⟨by rw [hab2], h7, h8, hE2.vp, hJ2, hT.k (fun a j q => (kb a j (by omega)).trans (kc a j (by omega))) (fun a j q => (kb a j (by omega)).trans (kc a j (by omega))), hF.k (fun j q => (kb 3 j (by omega)).trans (kc 3 j (by omega))) (fun j q => (kb 200 j (by omega)).trans (kc 200 j (by omega))), hE2⟩
theorem f_quota {l : Launch} {G : zG} {b : Nat} {S : zS} {v0 : Int32} {v1 : Int32} (h : jI S) : zM l G b yX7_quota cX7_quota 4 (some .int) 4 0 0 [.ref 0, .int v0, .int v1] S (fun r z => ∃ e, D_X7_quota 0 v0 v1 S.2.1 = some e ∧ r = some (.int e.1) ∧ z = (S.1, e.2, S.2.2)) := by
  obtain ⟨L, M, N⟩ := S
  obtain ⟨e, he, -⟩ := v_X7_quota (P := 0) (M0 := M) (v0 := v0) (v1 := v1) h.2.2.1
  exact zM.weaken (t_X7_quota (L := L) (N := N) h.1 he) (fun r2 z q => ⟨e, he, q.1, q.2⟩)
theorem m_quota {l : Launch} {G : zG} {b : Nat} {S : zS} {v0 : Int32} {v1 : Int32} (h : jI S) {e} (he : D_X7_quota 0 v0 v1 S.2.1 = some e) : zM l G b yX8_quota cX8_quota 3 (some .int) 2 0 0 [.ref 200, .int v0, .int v1] (S.1, e.2, S.2.2) (fun r z => r = some (.int e.1) ∧ jI z) := by
  obtain ⟨L, M, N⟩ := S
  obtain ⟨h7, h8, hv, hJ, hT, hF, hE⟩ := h
  have he : D_X7_quota 0 v0 v1 M = some e := he
  have hv : vp_in (M 25 1) 8 := hv
  have hJ : jJ 200 M := hJ
  have hT : tpe 0 200 M M := hT
  have hF : flt 0 200 M M := hF
  have hE : eqE 0 200 M M := hE
  obtain ⟨e', he', kc, -⟩ := v_X7_quota (P := 0) (M0 := M) (v0 := v0) (v1 := v1) hv
  rw [he] at he'
  cases he'
  have kc : ∀ a j, (200 ≤ a ∨ (a = 0 ∧ j = 1) ∨ a = 1 ∨ (a = 3 ∧ (j = 1 ∨ j = 2))) → e.2 a j = M a j := fun a j hh => kc a j (by unfold WM_X7_quota; omega)
  have hJ' : jJ 200 e.2 := hJ.mono (fun a j q => kc a j (by omega))
  have hE' : eqE 0 200 M e.2 := hE.k (fun _ _ _ _ => rfl) (fun i j q => kc i j (by omega))
  obtain ⟨a, ea, b, eb, hab, hEq, hth⟩ := t_quota hE' hJ' (v0 := v0) (v1 := v1)
  rw [he] at ea
  cases ea
  obtain ⟨b', eb', kb, hJ2⟩ := v_X8_quota (P := 200) (M0 := e.2) (v0 := v0) (v1 := v1) hJ'.1 hJ'.2.1 hJ'.2.2.1 hJ'.2.2.2.1 hJ'.2.2.2.2
  rw [eb] at eb'
  cases eb'
  have kb : ∀ a j, (a < 200 ∨ (a = 200 ∧ (j = 11 ∨ j = 13 ∨ j = 14)) ∨ a = 207) → b.2 a j = e.2 a j := fun a j hh => kb a j (by unfold WM_X8_quota; omega)
  have hE2 : eqE 0 200 b.2 b.2 := eqE.k (A := e.2) (B := b.2) hEq (fun i j _ _ => kb i j (by omega)) (fun _ _ _ => rfl)
  refine zM.weaken (t_X8_quota (L := L) (N := N) h8 eb) (fun r2 z q2 => ?_)
  obtain ⟨rfl, rfl⟩ := q2
  have hab2 : e.1 = b.1 := hab
  exact ⟨by rw [hab2], h7, h8, hE2.vp, hJ2, hT.k (fun a j q => (kb a j (by omega)).trans (kc a j (by omega))) (fun a j q => (kb a j (by omega)).trans (kc a j (by omega))), hF.k (fun j q => (kb 3 j (by omega)).trans (kc 3 j (by omega))) (fun j q => (kb 200 j (by omega)).trans (kc 200 j (by omega))), hE2⟩
theorem f_choose {l : Launch} {G : zG} {b : Nat} {S : zS} {v0 : Int32} {v1 : Int32} {v2 : Int32} {v3 : Int32} (h : jI S) : zM l G b yX7_choose cX7_choose 6 (some .int) 4 0 0 [.ref 0, .int v0, .int v1, .int v2, .int v3] S (fun r z => ∃ e, D_X7_choose 0 v0 v1 v2 v3 S.2.1 = some e ∧ r = some (.int e.1) ∧ z = (S.1, e.2, S.2.2)) := by
  obtain ⟨L, M, N⟩ := S
  obtain ⟨e, he, -⟩ := v_X7_choose (P := 0) (M0 := M) (v0 := v0) (v1 := v1) (v2 := v2) (v3 := v3) h.2.2.1
  exact zM.weaken (t_X7_choose (L := L) (N := N) h.1 he) (fun r2 z q => ⟨e, he, q.1, q.2⟩)
theorem m_choose {l : Launch} {G : zG} {b : Nat} {S : zS} {v0 : Int32} {v1 : Int32} {v2 : Int32} {v3 : Int32} (h : jI S) {e} (he : D_X7_choose 0 v0 v1 v2 v3 S.2.1 = some e) : zM l G b yX8_choose cX8_choose 9 (some .int) 4 0 0 [.ref 200, .int v0, .int v1, .int v2, .int v3] (S.1, e.2, S.2.2) (fun r z => r = some (.int e.1) ∧ jI z) := by
  obtain ⟨L, M, N⟩ := S
  obtain ⟨h7, h8, hv, hJ, hT, hF, hE⟩ := h
  have he : D_X7_choose 0 v0 v1 v2 v3 M = some e := he
  have hv : vp_in (M 25 1) 8 := hv
  have hJ : jJ 200 M := hJ
  have hT : tpe 0 200 M M := hT
  have hF : flt 0 200 M M := hF
  have hE : eqE 0 200 M M := hE
  obtain ⟨e', he', kc, -⟩ := v_X7_choose (P := 0) (M0 := M) (v0 := v0) (v1 := v1) (v2 := v2) (v3 := v3) hv
  rw [he] at he'
  cases he'
  have kc : ∀ a j, (200 ≤ a ∨ (a = 0 ∧ j = 1) ∨ a = 1 ∨ (a = 3 ∧ (j = 1 ∨ j = 2))) → e.2 a j = M a j := fun a j hh => kc a j (by unfold WM_X7_choose; omega)
  have hJ' : jJ 200 e.2 := hJ.mono (fun a j q => kc a j (by omega))
  have hE' : eqE 0 200 M e.2 := hE.k (fun _ _ _ _ => rfl) (fun i j q => kc i j (by omega))
  obtain ⟨a, ea, b, eb, hab, hEq, hth⟩ := t_choose hE' hJ' (a := v0) (u := v1) (v := v2) (x := v3)
  rw [he] at ea
  cases ea
  obtain ⟨b', eb', kb, hJ2⟩ := v_X8_choose (P := 200) (M0 := e.2) (v0 := v0) (v1 := v1) (v2 := v2) (v3 := v3) hJ'.1 hJ'.2.1 hJ'.2.2.1 hJ'.2.2.2.1 hJ'.2.2.2.2
  rw [eb] at eb'
  cases eb'
  have kb : ∀ a j, (a < 200 ∨ (a = 200 ∧ (j = 11 ∨ j = 13 ∨ j = 14)) ∨ a = 207) → b.2 a j = e.2 a j := fun a j hh => kb a j (by unfold WM_X8_choose; omega)
  have hE2 : eqE 0 200 b.2 b.2 := eqE.k (A := e.2) (B := b.2) hEq (fun i j _ _ => kb i j (by omega)) (fun _ _ _ => rfl)
  refine zM.weaken (t_X8_choose (L := L) (N := N) h8 eb) (fun r2 z q2 => ?_)
  obtain ⟨rfl, rfl⟩ := q2
  have hab2 : e.1 = b.1 := hab
  exact ⟨by rw [hab2], h7, h8, hE2.vp, hJ2, hT.k (fun a j q => (kb a j (by omega)).trans (kc a j (by omega))) (fun a j q => (kb a j (by omega)).trans (kc a j (by omega))), hF.k (fun j q => (kb 3 j (by omega)).trans (kc 3 j (by omega))) (fun j q => (kb 200 j (by omega)).trans (kc 200 j (by omega))), hE2⟩
theorem f_law {l : Launch} {G : zG} {b : Nat} {S : zS} {v0 : Int32} (h : jI S) : zM l G b yX7_law cX7_law 3 (some .int) 4 0 0 [.ref 0, .int v0] S (fun r z => ∃ e, D_X7_law 0 v0 S.2.1 = some e ∧ r = some (.int e.1) ∧ z = (S.1, e.2, S.2.2)) := by
  obtain ⟨L, M, N⟩ := S
  obtain ⟨e, he, -⟩ := v_X7_law (P := 0) (M0 := M) (v0 := v0) h.2.2.1
  exact zM.weaken (t_X7_law (L := L) (N := N) h.1 he) (fun r2 z q => ⟨e, he, q.1, q.2⟩)
theorem m_law {l : Launch} {G : zG} {b : Nat} {S : zS} {v0 : Int32} (h : jI S) {e} (he : D_X7_law 0 v0 S.2.1 = some e) : zM l G b yX8_law cX8_law 2 (some .int) 2 0 0 [.ref 200, .int v0] (S.1, e.2, S.2.2) (fun r z => r = some (.int e.1) ∧ jI z) := by
  obtain ⟨L, M, N⟩ := S
  obtain ⟨h7, h8, hv, hJ, hT, hF, hE⟩ := h
  have he : D_X7_law 0 v0 M = some e := he
  have hv : vp_in (M 25 1) 8 := hv
  have hJ : jJ 200 M := hJ
  have hT : tpe 0 200 M M := hT
  have hF : flt 0 200 M M := hF
  have hE : eqE 0 200 M M := hE
  obtain ⟨e', he', kc, -⟩ := v_X7_law (P := 0) (M0 := M) (v0 := v0) hv
  rw [he] at he'
  cases he'
  have kc : ∀ a j, (200 ≤ a ∨ (a = 0 ∧ j = 1) ∨ a = 1 ∨ (a = 3 ∧ (j = 1 ∨ j = 2))) → e.2 a j = M a j := fun a j hh => kc a j (by unfold WM_X7_law; omega)
  have hJ' : jJ 200 e.2 := hJ.mono (fun a j q => kc a j (by omega))
  have hE' : eqE 0 200 M e.2 := hE.k (fun _ _ _ _ => rfl) (fun i j q => kc i j (by omega))
  obtain ⟨a, ea, b, eb, hab, hEq, hth⟩ := t_law hE' hJ' (v0 := v0)
  rw [he] at ea
  cases ea
  obtain ⟨b', eb', kb, hJ2⟩ := v_X8_law (P := 200) (M0 := e.2) (v0 := v0) hJ'.1 hJ'.2.1 hJ'.2.2.1 hJ'.2.2.2.1 hJ'.2.2.2.2
  rw [eb] at eb'
  cases eb'
  have kb : ∀ a j, (a < 200 ∨ (a = 200 ∧ (j = 11 ∨ j = 13 ∨ j = 14)) ∨ a = 207) → b.2 a j = e.2 a j := fun a j hh => kb a j (by unfold WM_X8_law; omega)
  have hE2 : eqE 0 200 b.2 b.2 := eqE.k (A := e.2) (B := b.2) hEq (fun i j _ _ => kb i j (by omega)) (fun _ _ _ => rfl)
  refine zM.weaken (t_X8_law (L := L) (N := N) h8 eb) (fun r2 z q2 => ?_)
  obtain ⟨rfl, rfl⟩ := q2
  have hab2 : e.1 = b.1 := hab
  exact ⟨by rw [hab2], h7, h8, hE2.vp, hJ2, hT.k (fun a j q => (kb a j (by omega)).trans (kc a j (by omega))) (fun a j q => (kb a j (by omega)).trans (kc a j (by omega))), hF.k (fun j q => (kb 3 j (by omega)).trans (kc 3 j (by omega))) (fun j q => (kb 200 j (by omega)).trans (kc 200 j (by omega))), hE2⟩
theorem f_prefer {l : Launch} {G : zG} {b : Nat} {S : zS} {v0 : Int32} (h : jI S) : zM l G b yX7_prefer cX7_prefer 3 (some .int) 4 0 0 [.ref 0, .int v0] S (fun r z => ∃ e, D_X7_prefer 0 v0 S.2.1 = some e ∧ r = some (.int e.1) ∧ z = (S.1, e.2, S.2.2)) := by
  obtain ⟨L, M, N⟩ := S
  obtain ⟨e, he, -⟩ := v_X7_prefer (P := 0) (M0 := M) (v0 := v0) h.2.2.1
  exact zM.weaken (t_X7_prefer (L := L) (N := N) h.1 he) (fun r2 z q => ⟨e, he, q.1, q.2⟩)
theorem m_prefer {l : Launch} {G : zG} {b : Nat} {S : zS} {v0 : Int32} (h : jI S) {e} (he : D_X7_prefer 0 v0 S.2.1 = some e) : zM l G b yX8_prefer cX8_prefer 2 (some .int) 2 0 0 [.ref 200, .int v0] (S.1, e.2, S.2.2) (fun r z => r = some (.int e.1) ∧ jI z) := by
  obtain ⟨L, M, N⟩ := S
  obtain ⟨h7, h8, hv, hJ, hT, hF, hE⟩ := h
  have he : D_X7_prefer 0 v0 M = some e := he
  have hv : vp_in (M 25 1) 8 := hv
  have hJ : jJ 200 M := hJ
  have hT : tpe 0 200 M M := hT
  have hF : flt 0 200 M M := hF
  have hE : eqE 0 200 M M := hE
  obtain ⟨e', he', kc, -⟩ := v_X7_prefer (P := 0) (M0 := M) (v0 := v0) hv
  rw [he] at he'
  cases he'
  have kc : ∀ a j, (200 ≤ a ∨ (a = 0 ∧ j = 1) ∨ a = 1 ∨ (a = 3 ∧ (j = 1 ∨ j = 2))) → e.2 a j = M a j := fun a j hh => kc a j (by unfold WM_X7_prefer; omega)
  have hJ' : jJ 200 e.2 := hJ.mono (fun a j q => kc a j (by omega))
  have hE' : eqE 0 200 M e.2 := hE.k (fun _ _ _ _ => rfl) (fun i j q => kc i j (by omega))
  obtain ⟨a, ea, b, eb, hab, hEq, hth⟩ := t_prefer hE' hJ' (v0 := v0)
  rw [he] at ea
  cases ea
  obtain ⟨b', eb', kb, hJ2⟩ := v_X8_prefer (P := 200) (M0 := e.2) (v0 := v0) hJ'.1 hJ'.2.1 hJ'.2.2.1 hJ'.2.2.2.1 hJ'.2.2.2.2
  rw [eb] at eb'
  cases eb'
  have kb : ∀ a j, (a < 200 ∨ (a = 200 ∧ (j = 11 ∨ j = 13 ∨ j = 14)) ∨ a = 207) → b.2 a j = e.2 a j := fun a j hh => kb a j (by unfold WM_X8_prefer; omega)
  have hE2 : eqE 0 200 b.2 b.2 := eqE.k (A := e.2) (B := b.2) hEq (fun i j _ _ => kb i j (by omega)) (fun _ _ _ => rfl)
  refine zM.weaken (t_X8_prefer (L := L) (N := N) h8 eb) (fun r2 z q2 => ?_)
  obtain ⟨rfl, rfl⟩ := q2
  have hab2 : e.1 = b.1 := hab
  exact ⟨by rw [hab2], h7, h8, hE2.vp, hJ2, hT.k (fun a j q => (kb a j (by omega)).trans (kc a j (by omega))) (fun a j q => (kb a j (by omega)).trans (kc a j (by omega))), hF.k (fun j q => (kb 3 j (by omega)).trans (kc 3 j (by omega))) (fun j q => (kb 200 j (by omega)).trans (kc 200 j (by omega))), hE2⟩
theorem f_guests {l : Launch} {G : zG} {b : Nat} {S : zS} {v0 : Int32} (h : jI S) : zM l G b yX7_guests cX7_guests 3 (some .int) 4 0 0 [.ref 0, .int v0] S (fun r z => ∃ e, D_X7_guests 0 v0 S.2.1 = some e ∧ r = some (.int e.1) ∧ z = (S.1, e.2, S.2.2)) := by
  obtain ⟨L, M, N⟩ := S
  obtain ⟨e, he, -⟩ := v_X7_guests (P := 0) (M0 := M) (v0 := v0) h.2.2.1
  exact zM.weaken (t_X7_guests (L := L) (N := N) h.1 he) (fun r2 z q => ⟨e, he, q.1, q.2⟩)
theorem m_guests {l : Launch} {G : zG} {b : Nat} {S : zS} {v0 : Int32} (h : jI S) {e} (he : D_X7_guests 0 v0 S.2.1 = some e) : zM l G b yX8_guests cX8_guests 2 (some .int) 2 0 0 [.ref 200, .int v0] (S.1, e.2, S.2.2) (fun r z => r = some (.int e.1) ∧ jI z) := by
  obtain ⟨L, M, N⟩ := S
  obtain ⟨h7, h8, hv, hJ, hT, hF, hE⟩ := h
  have he : D_X7_guests 0 v0 M = some e := he
  have hv : vp_in (M 25 1) 8 := hv
  have hJ : jJ 200 M := hJ
  have hT : tpe 0 200 M M := hT
  have hF : flt 0 200 M M := hF
  have hE : eqE 0 200 M M := hE
  obtain ⟨e', he', kc, -⟩ := v_X7_guests (P := 0) (M0 := M) (v0 := v0) hv
  rw [he] at he'
  cases he'
  have kc : ∀ a j, (200 ≤ a ∨ (a = 0 ∧ j = 1) ∨ a = 1 ∨ (a = 3 ∧ (j = 1 ∨ j = 2))) → e.2 a j = M a j := fun a j hh => kc a j (by unfold WM_X7_guests; omega)
  have hJ' : jJ 200 e.2 := hJ.mono (fun a j q => kc a j (by omega))
  have hE' : eqE 0 200 M e.2 := hE.k (fun _ _ _ _ => rfl) (fun i j q => kc i j (by omega))
  obtain ⟨a, ea, b, eb, hab, hEq, hth⟩ := t_guests hE' hJ' (v0 := v0)
  rw [he] at ea
  cases ea
  obtain ⟨b', eb', kb, hJ2⟩ := v_X8_guests (P := 200) (M0 := e.2) (v0 := v0) hJ'.1 hJ'.2.1 hJ'.2.2.1 hJ'.2.2.2.1 hJ'.2.2.2.2
  rw [eb] at eb'
  cases eb'
  have kb : ∀ a j, (a < 200 ∨ (a = 200 ∧ (j = 11 ∨ j = 13 ∨ j = 14)) ∨ a = 207) → b.2 a j = e.2 a j := fun a j hh => kb a j (by unfold WM_X8_guests; omega)
  have hE2 : eqE 0 200 b.2 b.2 := eqE.k (A := e.2) (B := b.2) hEq (fun i j _ _ => kb i j (by omega)) (fun _ _ _ => rfl)
  refine zM.weaken (t_X8_guests (L := L) (N := N) h8 eb) (fun r2 z q2 => ?_)
  obtain ⟨rfl, rfl⟩ := q2
  have hab2 : e.1 = b.1 := hab
  exact ⟨by rw [hab2], h7, h8, hE2.vp, hJ2, hT.k (fun a j q => (kb a j (by omega)).trans (kc a j (by omega))) (fun a j q => (kb a j (by omega)).trans (kc a j (by omega))), hF.k (fun j q => (kb 3 j (by omega)).trans (kc 3 j (by omega))) (fun j q => (kb 200 j (by omega)).trans (kc 200 j (by omega))), hE2⟩
theorem f_split {l : Launch} {G : zG} {b : Nat} {S : zS} {v0 : Int32} (h : jI S) : zM l G b yX7_split cX7_split 2 (some .int) 4 0 0 [.ref 0, .int v0] S (fun r z => ∃ e, D_X7_split 0 v0 S.2.1 = some e ∧ r = some (.int e.1) ∧ z = (S.1, e.2, S.2.2)) := by
  obtain ⟨L, M, N⟩ := S
  obtain ⟨e, he, -⟩ := v_X7_split (P := 0) (M0 := M) (v0 := v0) h.2.2.1
  exact zM.weaken (t_X7_split (L := L) (N := N) h.1 he) (fun r2 z q => ⟨e, he, q.1, q.2⟩)
theorem m_split {l : Launch} {G : zG} {b : Nat} {S : zS} {v0 : Int32} (h : jI S) {e} (he : D_X7_split 0 v0 S.2.1 = some e) : zM l G b yX8_split cX8_split 2 (some .int) 3 0 0 [.ref 200, .int v0] (S.1, e.2, S.2.2) (fun r z => r = some (.int e.1) ∧ jI z) := by
  obtain ⟨L, M, N⟩ := S
  obtain ⟨h7, h8, hv, hJ, hT, hF, hE⟩ := h
  have he : D_X7_split 0 v0 M = some e := he
  have hv : vp_in (M 25 1) 8 := hv
  have hJ : jJ 200 M := hJ
  have hT : tpe 0 200 M M := hT
  have hF : flt 0 200 M M := hF
  have hE : eqE 0 200 M M := hE
  obtain ⟨e', he', kc, -⟩ := v_X7_split (P := 0) (M0 := M) (v0 := v0) hv
  rw [he] at he'
  cases he'
  have kc : ∀ a j, (200 ≤ a ∨ (a = 0 ∧ j = 1) ∨ a = 1 ∨ (a = 3 ∧ (j = 1 ∨ j = 2))) → e.2 a j = M a j := fun a j hh => kc a j (by unfold WM_X7_split; omega)
  have hJ' : jJ 200 e.2 := hJ.mono (fun a j q => kc a j (by omega))
  have hE' : eqE 0 200 M e.2 := hE.k (fun _ _ _ _ => rfl) (fun i j q => kc i j (by omega))
  obtain ⟨a, ea, b, eb, hab, hEq, hth⟩ := t_split hE' hJ' (v0 := v0)
  rw [he] at ea
  cases ea
  obtain ⟨b', eb', kb, hJ2⟩ := v_X8_split (P := 200) (M0 := e.2) (v0 := v0) hJ'.1 hJ'.2.1 hJ'.2.2.1 hJ'.2.2.2.1 hJ'.2.2.2.2
  rw [eb] at eb'
  cases eb'
  have kb : ∀ a j, (a < 200 ∨ (a = 200 ∧ (j = 11 ∨ j = 13 ∨ j = 14)) ∨ a = 207) → b.2 a j = e.2 a j := fun a j hh => kb a j (by unfold WM_X8_split; omega)
  have hE2 : eqE 0 200 b.2 b.2 := eqE.k (A := e.2) (B := b.2) hEq (fun i j _ _ => kb i j (by omega)) (fun _ _ _ => rfl)
  refine zM.weaken (t_X8_split (L := L) (N := N) h8 eb) (fun r2 z q2 => ?_)
  obtain ⟨rfl, rfl⟩ := q2
  have hab2 : e.1 = b.1 := hab
  exact ⟨by rw [hab2], h7, h8, hE2.vp, hJ2, hT.k (fun a j q => (kb a j (by omega)).trans (kc a j (by omega))) (fun a j q => (kb a j (by omega)).trans (kc a j (by omega))), hF.k (fun j q => (kb 3 j (by omega)).trans (kc 3 j (by omega))) (fun j q => (kb 200 j (by omega)).trans (kc 200 j (by omega))), hE2⟩
theorem f_undo {l : Launch} {G : zG} {b : Nat} {S : zS} (h : jI S) : zM l G b yX7_undo cX7_undo 1 (some .int) 4 0 0 [.ref 0] S (fun r z => ∃ e, D_X7_undo 0 S.2.1 = some e ∧ r = some (.int e.1) ∧ z = (S.1, e.2, S.2.2)) := by
  obtain ⟨L, M, N⟩ := S
  obtain ⟨e, he, -⟩ := v_X7_undo (P := 0) (M0 := M) h.2.2.1
  exact zM.weaken (t_X7_undo (L := L) (N := N) h.1 he) (fun r2 z q => ⟨e, he, q.1, q.2⟩)
theorem m_undo {l : Launch} {G : zG} {b : Nat} {S : zS} (h : jI S) {e} (he : D_X7_undo 0 S.2.1 = some e) : zM l G b yX8_undo cX8_undo 2 (some .int) 1 0 0 [.ref 200] (S.1, e.2, S.2.2) (fun r z => r = some (.int e.1) ∧ jI z) := by
  obtain ⟨L, M, N⟩ := S
  obtain ⟨h7, h8, hv, hJ, hT, hF, hE⟩ := h
  have he : D_X7_undo 0 M = some e := he
  have hv : vp_in (M 25 1) 8 := hv
  have hJ : jJ 200 M := hJ
  have hT : tpe 0 200 M M := hT
  have hF : flt 0 200 M M := hF
  have hE : eqE 0 200 M M := hE
  obtain ⟨e', he', kc, -⟩ := v_X7_undo (P := 0) (M0 := M) hv
  rw [he] at he'
  cases he'
  have kc : ∀ a j, (200 ≤ a ∨ (a = 0 ∧ j = 1) ∨ a = 1 ∨ (a = 3 ∧ (j = 1 ∨ j = 2))) → e.2 a j = M a j := fun a j hh => kc a j (by unfold WM_X7_undo; omega)
  have hJ' : jJ 200 e.2 := hJ.mono (fun a j q => kc a j (by omega))
  have hE' : eqE 0 200 M e.2 := hE.k (fun _ _ _ _ => rfl) (fun i j q => kc i j (by omega))
  obtain ⟨a, ea, b, eb, hab, hEq, hth⟩ := t_undo hE' hJ'
  rw [he] at ea
  cases ea
  obtain ⟨b', eb', kb, hJ2⟩ := v_X8_undo (P := 200) (M0 := e.2) hJ'.1 hJ'.2.1 hJ'.2.2.1 hJ'.2.2.2.1 hJ'.2.2.2.2
  rw [eb] at eb'
  cases eb'
  have kb : ∀ a j, (a < 200 ∨ (a = 200 ∧ (j = 11 ∨ j = 13 ∨ j = 14)) ∨ a = 207) → b.2 a j = e.2 a j := fun a j hh => kb a j (by unfold WM_X8_undo; omega)
  have hE2 : eqE 0 200 b.2 b.2 := eqE.k (A := e.2) (B := b.2) hEq (fun i j _ _ => kb i j (by omega)) (fun _ _ _ => rfl)
  refine zM.weaken (t_X8_undo (L := L) (N := N) h8 eb) (fun r2 z q2 => ?_)
  obtain ⟨rfl, rfl⟩ := q2
  have hab2 : e.1 = b.1 := hab
  exact ⟨by rw [hab2], h7, h8, hE2.vp, hJ2, hT.k (fun a j q => (kb a j (by omega)).trans (kc a j (by omega))) (fun a j q => (kb a j (by omega)).trans (kc a j (by omega))), hF.k (fun j q => (kb 3 j (by omega)).trans (kc 3 j (by omega))) (fun j q => (kb 200 j (by omega)).trans (kc 200 j (by omega))), hE2⟩
theorem f_print {l : Launch} {G : zG} {b : Nat} {S : zS} {v0 : Int32} (h : jI S) : zM l G b yX7_print cX7_print 5 (some .int) 5 0 0 [.ref 0, .int v0] S (fun r z => (∃ v, r = some (.int v)) ∧ jI z) := by
  obtain ⟨L, M, N⟩ := S
  obtain ⟨r, e, q⟩ := v_X7_print (P := 0) (M0 := M) (v0 := v0)
  refine zM.weaken (t_X7_print (L := L) (N := N) h.1 e) (fun r2 z q2 => ?_)
  obtain ⟨rfl, rfl⟩ := q2
  exact ⟨⟨_, rfl⟩, h.cls (fun a j hh => q a j (by unfold WM_X7_print; omega))⟩
theorem m_print {l : Launch} {G : zG} {b : Nat} {S : zS} {v0 : Int32} (h : jI S) : zM l G b yX8_print cX8_print 4 (some .int) 5 0 0 [.ref 200, .int v0] S (fun r z => (∃ v, r = some (.int v)) ∧ jI z) := by
  obtain ⟨L, M, N⟩ := S
  obtain ⟨r, e, q⟩ := v_X8_print (P := 200) (M0 := M) (N0 := N) (v0 := v0) h.2.2.2.1.1 h.2.2.2.1.2.1 h.2.2.2.1.2.2.1 h.2.2.2.1.2.2.2.1 h.2.2.2.1.2.2.2.2
  refine zM.weaken (t_X8_print (L := L) (N := N) h.2.1 e) (fun r2 z q2 => ?_)
  obtain ⟨rfl, rfl⟩ := q2
  exact ⟨⟨_, rfl⟩, h.mod (fun a j hh => q.1 a j (by unfold WM_X8_print; omega)) (fun j _ => q.1 201 j (by unfold WM_X8_print; omega)) (q.2.2)⟩
theorem f_out {l : Launch} {G : zG} {b : Nat} {S : zS} {v0 : Int32} (h : jI S) : zM l G b yX7_out cX7_out 2 (some .int) 1 0 0 [.ref 0, .int v0] S (fun r z => (∃ v, r = some (.int v)) ∧ jI z) := by
  obtain ⟨L, M, N⟩ := S
  obtain ⟨r, e, q⟩ := v_X7_out (P := 0) (M0 := M) (v0 := v0)
  refine zM.weaken (t_X7_out (L := L) (N := N) h.1 e) (fun r2 z q2 => ?_)
  obtain ⟨rfl, rfl⟩ := q2
  exact ⟨⟨_, rfl⟩, h.cls (fun a j hh => q a j (by unfold WM_X7_out; omega))⟩
theorem m_out {l : Launch} {G : zG} {b : Nat} {S : zS} {v0 : Int32} (h : jI S) : zM l G b yX8_out cX8_out 2 (some .int) 1 0 0 [.ref 200, .int v0] S (fun r z => (∃ v, r = some (.int v)) ∧ jI z) := by
  obtain ⟨L, M, N⟩ := S
  obtain ⟨r, e, q⟩ := v_X8_out (P := 200) (M0 := M) (v0 := v0) h.2.2.2.1.1 h.2.2.2.1.2.1 h.2.2.2.1.2.2.1 h.2.2.2.1.2.2.2.1 h.2.2.2.1.2.2.2.2
  refine zM.weaken (t_X8_out (L := L) (N := N) h.2.1 e) (fun r2 z q2 => ?_)
  obtain ⟨rfl, rfl⟩ := q2
  exact ⟨⟨_, rfl⟩, h.mod (fun a j hh => q.1 a j (by unfold WM_X8_out; omega)) (fun j _ => q.1 201 j (by unfold WM_X8_out; omega)) (q.2)⟩
/-! names for cells -/
abbrev kc1_10 : zC := (1, 10, [])
abbrev kc1_128 : zC := (1, 128, [])
abbrev kc1_3 : zC := (1, 3, [])
abbrev kc1_30 : zC := (1, 30, [])
abbrev kc1_5 : zC := (1, 5, [])
abbrev kc1_50 : zC := (1, 50, [])
abbrev kc1_64 : zC := (1, 64, [])
abbrev kc1_656 : zC := (1, 656, [])
abbrev kc1_700 : zC := (1, 700, [])
abbrev kc1_82 : zC := (1, 82, [])
abbrev kc2_10 : zC := (2, 10, [])
abbrev kc2_128 : zC := (2, 128, [])
abbrev kc3_10 : zC := (3, 10, [])
abbrev kc3_128 : zC := (3, 128, [])
abbrev kc3_35 : zC := (3, 35, [])
abbrev kc3_4 : zC := (3, 4, [])
abbrev kc3_49 : zC := (3, 49, [])
abbrev kc3_5 : zC := (3, 5, [])
abbrev kc3_7 : zC := (3, 7, [])
abbrev kp1 (P : Nat) : Nat × Nat := (2, P + 1)
abbrev kp10 (P : Nat) : Nat × Nat := (2, P + 10)
abbrev kp100 (P : Nat) : Nat × Nat := (2, P + 100)
abbrev kp101 (P : Nat) : Nat × Nat := (2, P + 101)
abbrev kp102 (P : Nat) : Nat × Nat := (2, P + 102)
abbrev kp103 (P : Nat) : Nat × Nat := (2, P + 103)
abbrev kp104 (P : Nat) : Nat × Nat := (2, P + 104)
abbrev kp105 (P : Nat) : Nat × Nat := (2, P + 105)
abbrev kp106 (P : Nat) : Nat × Nat := (2, P + 106)
abbrev kp107 (P : Nat) : Nat × Nat := (2, P + 107)
abbrev kp108 (P : Nat) : Nat × Nat := (2, P + 108)
abbrev kp109 (P : Nat) : Nat × Nat := (2, P + 109)
abbrev kp11 (P : Nat) : Nat × Nat := (2, P + 11)
abbrev kp110 (P : Nat) : Nat × Nat := (2, P + 110)
abbrev kp111 (P : Nat) : Nat × Nat := (2, P + 111)
abbrev kp112 (P : Nat) : Nat × Nat := (2, P + 112)
abbrev kp113 (P : Nat) : Nat × Nat := (2, P + 113)
abbrev kp114 (P : Nat) : Nat × Nat := (2, P + 114)
abbrev kp115 (P : Nat) : Nat × Nat := (2, P + 115)
abbrev kp116 (P : Nat) : Nat × Nat := (2, P + 116)
abbrev kp117 (P : Nat) : Nat × Nat := (2, P + 117)
abbrev kp118 (P : Nat) : Nat × Nat := (2, P + 118)
abbrev kp119 (P : Nat) : Nat × Nat := (2, P + 119)
abbrev kp12 (P : Nat) : Nat × Nat := (2, P + 12)
abbrev kp120 (P : Nat) : Nat × Nat := (2, P + 120)
abbrev kp121 (P : Nat) : Nat × Nat := (2, P + 121)
abbrev kp122 (P : Nat) : Nat × Nat := (2, P + 122)
abbrev kp123 (P : Nat) : Nat × Nat := (2, P + 123)
abbrev kp124 (P : Nat) : Nat × Nat := (2, P + 124)
abbrev kp125 (P : Nat) : Nat × Nat := (2, P + 125)
abbrev kp126 (P : Nat) : Nat × Nat := (2, P + 126)
abbrev kp127 (P : Nat) : Nat × Nat := (2, P + 127)
abbrev kp128 (P : Nat) : Nat × Nat := (2, P + 128)
abbrev kp129 (P : Nat) : Nat × Nat := (2, P + 129)
abbrev kp13 (P : Nat) : Nat × Nat := (2, P + 13)
abbrev kp130 (P : Nat) : Nat × Nat := (2, P + 130)
abbrev kp131 (P : Nat) : Nat × Nat := (2, P + 131)
abbrev kp132 (P : Nat) : Nat × Nat := (2, P + 132)
abbrev kp133 (P : Nat) : Nat × Nat := (2, P + 133)
abbrev kp134 (P : Nat) : Nat × Nat := (2, P + 134)
abbrev kp135 (P : Nat) : Nat × Nat := (2, P + 135)
abbrev kp136 (P : Nat) : Nat × Nat := (2, P + 136)
abbrev kp137 (P : Nat) : Nat × Nat := (2, P + 137)
abbrev kp138 (P : Nat) : Nat × Nat := (2, P + 138)
abbrev kp139 (P : Nat) : Nat × Nat := (2, P + 139)
abbrev kp14 (P : Nat) : Nat × Nat := (2, P + 14)
abbrev kp140 (P : Nat) : Nat × Nat := (2, P + 140)
abbrev kp141 (P : Nat) : Nat × Nat := (2, P + 141)
abbrev kp142 (P : Nat) : Nat × Nat := (2, P + 142)
abbrev kp143 (P : Nat) : Nat × Nat := (2, P + 143)
abbrev kp144 (P : Nat) : Nat × Nat := (2, P + 144)
abbrev kp145 (P : Nat) : Nat × Nat := (2, P + 145)
abbrev kp146 (P : Nat) : Nat × Nat := (2, P + 146)
abbrev kp147 (P : Nat) : Nat × Nat := (2, P + 147)
abbrev kp148 (P : Nat) : Nat × Nat := (2, P + 148)
abbrev kp149 (P : Nat) : Nat × Nat := (2, P + 149)
abbrev kp15 (P : Nat) : Nat × Nat := (2, P + 15)
abbrev kp150 (P : Nat) : Nat × Nat := (2, P + 150)
abbrev kp151 (P : Nat) : Nat × Nat := (2, P + 151)
abbrev kp152 (P : Nat) : Nat × Nat := (2, P + 152)
abbrev kp153 (P : Nat) : Nat × Nat := (2, P + 153)
abbrev kp154 (P : Nat) : Nat × Nat := (2, P + 154)
abbrev kp155 (P : Nat) : Nat × Nat := (2, P + 155)
abbrev kp156 (P : Nat) : Nat × Nat := (2, P + 156)
abbrev kp157 (P : Nat) : Nat × Nat := (2, P + 157)
abbrev kp158 (P : Nat) : Nat × Nat := (2, P + 158)
abbrev kp159 (P : Nat) : Nat × Nat := (2, P + 159)
abbrev kp16 (P : Nat) : Nat × Nat := (2, P + 16)
abbrev kp160 (P : Nat) : Nat × Nat := (2, P + 160)
abbrev kp161 (P : Nat) : Nat × Nat := (2, P + 161)
abbrev kp162 (P : Nat) : Nat × Nat := (2, P + 162)
abbrev kp163 (P : Nat) : Nat × Nat := (2, P + 163)
abbrev kp164 (P : Nat) : Nat × Nat := (2, P + 164)
abbrev kp165 (P : Nat) : Nat × Nat := (2, P + 165)
abbrev kp166 (P : Nat) : Nat × Nat := (2, P + 166)
abbrev kp167 (P : Nat) : Nat × Nat := (2, P + 167)
abbrev kp168 (P : Nat) : Nat × Nat := (2, P + 168)
abbrev kp169 (P : Nat) : Nat × Nat := (2, P + 169)
abbrev kp17 (P : Nat) : Nat × Nat := (2, P + 17)
abbrev kp170 (P : Nat) : Nat × Nat := (2, P + 170)
abbrev kp171 (P : Nat) : Nat × Nat := (2, P + 171)
abbrev kp172 (P : Nat) : Nat × Nat := (2, P + 172)
abbrev kp173 (P : Nat) : Nat × Nat := (2, P + 173)
abbrev kp174 (P : Nat) : Nat × Nat := (2, P + 174)
abbrev kp175 (P : Nat) : Nat × Nat := (2, P + 175)
abbrev kp176 (P : Nat) : Nat × Nat := (2, P + 176)
abbrev kp177 (P : Nat) : Nat × Nat := (2, P + 177)
abbrev kp178 (P : Nat) : Nat × Nat := (2, P + 178)
abbrev kp179 (P : Nat) : Nat × Nat := (2, P + 179)
abbrev kp18 (P : Nat) : Nat × Nat := (2, P + 18)
abbrev kp180 (P : Nat) : Nat × Nat := (2, P + 180)
abbrev kp181 (P : Nat) : Nat × Nat := (2, P + 181)
abbrev kp182 (P : Nat) : Nat × Nat := (2, P + 182)
abbrev kp183 (P : Nat) : Nat × Nat := (2, P + 183)
abbrev kp184 (P : Nat) : Nat × Nat := (2, P + 184)
abbrev kp185 (P : Nat) : Nat × Nat := (2, P + 185)
abbrev kp186 (P : Nat) : Nat × Nat := (2, P + 186)
abbrev kp187 (P : Nat) : Nat × Nat := (2, P + 187)
abbrev kp188 (P : Nat) : Nat × Nat := (2, P + 188)
abbrev kp189 (P : Nat) : Nat × Nat := (2, P + 189)
abbrev kp19 (P : Nat) : Nat × Nat := (2, P + 19)
abbrev kp190 (P : Nat) : Nat × Nat := (2, P + 190)
abbrev kp191 (P : Nat) : Nat × Nat := (2, P + 191)
abbrev kp192 (P : Nat) : Nat × Nat := (2, P + 192)
abbrev kp193 (P : Nat) : Nat × Nat := (2, P + 193)
abbrev kp194 (P : Nat) : Nat × Nat := (2, P + 194)
abbrev kp195 (P : Nat) : Nat × Nat := (2, P + 195)
abbrev kp196 (P : Nat) : Nat × Nat := (2, P + 196)
abbrev kp197 (P : Nat) : Nat × Nat := (2, P + 197)
abbrev kp198 (P : Nat) : Nat × Nat := (2, P + 198)
abbrev kp199 (P : Nat) : Nat × Nat := (2, P + 199)
abbrev kp2 (P : Nat) : Nat × Nat := (2, P + 2)
abbrev kp20 (P : Nat) : Nat × Nat := (2, P + 20)
abbrev kp21 (P : Nat) : Nat × Nat := (2, P + 21)
abbrev kp22 (P : Nat) : Nat × Nat := (2, P + 22)
abbrev kp23 (P : Nat) : Nat × Nat := (2, P + 23)
abbrev kp24 (P : Nat) : Nat × Nat := (2, P + 24)
abbrev kp25 (P : Nat) : Nat × Nat := (2, P + 25)
abbrev kp26 (P : Nat) : Nat × Nat := (2, P + 26)
abbrev kp27 (P : Nat) : Nat × Nat := (2, P + 27)
abbrev kp28 (P : Nat) : Nat × Nat := (2, P + 28)
abbrev kp29 (P : Nat) : Nat × Nat := (2, P + 29)
abbrev kp3 (P : Nat) : Nat × Nat := (2, P + 3)
abbrev kp30 (P : Nat) : Nat × Nat := (2, P + 30)
abbrev kp31 (P : Nat) : Nat × Nat := (2, P + 31)
abbrev kp32 (P : Nat) : Nat × Nat := (2, P + 32)
abbrev kp33 (P : Nat) : Nat × Nat := (2, P + 33)
abbrev kp34 (P : Nat) : Nat × Nat := (2, P + 34)
abbrev kp35 (P : Nat) : Nat × Nat := (2, P + 35)
abbrev kp36 (P : Nat) : Nat × Nat := (2, P + 36)
abbrev kp37 (P : Nat) : Nat × Nat := (2, P + 37)
abbrev kp38 (P : Nat) : Nat × Nat := (2, P + 38)
abbrev kp39 (P : Nat) : Nat × Nat := (2, P + 39)
abbrev kp4 (P : Nat) : Nat × Nat := (2, P + 4)
abbrev kp40 (P : Nat) : Nat × Nat := (2, P + 40)
abbrev kp41 (P : Nat) : Nat × Nat := (2, P + 41)
abbrev kp42 (P : Nat) : Nat × Nat := (2, P + 42)
abbrev kp43 (P : Nat) : Nat × Nat := (2, P + 43)
abbrev kp44 (P : Nat) : Nat × Nat := (2, P + 44)
abbrev kp45 (P : Nat) : Nat × Nat := (2, P + 45)
abbrev kp46 (P : Nat) : Nat × Nat := (2, P + 46)
abbrev kp47 (P : Nat) : Nat × Nat := (2, P + 47)
abbrev kp48 (P : Nat) : Nat × Nat := (2, P + 48)
abbrev kp49 (P : Nat) : Nat × Nat := (2, P + 49)
abbrev kp5 (P : Nat) : Nat × Nat := (2, P + 5)
abbrev kp50 (P : Nat) : Nat × Nat := (2, P + 50)
abbrev kp51 (P : Nat) : Nat × Nat := (2, P + 51)
abbrev kp52 (P : Nat) : Nat × Nat := (2, P + 52)
abbrev kp53 (P : Nat) : Nat × Nat := (2, P + 53)
abbrev kp54 (P : Nat) : Nat × Nat := (2, P + 54)
abbrev kp55 (P : Nat) : Nat × Nat := (2, P + 55)
abbrev kp56 (P : Nat) : Nat × Nat := (2, P + 56)
abbrev kp57 (P : Nat) : Nat × Nat := (2, P + 57)
abbrev kp58 (P : Nat) : Nat × Nat := (2, P + 58)
abbrev kp59 (P : Nat) : Nat × Nat := (2, P + 59)
abbrev kp6 (P : Nat) : Nat × Nat := (2, P + 6)
abbrev kp60 (P : Nat) : Nat × Nat := (2, P + 60)
abbrev kp61 (P : Nat) : Nat × Nat := (2, P + 61)
abbrev kp62 (P : Nat) : Nat × Nat := (2, P + 62)
abbrev kp63 (P : Nat) : Nat × Nat := (2, P + 63)
abbrev kp64 (P : Nat) : Nat × Nat := (2, P + 64)
abbrev kp65 (P : Nat) : Nat × Nat := (2, P + 65)
abbrev kp66 (P : Nat) : Nat × Nat := (2, P + 66)
abbrev kp67 (P : Nat) : Nat × Nat := (2, P + 67)
abbrev kp68 (P : Nat) : Nat × Nat := (2, P + 68)
abbrev kp69 (P : Nat) : Nat × Nat := (2, P + 69)
abbrev kp7 (P : Nat) : Nat × Nat := (2, P + 7)
abbrev kp70 (P : Nat) : Nat × Nat := (2, P + 70)
abbrev kp71 (P : Nat) : Nat × Nat := (2, P + 71)
abbrev kp72 (P : Nat) : Nat × Nat := (2, P + 72)
abbrev kp73 (P : Nat) : Nat × Nat := (2, P + 73)
abbrev kp74 (P : Nat) : Nat × Nat := (2, P + 74)
abbrev kp75 (P : Nat) : Nat × Nat := (2, P + 75)
abbrev kp76 (P : Nat) : Nat × Nat := (2, P + 76)
abbrev kp77 (P : Nat) : Nat × Nat := (2, P + 77)
abbrev kp78 (P : Nat) : Nat × Nat := (2, P + 78)
abbrev kp79 (P : Nat) : Nat × Nat := (2, P + 79)
abbrev kp8 (P : Nat) : Nat × Nat := (2, P + 8)
abbrev kp80 (P : Nat) : Nat × Nat := (2, P + 80)
abbrev kp81 (P : Nat) : Nat × Nat := (2, P + 81)
abbrev kp82 (P : Nat) : Nat × Nat := (2, P + 82)
abbrev kp83 (P : Nat) : Nat × Nat := (2, P + 83)
abbrev kp84 (P : Nat) : Nat × Nat := (2, P + 84)
abbrev kp85 (P : Nat) : Nat × Nat := (2, P + 85)
abbrev kp86 (P : Nat) : Nat × Nat := (2, P + 86)
abbrev kp87 (P : Nat) : Nat × Nat := (2, P + 87)
abbrev kp88 (P : Nat) : Nat × Nat := (2, P + 88)
abbrev kp89 (P : Nat) : Nat × Nat := (2, P + 89)
abbrev kp9 (P : Nat) : Nat × Nat := (2, P + 9)
abbrev kp90 (P : Nat) : Nat × Nat := (2, P + 90)
abbrev kp91 (P : Nat) : Nat × Nat := (2, P + 91)
abbrev kp92 (P : Nat) : Nat × Nat := (2, P + 92)
abbrev kp93 (P : Nat) : Nat × Nat := (2, P + 93)
abbrev kp94 (P : Nat) : Nat × Nat := (2, P + 94)
abbrev kp95 (P : Nat) : Nat × Nat := (2, P + 95)
abbrev kp96 (P : Nat) : Nat × Nat := (2, P + 96)
abbrev kp97 (P : Nat) : Nat × Nat := (2, P + 97)
abbrev kp98 (P : Nat) : Nat × Nat := (2, P + 98)
abbrev kp99 (P : Nat) : Nat × Nat := (2, P + 99)
abbrev kq0 : Nat × Nat := (0, 0)
abbrev kq1 : Nat × Nat := (1, 0)
abbrev kq3 : Nat × Nat := (3, 0)
abbrev kd0 (P : Nat) : zC := (0, 4, [kq0, kq0, kq0, kq0, kq0, kq0, kq0, kp1 P, kp2 P, kp3 P, kp4 P, kp5 P, kp6 P, kp7 P])
abbrev kd1 : zC := (0, 4, [kq0, kq0, kq0, kq0, kq0, kq0, kq0, kq3, kq3, kq3, kq3, kq3, kq3, kq3])
abbrev kd10 (P : Nat) : zC := (0, 2, [kq0, kq0, kq0, kq0, kp1 P, kq3, kq3, kq3, kq3, kq3, kq3, kq3, kq3, kq3, kq3, kq3])
abbrev kd100 (P : Nat) : zC := (0, 7, [kq0, kq0, kq0, kq0, kp1 P, kq3, kq3, kq3, kq3, kq3, kq3, kq3, kq3, kq3, kq3, kq3, kq3])
abbrev kd101 (P : Nat) : zC := (0, 7, [kq0, kq0, kq0, kq0, kp1 P, kp2 P, kq3, kq3, kq3, kq3, kq3, kq3, kq3, kq3, kq3, kq3, kq3])
abbrev kd102 (P : Nat) : zC := (0, 7, [kq0, kq0, kq0, kq0, kp1 P, kp2 P, kp3 P, kq3, kq3, kq3, kq3, kq3, kq3, kq3, kq3, kq3, kq3])
abbrev kd103 (P : Nat) : zC := (0, 7, [kq0, kq0, kq0, kq0, kp1 P, kp2 P, kp3 P, kp17 P, kq3, kq3, kq3, kq3, kq3, kq3, kq3, kq3, kq3])
abbrev kd104 (P : Nat) : zC := (0, 7, [kq0, kq0, kq0, kq0, kp1 P, kp2 P, kp3 P, kp17 P, kp25 P, kq3, kq3, kq3, kq3, kq3, kq3, kq3, kq3])
abbrev kd105 (P : Nat) : zC := (0, 7, [kq0, kq0, kq0, kq0, kp1 P, kp2 P, kp3 P, kp17 P, kp25 P, kp91 P, kq3, kq3, kq3, kq3, kq3, kq3, kq3])
abbrev kd106 (P : Nat) : zC := (0, 7, [kq0, kq0, kq0, kq0, kp1 P, kp2 P, kp3 P, kp17 P, kp25 P, kp91 P, kp104 P, kq3, kq3, kq3, kq3, kq3, kq3])
abbrev kd107 (P : Nat) : zC := (0, 7, [kq0, kq0, kq0, kq0, kp1 P, kp2 P, kp3 P, kp17 P, kp25 P, kp91 P, kp104 P, kp112 P, kq3, kq3, kq3, kq3, kq3])
abbrev kd108 (P : Nat) : zC := (0, 7, [kq0, kq0, kq0, kq0, kp1 P, kp2 P, kp3 P, kp17 P, kp25 P, kp91 P, kp104 P, kp112 P, kp125 P, kq3, kq3, kq3, kq3])
abbrev kd109 (P : Nat) : zC := (0, 7, [kq0, kq0, kq0, kq0, kp1 P, kp2 P, kp3 P, kp17 P, kp25 P, kp91 P, kp104 P, kp112 P, kp125 P, kp158 P, kq3, kq3, kq3])
abbrev kd11 (P : Nat) : zC := (0, 2, [kq0, kq0, kq0, kq0, kp1 P, kp2 P, kq3, kq3, kq3, kq3, kq3, kq3, kq3, kq3, kq3, kq3])
abbrev kd110 (P : Nat) : zC := (0, 7, [kq0, kq0, kq0, kq0, kp1 P, kp2 P, kp3 P, kp17 P, kp25 P, kp91 P, kp104 P, kp112 P, kp125 P, kp158 P, kp166 P, kq3, kq3])
abbrev kd111 (P : Nat) : zC := (0, 7, [kq0, kq0, kq0, kq0, kp1 P, kp2 P, kp3 P, kp17 P, kp25 P, kp91 P, kp104 P, kp112 P, kp125 P, kp158 P, kp166 P, kp179 P, kq3])
abbrev kd112 (P : Nat) : zC := (0, 8, [kp1 P, kp2 P, kp3 P, kp4 P, kp5 P, kp6 P, kq0, kq0, kq0, kq0, kp7 P, kq0, kq0, kq0, kq0, kq0, kq0, kq0, kq0, kq0, kq0, kq0, kq0, kq0, kq1, kp8 P, kp9 P, kp10 P, kq0, kq0, kq0, kq0, kq1, kq0, kp11 P, kp12 P, kp13 P, kp14 P, kp15 P, kp16 P, kp17 P, kp18 P, kp19 P, kp20 P, kp21 P, kp22 P, kq1, kp23 P, kp24 P, kp25 P, kp26 P, kp27 P, kp28 P, kp29 P, kq0, kq0, kq0, kq0, kq0, kq1, kq1, kp30 P, kp31 P, kp32 P, kq0])
abbrev kd113 : zC := (0, 8, [kq3, kq3, kq3, kq3, kq3, kq3, kq0, kq0, kq0, kq0, kq3, kq0, kq0, kq0, kq0, kq0, kq0, kq0, kq0, kq0, kq0, kq0, kq0, kq0, kq1, kq3, kq3, kq3, kq0, kq0, kq0, kq0, kq1, kq0, kq3, kq3, kq3, kq3, kq3, kq3, kq3, kq3, kq3, kq3, kq3, kq3, kq1, kq3, kq3, kq3, kq3, kq3, kq3, kq3, kq0, kq0, kq0, kq0, kq0, kq1, kq1, kq3, kq3, kq3, kq0])
abbrev kd114 (P : Nat) : zC := (0, 8, [kp1 P, kq3, kq3, kq3, kq3, kq3, kq0, kq0, kq0, kq0, kq3, kq0, kq0, kq0, kq0, kq0, kq0, kq0, kq0, kq0, kq0, kq0, kq0, kq0, kq1, kq3, kq3, kq3, kq0, kq0, kq0, kq0, kq1, kq0, kq3, kq3, kq3, kq3, kq3, kq3, kq3, kq3, kq3, kq3, kq3, kq3, kq1, kq3, kq3, kq3, kq3, kq3, kq3, kq3, kq0, kq0, kq0, kq0, kq0, kq1, kq1, kq3, kq3, kq3, kq0])
abbrev kd115 (P : Nat) : zC := (0, 8, [kp1 P, kp2 P, kq3, kq3, kq3, kq3, kq0, kq0, kq0, kq0, kq3, kq0, kq0, kq0, kq0, kq0, kq0, kq0, kq0, kq0, kq0, kq0, kq0, kq0, kq1, kq3, kq3, kq3, kq0, kq0, kq0, kq0, kq1, kq0, kq3, kq3, kq3, kq3, kq3, kq3, kq3, kq3, kq3, kq3, kq3, kq3, kq1, kq3, kq3, kq3, kq3, kq3, kq3, kq3, kq0, kq0, kq0, kq0, kq0, kq1, kq1, kq3, kq3, kq3, kq0])
abbrev kd116 (P : Nat) : zC := (0, 8, [kp1 P, kp2 P, kp3 P, kq3, kq3, kq3, kq0, kq0, kq0, kq0, kq3, kq0, kq0, kq0, kq0, kq0, kq0, kq0, kq0, kq0, kq0, kq0, kq0, kq0, kq1, kq3, kq3, kq3, kq0, kq0, kq0, kq0, kq1, kq0, kq3, kq3, kq3, kq3, kq3, kq3, kq3, kq3, kq3, kq3, kq3, kq3, kq1, kq3, kq3, kq3, kq3, kq3, kq3, kq3, kq0, kq0, kq0, kq0, kq0, kq1, kq1, kq3, kq3, kq3, kq0])
abbrev kd117 (P : Nat) : zC := (0, 8, [kp1 P, kp2 P, kp3 P, kp4 P, kq3, kq3, kq0, kq0, kq0, kq0, kq3, kq0, kq0, kq0, kq0, kq0, kq0, kq0, kq0, kq0, kq0, kq0, kq0, kq0, kq1, kq3, kq3, kq3, kq0, kq0, kq0, kq0, kq1, kq0, kq3, kq3, kq3, kq3, kq3, kq3, kq3, kq3, kq3, kq3, kq3, kq3, kq1, kq3, kq3, kq3, kq3, kq3, kq3, kq3, kq0, kq0, kq0, kq0, kq0, kq1, kq1, kq3, kq3, kq3, kq0])
abbrev kd118 (P : Nat) : zC := (0, 8, [kp1 P, kp2 P, kp3 P, kp4 P, kp5 P, kq3, kq0, kq0, kq0, kq0, kq3, kq0, kq0, kq0, kq0, kq0, kq0, kq0, kq0, kq0, kq0, kq0, kq0, kq0, kq1, kq3, kq3, kq3, kq0, kq0, kq0, kq0, kq1, kq0, kq3, kq3, kq3, kq3, kq3, kq3, kq3, kq3, kq3, kq3, kq3, kq3, kq1, kq3, kq3, kq3, kq3, kq3, kq3, kq3, kq0, kq0, kq0, kq0, kq0, kq1, kq1, kq3, kq3, kq3, kq0])
abbrev kd119 (P : Nat) : zC := (0, 8, [kp1 P, kp2 P, kp3 P, kp4 P, kp5 P, kp6 P, kq0, kq0, kq0, kq0, kq3, kq0, kq0, kq0, kq0, kq0, kq0, kq0, kq0, kq0, kq0, kq0, kq0, kq0, kq1, kq3, kq3, kq3, kq0, kq0, kq0, kq0, kq1, kq0, kq3, kq3, kq3, kq3, kq3, kq3, kq3, kq3, kq3, kq3, kq3, kq3, kq1, kq3, kq3, kq3, kq3, kq3, kq3, kq3, kq0, kq0, kq0, kq0, kq0, kq1, kq1, kq3, kq3, kq3, kq0])
abbrev kd12 (P : Nat) : zC := (0, 2, [kq0, kq0, kq0, kq0, kp1 P, kp2 P, kp3 P, kq3, kq3, kq3, kq3, kq3, kq3, kq3, kq3, kq3])
abbrev kd120 (P : Nat) : zC := (0, 8, [kp1 P, kp2 P, kp3 P, kp4 P, kp5 P, kp6 P, kq0, kq0, kq0, kq0, kp7 P, kq0, kq0, kq0, kq0, kq0, kq0, kq0, kq0, kq0, kq0, kq0, kq0, kq0, kq1, kq3, kq3, kq3, kq0, kq0, kq0, kq0, kq1, kq0, kq3, kq3, kq3, kq3, kq3, kq3, kq3, kq3, kq3, kq3, kq3, kq3, kq1, kq3, kq3, kq3, kq3, kq3, kq3, kq3, kq0, kq0, kq0, kq0, kq0, kq1, kq1, kq3, kq3, kq3, kq0])
abbrev kd121 (P : Nat) : zC := (0, 8, [kp1 P, kp2 P, kp3 P, kp4 P, kp5 P, kp6 P, kq0, kq0, kq0, kq0, kp7 P, kq0, kq0, kq0, kq0, kq0, kq0, kq0, kq0, kq0, kq0, kq0, kq0, kq0, kq1, kp8 P, kq3, kq3, kq0, kq0, kq0, kq0, kq1, kq0, kq3, kq3, kq3, kq3, kq3, kq3, kq3, kq3, kq3, kq3, kq3, kq3, kq1, kq3, kq3, kq3, kq3, kq3, kq3, kq3, kq0, kq0, kq0, kq0, kq0, kq1, kq1, kq3, kq3, kq3, kq0])
abbrev kd122 (P : Nat) : zC := (0, 8, [kp1 P, kp2 P, kp3 P, kp4 P, kp5 P, kp6 P, kq0, kq0, kq0, kq0, kp7 P, kq0, kq0, kq0, kq0, kq0, kq0, kq0, kq0, kq0, kq0, kq0, kq0, kq0, kq1, kp8 P, kp9 P, kq3, kq0, kq0, kq0, kq0, kq1, kq0, kq3, kq3, kq3, kq3, kq3, kq3, kq3, kq3, kq3, kq3, kq3, kq3, kq1, kq3, kq3, kq3, kq3, kq3, kq3, kq3, kq0, kq0, kq0, kq0, kq0, kq1, kq1, kq3, kq3, kq3, kq0])
abbrev kd123 (P : Nat) : zC := (0, 8, [kp1 P, kp2 P, kp3 P, kp4 P, kp5 P, kp6 P, kq0, kq0, kq0, kq0, kp7 P, kq0, kq0, kq0, kq0, kq0, kq0, kq0, kq0, kq0, kq0, kq0, kq0, kq0, kq1, kp8 P, kp9 P, kp10 P, kq0, kq0, kq0, kq0, kq1, kq0, kq3, kq3, kq3, kq3, kq3, kq3, kq3, kq3, kq3, kq3, kq3, kq3, kq1, kq3, kq3, kq3, kq3, kq3, kq3, kq3, kq0, kq0, kq0, kq0, kq0, kq1, kq1, kq3, kq3, kq3, kq0])
abbrev kd124 (P : Nat) : zC := (0, 8, [kp1 P, kp2 P, kp3 P, kp4 P, kp5 P, kp6 P, kq0, kq0, kq0, kq0, kp7 P, kq0, kq0, kq0, kq0, kq0, kq0, kq0, kq0, kq0, kq0, kq0, kq0, kq0, kq1, kp8 P, kp9 P, kp10 P, kq0, kq0, kq0, kq0, kq1, kq0, kp11 P, kq3, kq3, kq3, kq3, kq3, kq3, kq3, kq3, kq3, kq3, kq3, kq1, kq3, kq3, kq3, kq3, kq3, kq3, kq3, kq0, kq0, kq0, kq0, kq0, kq1, kq1, kq3, kq3, kq3, kq0])
abbrev kd125 (P : Nat) : zC := (0, 8, [kp1 P, kp2 P, kp3 P, kp4 P, kp5 P, kp6 P, kq0, kq0, kq0, kq0, kp7 P, kq0, kq0, kq0, kq0, kq0, kq0, kq0, kq0, kq0, kq0, kq0, kq0, kq0, kq1, kp8 P, kp9 P, kp10 P, kq0, kq0, kq0, kq0, kq1, kq0, kp11 P, kp12 P, kq3, kq3, kq3, kq3, kq3, kq3, kq3, kq3, kq3, kq3, kq1, kq3, kq3, kq3, kq3, kq3, kq3, kq3, kq0, kq0, kq0, kq0, kq0, kq1, kq1, kq3, kq3, kq3, kq0])
abbrev kd126 (P : Nat) : zC := (0, 8, [kp1 P, kp2 P, kp3 P, kp4 P, kp5 P, kp6 P, kq0, kq0, kq0, kq0, kp7 P, kq0, kq0, kq0, kq0, kq0, kq0, kq0, kq0, kq0, kq0, kq0, kq0, kq0, kq1, kp8 P, kp9 P, kp10 P, kq0, kq0, kq0, kq0, kq1, kq0, kp11 P, kp12 P, kp13 P, kq3, kq3, kq3, kq3, kq3, kq3, kq3, kq3, kq3, kq1, kq3, kq3, kq3, kq3, kq3, kq3, kq3, kq0, kq0, kq0, kq0, kq0, kq1, kq1, kq3, kq3, kq3, kq0])
abbrev kd127 (P : Nat) : zC := (0, 8, [kp1 P, kp2 P, kp3 P, kp4 P, kp5 P, kp6 P, kq0, kq0, kq0, kq0, kp7 P, kq0, kq0, kq0, kq0, kq0, kq0, kq0, kq0, kq0, kq0, kq0, kq0, kq0, kq1, kp8 P, kp9 P, kp10 P, kq0, kq0, kq0, kq0, kq1, kq0, kp11 P, kp12 P, kp13 P, kp14 P, kq3, kq3, kq3, kq3, kq3, kq3, kq3, kq3, kq1, kq3, kq3, kq3, kq3, kq3, kq3, kq3, kq0, kq0, kq0, kq0, kq0, kq1, kq1, kq3, kq3, kq3, kq0])
abbrev kd128 (P : Nat) : zC := (0, 8, [kp1 P, kp2 P, kp3 P, kp4 P, kp5 P, kp6 P, kq0, kq0, kq0, kq0, kp7 P, kq0, kq0, kq0, kq0, kq0, kq0, kq0, kq0, kq0, kq0, kq0, kq0, kq0, kq1, kp8 P, kp9 P, kp10 P, kq0, kq0, kq0, kq0, kq1, kq0, kp11 P, kp12 P, kp13 P, kp14 P, kp15 P, kq3, kq3, kq3, kq3, kq3, kq3, kq3, kq1, kq3, kq3, kq3, kq3, kq3, kq3, kq3, kq0, kq0, kq0, kq0, kq0, kq1, kq1, kq3, kq3, kq3, kq0])
abbrev kd129 (P : Nat) : zC := (0, 8, [kp1 P, kp2 P, kp3 P, kp4 P, kp5 P, kp6 P, kq0, kq0, kq0, kq0, kp7 P, kq0, kq0, kq0, kq0, kq0, kq0, kq0, kq0, kq0, kq0, kq0, kq0, kq0, kq1, kp8 P, kp9 P, kp10 P, kq0, kq0, kq0, kq0, kq1, kq0, kp11 P, kp12 P, kp13 P, kp14 P, kp15 P, kp16 P, kq3, kq3, kq3, kq3, kq3, kq3, kq1, kq3, kq3, kq3, kq3, kq3, kq3, kq3, kq0, kq0, kq0, kq0, kq0, kq1, kq1, kq3, kq3, kq3, kq0])
abbrev kd13 (P : Nat) : zC := (0, 2, [kq0, kq0, kq0, kq0, kp1 P, kp2 P, kp3 P, kp4 P, kq3, kq3, kq3, kq3, kq3, kq3, kq3, kq3])
abbrev kd130 (P : Nat) : zC := (0, 8, [kp1 P, kp2 P, kp3 P, kp4 P, kp5 P, kp6 P, kq0, kq0, kq0, kq0, kp7 P, kq0, kq0, kq0, kq0, kq0, kq0, kq0, kq0, kq0, kq0, kq0, kq0, kq0, kq1, kp8 P, kp9 P, kp10 P, kq0, kq0, kq0, kq0, kq1, kq0, kp11 P, kp12 P, kp13 P, kp14 P, kp15 P, kp16 P, kp17 P, kq3, kq3, kq3, kq3, kq3, kq1, kq3, kq3, kq3, kq3, kq3, kq3, kq3, kq0, kq0, kq0, kq0, kq0, kq1, kq1, kq3, kq3, kq3, kq0])
abbrev kd131 (P : Nat) : zC := (0, 8, [kp1 P, kp2 P, kp3 P, kp4 P, kp5 P, kp6 P, kq0, kq0, kq0, kq0, kp7 P, kq0, kq0, kq0, kq0, kq0, kq0, kq0, kq0, kq0, kq0, kq0, kq0, kq0, kq1, kp8 P, kp9 P, kp10 P, kq0, kq0, kq0, kq0, kq1, kq0, kp11 P, kp12 P, kp13 P, kp14 P, kp15 P, kp16 P, kp17 P, kp18 P, kq3, kq3, kq3, kq3, kq1, kq3, kq3, kq3, kq3, kq3, kq3, kq3, kq0, kq0, kq0, kq0, kq0, kq1, kq1, kq3, kq3, kq3, kq0])
abbrev kd132 (P : Nat) : zC := (0, 8, [kp1 P, kp2 P, kp3 P, kp4 P, kp5 P, kp6 P, kq0, kq0, kq0, kq0, kp7 P, kq0, kq0, kq0, kq0, kq0, kq0, kq0, kq0, kq0, kq0, kq0, kq0, kq0, kq1, kp8 P, kp9 P, kp10 P, kq0, kq0, kq0, kq0, kq1, kq0, kp11 P, kp12 P, kp13 P, kp14 P, kp15 P, kp16 P, kp17 P, kp18 P, kp19 P, kq3, kq3, kq3, kq1, kq3, kq3, kq3, kq3, kq3, kq3, kq3, kq0, kq0, kq0, kq0, kq0, kq1, kq1, kq3, kq3, kq3, kq0])
abbrev kd133 (P : Nat) : zC := (0, 8, [kp1 P, kp2 P, kp3 P, kp4 P, kp5 P, kp6 P, kq0, kq0, kq0, kq0, kp7 P, kq0, kq0, kq0, kq0, kq0, kq0, kq0, kq0, kq0, kq0, kq0, kq0, kq0, kq1, kp8 P, kp9 P, kp10 P, kq0, kq0, kq0, kq0, kq1, kq0, kp11 P, kp12 P, kp13 P, kp14 P, kp15 P, kp16 P, kp17 P, kp18 P, kp19 P, kp20 P, kq3, kq3, kq1, kq3, kq3, kq3, kq3, kq3, kq3, kq3, kq0, kq0, kq0, kq0, kq0, kq1, kq1, kq3, kq3, kq3, kq0])
abbrev kd134 (P : Nat) : zC := (0, 8, [kp1 P, kp2 P, kp3 P, kp4 P, kp5 P, kp6 P, kq0, kq0, kq0, kq0, kp7 P, kq0, kq0, kq0, kq0, kq0, kq0, kq0, kq0, kq0, kq0, kq0, kq0, kq0, kq1, kp8 P, kp9 P, kp10 P, kq0, kq0, kq0, kq0, kq1, kq0, kp11 P, kp12 P, kp13 P, kp14 P, kp15 P, kp16 P, kp17 P, kp18 P, kp19 P, kp20 P, kp21 P, kq3, kq1, kq3, kq3, kq3, kq3, kq3, kq3, kq3, kq0, kq0, kq0, kq0, kq0, kq1, kq1, kq3, kq3, kq3, kq0])
abbrev kd135 (P : Nat) : zC := (0, 8, [kp1 P, kp2 P, kp3 P, kp4 P, kp5 P, kp6 P, kq0, kq0, kq0, kq0, kp7 P, kq0, kq0, kq0, kq0, kq0, kq0, kq0, kq0, kq0, kq0, kq0, kq0, kq0, kq1, kp8 P, kp9 P, kp10 P, kq0, kq0, kq0, kq0, kq1, kq0, kp11 P, kp12 P, kp13 P, kp14 P, kp15 P, kp16 P, kp17 P, kp18 P, kp19 P, kp20 P, kp21 P, kp22 P, kq1, kq3, kq3, kq3, kq3, kq3, kq3, kq3, kq0, kq0, kq0, kq0, kq0, kq1, kq1, kq3, kq3, kq3, kq0])
abbrev kd136 (P : Nat) : zC := (0, 8, [kp1 P, kp2 P, kp3 P, kp4 P, kp5 P, kp6 P, kq0, kq0, kq0, kq0, kp7 P, kq0, kq0, kq0, kq0, kq0, kq0, kq0, kq0, kq0, kq0, kq0, kq0, kq0, kq1, kp8 P, kp9 P, kp10 P, kq0, kq0, kq0, kq0, kq1, kq0, kp11 P, kp12 P, kp13 P, kp14 P, kp15 P, kp16 P, kp17 P, kp18 P, kp19 P, kp20 P, kp21 P, kp22 P, kq1, kp23 P, kq3, kq3, kq3, kq3, kq3, kq3, kq0, kq0, kq0, kq0, kq0, kq1, kq1, kq3, kq3, kq3, kq0])
abbrev kd137 (P : Nat) : zC := (0, 8, [kp1 P, kp2 P, kp3 P, kp4 P, kp5 P, kp6 P, kq0, kq0, kq0, kq0, kp7 P, kq0, kq0, kq0, kq0, kq0, kq0, kq0, kq0, kq0, kq0, kq0, kq0, kq0, kq1, kp8 P, kp9 P, kp10 P, kq0, kq0, kq0, kq0, kq1, kq0, kp11 P, kp12 P, kp13 P, kp14 P, kp15 P, kp16 P, kp17 P, kp18 P, kp19 P, kp20 P, kp21 P, kp22 P, kq1, kp23 P, kp24 P, kq3, kq3, kq3, kq3, kq3, kq0, kq0, kq0, kq0, kq0, kq1, kq1, kq3, kq3, kq3, kq0])
abbrev kd138 (P : Nat) : zC := (0, 8, [kp1 P, kp2 P, kp3 P, kp4 P, kp5 P, kp6 P, kq0, kq0, kq0, kq0, kp7 P, kq0, kq0, kq0, kq0, kq0, kq0, kq0, kq0, kq0, kq0, kq0, kq0, kq0, kq1, kp8 P, kp9 P, kp10 P, kq0, kq0, kq0, kq0, kq1, kq0, kp11 P, kp12 P, kp13 P, kp14 P, kp15 P, kp16 P, kp17 P, kp18 P, kp19 P, kp20 P, kp21 P, kp22 P, kq1, kp23 P, kp24 P, kp25 P, kq3, kq3, kq3, kq3, kq0, kq0, kq0, kq0, kq0, kq1, kq1, kq3, kq3, kq3, kq0])
abbrev kd139 (P : Nat) : zC := (0, 8, [kp1 P, kp2 P, kp3 P, kp4 P, kp5 P, kp6 P, kq0, kq0, kq0, kq0, kp7 P, kq0, kq0, kq0, kq0, kq0, kq0, kq0, kq0, kq0, kq0, kq0, kq0, kq0, kq1, kp8 P, kp9 P, kp10 P, kq0, kq0, kq0, kq0, kq1, kq0, kp11 P, kp12 P, kp13 P, kp14 P, kp15 P, kp16 P, kp17 P, kp18 P, kp19 P, kp20 P, kp21 P, kp22 P, kq1, kp23 P, kp24 P, kp25 P, kp26 P, kq3, kq3, kq3, kq0, kq0, kq0, kq0, kq0, kq1, kq1, kq3, kq3, kq3, kq0])
abbrev kd14 (P : Nat) : zC := (0, 2, [kq0, kq0, kq0, kq0, kp1 P, kp2 P, kp3 P, kp4 P, kp5 P, kq3, kq3, kq3, kq3, kq3, kq3, kq3])
abbrev kd140 (P : Nat) : zC := (0, 8, [kp1 P, kp2 P, kp3 P, kp4 P, kp5 P, kp6 P, kq0, kq0, kq0, kq0, kp7 P, kq0, kq0, kq0, kq0, kq0, kq0, kq0, kq0, kq0, kq0, kq0, kq0, kq0, kq1, kp8 P, kp9 P, kp10 P, kq0, kq0, kq0, kq0, kq1, kq0, kp11 P, kp12 P, kp13 P, kp14 P, kp15 P, kp16 P, kp17 P, kp18 P, kp19 P, kp20 P, kp21 P, kp22 P, kq1, kp23 P, kp24 P, kp25 P, kp26 P, kp27 P, kq3, kq3, kq0, kq0, kq0, kq0, kq0, kq1, kq1, kq3, kq3, kq3, kq0])
abbrev kd141 (P : Nat) : zC := (0, 8, [kp1 P, kp2 P, kp3 P, kp4 P, kp5 P, kp6 P, kq0, kq0, kq0, kq0, kp7 P, kq0, kq0, kq0, kq0, kq0, kq0, kq0, kq0, kq0, kq0, kq0, kq0, kq0, kq1, kp8 P, kp9 P, kp10 P, kq0, kq0, kq0, kq0, kq1, kq0, kp11 P, kp12 P, kp13 P, kp14 P, kp15 P, kp16 P, kp17 P, kp18 P, kp19 P, kp20 P, kp21 P, kp22 P, kq1, kp23 P, kp24 P, kp25 P, kp26 P, kp27 P, kp28 P, kq3, kq0, kq0, kq0, kq0, kq0, kq1, kq1, kq3, kq3, kq3, kq0])
abbrev kd142 (P : Nat) : zC := (0, 8, [kp1 P, kp2 P, kp3 P, kp4 P, kp5 P, kp6 P, kq0, kq0, kq0, kq0, kp7 P, kq0, kq0, kq0, kq0, kq0, kq0, kq0, kq0, kq0, kq0, kq0, kq0, kq0, kq1, kp8 P, kp9 P, kp10 P, kq0, kq0, kq0, kq0, kq1, kq0, kp11 P, kp12 P, kp13 P, kp14 P, kp15 P, kp16 P, kp17 P, kp18 P, kp19 P, kp20 P, kp21 P, kp22 P, kq1, kp23 P, kp24 P, kp25 P, kp26 P, kp27 P, kp28 P, kp29 P, kq0, kq0, kq0, kq0, kq0, kq1, kq1, kq3, kq3, kq3, kq0])
abbrev kd143 (P : Nat) : zC := (0, 8, [kp1 P, kp2 P, kp3 P, kp4 P, kp5 P, kp6 P, kq0, kq0, kq0, kq0, kp7 P, kq0, kq0, kq0, kq0, kq0, kq0, kq0, kq0, kq0, kq0, kq0, kq0, kq0, kq1, kp8 P, kp9 P, kp10 P, kq0, kq0, kq0, kq0, kq1, kq0, kp11 P, kp12 P, kp13 P, kp14 P, kp15 P, kp16 P, kp17 P, kp18 P, kp19 P, kp20 P, kp21 P, kp22 P, kq1, kp23 P, kp24 P, kp25 P, kp26 P, kp27 P, kp28 P, kp29 P, kq0, kq0, kq0, kq0, kq0, kq1, kq1, kp30 P, kq3, kq3, kq0])
abbrev kd144 (P : Nat) : zC := (0, 8, [kp1 P, kp2 P, kp3 P, kp4 P, kp5 P, kp6 P, kq0, kq0, kq0, kq0, kp7 P, kq0, kq0, kq0, kq0, kq0, kq0, kq0, kq0, kq0, kq0, kq0, kq0, kq0, kq1, kp8 P, kp9 P, kp10 P, kq0, kq0, kq0, kq0, kq1, kq0, kp11 P, kp12 P, kp13 P, kp14 P, kp15 P, kp16 P, kp17 P, kp18 P, kp19 P, kp20 P, kp21 P, kp22 P, kq1, kp23 P, kp24 P, kp25 P, kp26 P, kp27 P, kp28 P, kp29 P, kq0, kq0, kq0, kq0, kq0, kq1, kq1, kp30 P, kp31 P, kq3, kq0])
abbrev kd15 (P : Nat) : zC := (0, 2, [kq0, kq0, kq0, kq0, kp1 P, kp2 P, kp3 P, kp4 P, kp5 P, kp6 P, kq3, kq3, kq3, kq3, kq3, kq3])
abbrev kd16 (P : Nat) : zC := (0, 2, [kq0, kq0, kq0, kq0, kp1 P, kp2 P, kp3 P, kp4 P, kp5 P, kp6 P, kp7 P, kq3, kq3, kq3, kq3, kq3])
abbrev kd17 (P : Nat) : zC := (0, 2, [kq0, kq0, kq0, kq0, kp1 P, kp2 P, kp3 P, kp4 P, kp5 P, kp6 P, kp7 P, kp8 P, kq3, kq3, kq3, kq3])
abbrev kd18 (P : Nat) : zC := (0, 2, [kq0, kq0, kq0, kq0, kp1 P, kp2 P, kp3 P, kp4 P, kp5 P, kp6 P, kp7 P, kp8 P, kp9 P, kq3, kq3, kq3])
abbrev kd19 (P : Nat) : zC := (0, 2, [kq0, kq0, kq0, kq0, kp1 P, kp2 P, kp3 P, kp4 P, kp5 P, kp6 P, kp7 P, kp8 P, kp9 P, kp10 P, kq3, kq3])
abbrev kd2 (P : Nat) : zC := (0, 4, [kq0, kq0, kq0, kq0, kq0, kq0, kq0, kp1 P, kq3, kq3, kq3, kq3, kq3, kq3])
abbrev kd20 (P : Nat) : zC := (0, 2, [kq0, kq0, kq0, kq0, kp1 P, kp2 P, kp3 P, kp4 P, kp5 P, kp6 P, kp7 P, kp8 P, kp9 P, kp10 P, kp11 P, kq3])
abbrev kd21 (P : Nat) : zC := (0, 5, [kp1 P, kp2 P, kp3 P, kp4 P, kp5 P, kp6 P, kp7 P])
abbrev kd22 : zC := (0, 5, [kq3, kq3, kq3, kq3, kq3, kq3, kq3])
abbrev kd23 (P : Nat) : zC := (0, 5, [kp1 P, kq3, kq3, kq3, kq3, kq3, kq3])
abbrev kd24 (P : Nat) : zC := (0, 5, [kp1 P, kp2 P, kq3, kq3, kq3, kq3, kq3])
abbrev kd25 (P : Nat) : zC := (0, 5, [kp1 P, kp2 P, kp3 P, kq3, kq3, kq3, kq3])
abbrev kd26 (P : Nat) : zC := (0, 5, [kp1 P, kp2 P, kp3 P, kp4 P, kq3, kq3, kq3])
abbrev kd27 (P : Nat) : zC := (0, 5, [kp1 P, kp2 P, kp3 P, kp4 P, kp5 P, kq3, kq3])
abbrev kd28 (P : Nat) : zC := (0, 5, [kp1 P, kp2 P, kp3 P, kp4 P, kp5 P, kp6 P, kq3])
abbrev kd29 (P : Nat) : zC := (0, 0, [kp1 P, kp2 P, kp3 P, kp4 P, kp5 P])
abbrev kd3 (P : Nat) : zC := (0, 4, [kq0, kq0, kq0, kq0, kq0, kq0, kq0, kp1 P, kp2 P, kq3, kq3, kq3, kq3, kq3])
abbrev kd30 (P : Nat) : zC := (0, 5, [kp6 P, kp7 P, kp8 P, kp9 P, kp10 P, kp11 P, kp12 P])
abbrev kd31 : zC := (0, 0, [kq3, kq3, kq3, kq3, kq3])
abbrev kd32 (P : Nat) : zC := (0, 0, [kp1 P, kq3, kq3, kq3, kq3])
abbrev kd33 (P : Nat) : zC := (0, 0, [kp1 P, kp2 P, kq3, kq3, kq3])
abbrev kd34 (P : Nat) : zC := (0, 0, [kp1 P, kp2 P, kp3 P, kq3, kq3])
abbrev kd35 (P : Nat) : zC := (0, 0, [kp1 P, kp2 P, kp3 P, kp4 P, kq3])
abbrev kd36 (P : Nat) : zC := (0, 6, [kq0, kq0, kp1 P, kp2 P, kp3 P, kp4 P, kp12 P, kp25 P])
abbrev kd37 (P : Nat) : zC := (0, 4, [kq0, kq0, kq0, kq0, kq0, kq0, kq0, kp5 P, kp6 P, kp7 P, kp8 P, kp9 P, kp10 P, kp11 P])
abbrev kd38 (P : Nat) : zC := (0, 2, [kq0, kq0, kq0, kq0, kp13 P, kp14 P, kp15 P, kp16 P, kp17 P, kp18 P, kp19 P, kp20 P, kp21 P, kp22 P, kp23 P, kp24 P])
abbrev kd39 (P : Nat) : zC := (0, 5, [kp26 P, kp27 P, kp28 P, kp29 P, kp30 P, kp31 P, kp32 P])
abbrev kd4 (P : Nat) : zC := (0, 4, [kq0, kq0, kq0, kq0, kq0, kq0, kq0, kp1 P, kp2 P, kp3 P, kq3, kq3, kq3, kq3])
abbrev kd40 : zC := (0, 6, [kq0, kq0, kq3, kq3, kq3, kq3, kq3, kq3])
abbrev kd41 (P : Nat) : zC := (0, 6, [kq0, kq0, kp1 P, kq3, kq3, kq3, kq3, kq3])
abbrev kd42 (P : Nat) : zC := (0, 6, [kq0, kq0, kp1 P, kp2 P, kq3, kq3, kq3, kq3])
abbrev kd43 (P : Nat) : zC := (0, 6, [kq0, kq0, kp1 P, kp2 P, kp3 P, kq3, kq3, kq3])
abbrev kd44 (P : Nat) : zC := (0, 6, [kq0, kq0, kp1 P, kp2 P, kp3 P, kp4 P, kq3, kq3])
abbrev kd45 (P : Nat) : zC := (0, 6, [kq0, kq0, kp1 P, kp2 P, kp3 P, kp4 P, kp12 P, kq3])
abbrev kd46 (P : Nat) : zC := (0, 3, [kp1 P, kq0, kq0, kp9 P, kq0, kq0, kq0, kq0, kq1, kq0, kq1, kq0, kq0, kq0, kp10 P, kp11 P, kp12 P, kp13 P])
abbrev kd47 (P : Nat) : zC := (0, 4, [kq0, kq0, kq0, kq0, kq0, kq0, kq0, kp2 P, kp3 P, kp4 P, kp5 P, kp6 P, kp7 P, kp8 P])
abbrev kd48 : zC := (0, 3, [kq3, kq0, kq0, kq3, kq0, kq0, kq0, kq0, kq1, kq0, kq1, kq0, kq0, kq0, kq3, kq3, kq3, kq3])
abbrev kd49 (P : Nat) : zC := (0, 3, [kp1 P, kq0, kq0, kq3, kq0, kq0, kq0, kq0, kq1, kq0, kq1, kq0, kq0, kq0, kq3, kq3, kq3, kq3])
abbrev kd5 (P : Nat) : zC := (0, 4, [kq0, kq0, kq0, kq0, kq0, kq0, kq0, kp1 P, kp2 P, kp3 P, kp4 P, kq3, kq3, kq3])
abbrev kd50 (P : Nat) : zC := (0, 3, [kp1 P, kq0, kq0, kp9 P, kq0, kq0, kq0, kq0, kq1, kq0, kq1, kq0, kq0, kq0, kq3, kq3, kq3, kq3])
abbrev kd51 (P : Nat) : zC := (0, 3, [kp1 P, kq0, kq0, kp9 P, kq0, kq0, kq0, kq0, kq1, kq0, kq1, kq0, kq0, kq0, kp10 P, kq3, kq3, kq3])
abbrev kd52 (P : Nat) : zC := (0, 3, [kp1 P, kq0, kq0, kp9 P, kq0, kq0, kq0, kq0, kq1, kq0, kq1, kq0, kq0, kq0, kp10 P, kp11 P, kq3, kq3])
abbrev kd53 (P : Nat) : zC := (0, 3, [kp1 P, kq0, kq0, kp9 P, kq0, kq0, kq0, kq0, kq1, kq0, kq1, kq0, kq0, kq0, kp10 P, kp11 P, kp12 P, kq3])
abbrev kd54 (P : Nat) : zC := (0, 1, [kq0, kq0, kp1 P])
abbrev kd55 (P : Nat) : zC := (4, 8, [kp2 P, kp10 P, kp18 P, kp26 P, kp34 P, kp42 P, kp50 P, kp58 P])
abbrev kd56 (P : Nat) : zC := (0, 4, [kq0, kq0, kq0, kq0, kq0, kq0, kq0, kp3 P, kp4 P, kp5 P, kp6 P, kp7 P, kp8 P, kp9 P])
abbrev kd57 (P : Nat) : zC := (0, 4, [kq0, kq0, kq0, kq0, kq0, kq0, kq0, kp11 P, kp12 P, kp13 P, kp14 P, kp15 P, kp16 P, kp17 P])
abbrev kd58 (P : Nat) : zC := (0, 4, [kq0, kq0, kq0, kq0, kq0, kq0, kq0, kp19 P, kp20 P, kp21 P, kp22 P, kp23 P, kp24 P, kp25 P])
abbrev kd59 (P : Nat) : zC := (0, 4, [kq0, kq0, kq0, kq0, kq0, kq0, kq0, kp27 P, kp28 P, kp29 P, kp30 P, kp31 P, kp32 P, kp33 P])
abbrev kd6 (P : Nat) : zC := (0, 4, [kq0, kq0, kq0, kq0, kq0, kq0, kq0, kp1 P, kp2 P, kp3 P, kp4 P, kp5 P, kq3, kq3])
abbrev kd60 (P : Nat) : zC := (0, 4, [kq0, kq0, kq0, kq0, kq0, kq0, kq0, kp35 P, kp36 P, kp37 P, kp38 P, kp39 P, kp40 P, kp41 P])
abbrev kd61 (P : Nat) : zC := (0, 4, [kq0, kq0, kq0, kq0, kq0, kq0, kq0, kp43 P, kp44 P, kp45 P, kp46 P, kp47 P, kp48 P, kp49 P])
abbrev kd62 (P : Nat) : zC := (0, 4, [kq0, kq0, kq0, kq0, kq0, kq0, kq0, kp51 P, kp52 P, kp53 P, kp54 P, kp55 P, kp56 P, kp57 P])
abbrev kd63 (P : Nat) : zC := (0, 4, [kq0, kq0, kq0, kq0, kq0, kq0, kq0, kp59 P, kp60 P, kp61 P, kp62 P, kp63 P, kp64 P, kp65 P])
abbrev kd64 : zC := (0, 1, [kq0, kq0, kq3])
abbrev kd65 : zC := (4, 8, [kq3, kq3, kq3, kq3, kq3, kq3, kq3, kq3])
abbrev kd66 (P : Nat) : zC := (4, 8, [kp2 P, kq3, kq3, kq3, kq3, kq3, kq3, kq3])
abbrev kd67 (P : Nat) : zC := (4, 8, [kp2 P, kp10 P, kq3, kq3, kq3, kq3, kq3, kq3])
abbrev kd68 (P : Nat) : zC := (4, 8, [kp2 P, kp10 P, kp18 P, kq3, kq3, kq3, kq3, kq3])
abbrev kd69 (P : Nat) : zC := (4, 8, [kp2 P, kp10 P, kp18 P, kp26 P, kq3, kq3, kq3, kq3])
abbrev kd7 (P : Nat) : zC := (0, 4, [kq0, kq0, kq0, kq0, kq0, kq0, kq0, kp1 P, kp2 P, kp3 P, kp4 P, kp5 P, kp6 P, kq3])
abbrev kd70 (P : Nat) : zC := (4, 8, [kp2 P, kp10 P, kp18 P, kp26 P, kp34 P, kq3, kq3, kq3])
abbrev kd71 (P : Nat) : zC := (4, 8, [kp2 P, kp10 P, kp18 P, kp26 P, kp34 P, kp42 P, kq3, kq3])
abbrev kd72 (P : Nat) : zC := (4, 8, [kp2 P, kp10 P, kp18 P, kp26 P, kp34 P, kp42 P, kp50 P, kq3])
abbrev kd73 (P : Nat) : zC := (0, 7, [kq0, kq0, kq0, kq0, kp1 P, kp2 P, kp3 P, kp17 P, kp25 P, kp91 P, kp104 P, kp112 P, kp125 P, kp158 P, kp166 P, kp179 P, kp187 P])
abbrev kd74 (P : Nat) : zC := (0, 3, [kp4 P, kq0, kq0, kp12 P, kq0, kq0, kq0, kq0, kq1, kq0, kq1, kq0, kq0, kq0, kp13 P, kp14 P, kp15 P, kp16 P])
abbrev kd75 (P : Nat) : zC := (0, 4, [kq0, kq0, kq0, kq0, kq0, kq0, kq0, kp18 P, kp19 P, kp20 P, kp21 P, kp22 P, kp23 P, kp24 P])
abbrev kd76 (P : Nat) : zC := (0, 1, [kq0, kq0, kp26 P])
abbrev kd77 (P : Nat) : zC := (4, 8, [kp27 P, kp35 P, kp43 P, kp51 P, kp59 P, kp67 P, kp75 P, kp83 P])
abbrev kd78 (P : Nat) : zC := (0, 4, [kq0, kq0, kq0, kq0, kq0, kq0, kq0, kp28 P, kp29 P, kp30 P, kp31 P, kp32 P, kp33 P, kp34 P])
abbrev kd79 (P : Nat) : zC := (0, 4, [kq0, kq0, kq0, kq0, kq0, kq0, kq0, kp36 P, kp37 P, kp38 P, kp39 P, kp40 P, kp41 P, kp42 P])
abbrev kd8 (P : Nat) : zC := (0, 2, [kq0, kq0, kq0, kq0, kp1 P, kp2 P, kp3 P, kp4 P, kp5 P, kp6 P, kp7 P, kp8 P, kp9 P, kp10 P, kp11 P, kp12 P])
abbrev kd80 (P : Nat) : zC := (0, 4, [kq0, kq0, kq0, kq0, kq0, kq0, kq0, kp44 P, kp45 P, kp46 P, kp47 P, kp48 P, kp49 P, kp50 P])
abbrev kd81 (P : Nat) : zC := (0, 4, [kq0, kq0, kq0, kq0, kq0, kq0, kq0, kp52 P, kp53 P, kp54 P, kp55 P, kp56 P, kp57 P, kp58 P])
abbrev kd82 (P : Nat) : zC := (0, 4, [kq0, kq0, kq0, kq0, kq0, kq0, kq0, kp60 P, kp61 P, kp62 P, kp63 P, kp64 P, kp65 P, kp66 P])
abbrev kd83 (P : Nat) : zC := (0, 4, [kq0, kq0, kq0, kq0, kq0, kq0, kq0, kp68 P, kp69 P, kp70 P, kp71 P, kp72 P, kp73 P, kp74 P])
abbrev kd84 (P : Nat) : zC := (0, 4, [kq0, kq0, kq0, kq0, kq0, kq0, kq0, kp76 P, kp77 P, kp78 P, kp79 P, kp80 P, kp81 P, kp82 P])
abbrev kd85 (P : Nat) : zC := (0, 4, [kq0, kq0, kq0, kq0, kq0, kq0, kq0, kp84 P, kp85 P, kp86 P, kp87 P, kp88 P, kp89 P, kp90 P])
abbrev kd86 (P : Nat) : zC := (0, 2, [kq0, kq0, kq0, kq0, kp92 P, kp93 P, kp94 P, kp95 P, kp96 P, kp97 P, kp98 P, kp99 P, kp100 P, kp101 P, kp102 P, kp103 P])
abbrev kd87 (P : Nat) : zC := (0, 5, [kp105 P, kp106 P, kp107 P, kp108 P, kp109 P, kp110 P, kp111 P])
abbrev kd88 (P : Nat) : zC := (0, 0, [kp113 P, kp114 P, kp115 P, kp116 P, kp117 P])
abbrev kd89 (P : Nat) : zC := (0, 5, [kp118 P, kp119 P, kp120 P, kp121 P, kp122 P, kp123 P, kp124 P])
abbrev kd9 : zC := (0, 2, [kq0, kq0, kq0, kq0, kq3, kq3, kq3, kq3, kq3, kq3, kq3, kq3, kq3, kq3, kq3, kq3])
abbrev kd90 (P : Nat) : zC := (0, 6, [kq0, kq0, kp126 P, kp127 P, kp128 P, kp129 P, kp137 P, kp150 P])
abbrev kd91 (P : Nat) : zC := (0, 4, [kq0, kq0, kq0, kq0, kq0, kq0, kq0, kp130 P, kp131 P, kp132 P, kp133 P, kp134 P, kp135 P, kp136 P])
abbrev kd92 (P : Nat) : zC := (0, 2, [kq0, kq0, kq0, kq0, kp138 P, kp139 P, kp140 P, kp141 P, kp142 P, kp143 P, kp144 P, kp145 P, kp146 P, kp147 P, kp148 P, kp149 P])
abbrev kd93 (P : Nat) : zC := (0, 5, [kp151 P, kp152 P, kp153 P, kp154 P, kp155 P, kp156 P, kp157 P])
abbrev kd94 (P : Nat) : zC := (0, 4, [kq0, kq0, kq0, kq0, kq0, kq0, kq0, kp159 P, kp160 P, kp161 P, kp162 P, kp163 P, kp164 P, kp165 P])
abbrev kd95 (P : Nat) : zC := (0, 2, [kq0, kq0, kq0, kq0, kp167 P, kp168 P, kp169 P, kp170 P, kp171 P, kp172 P, kp173 P, kp174 P, kp175 P, kp176 P, kp177 P, kp178 P])
abbrev kd96 (P : Nat) : zC := (0, 5, [kp180 P, kp181 P, kp182 P, kp183 P, kp184 P, kp185 P, kp186 P])
abbrev kd97 (P : Nat) : zC := (0, 0, [kp188 P, kp189 P, kp190 P, kp191 P, kp192 P])
abbrev kd98 (P : Nat) : zC := (0, 5, [kp193 P, kp194 P, kp195 P, kp196 P, kp197 P, kp198 P, kp199 P])
abbrev kd99 : zC := (0, 7, [kq0, kq0, kq0, kq0, kq3, kq3, kq3, kq3, kq3, kq3, kq3, kq3, kq3, kq3, kq3, kq3, kq3])
section
/-! constructors: the world grows at its end: pre ++ Y, Y the new object's own cells so far -/
def zz (a : Nat) (M : Nat → Nat → Int32) (N : Nat → Nat → Int64) : Prop := ∀ k : Nat, a ≤ k → ∀ j : Nat, M k j = 0 ∧ N k j = 0
theorem zz.up {a a2 : Nat} {M : Nat → Nat → Int32} {N : Nat → Nat → Int64} (h : zz a M N) (ha : a ≤ a2) : zz a2 M N := fun k hk => h k (Nat.le_trans ha hk)
theorem zz.zuM {a P k : Nat} {v : Int32} {M : Nat → Nat → Int32} {N : Nat → Nat → Int64} (h : zz a M N) (ha : P < a) : zz a (zu M P k v) N := fun q hq j => ⟨by rw [zu_row (show q ≠ P by omega)]; exact (h q hq j).1, (h q hq j).2⟩
theorem zS1_z {L : List zC} {M : Nat → Nat → Int32} {N : Nat → Nat → Int64} {q : zC} (h : zz L.length M N) : zS1 (L, M, N) q = (L ++ [q], M, N) := by
  have h1 : zn M L.length 0 = M := by
    funext a j
    unfold zn
    by_cases ha : a = L.length
    · rw [if_pos ha, ha, (h L.length (Nat.le_refl _) j).1]
    · rw [if_neg ha]
  have h2 : zn N L.length 0 = N := by
    funext a j
    unfold zn
    by_cases ha : a = L.length
    · rw [if_pos ha, ha, (h L.length (Nat.le_refl _) j).2]
    · rw [if_neg ha]
  show (L ++ [q], zn M L.length 0, zn N L.length 0) = _
  rw [h1, h2]
section ZB
variable {p : Program} {l : Launch} {e : Env} {R : Room} {s : State} {m : MethodId} {args : Array Value} {below : List Frame} {meth : Method} {c : Code} {G : zG} {b : Nat} {Q : State → Prop} {nc ns : Nat}
variable {cc : ByteArray} {pc nL : Nat} {own : String} {ls : List (Option Value)} {st : List Value} {pre Y Y' : List zC} {P : Nat} {M : Nat → Nat → Int32} {N : Nat → Nat → Int64}
theorem b_newarray (X : zOK p s m args meth c G b own cc nL) {at_ : ArrayType} {kd n : Nat} {x : Int32} (k : Nat) (hP : pre.length = P) (hk : Y.length = k) (hp : P + k + 2 < 1000000) (hz : zz (P + k) M N) (hY : Y ++ [(kd, n, [])] = Y') (hkd : (kd = 1 ∧ newarray.typeOf at_ = .int) ∨ (kd = 2 ∧ newarray.typeOf at_ = .boolean) ∨ (kd = 3 ∧ newarray.typeOf at_ = .long)) (hw : Cond.arrayClass (newarray.typeOf at_) ∈ zT) (hx : ¬ x < 0 ∧ x.toNatClampNeg = n ∧ n ≤ 1000) (hroom : nc + 1 ≤ R.cells ∧ ns + n ≤ R.slots) (hd : decode cc pc = .ok (.newarray at_, 2))
    (kk : Zw p l e R s m args below meth c G b nL Q (nc + 1) (ns + n) (pc + 2) ls (.ref (P + k) :: st) (pre ++ Y', M, N)) : Zw p l e R s m args below meth c G b nL Q nc ns pc ls (.int x :: st) (pre ++ Y, M, N) := by
  have hl : (pre ++ Y).length = P + k := by rw [List.length_append, hP, hk]
  refine a_newarray X hkd hw hx (by show (pre ++ Y).length + 1 < _; omega) hroom hd ?_
  show Zw p l e R s m args below meth c G b nL Q (nc + 1) (ns + n) (pc + 2) ls (.ref (pre ++ Y).length :: st) (zS1 (pre ++ Y, M, N) (kd, n, []))
  rw [zS1_z (by rw [hl]; exact hz), hl, List.append_assoc, hY]
  exact kk
theorem b_anewarray (X : zOK p s m args meth c G b own cc nL) {idx n : Nat} {x : Int32} (k : Nat) (hP : pre.length = P) (hk : Y.length = k) (hp : P + k + 2 < 1000000) (hz : zz (P + k) M N) (hY : Y ++ [(4, n, List.replicate n kq3)] = Y') (hlink : Cond.classLink own idx RX4 ∈ zT) (hx : ¬ x < 0 ∧ x.toNatClampNeg = n ∧ n ≤ 1000) (hroom : nc + 1 ≤ R.cells ∧ ns + n ≤ R.slots) (hd : decode cc pc = .ok (.anewarray idx, 3))
    (kk : Zw p l e R s m args below meth c G b nL Q (nc + 1) (ns + n) (pc + 3) ls (.ref (P + k) :: st) (pre ++ Y', M, N)) : Zw p l e R s m args below meth c G b nL Q nc ns pc ls (.int x :: st) (pre ++ Y, M, N) := by
  have hl : (pre ++ Y).length = P + k := by rw [List.length_append, hP, hk]
  refine a_anewarray X hlink hx (by show (pre ++ Y).length + 1 < _; omega) hroom hd ?_
  show Zw p l e R s m args below meth c G b nL Q (nc + 1) (ns + n) (pc + 3) ls (.ref (pre ++ Y).length :: st) (zS1 (pre ++ Y, M, N) (4, n, List.replicate n kq3))
  rw [zS1_z (by rw [hl]; exact hz), hl, List.append_assoc, hY]
  exact kk
theorem b_new (X : zOK p s m args meth c G b own cc nL) {idx ci n : Nat} {C : String} {T : u_T} {t0 : Nat → FieldType} (k : Nat) (fs : List (Nat × Nat)) (hP : pre.length = P) (hk : Y.length = k) (hp : P + k + 2 < 1000000) (hz : zz (P + k) M N) (hC : zCl ci C T n t0) (hlink : Cond.classLink own idx C ∈ zT) (hinst : Cond.instantiable C n ∈ zT) (hini : Cond.initialized C ∈ zT)
    (hfs : fs.length = n ∧ (∀ f ∈ fs, f.1 ≠ 2) ∧ ∀ j, j < n → defaultValue (t0 j) = zdv (fs.getD j kq3)) (hroom : nc + 1 ≤ R.cells ∧ ns + n ≤ R.slots) (hd : decode cc pc = .ok (.new idx, 3))
    (kk : Zw p l e R s m args below meth c G b nL Q (nc + 1) (ns + n) (pc + 3) ls (.ref (P + k) :: st) ((pre ++ Y) ++ [(0, ci, fs)], M, N)) : Zw p l e R s m args below meth c G b nL Q nc ns pc ls st (pre ++ Y, M, N) := by
  have hl : (pre ++ Y).length = P + k := by rw [List.length_append, hP, hk]
  refine a_new X fs hC hlink hinst hini hfs (by show (pre ++ Y).length + 1 < _; omega) hroom hd ?_
  show Zw p l e R s m args below meth c G b nL Q (nc + 1) (ns + n) (pc + 3) ls (.ref (pre ++ Y).length :: st) (zS1 (pre ++ Y, M, N) (0, ci, fs))
  rw [zS1_z (by rw [hl]; exact hz), hl]
  exact kk
theorem b_putr (X : zOK p s m args meth c G b own cc nL) (hP : pre.length = P) {idx ci k z : Nat} {ty : FieldType} {fs : List (Nat × Nat)} (hname : meth.name = "<init>") (hf : zFf own idx ci k ty) (hty2 : ∀ a, narrow ty (.ref a) = .ref a ∧ fits ty (.ref a) = true) (hz : z < 1000000) (hq : Y[0]? = some (0, ci, fs)) (hk : k < fs.length) (hY : Y.set 0 (0, ci, fs.set k (2, z)) = Y') (hd : decode cc pc = .ok (.putfield idx, 3))
    (kk : Zw p l e R s m args below meth c G b nL Q nc ns (pc + 3) ls st (pre ++ Y', M, N)) : Zw p l e R s m args below meth c G b nL Q nc ns pc ls (.ref z :: .ref P :: st) (pre ++ Y, M, N) := by
  subst hP
  refine a_putr X (P := pre.length) hname hz hf hty2 (fs := fs) ?_ hk hd ?_
  · show (pre ++ Y)[pre.length]? = _
    rw [List.getElem?_append_right (Nat.le_refl _), Nat.sub_self]
    exact hq
  · show Zw p l e R s m args below meth c G b nL Q nc ns (pc + 3) ls st ((pre ++ Y).set pre.length (0, ci, fs.set k (2, z)), M, N)
    rw [List.set_append_right _ _ (Nat.le_refl _), Nat.sub_self, hY]
    exact kk
theorem b_obj {k ci : Nat} {fs : List (Nat × Nat)} (hP : pre.length = P) (hk : Y.length = k) : ((pre ++ Y) ++ [(0, ci, fs)])[P + k]? = some (0, ci, fs) := by
  have hl : (pre ++ Y).length = P + k := by rw [List.length_append, hP, hk]
  rw [← hl]
  simp
theorem b_invI (X : zOK p s m args meth c G b own cc nL) {idx d mc ms ci nM : Nat} {y : MethodName} {cy : ByteArray} {blk : Nat → List zC} {fs : List (Nat × Nat)} {T : u_T} {N' : Nat} {M' : Nat → Nat → Int32} {N2 : Nat → Nat → Int64} (k : Nat) (hP : pre.length = P) (hk : Y.length = k) (hd : decode cc pc = .ok (.invokespecial idx, 3)) (hM : zMi y cy nM none 0) (hLk : zLi own idx y) (hci : vwCl[ci]? = some (y.cls, T, N'))
    (hZ : zM l G b y cy nM none d mc ms [.ref (P + k)] ((pre ++ Y) ++ [(0, ci, fs)], M, N) (fun r z => r = none ∧ z = ((pre ++ Y) ++ blk (P + k), M', N2))) (hY : Y ++ blk (P + k) = Y') (hw : (st.map fun v => v.category).sum ≤ 8) (hroom : d + 1 ≤ R.frames ∧ 8 + (nM + 11) + 80 * d ≤ R.locals ∧ nc + mc ≤ R.cells ∧ ns + ms ≤ R.slots)
    (kk : Zw p l e R s m args below meth c G b nL Q (nc + mc) (ns + ms) (pc + 3) ls st (pre ++ Y', M', N2)) : Zw p l e R s m args below meth c G b nL Q nc ns pc ls (.ref (P + k) :: st) ((pre ++ Y) ++ [(0, ci, fs)], M, N) := by
  refine a_invI X hM hLk (b_obj hP hk) hci rfl rfl hw hroom hd hZ (fun r z h => ?_)
  obtain ⟨rfl, rfl⟩ := h
  rw [List.append_assoc, hY]
  exact kk
theorem b_invIN (X : zOK p s m args meth c G b own cc nL) {idx d mc ms ci nM : Nat} {y : MethodName} {cy : ByteArray} {blk : Nat → List zC} {fs : List (Nat × Nat)} {T : u_T} {N' : Nat} {M' : Nat → Nat → Int32} {N2 : Nat → Nat → Int64} (k : Nat) (hP : pre.length = P) (hk : Y.length = k) (hd : decode cc pc = .ok (.invokespecial idx, 3)) (hM : zMi y cy nM none 0) (hLk : zLin own idx y) (hci : vwCl[ci]? = some (y.cls, T, N'))
    (hZ : zM l G b y cy nM none d mc ms [.ref (P + k)] ((pre ++ Y) ++ [(0, ci, fs)], M, N) (fun r z => r = none ∧ z = ((pre ++ Y) ++ blk (P + k), M', N2))) (hY : Y ++ blk (P + k) = Y') (hw : (st.map fun v => v.category).sum ≤ 8) (hroom : d + 1 ≤ R.frames ∧ 8 + (nM + 11) + 80 * d ≤ R.locals ∧ nc + mc ≤ R.cells ∧ ns + ms ≤ R.slots)
    (kk : Zw p l e R s m args below meth c G b nL Q (nc + mc) (ns + ms) (pc + 3) ls st (pre ++ Y', M', N2)) : Zw p l e R s m args below meth c G b nL Q nc ns pc ls (.ref (P + k) :: st) ((pre ++ Y) ++ [(0, ci, fs)], M, N) := by
  refine a_invIN X hM hLk (b_obj hP hk) hci rfl rfl hw hroom hd hZ (fun r z h => ?_)
  obtain ⟨rfl, rfl⟩ := h
  rw [List.append_assoc, hY]
  exact kk
end ZB

def blk4 (P : Nat) : List zC := [kd0 P, kc1_5, kc1_10, kc1_10, kc1_10, kc1_10, kc1_30, kc1_10]
set_option maxRecDepth 100000 in
theorem k_X4 {l : Launch} {G : zG} {b : Nat} {pre : List zC} {P : Nat} {M : Nat → Nat → Int32} {N : Nat → Nat → Int64} (hP : pre.length = P) (hp : P + 100 < 1000000) (hz : zz (P + 1) M N) : zM l G b yX4_init cX4_init 1 none 1 7 85 [.ref P] (pre ++ [kd1], M, N) (fun r z => r = none ∧ z = (pre ++ blk4 P, M, N)) := by
  refine zM.of miX4_init (Nat.le_of_ble_eq_true rfl) ?_
  intro p e s m args below meth c X hr hname
  generalize hF : ((fun r z => r = none ∧ z = (pre ++ blk4 P, M, N)) : Option Value → zS → Prop) = F
  change Zw p l e { frames := 1, cells := 7, slots := 85, locals := 80 * 1 } s m args below meth c G b 1 (MQ below (zQ G b F) args s 7 85 (fun q : Nat => b ≤ q)) 0 0 0 [some (.ref P)] [] (pre ++ [kd1], M, N)
  refine a_aload_n X dX4_init_0 rfl ?_
  refine a_objinit X lm4_3 (by decide) dX4_init_1 ?_
  refine a_aload_n X dX4_init_4 rfl ?_
  refine a_iconst (v := 5) X dX4_init_5 (by decide) ?_
  refine b_newarray (at_ := .int) (Y' := [kd1, kc1_5]) X 1 hP rfl (by omega) ((hz).up (by omega)) rfl (Or.inl ⟨rfl, rfl⟩) zarrI ⟨by decide, rfl, by decide⟩ ⟨by decide, by decide⟩ dX4_init_6 ?_
  refine b_putr (Y' := [kd2 P, kc1_5]) X hP hname lff4_9 (fun _ => ⟨rfl, rfl⟩) (by omega) rfl (Nat.le_of_ble_eq_true rfl) rfl dX4_init_8 ?_
  refine a_aload_n X dX4_init_11 rfl ?_
  refine a_bipush (v := 10) X dX4_init_12 (by decide) ?_
  refine b_newarray (at_ := .int) (Y' := [kd2 P, kc1_5, kc1_10]) X 2 hP rfl (by omega) ((hz).up (by omega)) rfl (Or.inl ⟨rfl, rfl⟩) zarrI ⟨by decide, rfl, by decide⟩ ⟨by decide, by decide⟩ dX4_init_14 ?_
  refine b_putr (Y' := [kd3 P, kc1_5, kc1_10]) X hP hname lff4_15 (fun _ => ⟨rfl, rfl⟩) (by omega) rfl (Nat.le_of_ble_eq_true rfl) rfl dX4_init_16 ?_
  refine a_aload_n X dX4_init_19 rfl ?_
  refine a_bipush (v := 10) X dX4_init_20 (by decide) ?_
  refine b_newarray (at_ := .int) (Y' := [kd3 P, kc1_5, kc1_10, kc1_10]) X 3 hP rfl (by omega) ((hz).up (by omega)) rfl (Or.inl ⟨rfl, rfl⟩) zarrI ⟨by decide, rfl, by decide⟩ ⟨by decide, by decide⟩ dX4_init_22 ?_
  refine b_putr (Y' := [kd4 P, kc1_5, kc1_10, kc1_10]) X hP hname lff4_18 (fun _ => ⟨rfl, rfl⟩) (by omega) rfl (Nat.le_of_ble_eq_true rfl) rfl dX4_init_24 ?_
  refine a_aload_n X dX4_init_27 rfl ?_
  refine a_bipush (v := 10) X dX4_init_28 (by decide) ?_
  refine b_newarray (at_ := .int) (Y' := [kd4 P, kc1_5, kc1_10, kc1_10, kc1_10]) X 4 hP rfl (by omega) ((hz).up (by omega)) rfl (Or.inl ⟨rfl, rfl⟩) zarrI ⟨by decide, rfl, by decide⟩ ⟨by decide, by decide⟩ dX4_init_30 ?_
  refine b_putr (Y' := [kd5 P, kc1_5, kc1_10, kc1_10, kc1_10]) X hP hname lff4_21 (fun _ => ⟨rfl, rfl⟩) (by omega) rfl (Nat.le_of_ble_eq_true rfl) rfl dX4_init_32 ?_
  refine a_aload_n X dX4_init_35 rfl ?_
  refine a_bipush (v := 10) X dX4_init_36 (by decide) ?_
  refine b_newarray (at_ := .int) (Y' := [kd5 P, kc1_5, kc1_10, kc1_10, kc1_10, kc1_10]) X 5 hP rfl (by omega) ((hz).up (by omega)) rfl (Or.inl ⟨rfl, rfl⟩) zarrI ⟨by decide, rfl, by decide⟩ ⟨by decide, by decide⟩ dX4_init_38 ?_
  refine b_putr (Y' := [kd6 P, kc1_5, kc1_10, kc1_10, kc1_10, kc1_10]) X hP hname lff4_24 (fun _ => ⟨rfl, rfl⟩) (by omega) rfl (Nat.le_of_ble_eq_true rfl) rfl dX4_init_40 ?_
  refine a_aload_n X dX4_init_43 rfl ?_
  refine a_bipush (v := 30) X dX4_init_44 (by decide) ?_
  refine b_newarray (at_ := .int) (Y' := [kd6 P, kc1_5, kc1_10, kc1_10, kc1_10, kc1_10, kc1_30]) X 6 hP rfl (by omega) ((hz).up (by omega)) rfl (Or.inl ⟨rfl, rfl⟩) zarrI ⟨by decide, rfl, by decide⟩ ⟨by decide, by decide⟩ dX4_init_46 ?_
  refine b_putr (Y' := [kd7 P, kc1_5, kc1_10, kc1_10, kc1_10, kc1_10, kc1_30]) X hP hname lff4_27 (fun _ => ⟨rfl, rfl⟩) (by omega) rfl (Nat.le_of_ble_eq_true rfl) rfl dX4_init_48 ?_
  refine a_aload_n X dX4_init_51 rfl ?_
  refine a_bipush (v := 10) X dX4_init_52 (by decide) ?_
  refine b_newarray (at_ := .int) (Y' := [kd7 P, kc1_5, kc1_10, kc1_10, kc1_10, kc1_10, kc1_30, kc1_10]) X 7 hP rfl (by omega) ((hz).up (by omega)) rfl (Or.inl ⟨rfl, rfl⟩) zarrI ⟨by decide, rfl, by decide⟩ ⟨by decide, by decide⟩ dX4_init_54 ?_
  refine b_putr (Y' := [kd0 P, kc1_5, kc1_10, kc1_10, kc1_10, kc1_10, kc1_30, kc1_10]) X hP hname lff4_30 (fun _ => ⟨rfl, rfl⟩) (by omega) rfl (Nat.le_of_ble_eq_true rfl) rfl dX4_init_56 ?_
  refine a_vret X hr dX4_init_59 ⟨by decide, by decide⟩ ?_
  subst hF
  exact ⟨rfl, rfl⟩
def blk2 (P : Nat) : List zC := [kd8 P, kc1_5, kc1_5, kc1_5, kc1_10, kc1_10, kc1_10, kc1_10, kc1_10, kc1_10, kc1_10, kc1_10, kc1_30]
set_option maxRecDepth 100000 in
theorem k_X2 {l : Launch} {G : zG} {b : Nat} {pre : List zC} {P : Nat} {M : Nat → Nat → Int32} {N : Nat → Nat → Int64} (hP : pre.length = P) (hp : P + 100 < 1000000) (hz : zz (P + 1) M N) : zM l G b yX2_init cX2_init 1 none 1 12 125 [.ref P] (pre ++ [kd9], M, N) (fun r z => r = none ∧ z = (pre ++ blk2 P, M, N)) := by
  refine zM.of miX2_init (Nat.le_of_ble_eq_true rfl) ?_
  intro p e s m args below meth c X hr hname
  generalize hF : ((fun r z => r = none ∧ z = (pre ++ blk2 P, M, N)) : Option Value → zS → Prop) = F
  change Zw p l e { frames := 1, cells := 12, slots := 125, locals := 80 * 1 } s m args below meth c G b 1 (MQ below (zQ G b F) args s 12 125 (fun q : Nat => b ≤ q)) 0 0 0 [some (.ref P)] [] (pre ++ [kd9], M, N)
  refine a_aload_n X dX2_init_0 rfl ?_
  refine a_objinit X lm2_3 (by decide) dX2_init_1 ?_
  refine a_aload_n X dX2_init_4 rfl ?_
  refine a_iconst (v := 5) X dX2_init_5 (by decide) ?_
  refine b_newarray (at_ := .int) (Y' := [kd9, kc1_5]) X 1 hP rfl (by omega) ((hz).up (by omega)) rfl (Or.inl ⟨rfl, rfl⟩) zarrI ⟨by decide, rfl, by decide⟩ ⟨by decide, by decide⟩ dX2_init_6 ?_
  refine b_putr (Y' := [kd10 P, kc1_5]) X hP hname lff2_9 (fun _ => ⟨rfl, rfl⟩) (by omega) rfl (Nat.le_of_ble_eq_true rfl) rfl dX2_init_8 ?_
  refine a_aload_n X dX2_init_11 rfl ?_
  refine a_iconst (v := 5) X dX2_init_12 (by decide) ?_
  refine b_newarray (at_ := .int) (Y' := [kd10 P, kc1_5, kc1_5]) X 2 hP rfl (by omega) ((hz).up (by omega)) rfl (Or.inl ⟨rfl, rfl⟩) zarrI ⟨by decide, rfl, by decide⟩ ⟨by decide, by decide⟩ dX2_init_13 ?_
  refine b_putr (Y' := [kd11 P, kc1_5, kc1_5]) X hP hname lff2_15 (fun _ => ⟨rfl, rfl⟩) (by omega) rfl (Nat.le_of_ble_eq_true rfl) rfl dX2_init_15 ?_
  refine a_aload_n X dX2_init_18 rfl ?_
  refine a_iconst (v := 5) X dX2_init_19 (by decide) ?_
  refine b_newarray (at_ := .int) (Y' := [kd11 P, kc1_5, kc1_5, kc1_5]) X 3 hP rfl (by omega) ((hz).up (by omega)) rfl (Or.inl ⟨rfl, rfl⟩) zarrI ⟨by decide, rfl, by decide⟩ ⟨by decide, by decide⟩ dX2_init_20 ?_
  refine b_putr (Y' := [kd12 P, kc1_5, kc1_5, kc1_5]) X hP hname lff2_18 (fun _ => ⟨rfl, rfl⟩) (by omega) rfl (Nat.le_of_ble_eq_true rfl) rfl dX2_init_22 ?_
  refine a_aload_n X dX2_init_25 rfl ?_
  refine a_bipush (v := 10) X dX2_init_26 (by decide) ?_
  refine b_newarray (at_ := .int) (Y' := [kd12 P, kc1_5, kc1_5, kc1_5, kc1_10]) X 4 hP rfl (by omega) ((hz).up (by omega)) rfl (Or.inl ⟨rfl, rfl⟩) zarrI ⟨by decide, rfl, by decide⟩ ⟨by decide, by decide⟩ dX2_init_28 ?_
  refine b_putr (Y' := [kd13 P, kc1_5, kc1_5, kc1_5, kc1_10]) X hP hname lff2_21 (fun _ => ⟨rfl, rfl⟩) (by omega) rfl (Nat.le_of_ble_eq_true rfl) rfl dX2_init_30 ?_
  refine a_aload_n X dX2_init_33 rfl ?_
  refine a_bipush (v := 10) X dX2_init_34 (by decide) ?_
  refine b_newarray (at_ := .int) (Y' := [kd13 P, kc1_5, kc1_5, kc1_5, kc1_10, kc1_10]) X 5 hP rfl (by omega) ((hz).up (by omega)) rfl (Or.inl ⟨rfl, rfl⟩) zarrI ⟨by decide, rfl, by decide⟩ ⟨by decide, by decide⟩ dX2_init_36 ?_
  refine b_putr (Y' := [kd14 P, kc1_5, kc1_5, kc1_5, kc1_10, kc1_10]) X hP hname lff2_24 (fun _ => ⟨rfl, rfl⟩) (by omega) rfl (Nat.le_of_ble_eq_true rfl) rfl dX2_init_38 ?_
  refine a_aload_n X dX2_init_41 rfl ?_
  refine a_bipush (v := 10) X dX2_init_42 (by decide) ?_
  refine b_newarray (at_ := .int) (Y' := [kd14 P, kc1_5, kc1_5, kc1_5, kc1_10, kc1_10, kc1_10]) X 6 hP rfl (by omega) ((hz).up (by omega)) rfl (Or.inl ⟨rfl, rfl⟩) zarrI ⟨by decide, rfl, by decide⟩ ⟨by decide, by decide⟩ dX2_init_44 ?_
  refine b_putr (Y' := [kd15 P, kc1_5, kc1_5, kc1_5, kc1_10, kc1_10, kc1_10]) X hP hname lff2_27 (fun _ => ⟨rfl, rfl⟩) (by omega) rfl (Nat.le_of_ble_eq_true rfl) rfl dX2_init_46 ?_
  refine a_aload_n X dX2_init_49 rfl ?_
  refine a_bipush (v := 10) X dX2_init_50 (by decide) ?_
  refine b_newarray (at_ := .int) (Y' := [kd15 P, kc1_5, kc1_5, kc1_5, kc1_10, kc1_10, kc1_10, kc1_10]) X 7 hP rfl (by omega) ((hz).up (by omega)) rfl (Or.inl ⟨rfl, rfl⟩) zarrI ⟨by decide, rfl, by decide⟩ ⟨by decide, by decide⟩ dX2_init_52 ?_
  refine b_putr (Y' := [kd16 P, kc1_5, kc1_5, kc1_5, kc1_10, kc1_10, kc1_10, kc1_10]) X hP hname lff2_30 (fun _ => ⟨rfl, rfl⟩) (by omega) rfl (Nat.le_of_ble_eq_true rfl) rfl dX2_init_54 ?_
  refine a_aload_n X dX2_init_57 rfl ?_
  refine a_bipush (v := 10) X dX2_init_58 (by decide) ?_
  refine b_newarray (at_ := .int) (Y' := [kd16 P, kc1_5, kc1_5, kc1_5, kc1_10, kc1_10, kc1_10, kc1_10, kc1_10]) X 8 hP rfl (by omega) ((hz).up (by omega)) rfl (Or.inl ⟨rfl, rfl⟩) zarrI ⟨by decide, rfl, by decide⟩ ⟨by decide, by decide⟩ dX2_init_60 ?_
  refine b_putr (Y' := [kd17 P, kc1_5, kc1_5, kc1_5, kc1_10, kc1_10, kc1_10, kc1_10, kc1_10]) X hP hname lff2_33 (fun _ => ⟨rfl, rfl⟩) (by omega) rfl (Nat.le_of_ble_eq_true rfl) rfl dX2_init_62 ?_
  refine a_aload_n X dX2_init_65 rfl ?_
  refine a_bipush (v := 10) X dX2_init_66 (by decide) ?_
  refine b_newarray (at_ := .int) (Y' := [kd17 P, kc1_5, kc1_5, kc1_5, kc1_10, kc1_10, kc1_10, kc1_10, kc1_10, kc1_10]) X 9 hP rfl (by omega) ((hz).up (by omega)) rfl (Or.inl ⟨rfl, rfl⟩) zarrI ⟨by decide, rfl, by decide⟩ ⟨by decide, by decide⟩ dX2_init_68 ?_
  refine b_putr (Y' := [kd18 P, kc1_5, kc1_5, kc1_5, kc1_10, kc1_10, kc1_10, kc1_10, kc1_10, kc1_10]) X hP hname lff2_36 (fun _ => ⟨rfl, rfl⟩) (by omega) rfl (Nat.le_of_ble_eq_true rfl) rfl dX2_init_70 ?_
  refine a_aload_n X dX2_init_73 rfl ?_
  refine a_bipush (v := 10) X dX2_init_74 (by decide) ?_
  refine b_newarray (at_ := .int) (Y' := [kd18 P, kc1_5, kc1_5, kc1_5, kc1_10, kc1_10, kc1_10, kc1_10, kc1_10, kc1_10, kc1_10]) X 10 hP rfl (by omega) ((hz).up (by omega)) rfl (Or.inl ⟨rfl, rfl⟩) zarrI ⟨by decide, rfl, by decide⟩ ⟨by decide, by decide⟩ dX2_init_76 ?_
  refine b_putr (Y' := [kd19 P, kc1_5, kc1_5, kc1_5, kc1_10, kc1_10, kc1_10, kc1_10, kc1_10, kc1_10, kc1_10]) X hP hname lff2_39 (fun _ => ⟨rfl, rfl⟩) (by omega) rfl (Nat.le_of_ble_eq_true rfl) rfl dX2_init_78 ?_
  refine a_aload_n X dX2_init_81 rfl ?_
  refine a_bipush (v := 10) X dX2_init_82 (by decide) ?_
  refine b_newarray (at_ := .int) (Y' := [kd19 P, kc1_5, kc1_5, kc1_5, kc1_10, kc1_10, kc1_10, kc1_10, kc1_10, kc1_10, kc1_10, kc1_10]) X 11 hP rfl (by omega) ((hz).up (by omega)) rfl (Or.inl ⟨rfl, rfl⟩) zarrI ⟨by decide, rfl, by decide⟩ ⟨by decide, by decide⟩ dX2_init_84 ?_
  refine b_putr (Y' := [kd20 P, kc1_5, kc1_5, kc1_5, kc1_10, kc1_10, kc1_10, kc1_10, kc1_10, kc1_10, kc1_10, kc1_10]) X hP hname lff2_42 (fun _ => ⟨rfl, rfl⟩) (by omega) rfl (Nat.le_of_ble_eq_true rfl) rfl dX2_init_86 ?_
  refine a_aload_n X dX2_init_89 rfl ?_
  refine a_bipush (v := 30) X dX2_init_90 (by decide) ?_
  refine b_newarray (at_ := .int) (Y' := [kd20 P, kc1_5, kc1_5, kc1_5, kc1_10, kc1_10, kc1_10, kc1_10, kc1_10, kc1_10, kc1_10, kc1_10, kc1_30]) X 12 hP rfl (by omega) ((hz).up (by omega)) rfl (Or.inl ⟨rfl, rfl⟩) zarrI ⟨by decide, rfl, by decide⟩ ⟨by decide, by decide⟩ dX2_init_92 ?_
  refine b_putr (Y' := [kd8 P, kc1_5, kc1_5, kc1_5, kc1_10, kc1_10, kc1_10, kc1_10, kc1_10, kc1_10, kc1_10, kc1_10, kc1_30]) X hP hname lff2_45 (fun _ => ⟨rfl, rfl⟩) (by omega) rfl (Nat.le_of_ble_eq_true rfl) rfl dX2_init_94 ?_
  refine a_vret X hr dX2_init_97 ⟨by decide, by decide⟩ ?_
  subst hF
  exact ⟨rfl, rfl⟩
def blk5 (P : Nat) : List zC := [kd21 P, kc1_10, kc1_10, kc1_10, kc1_5, kc1_5, kc1_5, kc1_10]
set_option maxRecDepth 100000 in
theorem k_X5 {l : Launch} {G : zG} {b : Nat} {pre : List zC} {P : Nat} {M : Nat → Nat → Int32} {N : Nat → Nat → Int64} (hP : pre.length = P) (hp : P + 100 < 1000000) (hz : zz (P + 1) M N) : zM l G b yX5_init cX5_init 1 none 1 7 55 [.ref P] (pre ++ [kd22], M, N) (fun r z => r = none ∧ z = (pre ++ blk5 P, M, N)) := by
  refine zM.of miX5_init (Nat.le_of_ble_eq_true rfl) ?_
  intro p e s m args below meth c X hr hname
  generalize hF : ((fun r z => r = none ∧ z = (pre ++ blk5 P, M, N)) : Option Value → zS → Prop) = F
  change Zw p l e { frames := 1, cells := 7, slots := 55, locals := 80 * 1 } s m args below meth c G b 1 (MQ below (zQ G b F) args s 7 55 (fun q : Nat => b ≤ q)) 0 0 0 [some (.ref P)] [] (pre ++ [kd22], M, N)
  refine a_aload_n X dX5_init_0 rfl ?_
  refine a_objinit X lm5_3 (by decide) dX5_init_1 ?_
  refine a_aload_n X dX5_init_4 rfl ?_
  refine a_bipush (v := 10) X dX5_init_5 (by decide) ?_
  refine b_newarray (at_ := .int) (Y' := [kd22, kc1_10]) X 1 hP rfl (by omega) ((hz).up (by omega)) rfl (Or.inl ⟨rfl, rfl⟩) zarrI ⟨by decide, rfl, by decide⟩ ⟨by decide, by decide⟩ dX5_init_7 ?_
  refine b_putr (Y' := [kd23 P, kc1_10]) X hP hname lff5_9 (fun _ => ⟨rfl, rfl⟩) (by omega) rfl (Nat.le_of_ble_eq_true rfl) rfl dX5_init_9 ?_
  refine a_aload_n X dX5_init_12 rfl ?_
  refine a_bipush (v := 10) X dX5_init_13 (by decide) ?_
  refine b_newarray (at_ := .int) (Y' := [kd23 P, kc1_10, kc1_10]) X 2 hP rfl (by omega) ((hz).up (by omega)) rfl (Or.inl ⟨rfl, rfl⟩) zarrI ⟨by decide, rfl, by decide⟩ ⟨by decide, by decide⟩ dX5_init_15 ?_
  refine b_putr (Y' := [kd24 P, kc1_10, kc1_10]) X hP hname lff5_15 (fun _ => ⟨rfl, rfl⟩) (by omega) rfl (Nat.le_of_ble_eq_true rfl) rfl dX5_init_17 ?_
  refine a_aload_n X dX5_init_20 rfl ?_
  refine a_bipush (v := 10) X dX5_init_21 (by decide) ?_
  refine b_newarray (at_ := .int) (Y' := [kd24 P, kc1_10, kc1_10, kc1_10]) X 3 hP rfl (by omega) ((hz).up (by omega)) rfl (Or.inl ⟨rfl, rfl⟩) zarrI ⟨by decide, rfl, by decide⟩ ⟨by decide, by decide⟩ dX5_init_23 ?_
  refine b_putr (Y' := [kd25 P, kc1_10, kc1_10, kc1_10]) X hP hname lff5_18 (fun _ => ⟨rfl, rfl⟩) (by omega) rfl (Nat.le_of_ble_eq_true rfl) rfl dX5_init_25 ?_
  refine a_aload_n X dX5_init_28 rfl ?_
  refine a_iconst (v := 5) X dX5_init_29 (by decide) ?_
  refine b_newarray (at_ := .int) (Y' := [kd25 P, kc1_10, kc1_10, kc1_10, kc1_5]) X 4 hP rfl (by omega) ((hz).up (by omega)) rfl (Or.inl ⟨rfl, rfl⟩) zarrI ⟨by decide, rfl, by decide⟩ ⟨by decide, by decide⟩ dX5_init_30 ?_
  refine b_putr (Y' := [kd26 P, kc1_10, kc1_10, kc1_10, kc1_5]) X hP hname lff5_21 (fun _ => ⟨rfl, rfl⟩) (by omega) rfl (Nat.le_of_ble_eq_true rfl) rfl dX5_init_32 ?_
  refine a_aload_n X dX5_init_35 rfl ?_
  refine a_iconst (v := 5) X dX5_init_36 (by decide) ?_
  refine b_newarray (at_ := .int) (Y' := [kd26 P, kc1_10, kc1_10, kc1_10, kc1_5, kc1_5]) X 5 hP rfl (by omega) ((hz).up (by omega)) rfl (Or.inl ⟨rfl, rfl⟩) zarrI ⟨by decide, rfl, by decide⟩ ⟨by decide, by decide⟩ dX5_init_37 ?_
  refine b_putr (Y' := [kd27 P, kc1_10, kc1_10, kc1_10, kc1_5, kc1_5]) X hP hname lff5_24 (fun _ => ⟨rfl, rfl⟩) (by omega) rfl (Nat.le_of_ble_eq_true rfl) rfl dX5_init_39 ?_
  refine a_aload_n X dX5_init_42 rfl ?_
  refine a_iconst (v := 5) X dX5_init_43 (by decide) ?_
  refine b_newarray (at_ := .int) (Y' := [kd27 P, kc1_10, kc1_10, kc1_10, kc1_5, kc1_5, kc1_5]) X 6 hP rfl (by omega) ((hz).up (by omega)) rfl (Or.inl ⟨rfl, rfl⟩) zarrI ⟨by decide, rfl, by decide⟩ ⟨by decide, by decide⟩ dX5_init_44 ?_
  refine b_putr (Y' := [kd28 P, kc1_10, kc1_10, kc1_10, kc1_5, kc1_5, kc1_5]) X hP hname lff5_27 (fun _ => ⟨rfl, rfl⟩) (by omega) rfl (Nat.le_of_ble_eq_true rfl) rfl dX5_init_46 ?_
  refine a_aload_n X dX5_init_49 rfl ?_
  refine a_bipush (v := 10) X dX5_init_50 (by decide) ?_
  refine b_newarray (at_ := .int) (Y' := [kd28 P, kc1_10, kc1_10, kc1_10, kc1_5, kc1_5, kc1_5, kc1_10]) X 7 hP rfl (by omega) ((hz).up (by omega)) rfl (Or.inl ⟨rfl, rfl⟩) zarrI ⟨by decide, rfl, by decide⟩ ⟨by decide, by decide⟩ dX5_init_52 ?_
  refine b_putr (Y' := [kd21 P, kc1_10, kc1_10, kc1_10, kc1_5, kc1_5, kc1_5, kc1_10]) X hP hname lff5_30 (fun _ => ⟨rfl, rfl⟩) (by omega) rfl (Nat.le_of_ble_eq_true rfl) rfl dX5_init_54 ?_
  refine a_vret X hr dX5_init_57 ⟨by decide, by decide⟩ ?_
  subst hF
  exact ⟨rfl, rfl⟩
def blk0 (P : Nat) : List zC := [kd29 P, kc3_128, kc1_128, kc3_35, kc3_7, kd30 P, kc1_10, kc1_10, kc1_10, kc1_5, kc1_5, kc1_5, kc1_10]
set_option maxRecDepth 100000 in
theorem k_X0 {l : Launch} {G : zG} {b : Nat} {pre : List zC} {P : Nat} {M : Nat → Nat → Int32} {N : Nat → Nat → Int64} (hP : pre.length = P) (hp : P + 300 < 1000000) (hz : zz (P + 1) M N) : zM l G b yX0_init cX0_init 1 none 2 12 360 [.ref P] (pre ++ [kd31], M, N) (fun r z => r = none ∧ z = (pre ++ blk0 P, M, N)) := by
  refine zM.of miX0_init (Nat.le_of_ble_eq_true rfl) ?_
  intro p e s m args below meth c X hr hname
  generalize hF : ((fun r z => r = none ∧ z = (pre ++ blk0 P, M, N)) : Option Value → zS → Prop) = F
  change Zw p l e { frames := 2, cells := 12, slots := 360, locals := 80 * 2 } s m args below meth c G b 1 (MQ below (zQ G b F) args s 12 360 (fun q : Nat => b ≤ q)) 0 0 0 [some (.ref P)] [] (pre ++ [kd31], M, N)
  refine a_aload_n X dX0_init_0 rfl ?_
  refine a_objinit X lm0_3 (by decide) dX0_init_1 ?_
  refine a_aload_n X dX0_init_4 rfl ?_
  refine a_sipush (v := 128) X dX0_init_5 (by decide) ?_
  refine b_newarray (at_ := .long) (Y' := [kd31, kc3_128]) X 1 hP rfl (by omega) ((hz).up (by omega)) rfl (Or.inr (Or.inr ⟨rfl, rfl⟩)) zarrJ ⟨by decide, rfl, by decide⟩ ⟨by decide, by decide⟩ dX0_init_8 ?_
  refine b_putr (Y' := [kd32 P, kc3_128]) X hP hname lff0_9 (fun _ => ⟨rfl, rfl⟩) (by omega) rfl (Nat.le_of_ble_eq_true rfl) rfl dX0_init_10 ?_
  refine a_aload_n X dX0_init_13 rfl ?_
  refine a_sipush (v := 128) X dX0_init_14 (by decide) ?_
  refine b_newarray (at_ := .int) (Y' := [kd32 P, kc3_128, kc1_128]) X 2 hP rfl (by omega) ((hz).up (by omega)) rfl (Or.inl ⟨rfl, rfl⟩) zarrI ⟨by decide, rfl, by decide⟩ ⟨by decide, by decide⟩ dX0_init_17 ?_
  refine b_putr (Y' := [kd33 P, kc3_128, kc1_128]) X hP hname lff0_15 (fun _ => ⟨rfl, rfl⟩) (by omega) rfl (Nat.le_of_ble_eq_true rfl) rfl dX0_init_19 ?_
  refine a_aload_n X dX0_init_22 rfl ?_
  refine a_bipush (v := 35) X dX0_init_23 (by decide) ?_
  refine b_newarray (at_ := .long) (Y' := [kd33 P, kc3_128, kc1_128, kc3_35]) X 3 hP rfl (by omega) ((hz).up (by omega)) rfl (Or.inr (Or.inr ⟨rfl, rfl⟩)) zarrJ ⟨by decide, rfl, by decide⟩ ⟨by decide, by decide⟩ dX0_init_25 ?_
  refine b_putr (Y' := [kd34 P, kc3_128, kc1_128, kc3_35]) X hP hname lff0_19 (fun _ => ⟨rfl, rfl⟩) (by omega) rfl (Nat.le_of_ble_eq_true rfl) rfl dX0_init_27 ?_
  refine a_aload_n X dX0_init_30 rfl ?_
  refine a_bipush (v := 7) X dX0_init_31 (by decide) ?_
  refine b_newarray (at_ := .long) (Y' := [kd34 P, kc3_128, kc1_128, kc3_35, kc3_7]) X 4 hP rfl (by omega) ((hz).up (by omega)) rfl (Or.inr (Or.inr ⟨rfl, rfl⟩)) zarrJ ⟨by decide, rfl, by decide⟩ ⟨by decide, by decide⟩ dX0_init_33 ?_
  refine b_putr (Y' := [kd35 P, kc3_128, kc1_128, kc3_35, kc3_7]) X hP hname lff0_22 (fun _ => ⟨rfl, rfl⟩) (by omega) rfl (Nat.le_of_ble_eq_true rfl) rfl dX0_init_35 ?_
  refine a_aload_n X dX0_init_38 rfl ?_
  refine b_new X 5 [kq3, kq3, kq3, kq3, kq3, kq3, kq3] hP rfl (by omega) ((hz).up (by omega)) zc5 ln0_25 zinst5 zini5 ⟨rfl, by decide, by decide⟩ ⟨by decide, by decide⟩ dX0_init_39 ?_
  refine a_dup X dX0_init_42 rfl ?_
  refine b_invIN (Y' := [kd35 P, kc3_128, kc1_128, kc3_35, kc3_7, kd30 P, kc1_10, kc1_10, kc1_10, kc1_5, kc1_5, kc1_5, kc1_10]) (blk := blk5) X 5 hP rfl dX0_init_43 miX5_init lm0_27 (T := TX5) (N' := 7) rfl (k_X5 (pre := pre ++ [kd35 P, kc3_128, kc1_128, kc3_35, kc3_7]) (P := P + 5) (by rw [List.length_append, hP]; rfl) (by omega) ((hz).up (by omega))) rfl (Nat.le_of_ble_eq_true rfl) ⟨by decide, by decide, by decide, by decide⟩ ?_
  refine b_putr (Y' := [kd29 P, kc3_128, kc1_128, kc3_35, kc3_7, kd30 P, kc1_10, kc1_10, kc1_10, kc1_5, kc1_5, kc1_5, kc1_10]) X hP hname lff0_28 (fun _ => ⟨rfl, rfl⟩) (by omega) rfl (Nat.le_of_ble_eq_true rfl) rfl dX0_init_46 ?_
  refine a_vret X hr dX0_init_49 ⟨by decide, by decide⟩ ?_
  subst hF
  exact ⟨rfl, rfl⟩
def blk6 (P : Nat) : List zC := [kd36 P, kc1_10, kc1_10, kc1_10, kd37 P, kc1_5, kc1_10, kc1_10, kc1_10, kc1_10, kc1_30, kc1_10, kd38 P, kc1_5, kc1_5, kc1_5, kc1_10, kc1_10, kc1_10, kc1_10, kc1_10, kc1_10, kc1_10, kc1_10, kc1_30, kd39 P, kc1_10, kc1_10, kc1_10, kc1_5, kc1_5, kc1_5, kc1_10]
set_option maxRecDepth 100000 in
theorem k_X6 {l : Launch} {G : zG} {b : Nat} {pre : List zC} {P : Nat} {M : Nat → Nat → Int32} {N : Nat → Nat → Int64} (hP : pre.length = P) (hp : P + 300 < 1000000) (hz : zz (P + 1) M N) : zM l G b yX6_init cX6_init 1 none 2 32 332 [.ref P] (pre ++ [kd40], M, N) (fun r z => r = none ∧ z = (pre ++ blk6 P, M, N)) := by
  refine zM.of miX6_init (Nat.le_of_ble_eq_true rfl) ?_
  intro p e s m args below meth c X hr hname
  generalize hF : ((fun r z => r = none ∧ z = (pre ++ blk6 P, M, N)) : Option Value → zS → Prop) = F
  change Zw p l e { frames := 2, cells := 32, slots := 332, locals := 80 * 2 } s m args below meth c G b 1 (MQ below (zQ G b F) args s 32 332 (fun q : Nat => b ≤ q)) 0 0 0 [some (.ref P)] [] (pre ++ [kd40], M, N)
  refine a_aload_n X dX6_init_0 rfl ?_
  refine a_objinit X lm6_3 (by decide) dX6_init_1 ?_
  refine a_aload_n X dX6_init_4 rfl ?_
  refine a_bipush (v := 10) X dX6_init_5 (by decide) ?_
  refine b_newarray (at_ := .int) (Y' := [kd40, kc1_10]) X 1 hP rfl (by omega) ((hz).up (by omega)) rfl (Or.inl ⟨rfl, rfl⟩) zarrI ⟨by decide, rfl, by decide⟩ ⟨by decide, by decide⟩ dX6_init_7 ?_
  refine b_putr (Y' := [kd41 P, kc1_10]) X hP hname lff6_9 (fun _ => ⟨rfl, rfl⟩) (by omega) rfl (Nat.le_of_ble_eq_true rfl) rfl dX6_init_9 ?_
  refine a_aload_n X dX6_init_12 rfl ?_
  refine a_bipush (v := 10) X dX6_init_13 (by decide) ?_
  refine b_newarray (at_ := .int) (Y' := [kd41 P, kc1_10, kc1_10]) X 2 hP rfl (by omega) ((hz).up (by omega)) rfl (Or.inl ⟨rfl, rfl⟩) zarrI ⟨by decide, rfl, by decide⟩ ⟨by decide, by decide⟩ dX6_init_15 ?_
  refine b_putr (Y' := [kd42 P, kc1_10, kc1_10]) X hP hname lff6_15 (fun _ => ⟨rfl, rfl⟩) (by omega) rfl (Nat.le_of_ble_eq_true rfl) rfl dX6_init_17 ?_
  refine a_aload_n X dX6_init_20 rfl ?_
  refine a_bipush (v := 10) X dX6_init_21 (by decide) ?_
  refine b_newarray (at_ := .int) (Y' := [kd42 P, kc1_10, kc1_10, kc1_10]) X 3 hP rfl (by omega) ((hz).up (by omega)) rfl (Or.inl ⟨rfl, rfl⟩) zarrI ⟨by decide, rfl, by decide⟩ ⟨by decide, by decide⟩ dX6_init_23 ?_
  refine b_putr (Y' := [kd43 P, kc1_10, kc1_10, kc1_10]) X hP hname lff6_18 (fun _ => ⟨rfl, rfl⟩) (by omega) rfl (Nat.le_of_ble_eq_true rfl) rfl dX6_init_25 ?_
  refine a_aload_n X dX6_init_28 rfl ?_
  refine b_new X 4 [kq0, kq0, kq0, kq0, kq0, kq0, kq0, kq3, kq3, kq3, kq3, kq3, kq3, kq3] hP rfl (by omega) ((hz).up (by omega)) zc4 ln6_21 zinst4 zini4 ⟨rfl, by decide, by decide⟩ ⟨by decide, by decide⟩ dX6_init_29 ?_
  refine a_dup X dX6_init_32 rfl ?_
  refine b_invIN (Y' := [kd43 P, kc1_10, kc1_10, kc1_10, kd37 P, kc1_5, kc1_10, kc1_10, kc1_10, kc1_10, kc1_30, kc1_10]) (blk := blk4) X 4 hP rfl dX6_init_33 miX4_init lm6_23 (T := TX4) (N' := 14) rfl (k_X4 (pre := pre ++ [kd43 P, kc1_10, kc1_10, kc1_10]) (P := P + 4) (by rw [List.length_append, hP]; rfl) (by omega) ((hz).up (by omega))) rfl (Nat.le_of_ble_eq_true rfl) ⟨by decide, by decide, by decide, by decide⟩ ?_
  refine b_putr (Y' := [kd44 P, kc1_10, kc1_10, kc1_10, kd37 P, kc1_5, kc1_10, kc1_10, kc1_10, kc1_10, kc1_30, kc1_10]) X hP hname lff6_24 (fun _ => ⟨rfl, rfl⟩) (by omega) rfl (Nat.le_of_ble_eq_true rfl) rfl dX6_init_36 ?_
  refine a_aload_n X dX6_init_39 rfl ?_
  refine b_new X 12 [kq0, kq0, kq0, kq0, kq3, kq3, kq3, kq3, kq3, kq3, kq3, kq3, kq3, kq3, kq3, kq3] hP rfl (by omega) ((hz).up (by omega)) zc2 ln6_28 zinst2 zini2 ⟨rfl, by decide, by decide⟩ ⟨by decide, by decide⟩ dX6_init_40 ?_
  refine a_dup X dX6_init_43 rfl ?_
  refine b_invIN (Y' := [kd44 P, kc1_10, kc1_10, kc1_10, kd37 P, kc1_5, kc1_10, kc1_10, kc1_10, kc1_10, kc1_30, kc1_10, kd38 P, kc1_5, kc1_5, kc1_5, kc1_10, kc1_10, kc1_10, kc1_10, kc1_10, kc1_10, kc1_10, kc1_10, kc1_30]) (blk := blk2) X 12 hP rfl dX6_init_44 miX2_init lm6_30 (T := TX2) (N' := 16) rfl (k_X2 (pre := pre ++ [kd44 P, kc1_10, kc1_10, kc1_10, kd37 P, kc1_5, kc1_10, kc1_10, kc1_10, kc1_10, kc1_30, kc1_10]) (P := P + 12) (by rw [List.length_append, hP]; rfl) (by omega) ((hz).up (by omega))) rfl (Nat.le_of_ble_eq_true rfl) ⟨by decide, by decide, by decide, by decide⟩ ?_
  refine b_putr (Y' := [kd45 P, kc1_10, kc1_10, kc1_10, kd37 P, kc1_5, kc1_10, kc1_10, kc1_10, kc1_10, kc1_30, kc1_10, kd38 P, kc1_5, kc1_5, kc1_5, kc1_10, kc1_10, kc1_10, kc1_10, kc1_10, kc1_10, kc1_10, kc1_10, kc1_30]) X hP hname lff6_31 (fun _ => ⟨rfl, rfl⟩) (by omega) rfl (Nat.le_of_ble_eq_true rfl) rfl dX6_init_47 ?_
  refine a_aload_n X dX6_init_50 rfl ?_
  refine b_new X 25 [kq3, kq3, kq3, kq3, kq3, kq3, kq3] hP rfl (by omega) ((hz).up (by omega)) zc5 ln6_35 zinst5 zini5 ⟨rfl, by decide, by decide⟩ ⟨by decide, by decide⟩ dX6_init_51 ?_
  refine a_dup X dX6_init_54 rfl ?_
  refine b_invIN (Y' := [kd45 P, kc1_10, kc1_10, kc1_10, kd37 P, kc1_5, kc1_10, kc1_10, kc1_10, kc1_10, kc1_30, kc1_10, kd38 P, kc1_5, kc1_5, kc1_5, kc1_10, kc1_10, kc1_10, kc1_10, kc1_10, kc1_10, kc1_10, kc1_10, kc1_30, kd39 P, kc1_10, kc1_10, kc1_10, kc1_5, kc1_5, kc1_5, kc1_10]) (blk := blk5) X 25 hP rfl dX6_init_55 miX5_init lm6_37 (T := TX5) (N' := 7) rfl (k_X5 (pre := pre ++ [kd45 P, kc1_10, kc1_10, kc1_10, kd37 P, kc1_5, kc1_10, kc1_10, kc1_10, kc1_10, kc1_30, kc1_10, kd38 P, kc1_5, kc1_5, kc1_5, kc1_10, kc1_10, kc1_10, kc1_10, kc1_10, kc1_10, kc1_10, kc1_10, kc1_30]) (P := P + 25) (by rw [List.length_append, hP]; rfl) (by omega) ((hz).up (by omega))) rfl (Nat.le_of_ble_eq_true rfl) ⟨by decide, by decide, by decide, by decide⟩ ?_
  refine b_putr (Y' := [kd36 P, kc1_10, kc1_10, kc1_10, kd37 P, kc1_5, kc1_10, kc1_10, kc1_10, kc1_10, kc1_30, kc1_10, kd38 P, kc1_5, kc1_5, kc1_5, kc1_10, kc1_10, kc1_10, kc1_10, kc1_10, kc1_10, kc1_10, kc1_10, kc1_30, kd39 P, kc1_10, kc1_10, kc1_10, kc1_5, kc1_5, kc1_5, kc1_10]) X hP hname lff6_38 (fun _ => ⟨rfl, rfl⟩) (by omega) rfl (Nat.le_of_ble_eq_true rfl) rfl dX6_init_58 ?_
  refine a_vret X hr dX6_init_61 ⟨by decide, by decide⟩ ?_
  subst hF
  exact ⟨rfl, rfl⟩
def blk3 (P : Nat) : List zC := [kd46 P, kd47 P, kc1_5, kc1_10, kc1_10, kc1_10, kc1_10, kc1_30, kc1_10, kc1_700, kc3_5, kc3_10, kc3_4, kc1_3]
set_option maxRecDepth 100000 in
theorem k_X3 {l : Launch} {G : zG} {b : Nat} {pre : List zC} {P : Nat} {M : Nat → Nat → Int32} {N : Nat → Nat → Int64} (hP : pre.length = P) (hp : P + 300 < 1000000) (hz : zz (P + 1) M N) : zM l G b yX3_init cX3_init 1 none 2 13 821 [.ref P] (pre ++ [kd48], M, N) (fun r z => r = none ∧ z = (pre ++ blk3 P, zu (zu (M) P 1 (-1)) P 2 (-1), N)) := by
  refine zM.of miX3_init (Nat.le_of_ble_eq_true rfl) ?_
  intro p e s m args below meth c X hr hname
  generalize hF : ((fun r z => r = none ∧ z = (pre ++ blk3 P, zu (zu (M) P 1 (-1)) P 2 (-1), N)) : Option Value → zS → Prop) = F
  change Zw p l e { frames := 2, cells := 13, slots := 821, locals := 80 * 2 } s m args below meth c G b 1 (MQ below (zQ G b F) args s 13 821 (fun q : Nat => b ≤ q)) 0 0 0 [some (.ref P)] [] (pre ++ [kd48], M, N)
  refine a_aload_n X dX3_init_0 rfl ?_
  refine a_objinit X lm3_3 (by decide) dX3_init_1 ?_
  refine a_aload_n X dX3_init_4 rfl ?_
  refine b_new X 1 [kq0, kq0, kq0, kq0, kq0, kq0, kq0, kq3, kq3, kq3, kq3, kq3, kq3, kq3] hP rfl (by omega) ((hz).up (by omega)) zc4 ln3_9 zinst4 zini4 ⟨rfl, by decide, by decide⟩ ⟨by decide, by decide⟩ dX3_init_5 ?_
  refine a_dup X dX3_init_8 rfl ?_
  refine b_invIN (Y' := [kd48, kd47 P, kc1_5, kc1_10, kc1_10, kc1_10, kc1_10, kc1_30, kc1_10]) (blk := blk4) X 1 hP rfl dX3_init_9 miX4_init lm3_11 (T := TX4) (N' := 14) rfl (k_X4 (pre := pre ++ [kd48]) (P := P + 1) (by rw [List.length_append, hP]; rfl) (by omega) ((hz).up (by omega))) rfl (Nat.le_of_ble_eq_true rfl) ⟨by decide, by decide, by decide, by decide⟩ ?_
  refine b_putr (Y' := [kd49 P, kd47 P, kc1_5, kc1_10, kc1_10, kc1_10, kc1_10, kc1_30, kc1_10]) X hP hname lff3_12 (fun _ => ⟨rfl, rfl⟩) (by omega) rfl (Nat.le_of_ble_eq_true rfl) rfl dX3_init_12 ?_
  refine a_aload_n X dX3_init_15 rfl ?_
  refine a_iconst (v := -1) X dX3_init_16 (by decide) ?_
  refine a_puti (P := P) X lf3_18 (by show (pre ++ _)[P]? = _; rw [← hP, List.getElem?_append_right (Nat.le_refl _), Nat.sub_self]; rfl) rfl dX3_init_17 ?_
  change Zw _ _ _ _ _ _ _ _ _ _ _ _ _ _ _ _ _ _ _ (pre ++ [kd49 P, kd47 P, kc1_5, kc1_10, kc1_10, kc1_10, kc1_10, kc1_30, kc1_10], zu (M) P 1 (-1), N)
  refine a_aload_n X dX3_init_20 rfl ?_
  refine a_iconst (v := -1) X dX3_init_21 (by decide) ?_
  refine a_puti (P := P) X lf3_22 (by show (pre ++ _)[P]? = _; rw [← hP, List.getElem?_append_right (Nat.le_refl _), Nat.sub_self]; rfl) rfl dX3_init_22 ?_
  change Zw _ _ _ _ _ _ _ _ _ _ _ _ _ _ _ _ _ _ _ (pre ++ [kd49 P, kd47 P, kc1_5, kc1_10, kc1_10, kc1_10, kc1_10, kc1_30, kc1_10], zu (zu (M) P 1 (-1)) P 2 (-1), N)
  refine a_aload_n X dX3_init_25 rfl ?_
  refine a_sipush (v := 700) X dX3_init_26 (by decide) ?_
  refine b_newarray (at_ := .int) (Y' := [kd49 P, kd47 P, kc1_5, kc1_10, kc1_10, kc1_10, kc1_10, kc1_30, kc1_10, kc1_700]) X 9 hP rfl (by omega) ((zz.zuM (zz.zuM (hz) (by omega)) (by omega)).up (by omega)) rfl (Or.inl ⟨rfl, rfl⟩) zarrI ⟨by decide, rfl, by decide⟩ ⟨by decide, by decide⟩ dX3_init_29 ?_
  refine b_putr (Y' := [kd50 P, kd47 P, kc1_5, kc1_10, kc1_10, kc1_10, kc1_10, kc1_30, kc1_10, kc1_700]) X hP hname lff3_25 (fun _ => ⟨rfl, rfl⟩) (by omega) rfl (Nat.le_of_ble_eq_true rfl) rfl dX3_init_31 ?_
  refine a_aload_n X dX3_init_34 rfl ?_
  refine a_iconst (v := 5) X dX3_init_35 (by decide) ?_
  refine b_newarray (at_ := .long) (Y' := [kd50 P, kd47 P, kc1_5, kc1_10, kc1_10, kc1_10, kc1_10, kc1_30, kc1_10, kc1_700, kc3_5]) X 10 hP rfl (by omega) ((zz.zuM (zz.zuM (hz) (by omega)) (by omega)).up (by omega)) rfl (Or.inr (Or.inr ⟨rfl, rfl⟩)) zarrJ ⟨by decide, rfl, by decide⟩ ⟨by decide, by decide⟩ dX3_init_36 ?_
  refine b_putr (Y' := [kd51 P, kd47 P, kc1_5, kc1_10, kc1_10, kc1_10, kc1_10, kc1_30, kc1_10, kc1_700, kc3_5]) X hP hname lff3_29 (fun _ => ⟨rfl, rfl⟩) (by omega) rfl (Nat.le_of_ble_eq_true rfl) rfl dX3_init_38 ?_
  refine a_aload_n X dX3_init_41 rfl ?_
  refine a_bipush (v := 10) X dX3_init_42 (by decide) ?_
  refine b_newarray (at_ := .long) (Y' := [kd51 P, kd47 P, kc1_5, kc1_10, kc1_10, kc1_10, kc1_10, kc1_30, kc1_10, kc1_700, kc3_5, kc3_10]) X 11 hP rfl (by omega) ((zz.zuM (zz.zuM (hz) (by omega)) (by omega)).up (by omega)) rfl (Or.inr (Or.inr ⟨rfl, rfl⟩)) zarrJ ⟨by decide, rfl, by decide⟩ ⟨by decide, by decide⟩ dX3_init_44 ?_
  refine b_putr (Y' := [kd52 P, kd47 P, kc1_5, kc1_10, kc1_10, kc1_10, kc1_10, kc1_30, kc1_10, kc1_700, kc3_5, kc3_10]) X hP hname lff3_33 (fun _ => ⟨rfl, rfl⟩) (by omega) rfl (Nat.le_of_ble_eq_true rfl) rfl dX3_init_46 ?_
  refine a_aload_n X dX3_init_49 rfl ?_
  refine a_iconst (v := 4) X dX3_init_50 (by decide) ?_
  refine b_newarray (at_ := .long) (Y' := [kd52 P, kd47 P, kc1_5, kc1_10, kc1_10, kc1_10, kc1_10, kc1_30, kc1_10, kc1_700, kc3_5, kc3_10, kc3_4]) X 12 hP rfl (by omega) ((zz.zuM (zz.zuM (hz) (by omega)) (by omega)).up (by omega)) rfl (Or.inr (Or.inr ⟨rfl, rfl⟩)) zarrJ ⟨by decide, rfl, by decide⟩ ⟨by decide, by decide⟩ dX3_init_51 ?_
  refine b_putr (Y' := [kd53 P, kd47 P, kc1_5, kc1_10, kc1_10, kc1_10, kc1_10, kc1_30, kc1_10, kc1_700, kc3_5, kc3_10, kc3_4]) X hP hname lff3_36 (fun _ => ⟨rfl, rfl⟩) (by omega) rfl (Nat.le_of_ble_eq_true rfl) rfl dX3_init_53 ?_
  refine a_aload_n X dX3_init_56 rfl ?_
  refine a_iconst (v := 3) X dX3_init_57 (by decide) ?_
  refine b_newarray (at_ := .int) (Y' := [kd53 P, kd47 P, kc1_5, kc1_10, kc1_10, kc1_10, kc1_10, kc1_30, kc1_10, kc1_700, kc3_5, kc3_10, kc3_4, kc1_3]) X 13 hP rfl (by omega) ((zz.zuM (zz.zuM (hz) (by omega)) (by omega)).up (by omega)) rfl (Or.inl ⟨rfl, rfl⟩) zarrI ⟨by decide, rfl, by decide⟩ ⟨by decide, by decide⟩ dX3_init_58 ?_
  refine b_putr (Y' := [kd46 P, kd47 P, kc1_5, kc1_10, kc1_10, kc1_10, kc1_10, kc1_30, kc1_10, kc1_700, kc3_5, kc3_10, kc3_4, kc1_3]) X hP hname lff3_39 (fun _ => ⟨rfl, rfl⟩) (by omega) rfl (Nat.le_of_ble_eq_true rfl) rfl dX3_init_60 ?_
  refine a_vret X hr dX3_init_63 ⟨by decide, by decide⟩ ?_
  subst hF
  exact ⟨rfl, rfl⟩
end
/-- a fresh TagDraw at P -/
def zE7 (S : zS) (P : Nat) : Prop := LX7 S.1 P ∧ S.2.1 P 0 = 0 ∧ S.2.1 P 1 = 0 ∧ S.2.1 P 2 = -1 ∧ S.2.1 P 3 = 0 ∧ S.2.1 (P + 3) 1 = -1 ∧ S.2.1 (P + 3) 2 = -1 ∧
  S.2.1 (P + 17) 0 = 0 ∧ S.2.1 (P + 17) 1 = 0 ∧ S.2.1 (P + 17) 2 = 0 ∧ S.2.1 (P + 17) 3 = 0 ∧ S.2.1 (P + 17) 4 = 0 ∧ S.2.1 (P + 17) 5 = 100 ∧ S.2.1 (P + 17) 6 = 0 ∧ (∀ j, j < 5 → S.2.1 (P + 18) j = 0) ∧ (∀ j, j < 10 → S.2.1 (P + 20) j = 0) ∧
  S.2.1 (P + 25) 0 = 0 ∧ S.2.1 (P + 25) 1 = 0 ∧ S.2.1 (P + 91) 0 = 0 ∧ S.2.1 (P + 91) 1 = 0 ∧ S.2.1 (P + 91) 2 = 0 ∧ S.2.1 (P + 91) 3 = 0 ∧ (∀ j, j < 10 → S.2.1 (P + 19) j = 0) ∧ (∀ j, j < 10 → S.2.1 (P + 21) j = -1) ∧ (∀ j, j < 10 → S.2.1 (P + 22) j = 0) ∧ (∀ j, j < 30 → S.2.1 (P + 23) j = -1) ∧ (∀ j, j < 10 → S.2.1 (P + 24) j = -1)
theorem b_at {pre Y : List zC} {P : Nat} (k : Nat) (hP : pre.length = P) : (pre ++ Y)[P + k]? = Y[k]? := by
  subst hP
  rw [List.getElem?_append_right (Nat.le_add_right _ _), Nat.add_sub_cancel_left]
theorem b_at0 {pre Y : List zC} {P : Nat} (hP : pre.length = P) : (pre ++ Y)[P]? = Y[0]? := b_at 0 hP
theorem b_set {pre Y Y' : List zC} {P : Nat} (k : Nat) {q : zC} (hP : pre.length = P) (h : Y.set k q = Y') : (pre ++ Y).set (P + k) q = pre ++ Y' := by
  subst hP
  rw [List.set_append_right _ _ (Nat.le_add_right _ _), Nat.add_sub_cancel_left, h]

def blk1 (P : Nat) : List zC := [kd54 P, kd55 P, kd56 P, kc1_5, kc1_10, kc1_10, kc1_10, kc1_10, kc1_30, kc1_10, kd57 P, kc1_5, kc1_10, kc1_10, kc1_10, kc1_10, kc1_30, kc1_10, kd58 P, kc1_5, kc1_10, kc1_10, kc1_10, kc1_10, kc1_30, kc1_10, kd59 P, kc1_5, kc1_10, kc1_10, kc1_10, kc1_10, kc1_30, kc1_10, kd60 P, kc1_5, kc1_10, kc1_10, kc1_10, kc1_10, kc1_30, kc1_10, kd61 P, kc1_5, kc1_10, kc1_10, kc1_10, kc1_10, kc1_30, kc1_10, kd62 P, kc1_5, kc1_10, kc1_10, kc1_10, kc1_10, kc1_30, kc1_10, kd63 P, kc1_5, kc1_10, kc1_10, kc1_10, kc1_10, kc1_30, kc1_10]
set_option maxRecDepth 100000 in
set_option maxHeartbeats 8000000 in
theorem k_X1 {l : Launch} {G : zG} {b : Nat} {pre : List zC} {P : Nat} {M : Nat → Nat → Int32} {N : Nat → Nat → Int64} (hP : pre.length = P) (hp : P + 300 < 1000000) (hz : zz (P + 1) M N) : zM l G b yX1_init cX1_init 2 none 2 65 800 [.ref P] (pre ++ [kd64], M, N) (fun r z => r = none ∧ z = (pre ++ blk1 P, M, N)) := by
  refine zM.of miX1_init (Nat.le_of_ble_eq_true rfl) ?_
  intro p e s m args below meth c X hr hname
  generalize hF : ((fun r z => r = none ∧ z = (pre ++ blk1 P, M, N)) : Option Value → zS → Prop) = FQ
  change Zw p l e { frames := 2, cells := 65, slots := 800, locals := 80 * 2 } s m args below meth c G b 2 (MQ below (zQ G b FQ) args s 65 800 (fun q : Nat => b ≤ q)) 0 0 0 [some (.ref P), none] [] (pre ++ [kd64], M, N)
  refine a_aload_n X dX1_init_0 rfl ?_
  refine a_objinit X lm1_3 (by decide) dX1_init_1 ?_
  refine a_aload_n X dX1_init_4 rfl ?_
  refine a_bipush (v := 8) X dX1_init_5 (by decide) ?_
  refine b_anewarray (Y' := [kd64, kd65]) X 1 hP rfl (by omega) (hz.up (by omega)) rfl ln1_9 ⟨by decide, rfl, by decide⟩ ⟨by decide, by decide⟩ dX1_init_7 ?_
  refine b_putr (Y' := [kd54 P, kd65]) X hP hname lff1_11 (fun _ => ⟨rfl, rfl⟩) (by omega) rfl (Nat.le_of_ble_eq_true rfl) rfl dX1_init_10 ?_
  refine a_iconst (v := 0) X dX1_init_13 (by decide) ?_
  refine a_istore_n X dX1_init_14 (by decide) ?_
  refine a_iload_n X dX1_init_15 rfl ?_
  refine a_aload_n X dX1_init_16 rfl ?_
  refine a_getr X lf1_11 (by rw [b_at0 hP]; rfl) rfl (by omega) dX1_init_17 ?_
  refine a_alen X (by rw [b_at 1 hP]; rfl) (by decide) dX1_init_20 ?_
  refine a_icmp_ge (tgt := 43) X dX1_init_21 (by decide) (fun h => absurd h (by decide)) (fun h => ?_)
  refine a_aload_n X dX1_init_24 rfl ?_
  refine a_getr X lf1_11 (by rw [b_at0 hP]; rfl) rfl (by omega) dX1_init_25 ?_
  refine a_iload_n X dX1_init_28 rfl ?_
  refine b_new X 2 [kq0, kq0, kq0, kq0, kq0, kq0, kq0, kq3, kq3, kq3, kq3, kq3, kq3, kq3] hP rfl (by omega) (hz.up (by omega)) zc4 ln1_9 zinst4 zini4 ⟨rfl, by decide, by decide⟩ ⟨by decide, by decide⟩ dX1_init_29 ?_
  refine a_dup X dX1_init_32 rfl ?_
  refine b_invIN (Y' := [kd54 P, kd65, kd56 P, kc1_5, kc1_10, kc1_10, kc1_10, kc1_10, kc1_30, kc1_10]) (blk := blk4) X 2 hP rfl dX1_init_33 miX4_init lm1_17 (T := TX4) (N' := 14) rfl (k_X4 (pre := pre ++ [kd54 P, kd65]) (P := P + 2) (by rw [List.length_append, hP]; rfl) (by omega) (hz.up (by omega))) rfl (Nat.le_of_ble_eq_true rfl) ⟨by decide, by decide, by decide, by decide⟩ ?_
  refine a_aastore (k := 0) (n := 8) X (by rw [b_at 1 hP]; rfl) (by rw [b_at 2 hP]; rfl) ⟨by decide, by decide, by decide, rfl⟩ dX1_init_36 ?_
  refine Zw.to (S' := (pre ++ [kd54 P, kd66 P, kd56 P, kc1_5, kc1_10, kc1_10, kc1_10, kc1_10, kc1_30, kc1_10], M, N)) ?_ rfl (by show _ = (List.set _ _ _, M, N); rw [b_set 1 hP rfl]; rfl)
  refine a_iinc (v := 1) X dX1_init_37 (by decide) rfl (by decide) ?_
  refine a_goto (tgt := 15) X dX1_init_40 (by decide) ?_
  refine Zw.to (ls' := [some (.ref P), some (.int 1)]) ?_ rfl rfl
  refine a_iload_n X dX1_init_15 rfl ?_
  refine a_aload_n X dX1_init_16 rfl ?_
  refine a_getr X lf1_11 (by rw [b_at0 hP]; rfl) rfl (by omega) dX1_init_17 ?_
  refine a_alen X (by rw [b_at 1 hP]; rfl) (by decide) dX1_init_20 ?_
  refine a_icmp_ge (tgt := 43) X dX1_init_21 (by decide) (fun h => absurd h (by decide)) (fun h => ?_)
  refine a_aload_n X dX1_init_24 rfl ?_
  refine a_getr X lf1_11 (by rw [b_at0 hP]; rfl) rfl (by omega) dX1_init_25 ?_
  refine a_iload_n X dX1_init_28 rfl ?_
  refine b_new X 10 [kq0, kq0, kq0, kq0, kq0, kq0, kq0, kq3, kq3, kq3, kq3, kq3, kq3, kq3] hP rfl (by omega) (hz.up (by omega)) zc4 ln1_9 zinst4 zini4 ⟨rfl, by decide, by decide⟩ ⟨by decide, by decide⟩ dX1_init_29 ?_
  refine a_dup X dX1_init_32 rfl ?_
  refine b_invIN (Y' := [kd54 P, kd66 P, kd56 P, kc1_5, kc1_10, kc1_10, kc1_10, kc1_10, kc1_30, kc1_10, kd57 P, kc1_5, kc1_10, kc1_10, kc1_10, kc1_10, kc1_30, kc1_10]) (blk := blk4) X 10 hP rfl dX1_init_33 miX4_init lm1_17 (T := TX4) (N' := 14) rfl (k_X4 (pre := pre ++ [kd54 P, kd66 P, kd56 P, kc1_5, kc1_10, kc1_10, kc1_10, kc1_10, kc1_30, kc1_10]) (P := P + 10) (by rw [List.length_append, hP]; rfl) (by omega) (hz.up (by omega))) rfl (Nat.le_of_ble_eq_true rfl) ⟨by decide, by decide, by decide, by decide⟩ ?_
  refine a_aastore (k := 1) (n := 8) X (by rw [b_at 1 hP]; rfl) (by rw [b_at 10 hP]; rfl) ⟨by decide, by decide, by decide, rfl⟩ dX1_init_36 ?_
  refine Zw.to (S' := (pre ++ [kd54 P, kd67 P, kd56 P, kc1_5, kc1_10, kc1_10, kc1_10, kc1_10, kc1_30, kc1_10, kd57 P, kc1_5, kc1_10, kc1_10, kc1_10, kc1_10, kc1_30, kc1_10], M, N)) ?_ rfl (by show _ = (List.set _ _ _, M, N); rw [b_set 1 hP rfl]; rfl)
  refine a_iinc (v := 2) X dX1_init_37 (by decide) rfl (by decide) ?_
  refine a_goto (tgt := 15) X dX1_init_40 (by decide) ?_
  refine Zw.to (ls' := [some (.ref P), some (.int 2)]) ?_ rfl rfl
  refine a_iload_n X dX1_init_15 rfl ?_
  refine a_aload_n X dX1_init_16 rfl ?_
  refine a_getr X lf1_11 (by rw [b_at0 hP]; rfl) rfl (by omega) dX1_init_17 ?_
  refine a_alen X (by rw [b_at 1 hP]; rfl) (by decide) dX1_init_20 ?_
  refine a_icmp_ge (tgt := 43) X dX1_init_21 (by decide) (fun h => absurd h (by decide)) (fun h => ?_)
  refine a_aload_n X dX1_init_24 rfl ?_
  refine a_getr X lf1_11 (by rw [b_at0 hP]; rfl) rfl (by omega) dX1_init_25 ?_
  refine a_iload_n X dX1_init_28 rfl ?_
  refine b_new X 18 [kq0, kq0, kq0, kq0, kq0, kq0, kq0, kq3, kq3, kq3, kq3, kq3, kq3, kq3] hP rfl (by omega) (hz.up (by omega)) zc4 ln1_9 zinst4 zini4 ⟨rfl, by decide, by decide⟩ ⟨by decide, by decide⟩ dX1_init_29 ?_
  refine a_dup X dX1_init_32 rfl ?_
  refine b_invIN (Y' := [kd54 P, kd67 P, kd56 P, kc1_5, kc1_10, kc1_10, kc1_10, kc1_10, kc1_30, kc1_10, kd57 P, kc1_5, kc1_10, kc1_10, kc1_10, kc1_10, kc1_30, kc1_10, kd58 P, kc1_5, kc1_10, kc1_10, kc1_10, kc1_10, kc1_30, kc1_10]) (blk := blk4) X 18 hP rfl dX1_init_33 miX4_init lm1_17 (T := TX4) (N' := 14) rfl (k_X4 (pre := pre ++ [kd54 P, kd67 P, kd56 P, kc1_5, kc1_10, kc1_10, kc1_10, kc1_10, kc1_30, kc1_10, kd57 P, kc1_5, kc1_10, kc1_10, kc1_10, kc1_10, kc1_30, kc1_10]) (P := P + 18) (by rw [List.length_append, hP]; rfl) (by omega) (hz.up (by omega))) rfl (Nat.le_of_ble_eq_true rfl) ⟨by decide, by decide, by decide, by decide⟩ ?_
  refine a_aastore (k := 2) (n := 8) X (by rw [b_at 1 hP]; rfl) (by rw [b_at 18 hP]; rfl) ⟨by decide, by decide, by decide, rfl⟩ dX1_init_36 ?_
  refine Zw.to (S' := (pre ++ [kd54 P, kd68 P, kd56 P, kc1_5, kc1_10, kc1_10, kc1_10, kc1_10, kc1_30, kc1_10, kd57 P, kc1_5, kc1_10, kc1_10, kc1_10, kc1_10, kc1_30, kc1_10, kd58 P, kc1_5, kc1_10, kc1_10, kc1_10, kc1_10, kc1_30, kc1_10], M, N)) ?_ rfl (by show _ = (List.set _ _ _, M, N); rw [b_set 1 hP rfl]; rfl)
  refine a_iinc (v := 3) X dX1_init_37 (by decide) rfl (by decide) ?_
  refine a_goto (tgt := 15) X dX1_init_40 (by decide) ?_
  refine Zw.to (ls' := [some (.ref P), some (.int 3)]) ?_ rfl rfl
  refine a_iload_n X dX1_init_15 rfl ?_
  refine a_aload_n X dX1_init_16 rfl ?_
  refine a_getr X lf1_11 (by rw [b_at0 hP]; rfl) rfl (by omega) dX1_init_17 ?_
  refine a_alen X (by rw [b_at 1 hP]; rfl) (by decide) dX1_init_20 ?_
  refine a_icmp_ge (tgt := 43) X dX1_init_21 (by decide) (fun h => absurd h (by decide)) (fun h => ?_)
  refine a_aload_n X dX1_init_24 rfl ?_
  refine a_getr X lf1_11 (by rw [b_at0 hP]; rfl) rfl (by omega) dX1_init_25 ?_
  refine a_iload_n X dX1_init_28 rfl ?_
  refine b_new X 26 [kq0, kq0, kq0, kq0, kq0, kq0, kq0, kq3, kq3, kq3, kq3, kq3, kq3, kq3] hP rfl (by omega) (hz.up (by omega)) zc4 ln1_9 zinst4 zini4 ⟨rfl, by decide, by decide⟩ ⟨by decide, by decide⟩ dX1_init_29 ?_
  refine a_dup X dX1_init_32 rfl ?_
  refine b_invIN (Y' := [kd54 P, kd68 P, kd56 P, kc1_5, kc1_10, kc1_10, kc1_10, kc1_10, kc1_30, kc1_10, kd57 P, kc1_5, kc1_10, kc1_10, kc1_10, kc1_10, kc1_30, kc1_10, kd58 P, kc1_5, kc1_10, kc1_10, kc1_10, kc1_10, kc1_30, kc1_10, kd59 P, kc1_5, kc1_10, kc1_10, kc1_10, kc1_10, kc1_30, kc1_10]) (blk := blk4) X 26 hP rfl dX1_init_33 miX4_init lm1_17 (T := TX4) (N' := 14) rfl (k_X4 (pre := pre ++ [kd54 P, kd68 P, kd56 P, kc1_5, kc1_10, kc1_10, kc1_10, kc1_10, kc1_30, kc1_10, kd57 P, kc1_5, kc1_10, kc1_10, kc1_10, kc1_10, kc1_30, kc1_10, kd58 P, kc1_5, kc1_10, kc1_10, kc1_10, kc1_10, kc1_30, kc1_10]) (P := P + 26) (by rw [List.length_append, hP]; rfl) (by omega) (hz.up (by omega))) rfl (Nat.le_of_ble_eq_true rfl) ⟨by decide, by decide, by decide, by decide⟩ ?_
  refine a_aastore (k := 3) (n := 8) X (by rw [b_at 1 hP]; rfl) (by rw [b_at 26 hP]; rfl) ⟨by decide, by decide, by decide, rfl⟩ dX1_init_36 ?_
  refine Zw.to (S' := (pre ++ [kd54 P, kd69 P, kd56 P, kc1_5, kc1_10, kc1_10, kc1_10, kc1_10, kc1_30, kc1_10, kd57 P, kc1_5, kc1_10, kc1_10, kc1_10, kc1_10, kc1_30, kc1_10, kd58 P, kc1_5, kc1_10, kc1_10, kc1_10, kc1_10, kc1_30, kc1_10, kd59 P, kc1_5, kc1_10, kc1_10, kc1_10, kc1_10, kc1_30, kc1_10], M, N)) ?_ rfl (by show _ = (List.set _ _ _, M, N); rw [b_set 1 hP rfl]; rfl)
  refine a_iinc (v := 4) X dX1_init_37 (by decide) rfl (by decide) ?_
  refine a_goto (tgt := 15) X dX1_init_40 (by decide) ?_
  refine Zw.to (ls' := [some (.ref P), some (.int 4)]) ?_ rfl rfl
  refine a_iload_n X dX1_init_15 rfl ?_
  refine a_aload_n X dX1_init_16 rfl ?_
  refine a_getr X lf1_11 (by rw [b_at0 hP]; rfl) rfl (by omega) dX1_init_17 ?_
  refine a_alen X (by rw [b_at 1 hP]; rfl) (by decide) dX1_init_20 ?_
  refine a_icmp_ge (tgt := 43) X dX1_init_21 (by decide) (fun h => absurd h (by decide)) (fun h => ?_)
  refine a_aload_n X dX1_init_24 rfl ?_
  refine a_getr X lf1_11 (by rw [b_at0 hP]; rfl) rfl (by omega) dX1_init_25 ?_
  refine a_iload_n X dX1_init_28 rfl ?_
  refine b_new X 34 [kq0, kq0, kq0, kq0, kq0, kq0, kq0, kq3, kq3, kq3, kq3, kq3, kq3, kq3] hP rfl (by omega) (hz.up (by omega)) zc4 ln1_9 zinst4 zini4 ⟨rfl, by decide, by decide⟩ ⟨by decide, by decide⟩ dX1_init_29 ?_
  refine a_dup X dX1_init_32 rfl ?_
  refine b_invIN (Y' := [kd54 P, kd69 P, kd56 P, kc1_5, kc1_10, kc1_10, kc1_10, kc1_10, kc1_30, kc1_10, kd57 P, kc1_5, kc1_10, kc1_10, kc1_10, kc1_10, kc1_30, kc1_10, kd58 P, kc1_5, kc1_10, kc1_10, kc1_10, kc1_10, kc1_30, kc1_10, kd59 P, kc1_5, kc1_10, kc1_10, kc1_10, kc1_10, kc1_30, kc1_10, kd60 P, kc1_5, kc1_10, kc1_10, kc1_10, kc1_10, kc1_30, kc1_10]) (blk := blk4) X 34 hP rfl dX1_init_33 miX4_init lm1_17 (T := TX4) (N' := 14) rfl (k_X4 (pre := pre ++ [kd54 P, kd69 P, kd56 P, kc1_5, kc1_10, kc1_10, kc1_10, kc1_10, kc1_30, kc1_10, kd57 P, kc1_5, kc1_10, kc1_10, kc1_10, kc1_10, kc1_30, kc1_10, kd58 P, kc1_5, kc1_10, kc1_10, kc1_10, kc1_10, kc1_30, kc1_10, kd59 P, kc1_5, kc1_10, kc1_10, kc1_10, kc1_10, kc1_30, kc1_10]) (P := P + 34) (by rw [List.length_append, hP]; rfl) (by omega) (hz.up (by omega))) rfl (Nat.le_of_ble_eq_true rfl) ⟨by decide, by decide, by decide, by decide⟩ ?_
  refine a_aastore (k := 4) (n := 8) X (by rw [b_at 1 hP]; rfl) (by rw [b_at 34 hP]; rfl) ⟨by decide, by decide, by decide, rfl⟩ dX1_init_36 ?_
  refine Zw.to (S' := (pre ++ [kd54 P, kd70 P, kd56 P, kc1_5, kc1_10, kc1_10, kc1_10, kc1_10, kc1_30, kc1_10, kd57 P, kc1_5, kc1_10, kc1_10, kc1_10, kc1_10, kc1_30, kc1_10, kd58 P, kc1_5, kc1_10, kc1_10, kc1_10, kc1_10, kc1_30, kc1_10, kd59 P, kc1_5, kc1_10, kc1_10, kc1_10, kc1_10, kc1_30, kc1_10, kd60 P, kc1_5, kc1_10, kc1_10, kc1_10, kc1_10, kc1_30, kc1_10], M, N)) ?_ rfl (by show _ = (List.set _ _ _, M, N); rw [b_set 1 hP rfl]; rfl)
  refine a_iinc (v := 5) X dX1_init_37 (by decide) rfl (by decide) ?_
  refine a_goto (tgt := 15) X dX1_init_40 (by decide) ?_
  refine Zw.to (ls' := [some (.ref P), some (.int 5)]) ?_ rfl rfl
  refine a_iload_n X dX1_init_15 rfl ?_
  refine a_aload_n X dX1_init_16 rfl ?_
  refine a_getr X lf1_11 (by rw [b_at0 hP]; rfl) rfl (by omega) dX1_init_17 ?_
  refine a_alen X (by rw [b_at 1 hP]; rfl) (by decide) dX1_init_20 ?_
  refine a_icmp_ge (tgt := 43) X dX1_init_21 (by decide) (fun h => absurd h (by decide)) (fun h => ?_)
  refine a_aload_n X dX1_init_24 rfl ?_
  refine a_getr X lf1_11 (by rw [b_at0 hP]; rfl) rfl (by omega) dX1_init_25 ?_
  refine a_iload_n X dX1_init_28 rfl ?_
  refine b_new X 42 [kq0, kq0, kq0, kq0, kq0, kq0, kq0, kq3, kq3, kq3, kq3, kq3, kq3, kq3] hP rfl (by omega) (hz.up (by omega)) zc4 ln1_9 zinst4 zini4 ⟨rfl, by decide, by decide⟩ ⟨by decide, by decide⟩ dX1_init_29 ?_
  refine a_dup X dX1_init_32 rfl ?_
  refine b_invIN (Y' := [kd54 P, kd70 P, kd56 P, kc1_5, kc1_10, kc1_10, kc1_10, kc1_10, kc1_30, kc1_10, kd57 P, kc1_5, kc1_10, kc1_10, kc1_10, kc1_10, kc1_30, kc1_10, kd58 P, kc1_5, kc1_10, kc1_10, kc1_10, kc1_10, kc1_30, kc1_10, kd59 P, kc1_5, kc1_10, kc1_10, kc1_10, kc1_10, kc1_30, kc1_10, kd60 P, kc1_5, kc1_10, kc1_10, kc1_10, kc1_10, kc1_30, kc1_10, kd61 P, kc1_5, kc1_10, kc1_10, kc1_10, kc1_10, kc1_30, kc1_10]) (blk := blk4) X 42 hP rfl dX1_init_33 miX4_init lm1_17 (T := TX4) (N' := 14) rfl (k_X4 (pre := pre ++ [kd54 P, kd70 P, kd56 P, kc1_5, kc1_10, kc1_10, kc1_10, kc1_10, kc1_30, kc1_10, kd57 P, kc1_5, kc1_10, kc1_10, kc1_10, kc1_10, kc1_30, kc1_10, kd58 P, kc1_5, kc1_10, kc1_10, kc1_10, kc1_10, kc1_30, kc1_10, kd59 P, kc1_5, kc1_10, kc1_10, kc1_10, kc1_10, kc1_30, kc1_10, kd60 P, kc1_5, kc1_10, kc1_10, kc1_10, kc1_10, kc1_30, kc1_10]) (P := P + 42) (by rw [List.length_append, hP]; rfl) (by omega) (hz.up (by omega))) rfl (Nat.le_of_ble_eq_true rfl) ⟨by decide, by decide, by decide, by decide⟩ ?_
  refine a_aastore (k := 5) (n := 8) X (by rw [b_at 1 hP]; rfl) (by rw [b_at 42 hP]; rfl) ⟨by decide, by decide, by decide, rfl⟩ dX1_init_36 ?_
  refine Zw.to (S' := (pre ++ [kd54 P, kd71 P, kd56 P, kc1_5, kc1_10, kc1_10, kc1_10, kc1_10, kc1_30, kc1_10, kd57 P, kc1_5, kc1_10, kc1_10, kc1_10, kc1_10, kc1_30, kc1_10, kd58 P, kc1_5, kc1_10, kc1_10, kc1_10, kc1_10, kc1_30, kc1_10, kd59 P, kc1_5, kc1_10, kc1_10, kc1_10, kc1_10, kc1_30, kc1_10, kd60 P, kc1_5, kc1_10, kc1_10, kc1_10, kc1_10, kc1_30, kc1_10, kd61 P, kc1_5, kc1_10, kc1_10, kc1_10, kc1_10, kc1_30, kc1_10], M, N)) ?_ rfl (by show _ = (List.set _ _ _, M, N); rw [b_set 1 hP rfl]; rfl)
  refine a_iinc (v := 6) X dX1_init_37 (by decide) rfl (by decide) ?_
  refine a_goto (tgt := 15) X dX1_init_40 (by decide) ?_
  refine Zw.to (ls' := [some (.ref P), some (.int 6)]) ?_ rfl rfl
  refine a_iload_n X dX1_init_15 rfl ?_
  refine a_aload_n X dX1_init_16 rfl ?_
  refine a_getr X lf1_11 (by rw [b_at0 hP]; rfl) rfl (by omega) dX1_init_17 ?_
  refine a_alen X (by rw [b_at 1 hP]; rfl) (by decide) dX1_init_20 ?_
  refine a_icmp_ge (tgt := 43) X dX1_init_21 (by decide) (fun h => absurd h (by decide)) (fun h => ?_)
  refine a_aload_n X dX1_init_24 rfl ?_
  refine a_getr X lf1_11 (by rw [b_at0 hP]; rfl) rfl (by omega) dX1_init_25 ?_
  refine a_iload_n X dX1_init_28 rfl ?_
  refine b_new X 50 [kq0, kq0, kq0, kq0, kq0, kq0, kq0, kq3, kq3, kq3, kq3, kq3, kq3, kq3] hP rfl (by omega) (hz.up (by omega)) zc4 ln1_9 zinst4 zini4 ⟨rfl, by decide, by decide⟩ ⟨by decide, by decide⟩ dX1_init_29 ?_
  refine a_dup X dX1_init_32 rfl ?_
  refine b_invIN (Y' := [kd54 P, kd71 P, kd56 P, kc1_5, kc1_10, kc1_10, kc1_10, kc1_10, kc1_30, kc1_10, kd57 P, kc1_5, kc1_10, kc1_10, kc1_10, kc1_10, kc1_30, kc1_10, kd58 P, kc1_5, kc1_10, kc1_10, kc1_10, kc1_10, kc1_30, kc1_10, kd59 P, kc1_5, kc1_10, kc1_10, kc1_10, kc1_10, kc1_30, kc1_10, kd60 P, kc1_5, kc1_10, kc1_10, kc1_10, kc1_10, kc1_30, kc1_10, kd61 P, kc1_5, kc1_10, kc1_10, kc1_10, kc1_10, kc1_30, kc1_10, kd62 P, kc1_5, kc1_10, kc1_10, kc1_10, kc1_10, kc1_30, kc1_10]) (blk := blk4) X 50 hP rfl dX1_init_33 miX4_init lm1_17 (T := TX4) (N' := 14) rfl (k_X4 (pre := pre ++ [kd54 P, kd71 P, kd56 P, kc1_5, kc1_10, kc1_10, kc1_10, kc1_10, kc1_30, kc1_10, kd57 P, kc1_5, kc1_10, kc1_10, kc1_10, kc1_10, kc1_30, kc1_10, kd58 P, kc1_5, kc1_10, kc1_10, kc1_10, kc1_10, kc1_30, kc1_10, kd59 P, kc1_5, kc1_10, kc1_10, kc1_10, kc1_10, kc1_30, kc1_10, kd60 P, kc1_5, kc1_10, kc1_10, kc1_10, kc1_10, kc1_30, kc1_10, kd61 P, kc1_5, kc1_10, kc1_10, kc1_10, kc1_10, kc1_30, kc1_10]) (P := P + 50) (by rw [List.length_append, hP]; rfl) (by omega) (hz.up (by omega))) rfl (Nat.le_of_ble_eq_true rfl) ⟨by decide, by decide, by decide, by decide⟩ ?_
  refine a_aastore (k := 6) (n := 8) X (by rw [b_at 1 hP]; rfl) (by rw [b_at 50 hP]; rfl) ⟨by decide, by decide, by decide, rfl⟩ dX1_init_36 ?_
  refine Zw.to (S' := (pre ++ [kd54 P, kd72 P, kd56 P, kc1_5, kc1_10, kc1_10, kc1_10, kc1_10, kc1_30, kc1_10, kd57 P, kc1_5, kc1_10, kc1_10, kc1_10, kc1_10, kc1_30, kc1_10, kd58 P, kc1_5, kc1_10, kc1_10, kc1_10, kc1_10, kc1_30, kc1_10, kd59 P, kc1_5, kc1_10, kc1_10, kc1_10, kc1_10, kc1_30, kc1_10, kd60 P, kc1_5, kc1_10, kc1_10, kc1_10, kc1_10, kc1_30, kc1_10, kd61 P, kc1_5, kc1_10, kc1_10, kc1_10, kc1_10, kc1_30, kc1_10, kd62 P, kc1_5, kc1_10, kc1_10, kc1_10, kc1_10, kc1_30, kc1_10], M, N)) ?_ rfl (by show _ = (List.set _ _ _, M, N); rw [b_set 1 hP rfl]; rfl)
  refine a_iinc (v := 7) X dX1_init_37 (by decide) rfl (by decide) ?_
  refine a_goto (tgt := 15) X dX1_init_40 (by decide) ?_
  refine Zw.to (ls' := [some (.ref P), some (.int 7)]) ?_ rfl rfl
  refine a_iload_n X dX1_init_15 rfl ?_
  refine a_aload_n X dX1_init_16 rfl ?_
  refine a_getr X lf1_11 (by rw [b_at0 hP]; rfl) rfl (by omega) dX1_init_17 ?_
  refine a_alen X (by rw [b_at 1 hP]; rfl) (by decide) dX1_init_20 ?_
  refine a_icmp_ge (tgt := 43) X dX1_init_21 (by decide) (fun h => absurd h (by decide)) (fun h => ?_)
  refine a_aload_n X dX1_init_24 rfl ?_
  refine a_getr X lf1_11 (by rw [b_at0 hP]; rfl) rfl (by omega) dX1_init_25 ?_
  refine a_iload_n X dX1_init_28 rfl ?_
  refine b_new X 58 [kq0, kq0, kq0, kq0, kq0, kq0, kq0, kq3, kq3, kq3, kq3, kq3, kq3, kq3] hP rfl (by omega) (hz.up (by omega)) zc4 ln1_9 zinst4 zini4 ⟨rfl, by decide, by decide⟩ ⟨by decide, by decide⟩ dX1_init_29 ?_
  refine a_dup X dX1_init_32 rfl ?_
  refine b_invIN (Y' := [kd54 P, kd72 P, kd56 P, kc1_5, kc1_10, kc1_10, kc1_10, kc1_10, kc1_30, kc1_10, kd57 P, kc1_5, kc1_10, kc1_10, kc1_10, kc1_10, kc1_30, kc1_10, kd58 P, kc1_5, kc1_10, kc1_10, kc1_10, kc1_10, kc1_30, kc1_10, kd59 P, kc1_5, kc1_10, kc1_10, kc1_10, kc1_10, kc1_30, kc1_10, kd60 P, kc1_5, kc1_10, kc1_10, kc1_10, kc1_10, kc1_30, kc1_10, kd61 P, kc1_5, kc1_10, kc1_10, kc1_10, kc1_10, kc1_30, kc1_10, kd62 P, kc1_5, kc1_10, kc1_10, kc1_10, kc1_10, kc1_30, kc1_10, kd63 P, kc1_5, kc1_10, kc1_10, kc1_10, kc1_10, kc1_30, kc1_10]) (blk := blk4) X 58 hP rfl dX1_init_33 miX4_init lm1_17 (T := TX4) (N' := 14) rfl (k_X4 (pre := pre ++ [kd54 P, kd72 P, kd56 P, kc1_5, kc1_10, kc1_10, kc1_10, kc1_10, kc1_30, kc1_10, kd57 P, kc1_5, kc1_10, kc1_10, kc1_10, kc1_10, kc1_30, kc1_10, kd58 P, kc1_5, kc1_10, kc1_10, kc1_10, kc1_10, kc1_30, kc1_10, kd59 P, kc1_5, kc1_10, kc1_10, kc1_10, kc1_10, kc1_30, kc1_10, kd60 P, kc1_5, kc1_10, kc1_10, kc1_10, kc1_10, kc1_30, kc1_10, kd61 P, kc1_5, kc1_10, kc1_10, kc1_10, kc1_10, kc1_30, kc1_10, kd62 P, kc1_5, kc1_10, kc1_10, kc1_10, kc1_10, kc1_30, kc1_10]) (P := P + 58) (by rw [List.length_append, hP]; rfl) (by omega) (hz.up (by omega))) rfl (Nat.le_of_ble_eq_true rfl) ⟨by decide, by decide, by decide, by decide⟩ ?_
  refine a_aastore (k := 7) (n := 8) X (by rw [b_at 1 hP]; rfl) (by rw [b_at 58 hP]; rfl) ⟨by decide, by decide, by decide, rfl⟩ dX1_init_36 ?_
  refine Zw.to (S' := (pre ++ [kd54 P, kd55 P, kd56 P, kc1_5, kc1_10, kc1_10, kc1_10, kc1_10, kc1_30, kc1_10, kd57 P, kc1_5, kc1_10, kc1_10, kc1_10, kc1_10, kc1_30, kc1_10, kd58 P, kc1_5, kc1_10, kc1_10, kc1_10, kc1_10, kc1_30, kc1_10, kd59 P, kc1_5, kc1_10, kc1_10, kc1_10, kc1_10, kc1_30, kc1_10, kd60 P, kc1_5, kc1_10, kc1_10, kc1_10, kc1_10, kc1_30, kc1_10, kd61 P, kc1_5, kc1_10, kc1_10, kc1_10, kc1_10, kc1_30, kc1_10, kd62 P, kc1_5, kc1_10, kc1_10, kc1_10, kc1_10, kc1_30, kc1_10, kd63 P, kc1_5, kc1_10, kc1_10, kc1_10, kc1_10, kc1_30, kc1_10], M, N)) ?_ rfl (by show _ = (List.set _ _ _, M, N); rw [b_set 1 hP rfl]; rfl)
  refine a_iinc (v := 8) X dX1_init_37 (by decide) rfl (by decide) ?_
  refine a_goto (tgt := 15) X dX1_init_40 (by decide) ?_
  refine Zw.to (ls' := [some (.ref P), some (.int 8)]) ?_ rfl rfl
  refine a_iload_n X dX1_init_15 rfl ?_
  refine a_aload_n X dX1_init_16 rfl ?_
  refine a_getr X lf1_11 (by rw [b_at0 hP]; rfl) rfl (by omega) dX1_init_17 ?_
  refine a_alen X (by rw [b_at 1 hP]; rfl) (by decide) dX1_init_20 ?_
  refine a_icmp_ge (tgt := 43) X dX1_init_21 (by decide) (fun h => ?_) (fun h => absurd (by decide) h)
  refine a_vret X hr dX1_init_43 ⟨by decide, by decide⟩ ?_
  subst hF
  exact ⟨rfl, rfl⟩
theorem end7 {L : List zC} {P : Nat} {M A : Nat → Nat → Int32} {N : Nat → Nat → Int64} (hT : LX7 L P) (hz : zz (P + 0) M N) (h0 : zout (zu (zu M (P + 3) 1 (-1)) (P + 3) 2 (-1)) A (P + 17) (P + 17 + 8)) (h1 : A (P + 17) 0 = 0) (h2 : A (P + 17) 1 = 0) (h3 : A (P + 17) 2 = 0) (h4 : A (P + 17) 3 = 0) (h5 : A (P + 17) 4 = 0) (h6 : A (P + 17) 5 = 100) (h7 : A (P + 17) 6 = 0) (g1 : ∀ j, j < 5 → A (P + 17 + 1) j = 0) (g3 : ∀ j, j < 10 → A (P + 17 + 3) j = 0) (g2 : ∀ j, j < 10 → A (P + 17 + 2) j = 0) (g4 : ∀ j, j < 10 → A (P + 17 + 4) j = -1) (g5 : ∀ j, j < 10 → A (P + 17 + 5) j = 0) (g6 : ∀ j, j < 30 → A (P + 17 + 6) j = -1) (g7 : ∀ j, j < 10 → A (P + 17 + 7) j = -1) : zE7 (L, (zu (zu (zu (zu (zu A (P + 91) 0 0) (P + 91) 3 0) (P + 91) 1 0) (P + 91) 2 0) P 2 (-1)), N) P ∧ zz (P + 200) (zu (zu (zu (zu (zu A (P + 91) 0 0) (P + 91) 3 0) (P + 91) 1 0) (P + 91) 2 0) P 2 (-1)) N ∧ ∀ a, a < P → (zu (zu (zu (zu (zu A (P + 91) 0 0) (P + 91) 3 0) (P + 91) 1 0) (P + 91) 2 0) P 2 (-1)) a = M a := by
  have r : ∀ a, a ≠ P → a ≠ P + 91 → (zu (zu (zu (zu (zu A (P + 91) 0 0) (P + 91) 3 0) (P + 91) 1 0) (P + 91) 2 0) P 2 (-1)) a = A a := fun a q1 q2 => by rw [zu_row q1, zu_row q2, zu_row q2, zu_row q2, zu_row q2]
  have r0 : ∀ a, a ≠ P → a ≠ P + 91 → (a < P + 17 ∨ P + 25 ≤ a) → a ≠ P + 3 → (zu (zu (zu (zu (zu A (P + 91) 0 0) (P + 91) 3 0) (P + 91) 1 0) (P + 91) 2 0) P 2 (-1)) a = M a := fun a q1 q2 q3 q4 => by rw [r a q1 q2, h0 a (by omega), zu_row q4, zu_row q4]
  have p : ∀ j, j ≠ 2 → (zu (zu (zu (zu (zu A (P + 91) 0 0) (P + 91) 3 0) (P + 91) 1 0) (P + 91) 2 0) P 2 (-1)) P j = 0 := fun j hj => by rw [zu_ne (fun q => hj q.2), zu_row (by omega), zu_row (by omega), zu_row (by omega), zu_row (by omega), h0 P (by omega), zu_row (by omega), zu_row (by omega)]; exact (hz P (by omega) j).1
  have t : ∀ j, (zu (zu (zu (zu (zu A (P + 91) 0 0) (P + 91) 3 0) (P + 91) 1 0) (P + 91) 2 0) P 2 (-1)) (P + 3) j = zu (zu M (P + 3) 1 (-1)) (P + 3) 2 (-1) (P + 3) j := fun j => by rw [r (P + 3) (by omega) (by omega), h0 (P + 3) (by omega)]
  have l : ∀ j, (zu (zu (zu (zu (zu A (P + 91) 0 0) (P + 91) 3 0) (P + 91) 1 0) (P + 91) 2 0) P 2 (-1)) (P + 17) j = A (P + 17) j := fun j => by rw [r (P + 17) (by omega) (by omega)]
  have u : ∀ j, (zu (zu (zu (zu (zu A (P + 91) 0 0) (P + 91) 3 0) (P + 91) 1 0) (P + 91) 2 0) P 2 (-1)) (P + 25) j = 0 := fun j => by rw [r0 (P + 25) (by omega) (by omega) (by omega) (by omega)]; exact (hz (P + 25) (by omega) j).1
  have w : ∀ j, (zu (zu (zu (zu (zu A (P + 91) 0 0) (P + 91) 3 0) (P + 91) 1 0) (P + 91) 2 0) P 2 (-1)) (P + 91) j = zu (zu (zu (zu A (P + 91) 0 0) (P + 91) 3 0) (P + 91) 1 0) (P + 91) 2 0 (P + 91) j := fun j => by rw [zu_row (by omega)]
  refine ⟨⟨hT, p 0 (by decide), p 1 (by decide), zu_eq, p 3 (by decide), (t 1).trans (by simp [zu]), (t 2).trans (by simp [zu]), (l 0).trans h1, (l 1).trans h2, (l 2).trans h3, (l 3).trans h4, (l 4).trans h5, (l 5).trans h6, (l 6).trans h7, fun j hj => ?_, fun j hj => ?_, u 0, u 1, (w 0).trans (by simp [zu]), (w 1).trans (by simp [zu]), (w 2).trans (by simp [zu]), (w 3).trans (by simp [zu]), fun j hj => ?_, fun j hj => ?_, fun j hj => ?_, fun j hj => ?_, fun j hj => ?_⟩, fun k hk j => ⟨?_, (hz k (by omega) j).2⟩, fun a ha => r0 a (by omega) (by omega) (by omega) (by omega)⟩
  · show (zu (zu (zu (zu (zu A (P + 91) 0 0) (P + 91) 3 0) (P + 91) 1 0) (P + 91) 2 0) P 2 (-1)) (P + 18) j = 0
    rw [r (P + 18) (by omega) (by omega)]
    exact g1 j hj
  · show (zu (zu (zu (zu (zu A (P + 91) 0 0) (P + 91) 3 0) (P + 91) 1 0) (P + 91) 2 0) P 2 (-1)) (P + 20) j = 0
    rw [r (P + 20) (by omega) (by omega)]
    exact g3 j hj
  · show (zu (zu (zu (zu (zu A (P + 91) 0 0) (P + 91) 3 0) (P + 91) 1 0) (P + 91) 2 0) P 2 (-1)) (P + 19) j = 0
    rw [r (P + 19) (by omega) (by omega)]
    exact g2 j hj
  · show (zu (zu (zu (zu (zu A (P + 91) 0 0) (P + 91) 3 0) (P + 91) 1 0) (P + 91) 2 0) P 2 (-1)) (P + 21) j = -1
    rw [r (P + 21) (by omega) (by omega)]
    exact g4 j hj
  · show (zu (zu (zu (zu (zu A (P + 91) 0 0) (P + 91) 3 0) (P + 91) 1 0) (P + 91) 2 0) P 2 (-1)) (P + 22) j = 0
    rw [r (P + 22) (by omega) (by omega)]
    exact g5 j hj
  · show (zu (zu (zu (zu (zu A (P + 91) 0 0) (P + 91) 3 0) (P + 91) 1 0) (P + 91) 2 0) P 2 (-1)) (P + 23) j = -1
    rw [r (P + 23) (by omega) (by omega)]
    exact g6 j hj
  · show (zu (zu (zu (zu (zu A (P + 91) 0 0) (P + 91) 3 0) (P + 91) 1 0) (P + 91) 2 0) P 2 (-1)) (P + 24) j = -1
    rw [r (P + 24) (by omega) (by omega)]
    exact g7 j hj
  · rw [r0 k (by omega) (by omega) (by omega) (by omega)]
    exact (hz k (by omega) j).1
def blk7 (P : Nat) : List zC := [kd73 P, kc1_700, kc1_50, kd74 P, kd37 P, kc1_5, kc1_10, kc1_10, kc1_10, kc1_10, kc1_30, kc1_10, kc1_700, kc3_5, kc3_10, kc3_4, kc1_3, kd75 P, kc1_5, kc1_10, kc1_10, kc1_10, kc1_10, kc1_30, kc1_10, kd76 P, kd77 P, kd78 P, kc1_5, kc1_10, kc1_10, kc1_10, kc1_10, kc1_30, kc1_10, kd79 P, kc1_5, kc1_10, kc1_10, kc1_10, kc1_10, kc1_30, kc1_10, kd80 P, kc1_5, kc1_10, kc1_10, kc1_10, kc1_10, kc1_30, kc1_10, kd81 P, kc1_5, kc1_10, kc1_10, kc1_10, kc1_10, kc1_30, kc1_10, kd82 P, kc1_5, kc1_10, kc1_10, kc1_10, kc1_10, kc1_30, kc1_10, kd83 P, kc1_5, kc1_10, kc1_10, kc1_10, kc1_10, kc1_30, kc1_10, kd84 P, kc1_5, kc1_10, kc1_10, kc1_10, kc1_10, kc1_30, kc1_10, kd85 P, kc1_5, kc1_10, kc1_10, kc1_10, kc1_10, kc1_30, kc1_10, kd86 P, kc1_5, kc1_5, kc1_5, kc1_10, kc1_10, kc1_10, kc1_10, kc1_10, kc1_10, kc1_10, kc1_10, kc1_30, kd87 P, kc1_10, kc1_10, kc1_10, kc1_5, kc1_5, kc1_5, kc1_10, kd88 P, kc3_128, kc1_128, kc3_35, kc3_7, kd89 P, kc1_10, kc1_10, kc1_10, kc1_5, kc1_5, kc1_5, kc1_10, kd90 P, kc1_10, kc1_10, kc1_10, kd91 P, kc1_5, kc1_10, kc1_10, kc1_10, kc1_10, kc1_30, kc1_10, kd92 P, kc1_5, kc1_5, kc1_5, kc1_10, kc1_10, kc1_10, kc1_10, kc1_10, kc1_10, kc1_10, kc1_10, kc1_30, kd93 P, kc1_10, kc1_10, kc1_10, kc1_5, kc1_5, kc1_5, kc1_10, kd94 P, kc1_5, kc1_10, kc1_10, kc1_10, kc1_10, kc1_30, kc1_10, kd95 P, kc1_5, kc1_5, kc1_5, kc1_10, kc1_10, kc1_10, kc1_10, kc1_10, kc1_10, kc1_10, kc1_10, kc1_30, kd96 P, kc1_10, kc1_10, kc1_10, kc1_5, kc1_5, kc1_5, kc1_10, kd97 P, kc3_128, kc1_128, kc3_35, kc3_7, kd98 P, kc1_10, kc1_10, kc1_10, kc1_5, kc1_5, kc1_5, kc1_10]
set_option maxRecDepth 100000 in
theorem lx7 {pre : List zC} {P : Nat} (hP : pre.length = P) (hp : P + 600 < 1000000) : LX7 (pre ++ blk7 P) P := ⟨by omega, (b_at0 hP).trans rfl, (b_at 1 hP).trans rfl, (b_at 2 hP).trans rfl, ⟨by omega, (b_at 3 hP).trans rfl, ⟨by omega, (b_at 4 hP).trans rfl, (b_at 5 hP).trans rfl, (b_at 6 hP).trans rfl, (b_at 7 hP).trans rfl, (b_at 8 hP).trans rfl, (b_at 9 hP).trans rfl, (b_at 10 hP).trans rfl, (b_at 11 hP).trans rfl⟩, (b_at 12 hP).trans rfl, (b_at 13 hP).trans rfl, (b_at 14 hP).trans rfl, (b_at 15 hP).trans rfl, (b_at 16 hP).trans rfl⟩, ⟨by omega, (b_at 17 hP).trans rfl, (b_at 18 hP).trans rfl, (b_at 19 hP).trans rfl, (b_at 20 hP).trans rfl, (b_at 21 hP).trans rfl, (b_at 22 hP).trans rfl, (b_at 23 hP).trans rfl, (b_at 24 hP).trans rfl⟩, ⟨by omega, (b_at 25 hP).trans rfl, (b_at 26 hP).trans rfl, ⟨by omega, (b_at 27 hP).trans rfl, (b_at 28 hP).trans rfl, (b_at 29 hP).trans rfl, (b_at 30 hP).trans rfl, (b_at 31 hP).trans rfl, (b_at 32 hP).trans rfl, (b_at 33 hP).trans rfl, (b_at 34 hP).trans rfl⟩, ⟨by omega, (b_at 35 hP).trans rfl, (b_at 36 hP).trans rfl, (b_at 37 hP).trans rfl, (b_at 38 hP).trans rfl, (b_at 39 hP).trans rfl, (b_at 40 hP).trans rfl, (b_at 41 hP).trans rfl, (b_at 42 hP).trans rfl⟩, ⟨by omega, (b_at 43 hP).trans rfl, (b_at 44 hP).trans rfl, (b_at 45 hP).trans rfl, (b_at 46 hP).trans rfl, (b_at 47 hP).trans rfl, (b_at 48 hP).trans rfl, (b_at 49 hP).trans rfl, (b_at 50 hP).trans rfl⟩, ⟨by omega, (b_at 51 hP).trans rfl, (b_at 52 hP).trans rfl, (b_at 53 hP).trans rfl, (b_at 54 hP).trans rfl, (b_at 55 hP).trans rfl, (b_at 56 hP).trans rfl, (b_at 57 hP).trans rfl, (b_at 58 hP).trans rfl⟩, ⟨by omega, (b_at 59 hP).trans rfl, (b_at 60 hP).trans rfl, (b_at 61 hP).trans rfl, (b_at 62 hP).trans rfl, (b_at 63 hP).trans rfl, (b_at 64 hP).trans rfl, (b_at 65 hP).trans rfl, (b_at 66 hP).trans rfl⟩, ⟨by omega, (b_at 67 hP).trans rfl, (b_at 68 hP).trans rfl, (b_at 69 hP).trans rfl, (b_at 70 hP).trans rfl, (b_at 71 hP).trans rfl, (b_at 72 hP).trans rfl, (b_at 73 hP).trans rfl, (b_at 74 hP).trans rfl⟩, ⟨by omega, (b_at 75 hP).trans rfl, (b_at 76 hP).trans rfl, (b_at 77 hP).trans rfl, (b_at 78 hP).trans rfl, (b_at 79 hP).trans rfl, (b_at 80 hP).trans rfl, (b_at 81 hP).trans rfl, (b_at 82 hP).trans rfl⟩, ⟨by omega, (b_at 83 hP).trans rfl, (b_at 84 hP).trans rfl, (b_at 85 hP).trans rfl, (b_at 86 hP).trans rfl, (b_at 87 hP).trans rfl, (b_at 88 hP).trans rfl, (b_at 89 hP).trans rfl, (b_at 90 hP).trans rfl⟩⟩, ⟨by omega, (b_at 91 hP).trans rfl, (b_at 92 hP).trans rfl, (b_at 93 hP).trans rfl, (b_at 94 hP).trans rfl, (b_at 95 hP).trans rfl, (b_at 96 hP).trans rfl, (b_at 97 hP).trans rfl, (b_at 98 hP).trans rfl, (b_at 99 hP).trans rfl, (b_at 100 hP).trans rfl, (b_at 101 hP).trans rfl, (b_at 102 hP).trans rfl, (b_at 103 hP).trans rfl⟩, ⟨by omega, (b_at 104 hP).trans rfl, (b_at 105 hP).trans rfl, (b_at 106 hP).trans rfl, (b_at 107 hP).trans rfl, (b_at 108 hP).trans rfl, (b_at 109 hP).trans rfl, (b_at 110 hP).trans rfl, (b_at 111 hP).trans rfl⟩, ⟨by omega, (b_at 112 hP).trans rfl, (b_at 113 hP).trans rfl, (b_at 114 hP).trans rfl, (b_at 115 hP).trans rfl, (b_at 116 hP).trans rfl, ⟨by omega, (b_at 117 hP).trans rfl, (b_at 118 hP).trans rfl, (b_at 119 hP).trans rfl, (b_at 120 hP).trans rfl, (b_at 121 hP).trans rfl, (b_at 122 hP).trans rfl, (b_at 123 hP).trans rfl, (b_at 124 hP).trans rfl⟩⟩, ⟨by omega, (b_at 125 hP).trans rfl, (b_at 126 hP).trans rfl, (b_at 127 hP).trans rfl, (b_at 128 hP).trans rfl, ⟨by omega, (b_at 129 hP).trans rfl, (b_at 130 hP).trans rfl, (b_at 131 hP).trans rfl, (b_at 132 hP).trans rfl, (b_at 133 hP).trans rfl, (b_at 134 hP).trans rfl, (b_at 135 hP).trans rfl, (b_at 136 hP).trans rfl⟩, ⟨by omega, (b_at 137 hP).trans rfl, (b_at 138 hP).trans rfl, (b_at 139 hP).trans rfl, (b_at 140 hP).trans rfl, (b_at 141 hP).trans rfl, (b_at 142 hP).trans rfl, (b_at 143 hP).trans rfl, (b_at 144 hP).trans rfl, (b_at 145 hP).trans rfl, (b_at 146 hP).trans rfl, (b_at 147 hP).trans rfl, (b_at 148 hP).trans rfl, (b_at 149 hP).trans rfl⟩, ⟨by omega, (b_at 150 hP).trans rfl, (b_at 151 hP).trans rfl, (b_at 152 hP).trans rfl, (b_at 153 hP).trans rfl, (b_at 154 hP).trans rfl, (b_at 155 hP).trans rfl, (b_at 156 hP).trans rfl, (b_at 157 hP).trans rfl⟩⟩, ⟨by omega, (b_at 158 hP).trans rfl, (b_at 159 hP).trans rfl, (b_at 160 hP).trans rfl, (b_at 161 hP).trans rfl, (b_at 162 hP).trans rfl, (b_at 163 hP).trans rfl, (b_at 164 hP).trans rfl, (b_at 165 hP).trans rfl⟩, ⟨by omega, (b_at 166 hP).trans rfl, (b_at 167 hP).trans rfl, (b_at 168 hP).trans rfl, (b_at 169 hP).trans rfl, (b_at 170 hP).trans rfl, (b_at 171 hP).trans rfl, (b_at 172 hP).trans rfl, (b_at 173 hP).trans rfl, (b_at 174 hP).trans rfl, (b_at 175 hP).trans rfl, (b_at 176 hP).trans rfl, (b_at 177 hP).trans rfl, (b_at 178 hP).trans rfl⟩, ⟨by omega, (b_at 179 hP).trans rfl, (b_at 180 hP).trans rfl, (b_at 181 hP).trans rfl, (b_at 182 hP).trans rfl, (b_at 183 hP).trans rfl, (b_at 184 hP).trans rfl, (b_at 185 hP).trans rfl, (b_at 186 hP).trans rfl⟩, ⟨by omega, (b_at 187 hP).trans rfl, (b_at 188 hP).trans rfl, (b_at 189 hP).trans rfl, (b_at 190 hP).trans rfl, (b_at 191 hP).trans rfl, ⟨by omega, (b_at 192 hP).trans rfl, (b_at 193 hP).trans rfl, (b_at 194 hP).trans rfl, (b_at 195 hP).trans rfl, (b_at 196 hP).trans rfl, (b_at 197 hP).trans rfl, (b_at 198 hP).trans rfl, (b_at 199 hP).trans rfl⟩⟩⟩
set_option maxRecDepth 100000 in
set_option maxHeartbeats 8000000 in
theorem k_X7 {l : Launch} {G : zG} {b : Nat} {pre : List zC} {P : Nat} {M : Nat → Nat → Int32} {N : Nat → Nat → Int64} (hP : pre.length = P) (hp : P + 600 < 1000000) (hz : zz (P + 0) M N) : zM l G b yX7_init cX7_init 1 none 3 199 4066 [.ref P] (pre ++ [kd99], M, N) (fun r z => r = none ∧ ∃ M' N', z = (pre ++ blk7 P, M', N') ∧ zE7 z P ∧ zz (P + 200) M' N' ∧ (∀ a, a < P → M' a = M a)) := by
  refine zM.of miX7_init (Nat.le_of_ble_eq_true rfl) ?_
  intro p e s m args below meth c X hr hname
  generalize hF : ((fun r z => r = none ∧ ∃ M' N', z = (pre ++ blk7 P, M', N') ∧ zE7 z P ∧ zz (P + 200) M' N' ∧ (∀ a, a < P → M' a = M a)) : Option Value → zS → Prop) = FQ
  change Zw p l e { frames := 3, cells := 199, slots := 4066, locals := 80 * 3 } s m args below meth c G b 1 (MQ below (zQ G b FQ) args s 199 4066 (fun q : Nat => b ≤ q)) 0 0 0 [some (.ref P)] [] (pre ++ [kd99], M, N)
  refine a_aload_n X dX7_init_0 rfl ?_
  refine a_objinit X lm7_1 (by decide) dX7_init_1 ?_
  refine a_aload_n X dX7_init_4 rfl ?_
  refine a_sipush (v := 700) X dX7_init_5 (by decide) ?_
  refine b_newarray (at_ := .int) (Y' := [kd99, kc1_700]) X 1 hP rfl (by omega) ((hz.up (by omega))) rfl (Or.inl ⟨rfl, rfl⟩) zarrI ⟨by decide, rfl, by decide⟩ ⟨by decide, by decide⟩ dX7_init_8 ?_
  refine b_putr (Y' := [kd100 P, kc1_700]) X hP hname lff7_9 (fun _ => ⟨rfl, rfl⟩) (by omega) rfl (Nat.le_of_ble_eq_true rfl) rfl dX7_init_10 ?_
  refine a_aload_n X dX7_init_13 rfl ?_
  refine a_bipush (v := 50) X dX7_init_14 (by decide) ?_
  refine b_newarray (at_ := .int) (Y' := [kd100 P, kc1_700, kc1_50]) X 2 hP rfl (by omega) ((hz.up (by omega))) rfl (Or.inl ⟨rfl, rfl⟩) zarrI ⟨by decide, rfl, by decide⟩ ⟨by decide, by decide⟩ dX7_init_16 ?_
  refine b_putr (Y' := [kd101 P, kc1_700, kc1_50]) X hP hname lff7_13 (fun _ => ⟨rfl, rfl⟩) (by omega) rfl (Nat.le_of_ble_eq_true rfl) rfl dX7_init_18 ?_
  refine a_aload_n X dX7_init_21 rfl ?_
  refine b_new X 3 [kq3, kq0, kq0, kq3, kq0, kq0, kq0, kq0, kq1, kq0, kq1, kq0, kq0, kq0, kq3, kq3, kq3, kq3] hP rfl (by omega) ((hz.up (by omega))) zc3 ln7_16 zinst3 zini3 ⟨rfl, by decide, by decide⟩ ⟨by decide, by decide⟩ dX7_init_22 ?_
  refine a_dup X dX7_init_25 rfl ?_
  refine b_invIN (Y' := [kd101 P, kc1_700, kc1_50, kd74 P, kd37 P, kc1_5, kc1_10, kc1_10, kc1_10, kc1_10, kc1_30, kc1_10, kc1_700, kc3_5, kc3_10, kc3_4, kc1_3]) (blk := blk3) X 3 hP rfl dX7_init_26 miX3_init lm7_18 (T := TX3) (N' := 18) rfl (k_X3 (pre := pre ++ [kd101 P, kc1_700, kc1_50]) (P := P + 3) (by rw [List.length_append, hP]; rfl) (by omega) ((hz.up (by omega)))) rfl (Nat.le_of_ble_eq_true rfl) ⟨by decide, by decide, by decide, by decide⟩ ?_
  refine b_putr (Y' := [kd102 P, kc1_700, kc1_50, kd74 P, kd37 P, kc1_5, kc1_10, kc1_10, kc1_10, kc1_10, kc1_30, kc1_10, kc1_700, kc3_5, kc3_10, kc3_4, kc1_3]) X hP hname lff7_19 (fun _ => ⟨rfl, rfl⟩) (by omega) rfl (Nat.le_of_ble_eq_true rfl) rfl dX7_init_29 ?_
  refine a_aload_n X dX7_init_32 rfl ?_
  refine b_new X 17 [kq0, kq0, kq0, kq0, kq0, kq0, kq0, kq3, kq3, kq3, kq3, kq3, kq3, kq3] hP rfl (by omega) (((zz.zuM (a := P + 17) (zz.zuM (a := P + 17) (hz.up (by omega)) (by omega)) (by omega))).up (by omega)) zc4 ln7_23 zinst4 zini4 ⟨rfl, by decide, by decide⟩ ⟨by decide, by decide⟩ dX7_init_33 ?_
  refine a_dup X dX7_init_36 rfl ?_
  refine b_invIN (Y' := [kd102 P, kc1_700, kc1_50, kd74 P, kd37 P, kc1_5, kc1_10, kc1_10, kc1_10, kc1_10, kc1_30, kc1_10, kc1_700, kc3_5, kc3_10, kc3_4, kc1_3, kd75 P, kc1_5, kc1_10, kc1_10, kc1_10, kc1_10, kc1_30, kc1_10]) (blk := blk4) X 17 hP rfl dX7_init_37 miX4_init lm7_25 (T := TX4) (N' := 14) rfl (k_X4 (pre := pre ++ [kd102 P, kc1_700, kc1_50, kd74 P, kd37 P, kc1_5, kc1_10, kc1_10, kc1_10, kc1_10, kc1_30, kc1_10, kc1_700, kc3_5, kc3_10, kc3_4, kc1_3]) (P := P + 17) (by rw [List.length_append, hP]; rfl) (by omega) (((zz.zuM (a := P + 17) (zz.zuM (a := P + 17) (hz.up (by omega)) (by omega)) (by omega))).up (by omega))) rfl (Nat.le_of_ble_eq_true rfl) ⟨by decide, by decide, by decide, by decide⟩ ?_
  refine b_putr (Y' := [kd103 P, kc1_700, kc1_50, kd74 P, kd37 P, kc1_5, kc1_10, kc1_10, kc1_10, kc1_10, kc1_30, kc1_10, kc1_700, kc3_5, kc3_10, kc3_4, kc1_3, kd75 P, kc1_5, kc1_10, kc1_10, kc1_10, kc1_10, kc1_30, kc1_10]) X hP hname lff7_26 (fun _ => ⟨rfl, rfl⟩) (by omega) rfl (Nat.le_of_ble_eq_true rfl) rfl dX7_init_40 ?_
  refine a_aload_n X dX7_init_43 rfl ?_
  refine b_new X 25 [kq0, kq0, kq3] hP rfl (by omega) (((zz.zuM (a := P + 25) (zz.zuM (a := P + 25) (hz.up (by omega)) (by omega)) (by omega))).up (by omega)) zc1 ln7_30 zinst1 zini1 ⟨rfl, by decide, by decide⟩ ⟨by decide, by decide⟩ dX7_init_44 ?_
  refine a_dup X dX7_init_47 rfl ?_
  refine b_invI (Y' := [kd103 P, kc1_700, kc1_50, kd74 P, kd37 P, kc1_5, kc1_10, kc1_10, kc1_10, kc1_10, kc1_30, kc1_10, kc1_700, kc3_5, kc3_10, kc3_4, kc1_3, kd75 P, kc1_5, kc1_10, kc1_10, kc1_10, kc1_10, kc1_30, kc1_10, kd76 P, kd77 P, kd78 P, kc1_5, kc1_10, kc1_10, kc1_10, kc1_10, kc1_30, kc1_10, kd79 P, kc1_5, kc1_10, kc1_10, kc1_10, kc1_10, kc1_30, kc1_10, kd80 P, kc1_5, kc1_10, kc1_10, kc1_10, kc1_10, kc1_30, kc1_10, kd81 P, kc1_5, kc1_10, kc1_10, kc1_10, kc1_10, kc1_30, kc1_10, kd82 P, kc1_5, kc1_10, kc1_10, kc1_10, kc1_10, kc1_30, kc1_10, kd83 P, kc1_5, kc1_10, kc1_10, kc1_10, kc1_10, kc1_30, kc1_10, kd84 P, kc1_5, kc1_10, kc1_10, kc1_10, kc1_10, kc1_30, kc1_10, kd85 P, kc1_5, kc1_10, kc1_10, kc1_10, kc1_10, kc1_30, kc1_10]) (blk := blk1) X 25 hP rfl dX7_init_48 miX1_init lm7_32 (T := TX1) (N' := 3) rfl (k_X1 (pre := pre ++ [kd103 P, kc1_700, kc1_50, kd74 P, kd37 P, kc1_5, kc1_10, kc1_10, kc1_10, kc1_10, kc1_30, kc1_10, kc1_700, kc3_5, kc3_10, kc3_4, kc1_3, kd75 P, kc1_5, kc1_10, kc1_10, kc1_10, kc1_10, kc1_30, kc1_10]) (P := P + 25) (by rw [List.length_append, hP]; rfl) (by omega) (((zz.zuM (a := P + 25) (zz.zuM (a := P + 25) (hz.up (by omega)) (by omega)) (by omega))).up (by omega))) rfl (Nat.le_of_ble_eq_true rfl) ⟨by decide, by decide, by decide, by decide⟩ ?_
  refine b_putr (Y' := [kd104 P, kc1_700, kc1_50, kd74 P, kd37 P, kc1_5, kc1_10, kc1_10, kc1_10, kc1_10, kc1_30, kc1_10, kc1_700, kc3_5, kc3_10, kc3_4, kc1_3, kd75 P, kc1_5, kc1_10, kc1_10, kc1_10, kc1_10, kc1_30, kc1_10, kd76 P, kd77 P, kd78 P, kc1_5, kc1_10, kc1_10, kc1_10, kc1_10, kc1_30, kc1_10, kd79 P, kc1_5, kc1_10, kc1_10, kc1_10, kc1_10, kc1_30, kc1_10, kd80 P, kc1_5, kc1_10, kc1_10, kc1_10, kc1_10, kc1_30, kc1_10, kd81 P, kc1_5, kc1_10, kc1_10, kc1_10, kc1_10, kc1_30, kc1_10, kd82 P, kc1_5, kc1_10, kc1_10, kc1_10, kc1_10, kc1_30, kc1_10, kd83 P, kc1_5, kc1_10, kc1_10, kc1_10, kc1_10, kc1_30, kc1_10, kd84 P, kc1_5, kc1_10, kc1_10, kc1_10, kc1_10, kc1_30, kc1_10, kd85 P, kc1_5, kc1_10, kc1_10, kc1_10, kc1_10, kc1_30, kc1_10]) X hP hname lff7_33 (fun _ => ⟨rfl, rfl⟩) (by omega) rfl (Nat.le_of_ble_eq_true rfl) rfl dX7_init_51 ?_
  refine a_aload_n X dX7_init_54 rfl ?_
  refine b_new X 91 [kq0, kq0, kq0, kq0, kq3, kq3, kq3, kq3, kq3, kq3, kq3, kq3, kq3, kq3, kq3, kq3] hP rfl (by omega) (((zz.zuM (a := P + 91) (zz.zuM (a := P + 91) (hz.up (by omega)) (by omega)) (by omega))).up (by omega)) zc2 ln7_37 zinst2 zini2 ⟨rfl, by decide, by decide⟩ ⟨by decide, by decide⟩ dX7_init_55 ?_
  refine a_dup X dX7_init_58 rfl ?_
  refine b_invIN (Y' := [kd104 P, kc1_700, kc1_50, kd74 P, kd37 P, kc1_5, kc1_10, kc1_10, kc1_10, kc1_10, kc1_30, kc1_10, kc1_700, kc3_5, kc3_10, kc3_4, kc1_3, kd75 P, kc1_5, kc1_10, kc1_10, kc1_10, kc1_10, kc1_30, kc1_10, kd76 P, kd77 P, kd78 P, kc1_5, kc1_10, kc1_10, kc1_10, kc1_10, kc1_30, kc1_10, kd79 P, kc1_5, kc1_10, kc1_10, kc1_10, kc1_10, kc1_30, kc1_10, kd80 P, kc1_5, kc1_10, kc1_10, kc1_10, kc1_10, kc1_30, kc1_10, kd81 P, kc1_5, kc1_10, kc1_10, kc1_10, kc1_10, kc1_30, kc1_10, kd82 P, kc1_5, kc1_10, kc1_10, kc1_10, kc1_10, kc1_30, kc1_10, kd83 P, kc1_5, kc1_10, kc1_10, kc1_10, kc1_10, kc1_30, kc1_10, kd84 P, kc1_5, kc1_10, kc1_10, kc1_10, kc1_10, kc1_30, kc1_10, kd85 P, kc1_5, kc1_10, kc1_10, kc1_10, kc1_10, kc1_30, kc1_10, kd86 P, kc1_5, kc1_5, kc1_5, kc1_10, kc1_10, kc1_10, kc1_10, kc1_10, kc1_10, kc1_10, kc1_10, kc1_30]) (blk := blk2) X 91 hP rfl dX7_init_59 miX2_init lm7_39 (T := TX2) (N' := 16) rfl (k_X2 (pre := pre ++ [kd104 P, kc1_700, kc1_50, kd74 P, kd37 P, kc1_5, kc1_10, kc1_10, kc1_10, kc1_10, kc1_30, kc1_10, kc1_700, kc3_5, kc3_10, kc3_4, kc1_3, kd75 P, kc1_5, kc1_10, kc1_10, kc1_10, kc1_10, kc1_30, kc1_10, kd76 P, kd77 P, kd78 P, kc1_5, kc1_10, kc1_10, kc1_10, kc1_10, kc1_30, kc1_10, kd79 P, kc1_5, kc1_10, kc1_10, kc1_10, kc1_10, kc1_30, kc1_10, kd80 P, kc1_5, kc1_10, kc1_10, kc1_10, kc1_10, kc1_30, kc1_10, kd81 P, kc1_5, kc1_10, kc1_10, kc1_10, kc1_10, kc1_30, kc1_10, kd82 P, kc1_5, kc1_10, kc1_10, kc1_10, kc1_10, kc1_30, kc1_10, kd83 P, kc1_5, kc1_10, kc1_10, kc1_10, kc1_10, kc1_30, kc1_10, kd84 P, kc1_5, kc1_10, kc1_10, kc1_10, kc1_10, kc1_30, kc1_10, kd85 P, kc1_5, kc1_10, kc1_10, kc1_10, kc1_10, kc1_30, kc1_10]) (P := P + 91) (by rw [List.length_append, hP]; rfl) (by omega) (((zz.zuM (a := P + 91) (zz.zuM (a := P + 91) (hz.up (by omega)) (by omega)) (by omega))).up (by omega))) rfl (Nat.le_of_ble_eq_true rfl) ⟨by decide, by decide, by decide, by decide⟩ ?_
  refine b_putr (Y' := [kd105 P, kc1_700, kc1_50, kd74 P, kd37 P, kc1_5, kc1_10, kc1_10, kc1_10, kc1_10, kc1_30, kc1_10, kc1_700, kc3_5, kc3_10, kc3_4, kc1_3, kd75 P, kc1_5, kc1_10, kc1_10, kc1_10, kc1_10, kc1_30, kc1_10, kd76 P, kd77 P, kd78 P, kc1_5, kc1_10, kc1_10, kc1_10, kc1_10, kc1_30, kc1_10, kd79 P, kc1_5, kc1_10, kc1_10, kc1_10, kc1_10, kc1_30, kc1_10, kd80 P, kc1_5, kc1_10, kc1_10, kc1_10, kc1_10, kc1_30, kc1_10, kd81 P, kc1_5, kc1_10, kc1_10, kc1_10, kc1_10, kc1_30, kc1_10, kd82 P, kc1_5, kc1_10, kc1_10, kc1_10, kc1_10, kc1_30, kc1_10, kd83 P, kc1_5, kc1_10, kc1_10, kc1_10, kc1_10, kc1_30, kc1_10, kd84 P, kc1_5, kc1_10, kc1_10, kc1_10, kc1_10, kc1_30, kc1_10, kd85 P, kc1_5, kc1_10, kc1_10, kc1_10, kc1_10, kc1_30, kc1_10, kd86 P, kc1_5, kc1_5, kc1_5, kc1_10, kc1_10, kc1_10, kc1_10, kc1_10, kc1_10, kc1_10, kc1_10, kc1_30]) X hP hname lff7_40 (fun _ => ⟨rfl, rfl⟩) (by omega) rfl (Nat.le_of_ble_eq_true rfl) rfl dX7_init_62 ?_
  refine a_aload_n X dX7_init_65 rfl ?_
  refine b_new X 104 [kq3, kq3, kq3, kq3, kq3, kq3, kq3] hP rfl (by omega) (((zz.zuM (a := P + 104) (zz.zuM (a := P + 104) (hz.up (by omega)) (by omega)) (by omega))).up (by omega)) zc5 ln7_44 zinst5 zini5 ⟨rfl, by decide, by decide⟩ ⟨by decide, by decide⟩ dX7_init_66 ?_
  refine a_dup X dX7_init_69 rfl ?_
  refine b_invIN (Y' := [kd105 P, kc1_700, kc1_50, kd74 P, kd37 P, kc1_5, kc1_10, kc1_10, kc1_10, kc1_10, kc1_30, kc1_10, kc1_700, kc3_5, kc3_10, kc3_4, kc1_3, kd75 P, kc1_5, kc1_10, kc1_10, kc1_10, kc1_10, kc1_30, kc1_10, kd76 P, kd77 P, kd78 P, kc1_5, kc1_10, kc1_10, kc1_10, kc1_10, kc1_30, kc1_10, kd79 P, kc1_5, kc1_10, kc1_10, kc1_10, kc1_10, kc1_30, kc1_10, kd80 P, kc1_5, kc1_10, kc1_10, kc1_10, kc1_10, kc1_30, kc1_10, kd81 P, kc1_5, kc1_10, kc1_10, kc1_10, kc1_10, kc1_30, kc1_10, kd82 P, kc1_5, kc1_10, kc1_10, kc1_10, kc1_10, kc1_30, kc1_10, kd83 P, kc1_5, kc1_10, kc1_10, kc1_10, kc1_10, kc1_30, kc1_10, kd84 P, kc1_5, kc1_10, kc1_10, kc1_10, kc1_10, kc1_30, kc1_10, kd85 P, kc1_5, kc1_10, kc1_10, kc1_10, kc1_10, kc1_30, kc1_10, kd86 P, kc1_5, kc1_5, kc1_5, kc1_10, kc1_10, kc1_10, kc1_10, kc1_10, kc1_10, kc1_10, kc1_10, kc1_30, kd87 P, kc1_10, kc1_10, kc1_10, kc1_5, kc1_5, kc1_5, kc1_10]) (blk := blk5) X 104 hP rfl dX7_init_70 miX5_init lm7_46 (T := TX5) (N' := 7) rfl (k_X5 (pre := pre ++ [kd105 P, kc1_700, kc1_50, kd74 P, kd37 P, kc1_5, kc1_10, kc1_10, kc1_10, kc1_10, kc1_30, kc1_10, kc1_700, kc3_5, kc3_10, kc3_4, kc1_3, kd75 P, kc1_5, kc1_10, kc1_10, kc1_10, kc1_10, kc1_30, kc1_10, kd76 P, kd77 P, kd78 P, kc1_5, kc1_10, kc1_10, kc1_10, kc1_10, kc1_30, kc1_10, kd79 P, kc1_5, kc1_10, kc1_10, kc1_10, kc1_10, kc1_30, kc1_10, kd80 P, kc1_5, kc1_10, kc1_10, kc1_10, kc1_10, kc1_30, kc1_10, kd81 P, kc1_5, kc1_10, kc1_10, kc1_10, kc1_10, kc1_30, kc1_10, kd82 P, kc1_5, kc1_10, kc1_10, kc1_10, kc1_10, kc1_30, kc1_10, kd83 P, kc1_5, kc1_10, kc1_10, kc1_10, kc1_10, kc1_30, kc1_10, kd84 P, kc1_5, kc1_10, kc1_10, kc1_10, kc1_10, kc1_30, kc1_10, kd85 P, kc1_5, kc1_10, kc1_10, kc1_10, kc1_10, kc1_30, kc1_10, kd86 P, kc1_5, kc1_5, kc1_5, kc1_10, kc1_10, kc1_10, kc1_10, kc1_10, kc1_10, kc1_10, kc1_10, kc1_30]) (P := P + 104) (by rw [List.length_append, hP]; rfl) (by omega) (((zz.zuM (a := P + 104) (zz.zuM (a := P + 104) (hz.up (by omega)) (by omega)) (by omega))).up (by omega))) rfl (Nat.le_of_ble_eq_true rfl) ⟨by decide, by decide, by decide, by decide⟩ ?_
  refine b_putr (Y' := [kd106 P, kc1_700, kc1_50, kd74 P, kd37 P, kc1_5, kc1_10, kc1_10, kc1_10, kc1_10, kc1_30, kc1_10, kc1_700, kc3_5, kc3_10, kc3_4, kc1_3, kd75 P, kc1_5, kc1_10, kc1_10, kc1_10, kc1_10, kc1_30, kc1_10, kd76 P, kd77 P, kd78 P, kc1_5, kc1_10, kc1_10, kc1_10, kc1_10, kc1_30, kc1_10, kd79 P, kc1_5, kc1_10, kc1_10, kc1_10, kc1_10, kc1_30, kc1_10, kd80 P, kc1_5, kc1_10, kc1_10, kc1_10, kc1_10, kc1_30, kc1_10, kd81 P, kc1_5, kc1_10, kc1_10, kc1_10, kc1_10, kc1_30, kc1_10, kd82 P, kc1_5, kc1_10, kc1_10, kc1_10, kc1_10, kc1_30, kc1_10, kd83 P, kc1_5, kc1_10, kc1_10, kc1_10, kc1_10, kc1_30, kc1_10, kd84 P, kc1_5, kc1_10, kc1_10, kc1_10, kc1_10, kc1_30, kc1_10, kd85 P, kc1_5, kc1_10, kc1_10, kc1_10, kc1_10, kc1_30, kc1_10, kd86 P, kc1_5, kc1_5, kc1_5, kc1_10, kc1_10, kc1_10, kc1_10, kc1_10, kc1_10, kc1_10, kc1_10, kc1_30, kd87 P, kc1_10, kc1_10, kc1_10, kc1_5, kc1_5, kc1_5, kc1_10]) X hP hname lff7_47 (fun _ => ⟨rfl, rfl⟩) (by omega) rfl (Nat.le_of_ble_eq_true rfl) rfl dX7_init_73 ?_
  refine a_aload_n X dX7_init_76 rfl ?_
  refine b_new X 112 [kq3, kq3, kq3, kq3, kq3] hP rfl (by omega) (((zz.zuM (a := P + 112) (zz.zuM (a := P + 112) (hz.up (by omega)) (by omega)) (by omega))).up (by omega)) zc0 ln7_51 zinst0 zini0 ⟨rfl, by decide, by decide⟩ ⟨by decide, by decide⟩ dX7_init_77 ?_
  refine a_dup X dX7_init_80 rfl ?_
  refine b_invIN (Y' := [kd106 P, kc1_700, kc1_50, kd74 P, kd37 P, kc1_5, kc1_10, kc1_10, kc1_10, kc1_10, kc1_30, kc1_10, kc1_700, kc3_5, kc3_10, kc3_4, kc1_3, kd75 P, kc1_5, kc1_10, kc1_10, kc1_10, kc1_10, kc1_30, kc1_10, kd76 P, kd77 P, kd78 P, kc1_5, kc1_10, kc1_10, kc1_10, kc1_10, kc1_30, kc1_10, kd79 P, kc1_5, kc1_10, kc1_10, kc1_10, kc1_10, kc1_30, kc1_10, kd80 P, kc1_5, kc1_10, kc1_10, kc1_10, kc1_10, kc1_30, kc1_10, kd81 P, kc1_5, kc1_10, kc1_10, kc1_10, kc1_10, kc1_30, kc1_10, kd82 P, kc1_5, kc1_10, kc1_10, kc1_10, kc1_10, kc1_30, kc1_10, kd83 P, kc1_5, kc1_10, kc1_10, kc1_10, kc1_10, kc1_30, kc1_10, kd84 P, kc1_5, kc1_10, kc1_10, kc1_10, kc1_10, kc1_30, kc1_10, kd85 P, kc1_5, kc1_10, kc1_10, kc1_10, kc1_10, kc1_30, kc1_10, kd86 P, kc1_5, kc1_5, kc1_5, kc1_10, kc1_10, kc1_10, kc1_10, kc1_10, kc1_10, kc1_10, kc1_10, kc1_30, kd87 P, kc1_10, kc1_10, kc1_10, kc1_5, kc1_5, kc1_5, kc1_10, kd88 P, kc3_128, kc1_128, kc3_35, kc3_7, kd89 P, kc1_10, kc1_10, kc1_10, kc1_5, kc1_5, kc1_5, kc1_10]) (blk := blk0) X 112 hP rfl dX7_init_81 miX0_init lm7_53 (T := TX0) (N' := 5) rfl (k_X0 (pre := pre ++ [kd106 P, kc1_700, kc1_50, kd74 P, kd37 P, kc1_5, kc1_10, kc1_10, kc1_10, kc1_10, kc1_30, kc1_10, kc1_700, kc3_5, kc3_10, kc3_4, kc1_3, kd75 P, kc1_5, kc1_10, kc1_10, kc1_10, kc1_10, kc1_30, kc1_10, kd76 P, kd77 P, kd78 P, kc1_5, kc1_10, kc1_10, kc1_10, kc1_10, kc1_30, kc1_10, kd79 P, kc1_5, kc1_10, kc1_10, kc1_10, kc1_10, kc1_30, kc1_10, kd80 P, kc1_5, kc1_10, kc1_10, kc1_10, kc1_10, kc1_30, kc1_10, kd81 P, kc1_5, kc1_10, kc1_10, kc1_10, kc1_10, kc1_30, kc1_10, kd82 P, kc1_5, kc1_10, kc1_10, kc1_10, kc1_10, kc1_30, kc1_10, kd83 P, kc1_5, kc1_10, kc1_10, kc1_10, kc1_10, kc1_30, kc1_10, kd84 P, kc1_5, kc1_10, kc1_10, kc1_10, kc1_10, kc1_30, kc1_10, kd85 P, kc1_5, kc1_10, kc1_10, kc1_10, kc1_10, kc1_30, kc1_10, kd86 P, kc1_5, kc1_5, kc1_5, kc1_10, kc1_10, kc1_10, kc1_10, kc1_10, kc1_10, kc1_10, kc1_10, kc1_30, kd87 P, kc1_10, kc1_10, kc1_10, kc1_5, kc1_5, kc1_5, kc1_10]) (P := P + 112) (by rw [List.length_append, hP]; rfl) (by omega) (((zz.zuM (a := P + 112) (zz.zuM (a := P + 112) (hz.up (by omega)) (by omega)) (by omega))).up (by omega))) rfl (Nat.le_of_ble_eq_true rfl) ⟨by decide, by decide, by decide, by decide⟩ ?_
  refine b_putr (Y' := [kd107 P, kc1_700, kc1_50, kd74 P, kd37 P, kc1_5, kc1_10, kc1_10, kc1_10, kc1_10, kc1_30, kc1_10, kc1_700, kc3_5, kc3_10, kc3_4, kc1_3, kd75 P, kc1_5, kc1_10, kc1_10, kc1_10, kc1_10, kc1_30, kc1_10, kd76 P, kd77 P, kd78 P, kc1_5, kc1_10, kc1_10, kc1_10, kc1_10, kc1_30, kc1_10, kd79 P, kc1_5, kc1_10, kc1_10, kc1_10, kc1_10, kc1_30, kc1_10, kd80 P, kc1_5, kc1_10, kc1_10, kc1_10, kc1_10, kc1_30, kc1_10, kd81 P, kc1_5, kc1_10, kc1_10, kc1_10, kc1_10, kc1_30, kc1_10, kd82 P, kc1_5, kc1_10, kc1_10, kc1_10, kc1_10, kc1_30, kc1_10, kd83 P, kc1_5, kc1_10, kc1_10, kc1_10, kc1_10, kc1_30, kc1_10, kd84 P, kc1_5, kc1_10, kc1_10, kc1_10, kc1_10, kc1_30, kc1_10, kd85 P, kc1_5, kc1_10, kc1_10, kc1_10, kc1_10, kc1_30, kc1_10, kd86 P, kc1_5, kc1_5, kc1_5, kc1_10, kc1_10, kc1_10, kc1_10, kc1_10, kc1_10, kc1_10, kc1_10, kc1_30, kd87 P, kc1_10, kc1_10, kc1_10, kc1_5, kc1_5, kc1_5, kc1_10, kd88 P, kc3_128, kc1_128, kc3_35, kc3_7, kd89 P, kc1_10, kc1_10, kc1_10, kc1_5, kc1_5, kc1_5, kc1_10]) X hP hname lff7_54 (fun _ => ⟨rfl, rfl⟩) (by omega) rfl (Nat.le_of_ble_eq_true rfl) rfl dX7_init_84 ?_
  refine a_aload_n X dX7_init_87 rfl ?_
  refine b_new X 125 [kq0, kq0, kq3, kq3, kq3, kq3, kq3, kq3] hP rfl (by omega) (((zz.zuM (a := P + 125) (zz.zuM (a := P + 125) (hz.up (by omega)) (by omega)) (by omega))).up (by omega)) zc6 ln7_58 zinst6 zini6 ⟨rfl, by decide, by decide⟩ ⟨by decide, by decide⟩ dX7_init_88 ?_
  refine a_dup X dX7_init_91 rfl ?_
  refine b_invIN (Y' := [kd107 P, kc1_700, kc1_50, kd74 P, kd37 P, kc1_5, kc1_10, kc1_10, kc1_10, kc1_10, kc1_30, kc1_10, kc1_700, kc3_5, kc3_10, kc3_4, kc1_3, kd75 P, kc1_5, kc1_10, kc1_10, kc1_10, kc1_10, kc1_30, kc1_10, kd76 P, kd77 P, kd78 P, kc1_5, kc1_10, kc1_10, kc1_10, kc1_10, kc1_30, kc1_10, kd79 P, kc1_5, kc1_10, kc1_10, kc1_10, kc1_10, kc1_30, kc1_10, kd80 P, kc1_5, kc1_10, kc1_10, kc1_10, kc1_10, kc1_30, kc1_10, kd81 P, kc1_5, kc1_10, kc1_10, kc1_10, kc1_10, kc1_30, kc1_10, kd82 P, kc1_5, kc1_10, kc1_10, kc1_10, kc1_10, kc1_30, kc1_10, kd83 P, kc1_5, kc1_10, kc1_10, kc1_10, kc1_10, kc1_30, kc1_10, kd84 P, kc1_5, kc1_10, kc1_10, kc1_10, kc1_10, kc1_30, kc1_10, kd85 P, kc1_5, kc1_10, kc1_10, kc1_10, kc1_10, kc1_30, kc1_10, kd86 P, kc1_5, kc1_5, kc1_5, kc1_10, kc1_10, kc1_10, kc1_10, kc1_10, kc1_10, kc1_10, kc1_10, kc1_30, kd87 P, kc1_10, kc1_10, kc1_10, kc1_5, kc1_5, kc1_5, kc1_10, kd88 P, kc3_128, kc1_128, kc3_35, kc3_7, kd89 P, kc1_10, kc1_10, kc1_10, kc1_5, kc1_5, kc1_5, kc1_10, kd90 P, kc1_10, kc1_10, kc1_10, kd91 P, kc1_5, kc1_10, kc1_10, kc1_10, kc1_10, kc1_30, kc1_10, kd92 P, kc1_5, kc1_5, kc1_5, kc1_10, kc1_10, kc1_10, kc1_10, kc1_10, kc1_10, kc1_10, kc1_10, kc1_30, kd93 P, kc1_10, kc1_10, kc1_10, kc1_5, kc1_5, kc1_5, kc1_10]) (blk := blk6) X 125 hP rfl dX7_init_92 miX6_init lm7_60 (T := TX6) (N' := 8) rfl (k_X6 (pre := pre ++ [kd107 P, kc1_700, kc1_50, kd74 P, kd37 P, kc1_5, kc1_10, kc1_10, kc1_10, kc1_10, kc1_30, kc1_10, kc1_700, kc3_5, kc3_10, kc3_4, kc1_3, kd75 P, kc1_5, kc1_10, kc1_10, kc1_10, kc1_10, kc1_30, kc1_10, kd76 P, kd77 P, kd78 P, kc1_5, kc1_10, kc1_10, kc1_10, kc1_10, kc1_30, kc1_10, kd79 P, kc1_5, kc1_10, kc1_10, kc1_10, kc1_10, kc1_30, kc1_10, kd80 P, kc1_5, kc1_10, kc1_10, kc1_10, kc1_10, kc1_30, kc1_10, kd81 P, kc1_5, kc1_10, kc1_10, kc1_10, kc1_10, kc1_30, kc1_10, kd82 P, kc1_5, kc1_10, kc1_10, kc1_10, kc1_10, kc1_30, kc1_10, kd83 P, kc1_5, kc1_10, kc1_10, kc1_10, kc1_10, kc1_30, kc1_10, kd84 P, kc1_5, kc1_10, kc1_10, kc1_10, kc1_10, kc1_30, kc1_10, kd85 P, kc1_5, kc1_10, kc1_10, kc1_10, kc1_10, kc1_30, kc1_10, kd86 P, kc1_5, kc1_5, kc1_5, kc1_10, kc1_10, kc1_10, kc1_10, kc1_10, kc1_10, kc1_10, kc1_10, kc1_30, kd87 P, kc1_10, kc1_10, kc1_10, kc1_5, kc1_5, kc1_5, kc1_10, kd88 P, kc3_128, kc1_128, kc3_35, kc3_7, kd89 P, kc1_10, kc1_10, kc1_10, kc1_5, kc1_5, kc1_5, kc1_10]) (P := P + 125) (by rw [List.length_append, hP]; rfl) (by omega) (((zz.zuM (a := P + 125) (zz.zuM (a := P + 125) (hz.up (by omega)) (by omega)) (by omega))).up (by omega))) rfl (Nat.le_of_ble_eq_true rfl) ⟨by decide, by decide, by decide, by decide⟩ ?_
  refine b_putr (Y' := [kd108 P, kc1_700, kc1_50, kd74 P, kd37 P, kc1_5, kc1_10, kc1_10, kc1_10, kc1_10, kc1_30, kc1_10, kc1_700, kc3_5, kc3_10, kc3_4, kc1_3, kd75 P, kc1_5, kc1_10, kc1_10, kc1_10, kc1_10, kc1_30, kc1_10, kd76 P, kd77 P, kd78 P, kc1_5, kc1_10, kc1_10, kc1_10, kc1_10, kc1_30, kc1_10, kd79 P, kc1_5, kc1_10, kc1_10, kc1_10, kc1_10, kc1_30, kc1_10, kd80 P, kc1_5, kc1_10, kc1_10, kc1_10, kc1_10, kc1_30, kc1_10, kd81 P, kc1_5, kc1_10, kc1_10, kc1_10, kc1_10, kc1_30, kc1_10, kd82 P, kc1_5, kc1_10, kc1_10, kc1_10, kc1_10, kc1_30, kc1_10, kd83 P, kc1_5, kc1_10, kc1_10, kc1_10, kc1_10, kc1_30, kc1_10, kd84 P, kc1_5, kc1_10, kc1_10, kc1_10, kc1_10, kc1_30, kc1_10, kd85 P, kc1_5, kc1_10, kc1_10, kc1_10, kc1_10, kc1_30, kc1_10, kd86 P, kc1_5, kc1_5, kc1_5, kc1_10, kc1_10, kc1_10, kc1_10, kc1_10, kc1_10, kc1_10, kc1_10, kc1_30, kd87 P, kc1_10, kc1_10, kc1_10, kc1_5, kc1_5, kc1_5, kc1_10, kd88 P, kc3_128, kc1_128, kc3_35, kc3_7, kd89 P, kc1_10, kc1_10, kc1_10, kc1_5, kc1_5, kc1_5, kc1_10, kd90 P, kc1_10, kc1_10, kc1_10, kd91 P, kc1_5, kc1_10, kc1_10, kc1_10, kc1_10, kc1_30, kc1_10, kd92 P, kc1_5, kc1_5, kc1_5, kc1_10, kc1_10, kc1_10, kc1_10, kc1_10, kc1_10, kc1_10, kc1_10, kc1_30, kd93 P, kc1_10, kc1_10, kc1_10, kc1_5, kc1_5, kc1_5, kc1_10]) X hP hname lff7_61 (fun _ => ⟨rfl, rfl⟩) (by omega) rfl (Nat.le_of_ble_eq_true rfl) rfl dX7_init_95 ?_
  refine a_aload_n X dX7_init_98 rfl ?_
  refine b_new X 158 [kq0, kq0, kq0, kq0, kq0, kq0, kq0, kq3, kq3, kq3, kq3, kq3, kq3, kq3] hP rfl (by omega) (((zz.zuM (a := P + 158) (zz.zuM (a := P + 158) (hz.up (by omega)) (by omega)) (by omega))).up (by omega)) zc4 ln7_23 zinst4 zini4 ⟨rfl, by decide, by decide⟩ ⟨by decide, by decide⟩ dX7_init_99 ?_
  refine a_dup X dX7_init_102 rfl ?_
  refine b_invIN (Y' := [kd108 P, kc1_700, kc1_50, kd74 P, kd37 P, kc1_5, kc1_10, kc1_10, kc1_10, kc1_10, kc1_30, kc1_10, kc1_700, kc3_5, kc3_10, kc3_4, kc1_3, kd75 P, kc1_5, kc1_10, kc1_10, kc1_10, kc1_10, kc1_30, kc1_10, kd76 P, kd77 P, kd78 P, kc1_5, kc1_10, kc1_10, kc1_10, kc1_10, kc1_30, kc1_10, kd79 P, kc1_5, kc1_10, kc1_10, kc1_10, kc1_10, kc1_30, kc1_10, kd80 P, kc1_5, kc1_10, kc1_10, kc1_10, kc1_10, kc1_30, kc1_10, kd81 P, kc1_5, kc1_10, kc1_10, kc1_10, kc1_10, kc1_30, kc1_10, kd82 P, kc1_5, kc1_10, kc1_10, kc1_10, kc1_10, kc1_30, kc1_10, kd83 P, kc1_5, kc1_10, kc1_10, kc1_10, kc1_10, kc1_30, kc1_10, kd84 P, kc1_5, kc1_10, kc1_10, kc1_10, kc1_10, kc1_30, kc1_10, kd85 P, kc1_5, kc1_10, kc1_10, kc1_10, kc1_10, kc1_30, kc1_10, kd86 P, kc1_5, kc1_5, kc1_5, kc1_10, kc1_10, kc1_10, kc1_10, kc1_10, kc1_10, kc1_10, kc1_10, kc1_30, kd87 P, kc1_10, kc1_10, kc1_10, kc1_5, kc1_5, kc1_5, kc1_10, kd88 P, kc3_128, kc1_128, kc3_35, kc3_7, kd89 P, kc1_10, kc1_10, kc1_10, kc1_5, kc1_5, kc1_5, kc1_10, kd90 P, kc1_10, kc1_10, kc1_10, kd91 P, kc1_5, kc1_10, kc1_10, kc1_10, kc1_10, kc1_30, kc1_10, kd92 P, kc1_5, kc1_5, kc1_5, kc1_10, kc1_10, kc1_10, kc1_10, kc1_10, kc1_10, kc1_10, kc1_10, kc1_30, kd93 P, kc1_10, kc1_10, kc1_10, kc1_5, kc1_5, kc1_5, kc1_10, kd94 P, kc1_5, kc1_10, kc1_10, kc1_10, kc1_10, kc1_30, kc1_10]) (blk := blk4) X 158 hP rfl dX7_init_103 miX4_init lm7_25 (T := TX4) (N' := 14) rfl (k_X4 (pre := pre ++ [kd108 P, kc1_700, kc1_50, kd74 P, kd37 P, kc1_5, kc1_10, kc1_10, kc1_10, kc1_10, kc1_30, kc1_10, kc1_700, kc3_5, kc3_10, kc3_4, kc1_3, kd75 P, kc1_5, kc1_10, kc1_10, kc1_10, kc1_10, kc1_30, kc1_10, kd76 P, kd77 P, kd78 P, kc1_5, kc1_10, kc1_10, kc1_10, kc1_10, kc1_30, kc1_10, kd79 P, kc1_5, kc1_10, kc1_10, kc1_10, kc1_10, kc1_30, kc1_10, kd80 P, kc1_5, kc1_10, kc1_10, kc1_10, kc1_10, kc1_30, kc1_10, kd81 P, kc1_5, kc1_10, kc1_10, kc1_10, kc1_10, kc1_30, kc1_10, kd82 P, kc1_5, kc1_10, kc1_10, kc1_10, kc1_10, kc1_30, kc1_10, kd83 P, kc1_5, kc1_10, kc1_10, kc1_10, kc1_10, kc1_30, kc1_10, kd84 P, kc1_5, kc1_10, kc1_10, kc1_10, kc1_10, kc1_30, kc1_10, kd85 P, kc1_5, kc1_10, kc1_10, kc1_10, kc1_10, kc1_30, kc1_10, kd86 P, kc1_5, kc1_5, kc1_5, kc1_10, kc1_10, kc1_10, kc1_10, kc1_10, kc1_10, kc1_10, kc1_10, kc1_30, kd87 P, kc1_10, kc1_10, kc1_10, kc1_5, kc1_5, kc1_5, kc1_10, kd88 P, kc3_128, kc1_128, kc3_35, kc3_7, kd89 P, kc1_10, kc1_10, kc1_10, kc1_5, kc1_5, kc1_5, kc1_10, kd90 P, kc1_10, kc1_10, kc1_10, kd91 P, kc1_5, kc1_10, kc1_10, kc1_10, kc1_10, kc1_30, kc1_10, kd92 P, kc1_5, kc1_5, kc1_5, kc1_10, kc1_10, kc1_10, kc1_10, kc1_10, kc1_10, kc1_10, kc1_10, kc1_30, kd93 P, kc1_10, kc1_10, kc1_10, kc1_5, kc1_5, kc1_5, kc1_10]) (P := P + 158) (by rw [List.length_append, hP]; rfl) (by omega) (((zz.zuM (a := P + 158) (zz.zuM (a := P + 158) (hz.up (by omega)) (by omega)) (by omega))).up (by omega))) rfl (Nat.le_of_ble_eq_true rfl) ⟨by decide, by decide, by decide, by decide⟩ ?_
  refine b_putr (Y' := [kd109 P, kc1_700, kc1_50, kd74 P, kd37 P, kc1_5, kc1_10, kc1_10, kc1_10, kc1_10, kc1_30, kc1_10, kc1_700, kc3_5, kc3_10, kc3_4, kc1_3, kd75 P, kc1_5, kc1_10, kc1_10, kc1_10, kc1_10, kc1_30, kc1_10, kd76 P, kd77 P, kd78 P, kc1_5, kc1_10, kc1_10, kc1_10, kc1_10, kc1_30, kc1_10, kd79 P, kc1_5, kc1_10, kc1_10, kc1_10, kc1_10, kc1_30, kc1_10, kd80 P, kc1_5, kc1_10, kc1_10, kc1_10, kc1_10, kc1_30, kc1_10, kd81 P, kc1_5, kc1_10, kc1_10, kc1_10, kc1_10, kc1_30, kc1_10, kd82 P, kc1_5, kc1_10, kc1_10, kc1_10, kc1_10, kc1_30, kc1_10, kd83 P, kc1_5, kc1_10, kc1_10, kc1_10, kc1_10, kc1_30, kc1_10, kd84 P, kc1_5, kc1_10, kc1_10, kc1_10, kc1_10, kc1_30, kc1_10, kd85 P, kc1_5, kc1_10, kc1_10, kc1_10, kc1_10, kc1_30, kc1_10, kd86 P, kc1_5, kc1_5, kc1_5, kc1_10, kc1_10, kc1_10, kc1_10, kc1_10, kc1_10, kc1_10, kc1_10, kc1_30, kd87 P, kc1_10, kc1_10, kc1_10, kc1_5, kc1_5, kc1_5, kc1_10, kd88 P, kc3_128, kc1_128, kc3_35, kc3_7, kd89 P, kc1_10, kc1_10, kc1_10, kc1_5, kc1_5, kc1_5, kc1_10, kd90 P, kc1_10, kc1_10, kc1_10, kd91 P, kc1_5, kc1_10, kc1_10, kc1_10, kc1_10, kc1_30, kc1_10, kd92 P, kc1_5, kc1_5, kc1_5, kc1_10, kc1_10, kc1_10, kc1_10, kc1_10, kc1_10, kc1_10, kc1_10, kc1_30, kd93 P, kc1_10, kc1_10, kc1_10, kc1_5, kc1_5, kc1_5, kc1_10, kd94 P, kc1_5, kc1_10, kc1_10, kc1_10, kc1_10, kc1_30, kc1_10]) X hP hname lff7_65 (fun _ => ⟨rfl, rfl⟩) (by omega) rfl (Nat.le_of_ble_eq_true rfl) rfl dX7_init_106 ?_
  refine a_aload_n X dX7_init_109 rfl ?_
  refine b_new X 166 [kq0, kq0, kq0, kq0, kq3, kq3, kq3, kq3, kq3, kq3, kq3, kq3, kq3, kq3, kq3, kq3] hP rfl (by omega) (((zz.zuM (a := P + 166) (zz.zuM (a := P + 166) (hz.up (by omega)) (by omega)) (by omega))).up (by omega)) zc2 ln7_37 zinst2 zini2 ⟨rfl, by decide, by decide⟩ ⟨by decide, by decide⟩ dX7_init_110 ?_
  refine a_dup X dX7_init_113 rfl ?_
  refine b_invIN (Y' := [kd109 P, kc1_700, kc1_50, kd74 P, kd37 P, kc1_5, kc1_10, kc1_10, kc1_10, kc1_10, kc1_30, kc1_10, kc1_700, kc3_5, kc3_10, kc3_4, kc1_3, kd75 P, kc1_5, kc1_10, kc1_10, kc1_10, kc1_10, kc1_30, kc1_10, kd76 P, kd77 P, kd78 P, kc1_5, kc1_10, kc1_10, kc1_10, kc1_10, kc1_30, kc1_10, kd79 P, kc1_5, kc1_10, kc1_10, kc1_10, kc1_10, kc1_30, kc1_10, kd80 P, kc1_5, kc1_10, kc1_10, kc1_10, kc1_10, kc1_30, kc1_10, kd81 P, kc1_5, kc1_10, kc1_10, kc1_10, kc1_10, kc1_30, kc1_10, kd82 P, kc1_5, kc1_10, kc1_10, kc1_10, kc1_10, kc1_30, kc1_10, kd83 P, kc1_5, kc1_10, kc1_10, kc1_10, kc1_10, kc1_30, kc1_10, kd84 P, kc1_5, kc1_10, kc1_10, kc1_10, kc1_10, kc1_30, kc1_10, kd85 P, kc1_5, kc1_10, kc1_10, kc1_10, kc1_10, kc1_30, kc1_10, kd86 P, kc1_5, kc1_5, kc1_5, kc1_10, kc1_10, kc1_10, kc1_10, kc1_10, kc1_10, kc1_10, kc1_10, kc1_30, kd87 P, kc1_10, kc1_10, kc1_10, kc1_5, kc1_5, kc1_5, kc1_10, kd88 P, kc3_128, kc1_128, kc3_35, kc3_7, kd89 P, kc1_10, kc1_10, kc1_10, kc1_5, kc1_5, kc1_5, kc1_10, kd90 P, kc1_10, kc1_10, kc1_10, kd91 P, kc1_5, kc1_10, kc1_10, kc1_10, kc1_10, kc1_30, kc1_10, kd92 P, kc1_5, kc1_5, kc1_5, kc1_10, kc1_10, kc1_10, kc1_10, kc1_10, kc1_10, kc1_10, kc1_10, kc1_30, kd93 P, kc1_10, kc1_10, kc1_10, kc1_5, kc1_5, kc1_5, kc1_10, kd94 P, kc1_5, kc1_10, kc1_10, kc1_10, kc1_10, kc1_30, kc1_10, kd95 P, kc1_5, kc1_5, kc1_5, kc1_10, kc1_10, kc1_10, kc1_10, kc1_10, kc1_10, kc1_10, kc1_10, kc1_30]) (blk := blk2) X 166 hP rfl dX7_init_114 miX2_init lm7_39 (T := TX2) (N' := 16) rfl (k_X2 (pre := pre ++ [kd109 P, kc1_700, kc1_50, kd74 P, kd37 P, kc1_5, kc1_10, kc1_10, kc1_10, kc1_10, kc1_30, kc1_10, kc1_700, kc3_5, kc3_10, kc3_4, kc1_3, kd75 P, kc1_5, kc1_10, kc1_10, kc1_10, kc1_10, kc1_30, kc1_10, kd76 P, kd77 P, kd78 P, kc1_5, kc1_10, kc1_10, kc1_10, kc1_10, kc1_30, kc1_10, kd79 P, kc1_5, kc1_10, kc1_10, kc1_10, kc1_10, kc1_30, kc1_10, kd80 P, kc1_5, kc1_10, kc1_10, kc1_10, kc1_10, kc1_30, kc1_10, kd81 P, kc1_5, kc1_10, kc1_10, kc1_10, kc1_10, kc1_30, kc1_10, kd82 P, kc1_5, kc1_10, kc1_10, kc1_10, kc1_10, kc1_30, kc1_10, kd83 P, kc1_5, kc1_10, kc1_10, kc1_10, kc1_10, kc1_30, kc1_10, kd84 P, kc1_5, kc1_10, kc1_10, kc1_10, kc1_10, kc1_30, kc1_10, kd85 P, kc1_5, kc1_10, kc1_10, kc1_10, kc1_10, kc1_30, kc1_10, kd86 P, kc1_5, kc1_5, kc1_5, kc1_10, kc1_10, kc1_10, kc1_10, kc1_10, kc1_10, kc1_10, kc1_10, kc1_30, kd87 P, kc1_10, kc1_10, kc1_10, kc1_5, kc1_5, kc1_5, kc1_10, kd88 P, kc3_128, kc1_128, kc3_35, kc3_7, kd89 P, kc1_10, kc1_10, kc1_10, kc1_5, kc1_5, kc1_5, kc1_10, kd90 P, kc1_10, kc1_10, kc1_10, kd91 P, kc1_5, kc1_10, kc1_10, kc1_10, kc1_10, kc1_30, kc1_10, kd92 P, kc1_5, kc1_5, kc1_5, kc1_10, kc1_10, kc1_10, kc1_10, kc1_10, kc1_10, kc1_10, kc1_10, kc1_30, kd93 P, kc1_10, kc1_10, kc1_10, kc1_5, kc1_5, kc1_5, kc1_10, kd94 P, kc1_5, kc1_10, kc1_10, kc1_10, kc1_10, kc1_30, kc1_10]) (P := P + 166) (by rw [List.length_append, hP]; rfl) (by omega) (((zz.zuM (a := P + 166) (zz.zuM (a := P + 166) (hz.up (by omega)) (by omega)) (by omega))).up (by omega))) rfl (Nat.le_of_ble_eq_true rfl) ⟨by decide, by decide, by decide, by decide⟩ ?_
  refine b_putr (Y' := [kd110 P, kc1_700, kc1_50, kd74 P, kd37 P, kc1_5, kc1_10, kc1_10, kc1_10, kc1_10, kc1_30, kc1_10, kc1_700, kc3_5, kc3_10, kc3_4, kc1_3, kd75 P, kc1_5, kc1_10, kc1_10, kc1_10, kc1_10, kc1_30, kc1_10, kd76 P, kd77 P, kd78 P, kc1_5, kc1_10, kc1_10, kc1_10, kc1_10, kc1_30, kc1_10, kd79 P, kc1_5, kc1_10, kc1_10, kc1_10, kc1_10, kc1_30, kc1_10, kd80 P, kc1_5, kc1_10, kc1_10, kc1_10, kc1_10, kc1_30, kc1_10, kd81 P, kc1_5, kc1_10, kc1_10, kc1_10, kc1_10, kc1_30, kc1_10, kd82 P, kc1_5, kc1_10, kc1_10, kc1_10, kc1_10, kc1_30, kc1_10, kd83 P, kc1_5, kc1_10, kc1_10, kc1_10, kc1_10, kc1_30, kc1_10, kd84 P, kc1_5, kc1_10, kc1_10, kc1_10, kc1_10, kc1_30, kc1_10, kd85 P, kc1_5, kc1_10, kc1_10, kc1_10, kc1_10, kc1_30, kc1_10, kd86 P, kc1_5, kc1_5, kc1_5, kc1_10, kc1_10, kc1_10, kc1_10, kc1_10, kc1_10, kc1_10, kc1_10, kc1_30, kd87 P, kc1_10, kc1_10, kc1_10, kc1_5, kc1_5, kc1_5, kc1_10, kd88 P, kc3_128, kc1_128, kc3_35, kc3_7, kd89 P, kc1_10, kc1_10, kc1_10, kc1_5, kc1_5, kc1_5, kc1_10, kd90 P, kc1_10, kc1_10, kc1_10, kd91 P, kc1_5, kc1_10, kc1_10, kc1_10, kc1_10, kc1_30, kc1_10, kd92 P, kc1_5, kc1_5, kc1_5, kc1_10, kc1_10, kc1_10, kc1_10, kc1_10, kc1_10, kc1_10, kc1_10, kc1_30, kd93 P, kc1_10, kc1_10, kc1_10, kc1_5, kc1_5, kc1_5, kc1_10, kd94 P, kc1_5, kc1_10, kc1_10, kc1_10, kc1_10, kc1_30, kc1_10, kd95 P, kc1_5, kc1_5, kc1_5, kc1_10, kc1_10, kc1_10, kc1_10, kc1_10, kc1_10, kc1_10, kc1_10, kc1_30]) X hP hname lff7_68 (fun _ => ⟨rfl, rfl⟩) (by omega) rfl (Nat.le_of_ble_eq_true rfl) rfl dX7_init_117 ?_
  refine a_aload_n X dX7_init_120 rfl ?_
  refine b_new X 179 [kq3, kq3, kq3, kq3, kq3, kq3, kq3] hP rfl (by omega) (((zz.zuM (a := P + 179) (zz.zuM (a := P + 179) (hz.up (by omega)) (by omega)) (by omega))).up (by omega)) zc5 ln7_44 zinst5 zini5 ⟨rfl, by decide, by decide⟩ ⟨by decide, by decide⟩ dX7_init_121 ?_
  refine a_dup X dX7_init_124 rfl ?_
  refine b_invIN (Y' := [kd110 P, kc1_700, kc1_50, kd74 P, kd37 P, kc1_5, kc1_10, kc1_10, kc1_10, kc1_10, kc1_30, kc1_10, kc1_700, kc3_5, kc3_10, kc3_4, kc1_3, kd75 P, kc1_5, kc1_10, kc1_10, kc1_10, kc1_10, kc1_30, kc1_10, kd76 P, kd77 P, kd78 P, kc1_5, kc1_10, kc1_10, kc1_10, kc1_10, kc1_30, kc1_10, kd79 P, kc1_5, kc1_10, kc1_10, kc1_10, kc1_10, kc1_30, kc1_10, kd80 P, kc1_5, kc1_10, kc1_10, kc1_10, kc1_10, kc1_30, kc1_10, kd81 P, kc1_5, kc1_10, kc1_10, kc1_10, kc1_10, kc1_30, kc1_10, kd82 P, kc1_5, kc1_10, kc1_10, kc1_10, kc1_10, kc1_30, kc1_10, kd83 P, kc1_5, kc1_10, kc1_10, kc1_10, kc1_10, kc1_30, kc1_10, kd84 P, kc1_5, kc1_10, kc1_10, kc1_10, kc1_10, kc1_30, kc1_10, kd85 P, kc1_5, kc1_10, kc1_10, kc1_10, kc1_10, kc1_30, kc1_10, kd86 P, kc1_5, kc1_5, kc1_5, kc1_10, kc1_10, kc1_10, kc1_10, kc1_10, kc1_10, kc1_10, kc1_10, kc1_30, kd87 P, kc1_10, kc1_10, kc1_10, kc1_5, kc1_5, kc1_5, kc1_10, kd88 P, kc3_128, kc1_128, kc3_35, kc3_7, kd89 P, kc1_10, kc1_10, kc1_10, kc1_5, kc1_5, kc1_5, kc1_10, kd90 P, kc1_10, kc1_10, kc1_10, kd91 P, kc1_5, kc1_10, kc1_10, kc1_10, kc1_10, kc1_30, kc1_10, kd92 P, kc1_5, kc1_5, kc1_5, kc1_10, kc1_10, kc1_10, kc1_10, kc1_10, kc1_10, kc1_10, kc1_10, kc1_30, kd93 P, kc1_10, kc1_10, kc1_10, kc1_5, kc1_5, kc1_5, kc1_10, kd94 P, kc1_5, kc1_10, kc1_10, kc1_10, kc1_10, kc1_30, kc1_10, kd95 P, kc1_5, kc1_5, kc1_5, kc1_10, kc1_10, kc1_10, kc1_10, kc1_10, kc1_10, kc1_10, kc1_10, kc1_30, kd96 P, kc1_10, kc1_10, kc1_10, kc1_5, kc1_5, kc1_5, kc1_10]) (blk := blk5) X 179 hP rfl dX7_init_125 miX5_init lm7_46 (T := TX5) (N' := 7) rfl (k_X5 (pre := pre ++ [kd110 P, kc1_700, kc1_50, kd74 P, kd37 P, kc1_5, kc1_10, kc1_10, kc1_10, kc1_10, kc1_30, kc1_10, kc1_700, kc3_5, kc3_10, kc3_4, kc1_3, kd75 P, kc1_5, kc1_10, kc1_10, kc1_10, kc1_10, kc1_30, kc1_10, kd76 P, kd77 P, kd78 P, kc1_5, kc1_10, kc1_10, kc1_10, kc1_10, kc1_30, kc1_10, kd79 P, kc1_5, kc1_10, kc1_10, kc1_10, kc1_10, kc1_30, kc1_10, kd80 P, kc1_5, kc1_10, kc1_10, kc1_10, kc1_10, kc1_30, kc1_10, kd81 P, kc1_5, kc1_10, kc1_10, kc1_10, kc1_10, kc1_30, kc1_10, kd82 P, kc1_5, kc1_10, kc1_10, kc1_10, kc1_10, kc1_30, kc1_10, kd83 P, kc1_5, kc1_10, kc1_10, kc1_10, kc1_10, kc1_30, kc1_10, kd84 P, kc1_5, kc1_10, kc1_10, kc1_10, kc1_10, kc1_30, kc1_10, kd85 P, kc1_5, kc1_10, kc1_10, kc1_10, kc1_10, kc1_30, kc1_10, kd86 P, kc1_5, kc1_5, kc1_5, kc1_10, kc1_10, kc1_10, kc1_10, kc1_10, kc1_10, kc1_10, kc1_10, kc1_30, kd87 P, kc1_10, kc1_10, kc1_10, kc1_5, kc1_5, kc1_5, kc1_10, kd88 P, kc3_128, kc1_128, kc3_35, kc3_7, kd89 P, kc1_10, kc1_10, kc1_10, kc1_5, kc1_5, kc1_5, kc1_10, kd90 P, kc1_10, kc1_10, kc1_10, kd91 P, kc1_5, kc1_10, kc1_10, kc1_10, kc1_10, kc1_30, kc1_10, kd92 P, kc1_5, kc1_5, kc1_5, kc1_10, kc1_10, kc1_10, kc1_10, kc1_10, kc1_10, kc1_10, kc1_10, kc1_30, kd93 P, kc1_10, kc1_10, kc1_10, kc1_5, kc1_5, kc1_5, kc1_10, kd94 P, kc1_5, kc1_10, kc1_10, kc1_10, kc1_10, kc1_30, kc1_10, kd95 P, kc1_5, kc1_5, kc1_5, kc1_10, kc1_10, kc1_10, kc1_10, kc1_10, kc1_10, kc1_10, kc1_10, kc1_30]) (P := P + 179) (by rw [List.length_append, hP]; rfl) (by omega) (((zz.zuM (a := P + 179) (zz.zuM (a := P + 179) (hz.up (by omega)) (by omega)) (by omega))).up (by omega))) rfl (Nat.le_of_ble_eq_true rfl) ⟨by decide, by decide, by decide, by decide⟩ ?_
  refine b_putr (Y' := [kd111 P, kc1_700, kc1_50, kd74 P, kd37 P, kc1_5, kc1_10, kc1_10, kc1_10, kc1_10, kc1_30, kc1_10, kc1_700, kc3_5, kc3_10, kc3_4, kc1_3, kd75 P, kc1_5, kc1_10, kc1_10, kc1_10, kc1_10, kc1_30, kc1_10, kd76 P, kd77 P, kd78 P, kc1_5, kc1_10, kc1_10, kc1_10, kc1_10, kc1_30, kc1_10, kd79 P, kc1_5, kc1_10, kc1_10, kc1_10, kc1_10, kc1_30, kc1_10, kd80 P, kc1_5, kc1_10, kc1_10, kc1_10, kc1_10, kc1_30, kc1_10, kd81 P, kc1_5, kc1_10, kc1_10, kc1_10, kc1_10, kc1_30, kc1_10, kd82 P, kc1_5, kc1_10, kc1_10, kc1_10, kc1_10, kc1_30, kc1_10, kd83 P, kc1_5, kc1_10, kc1_10, kc1_10, kc1_10, kc1_30, kc1_10, kd84 P, kc1_5, kc1_10, kc1_10, kc1_10, kc1_10, kc1_30, kc1_10, kd85 P, kc1_5, kc1_10, kc1_10, kc1_10, kc1_10, kc1_30, kc1_10, kd86 P, kc1_5, kc1_5, kc1_5, kc1_10, kc1_10, kc1_10, kc1_10, kc1_10, kc1_10, kc1_10, kc1_10, kc1_30, kd87 P, kc1_10, kc1_10, kc1_10, kc1_5, kc1_5, kc1_5, kc1_10, kd88 P, kc3_128, kc1_128, kc3_35, kc3_7, kd89 P, kc1_10, kc1_10, kc1_10, kc1_5, kc1_5, kc1_5, kc1_10, kd90 P, kc1_10, kc1_10, kc1_10, kd91 P, kc1_5, kc1_10, kc1_10, kc1_10, kc1_10, kc1_30, kc1_10, kd92 P, kc1_5, kc1_5, kc1_5, kc1_10, kc1_10, kc1_10, kc1_10, kc1_10, kc1_10, kc1_10, kc1_10, kc1_30, kd93 P, kc1_10, kc1_10, kc1_10, kc1_5, kc1_5, kc1_5, kc1_10, kd94 P, kc1_5, kc1_10, kc1_10, kc1_10, kc1_10, kc1_30, kc1_10, kd95 P, kc1_5, kc1_5, kc1_5, kc1_10, kc1_10, kc1_10, kc1_10, kc1_10, kc1_10, kc1_10, kc1_10, kc1_30, kd96 P, kc1_10, kc1_10, kc1_10, kc1_5, kc1_5, kc1_5, kc1_10]) X hP hname lff7_71 (fun _ => ⟨rfl, rfl⟩) (by omega) rfl (Nat.le_of_ble_eq_true rfl) rfl dX7_init_128 ?_
  refine a_aload_n X dX7_init_131 rfl ?_
  refine b_new X 187 [kq3, kq3, kq3, kq3, kq3] hP rfl (by omega) (((zz.zuM (a := P + 187) (zz.zuM (a := P + 187) (hz.up (by omega)) (by omega)) (by omega))).up (by omega)) zc0 ln7_51 zinst0 zini0 ⟨rfl, by decide, by decide⟩ ⟨by decide, by decide⟩ dX7_init_132 ?_
  refine a_dup X dX7_init_135 rfl ?_
  refine b_invIN (Y' := [kd111 P, kc1_700, kc1_50, kd74 P, kd37 P, kc1_5, kc1_10, kc1_10, kc1_10, kc1_10, kc1_30, kc1_10, kc1_700, kc3_5, kc3_10, kc3_4, kc1_3, kd75 P, kc1_5, kc1_10, kc1_10, kc1_10, kc1_10, kc1_30, kc1_10, kd76 P, kd77 P, kd78 P, kc1_5, kc1_10, kc1_10, kc1_10, kc1_10, kc1_30, kc1_10, kd79 P, kc1_5, kc1_10, kc1_10, kc1_10, kc1_10, kc1_30, kc1_10, kd80 P, kc1_5, kc1_10, kc1_10, kc1_10, kc1_10, kc1_30, kc1_10, kd81 P, kc1_5, kc1_10, kc1_10, kc1_10, kc1_10, kc1_30, kc1_10, kd82 P, kc1_5, kc1_10, kc1_10, kc1_10, kc1_10, kc1_30, kc1_10, kd83 P, kc1_5, kc1_10, kc1_10, kc1_10, kc1_10, kc1_30, kc1_10, kd84 P, kc1_5, kc1_10, kc1_10, kc1_10, kc1_10, kc1_30, kc1_10, kd85 P, kc1_5, kc1_10, kc1_10, kc1_10, kc1_10, kc1_30, kc1_10, kd86 P, kc1_5, kc1_5, kc1_5, kc1_10, kc1_10, kc1_10, kc1_10, kc1_10, kc1_10, kc1_10, kc1_10, kc1_30, kd87 P, kc1_10, kc1_10, kc1_10, kc1_5, kc1_5, kc1_5, kc1_10, kd88 P, kc3_128, kc1_128, kc3_35, kc3_7, kd89 P, kc1_10, kc1_10, kc1_10, kc1_5, kc1_5, kc1_5, kc1_10, kd90 P, kc1_10, kc1_10, kc1_10, kd91 P, kc1_5, kc1_10, kc1_10, kc1_10, kc1_10, kc1_30, kc1_10, kd92 P, kc1_5, kc1_5, kc1_5, kc1_10, kc1_10, kc1_10, kc1_10, kc1_10, kc1_10, kc1_10, kc1_10, kc1_30, kd93 P, kc1_10, kc1_10, kc1_10, kc1_5, kc1_5, kc1_5, kc1_10, kd94 P, kc1_5, kc1_10, kc1_10, kc1_10, kc1_10, kc1_30, kc1_10, kd95 P, kc1_5, kc1_5, kc1_5, kc1_10, kc1_10, kc1_10, kc1_10, kc1_10, kc1_10, kc1_10, kc1_10, kc1_30, kd96 P, kc1_10, kc1_10, kc1_10, kc1_5, kc1_5, kc1_5, kc1_10, kd97 P, kc3_128, kc1_128, kc3_35, kc3_7, kd98 P, kc1_10, kc1_10, kc1_10, kc1_5, kc1_5, kc1_5, kc1_10]) (blk := blk0) X 187 hP rfl dX7_init_136 miX0_init lm7_53 (T := TX0) (N' := 5) rfl (k_X0 (pre := pre ++ [kd111 P, kc1_700, kc1_50, kd74 P, kd37 P, kc1_5, kc1_10, kc1_10, kc1_10, kc1_10, kc1_30, kc1_10, kc1_700, kc3_5, kc3_10, kc3_4, kc1_3, kd75 P, kc1_5, kc1_10, kc1_10, kc1_10, kc1_10, kc1_30, kc1_10, kd76 P, kd77 P, kd78 P, kc1_5, kc1_10, kc1_10, kc1_10, kc1_10, kc1_30, kc1_10, kd79 P, kc1_5, kc1_10, kc1_10, kc1_10, kc1_10, kc1_30, kc1_10, kd80 P, kc1_5, kc1_10, kc1_10, kc1_10, kc1_10, kc1_30, kc1_10, kd81 P, kc1_5, kc1_10, kc1_10, kc1_10, kc1_10, kc1_30, kc1_10, kd82 P, kc1_5, kc1_10, kc1_10, kc1_10, kc1_10, kc1_30, kc1_10, kd83 P, kc1_5, kc1_10, kc1_10, kc1_10, kc1_10, kc1_30, kc1_10, kd84 P, kc1_5, kc1_10, kc1_10, kc1_10, kc1_10, kc1_30, kc1_10, kd85 P, kc1_5, kc1_10, kc1_10, kc1_10, kc1_10, kc1_30, kc1_10, kd86 P, kc1_5, kc1_5, kc1_5, kc1_10, kc1_10, kc1_10, kc1_10, kc1_10, kc1_10, kc1_10, kc1_10, kc1_30, kd87 P, kc1_10, kc1_10, kc1_10, kc1_5, kc1_5, kc1_5, kc1_10, kd88 P, kc3_128, kc1_128, kc3_35, kc3_7, kd89 P, kc1_10, kc1_10, kc1_10, kc1_5, kc1_5, kc1_5, kc1_10, kd90 P, kc1_10, kc1_10, kc1_10, kd91 P, kc1_5, kc1_10, kc1_10, kc1_10, kc1_10, kc1_30, kc1_10, kd92 P, kc1_5, kc1_5, kc1_5, kc1_10, kc1_10, kc1_10, kc1_10, kc1_10, kc1_10, kc1_10, kc1_10, kc1_30, kd93 P, kc1_10, kc1_10, kc1_10, kc1_5, kc1_5, kc1_5, kc1_10, kd94 P, kc1_5, kc1_10, kc1_10, kc1_10, kc1_10, kc1_30, kc1_10, kd95 P, kc1_5, kc1_5, kc1_5, kc1_10, kc1_10, kc1_10, kc1_10, kc1_10, kc1_10, kc1_10, kc1_10, kc1_30, kd96 P, kc1_10, kc1_10, kc1_10, kc1_5, kc1_5, kc1_5, kc1_10]) (P := P + 187) (by rw [List.length_append, hP]; rfl) (by omega) (((zz.zuM (a := P + 187) (zz.zuM (a := P + 187) (hz.up (by omega)) (by omega)) (by omega))).up (by omega))) rfl (Nat.le_of_ble_eq_true rfl) ⟨by decide, by decide, by decide, by decide⟩ ?_
  refine b_putr (Y' := [kd73 P, kc1_700, kc1_50, kd74 P, kd37 P, kc1_5, kc1_10, kc1_10, kc1_10, kc1_10, kc1_30, kc1_10, kc1_700, kc3_5, kc3_10, kc3_4, kc1_3, kd75 P, kc1_5, kc1_10, kc1_10, kc1_10, kc1_10, kc1_30, kc1_10, kd76 P, kd77 P, kd78 P, kc1_5, kc1_10, kc1_10, kc1_10, kc1_10, kc1_30, kc1_10, kd79 P, kc1_5, kc1_10, kc1_10, kc1_10, kc1_10, kc1_30, kc1_10, kd80 P, kc1_5, kc1_10, kc1_10, kc1_10, kc1_10, kc1_30, kc1_10, kd81 P, kc1_5, kc1_10, kc1_10, kc1_10, kc1_10, kc1_30, kc1_10, kd82 P, kc1_5, kc1_10, kc1_10, kc1_10, kc1_10, kc1_30, kc1_10, kd83 P, kc1_5, kc1_10, kc1_10, kc1_10, kc1_10, kc1_30, kc1_10, kd84 P, kc1_5, kc1_10, kc1_10, kc1_10, kc1_10, kc1_30, kc1_10, kd85 P, kc1_5, kc1_10, kc1_10, kc1_10, kc1_10, kc1_30, kc1_10, kd86 P, kc1_5, kc1_5, kc1_5, kc1_10, kc1_10, kc1_10, kc1_10, kc1_10, kc1_10, kc1_10, kc1_10, kc1_30, kd87 P, kc1_10, kc1_10, kc1_10, kc1_5, kc1_5, kc1_5, kc1_10, kd88 P, kc3_128, kc1_128, kc3_35, kc3_7, kd89 P, kc1_10, kc1_10, kc1_10, kc1_5, kc1_5, kc1_5, kc1_10, kd90 P, kc1_10, kc1_10, kc1_10, kd91 P, kc1_5, kc1_10, kc1_10, kc1_10, kc1_10, kc1_30, kc1_10, kd92 P, kc1_5, kc1_5, kc1_5, kc1_10, kc1_10, kc1_10, kc1_10, kc1_10, kc1_10, kc1_10, kc1_10, kc1_30, kd93 P, kc1_10, kc1_10, kc1_10, kc1_5, kc1_5, kc1_5, kc1_10, kd94 P, kc1_5, kc1_10, kc1_10, kc1_10, kc1_10, kc1_30, kc1_10, kd95 P, kc1_5, kc1_5, kc1_5, kc1_10, kc1_10, kc1_10, kc1_10, kc1_10, kc1_10, kc1_10, kc1_10, kc1_30, kd96 P, kc1_10, kc1_10, kc1_10, kc1_5, kc1_5, kc1_5, kc1_10, kd97 P, kc3_128, kc1_128, kc3_35, kc3_7, kd98 P, kc1_10, kc1_10, kc1_10, kc1_5, kc1_5, kc1_5, kc1_10]) X hP hname lff7_74 (fun _ => ⟨rfl, rfl⟩) (by omega) rfl (Nat.le_of_ble_eq_true rfl) rfl dX7_init_139 ?_
  have hT : LX7 (pre ++ blk7 P) P := lx7 hP hp
  change Zw _ _ _ _ _ _ _ _ _ _ _ _ _ _ _ _ _ _ _ (pre ++ blk7 P, zu (zu (M) (P + 3) 1 (-1)) (P + 3) 2 (-1), N)
  obtain ⟨lt, o, tape, out, reader, list, past, pool, result, odds, paper, trial, trialPool, trialResult, trialOdds⟩ := id hT
  refine a_aload_n X dX7_init_142 rfl ?_
  refine a_getr X lf7_26 (by assumption) rfl (by omega) dX7_init_143 ?_
  refine a_callVx X dX7_init_146 miX4_clear lm7_77 (c_clear (by assumption)) (by exact list.2.1) rfl rfl rfl (Nat.le_of_ble_eq_true rfl) ⟨by decide, by decide, by decide, by decide⟩ (fun r_146 S_146 q_146 => ?_)
  obtain ⟨M_146, rfl, rfl, h0_146, h1_146, h2_146, h3_146, h4_146, h5_146, h6_146, h7_146, g1_146, g2_146, g3_146, g4_146, g5_146, g6_146, g7_146⟩ := q_146
  refine a_aload_n X dX7_init_149 rfl ?_
  refine a_getr X lf7_40 (by assumption) rfl (by omega) dX7_init_150 ?_
  refine a_aload_n X dX7_init_153 rfl ?_
  refine a_getr X lf7_26 (by assumption) rfl (by omega) dX7_init_154 ?_
  refine a_callVu X dX7_init_157 miX2_gather lm7_80 (c_gather0 (by assumption) (by assumption) h1_146 h2_146 h3_146 (by omega)) (by exact pool.2.1) rfl rfl rfl (Nat.le_of_ble_eq_true rfl) ⟨by decide, by decide, by decide, by decide⟩ ?_
  refine a_aload_n X dX7_init_160 rfl ?_
  refine a_iconst (v := -1) X dX7_init_161 (by decide) ?_
  refine a_puti X lf7_84 (by assumption) rfl dX7_init_162 ?_
  refine a_vret X hr dX7_init_165 ⟨by decide, by decide⟩ ?_
  subst hF
  exact ⟨rfl, _, _, rfl, end7 hT hz h0_146 h1_146 h2_146 h3_146 h4_146 h5_146 h6_146 h7_146 g1_146 g3_146 g2_146 g4_146 g5_146 g6_146 g7_146⟩
/-- a row as begins leaves it -/
theorem jRow_fresh {r : Nat → Int32} (h1 : ∀ j, (j < 10 ∨ (62 ≤ j ∧ j < 69) ∨ j = 70 ∨ j = 71) → r j = 0) (h2 : ∀ j, 10 ≤ j → j < 62 → r j = -1) (h3 : r 69 = 100) : jRow r 0 0 := by
  have o0 : (0 : Int32).toInt = 0 := by decide
  have o1 : (-1 : Int32).toInt = -1 := by decide
  have o2 : (100 : Int32).toInt = 100 := by decide
  refine ⟨fun x hx => ?_, fun x hx => ?_, fun k q1 q2 => ?_, fun x hx => ?_, ?_, fun p hp => absurd hp (by rw [h1 70 (by omega), o0]; omega)⟩
  · rw [h1 x (by omega), o0]; omega
  · rw [h2 (10 + x) (by omega) (by omega), h1 70 (by omega), o1, o0]; omega
  · rw [h2 k (by omega) q2, o1]; omega
  · rw [h1 (62 + x) (by omega), o0]; omega
  · rw [h1 67 (by omega), h1 68 (by omega), h3, h1 70 (by omega), o0, o2]; omega
theorem m_begins {l : Launch} {G : zG} {b : Nat} {S : zS} {P : Nat} (hP : S.1[P]? = some kc1_82) : zM l G b yX8_begins cX8_begins 2 none 0 0 0 [.ref P] S (fun r z => ∃ M', r = none ∧ z = (S.1, M', S.2.2) ∧ (∀ a j, ¬ (a = P ∧ j < 82) → M' a j = S.2.1 a j) ∧ (∀ j, (j < 10 ∨ (62 ≤ j ∧ j < 69) ∨ j = 70 ∨ j = 71) → M' P j = 0) ∧ (∀ j, 10 ≤ j → j < 62 → M' P j = -1) ∧ M' P 69 = 100 ∧ (∀ j, j < 10 → M' P (72 + j) = -1)) := by
  obtain ⟨L, M, N⟩ := S
  obtain ⟨r, h1, h2⟩ := w_X8_begins (Q := P) (M0 := M)
  obtain ⟨r', h1', h3⟩ := w_beg (Q := P) (M0 := M)
  rw [h1] at h1'
  cases h1'
  exact zM.weaken (t_X8_begins hP (by decide) h1) (fun r2 z q => ⟨r, q.1, q.2, h2.1, h2.2.1, h2.2.2.1, h2.2.2.2, h3⟩)
/-- a fresh model at P -/
def zE8 (S : zS) (P : Nat) : Prop := LX8 S.1 P ∧ jJ P S.2.1 ∧ S.2.1 P 11 = 0 ∧ S.2.1 P 13 = -1 ∧ S.2.1 P 14 = -1 ∧ S.2.1 P 7 = 0 ∧ S.2.1 P 8 = 0 ∧ S.2.1 P 9 = 0 ∧ (∀ j, (j < 10 ∨ (62 ≤ j ∧ j < 69) ∨ j = 70 ∨ j = 71) → S.2.1 (P + 1) j = 0) ∧ (∀ j, 10 ≤ j → j < 62 → S.2.1 (P + 1) j = -1) ∧ S.2.1 (P + 1) 69 = 100 ∧ (∀ j, j < 10 → S.2.1 (P + 1) (72 + j) = -1)
theorem jJ.fresh {P : Nat} {M : zMt} (z : ∀ j, j = 7 ∨ j = 8 ∨ j = 9 ∨ j = 11 ∨ j = 33 ∨ j = 64 → M P j = 0) (r : ∀ a, a < 10 → M (P + 19) a = 0) (h1 : ∀ j, (j < 10 ∨ (62 ≤ j ∧ j < 69) ∨ j = 70 ∨ j = 71) → M (P + 1) j = 0) (h2 : ∀ j, 10 ≤ j → j < 62 → M (P + 1) j = -1) (h3 : M (P + 1) 69 = 100) : jJ P M := by
  have o0 : (0 : Int32).toInt = 0 := by decide
  have f := jRow_fresh h1 h2 h3
  refine ⟨?_, ?_, fun a ha => ?_, fun k hk => ?_, ?_⟩
  · unfold jB
    rw [z 7 (by omega), z 8 (by omega), z 33 (by omega), o0]
    omega
  · unfold jS
    rw [z 7 (by omega), z 8 (by omega), o0]
    exact f
  · rw [r a ha, o0]; omega
  · rw [z 9 (by omega), o0] at hk; omega
  · unfold jT
    rw [z 9 (by omega), z 11 (by omega), z 64 (by omega), o0]
    omega
def blk8 (P : Nat) : List zC := [kd112 P, kc1_82, kc1_82, kc1_82, kc1_656, kc2_10, kc2_10, kc1_700, kc3_5, kc3_10, kc3_4, kc1_10, kc1_10, kc1_10, kc1_10, kc1_10, kc1_10, kc1_10, kc1_10, kc1_10, kc1_10, kc1_5, kc1_5, kc1_10, kc3_35, kc3_7, kc3_7, kc3_49, kc3_5, kc2_128, kc1_10, kc1_10, kc1_64]
set_option maxRecDepth 100000 in
theorem lx8 {pre : List zC} {P : Nat} (hP : pre.length = P) (hp : P + 300 < 1000000) : LX8 (pre ++ blk8 P) P := ⟨by omega, (b_at0 hP).trans rfl, (b_at 1 hP).trans rfl, (b_at 2 hP).trans rfl, (b_at 3 hP).trans rfl, (b_at 4 hP).trans rfl, (b_at 5 hP).trans rfl, (b_at 6 hP).trans rfl, (b_at 7 hP).trans rfl, (b_at 8 hP).trans rfl, (b_at 9 hP).trans rfl, (b_at 10 hP).trans rfl, (b_at 11 hP).trans rfl, (b_at 12 hP).trans rfl, (b_at 13 hP).trans rfl, (b_at 14 hP).trans rfl, (b_at 15 hP).trans rfl, (b_at 16 hP).trans rfl, (b_at 17 hP).trans rfl, (b_at 18 hP).trans rfl, (b_at 19 hP).trans rfl, (b_at 20 hP).trans rfl, (b_at 21 hP).trans rfl, (b_at 22 hP).trans rfl, (b_at 23 hP).trans rfl, (b_at 24 hP).trans rfl, (b_at 25 hP).trans rfl, (b_at 26 hP).trans rfl, (b_at 27 hP).trans rfl, (b_at 28 hP).trans rfl, (b_at 29 hP).trans rfl, (b_at 30 hP).trans rfl, (b_at 31 hP).trans rfl, (b_at 32 hP).trans rfl⟩
set_option maxRecDepth 100000 in
set_option maxHeartbeats 8000000 in
theorem k_X8 {l : Launch} {G : zG} {b : Nat} {pre : List zC} {P : Nat} {M : Nat → Nat → Int32} {N : Nat → Nat → Int64} (hP : pre.length = P) (hp : P + 300 < 1000000) (hz : zz (P + 0) M N) : zM l G b yX8_init cX8_init 1 none 1 32 2076 [.ref P] (pre ++ [kd113], M, N) (fun r z => r = none ∧ ∃ M' N', z = (pre ++ blk8 P, M', N') ∧ zE8 z P ∧ zz (P + 33) M' N' ∧ (∀ a, a < P → M' a = M a)) := by
  refine zM.of miX8_init (Nat.le_of_ble_eq_true rfl) ?_
  intro p e s m args below meth c X hr hname
  generalize hF : ((fun r z => r = none ∧ ∃ M' N', z = (pre ++ blk8 P, M', N') ∧ zE8 z P ∧ zz (P + 33) M' N' ∧ (∀ a, a < P → M' a = M a)) : Option Value → zS → Prop) = FQ
  change Zw p l e { frames := 1, cells := 32, slots := 2076, locals := 80 * 1 } s m args below meth c G b 1 (MQ below (zQ G b FQ) args s 32 2076 (fun q : Nat => b ≤ q)) 0 0 0 [some (.ref P)] [] (pre ++ [kd113], M, N)
  refine a_aload_n X dX8_init_0 rfl ?_
  refine a_objinit X lm8_1 (by decide) dX8_init_1 ?_
  refine a_aload_n X dX8_init_4 rfl ?_
  refine a_bipush (v := 82) X dX8_init_5 (by decide) ?_
  refine b_newarray (at_ := .int) (Y' := [kd113, kc1_82]) X 1 hP rfl (by omega) ((hz.up (by omega))) rfl (Or.inl ⟨rfl, rfl⟩) zarrI ⟨by decide, rfl, by decide⟩ ⟨by decide, by decide⟩ dX8_init_7 ?_
  refine b_putr (Y' := [kd114 P, kc1_82]) X hP hname lff8_7 (fun _ => ⟨rfl, rfl⟩) (by omega) rfl (Nat.le_of_ble_eq_true rfl) rfl dX8_init_9 ?_
  refine a_aload_n X dX8_init_12 rfl ?_
  refine a_bipush (v := 82) X dX8_init_13 (by decide) ?_
  refine b_newarray (at_ := .int) (Y' := [kd114 P, kc1_82, kc1_82]) X 2 hP rfl (by omega) ((hz.up (by omega))) rfl (Or.inl ⟨rfl, rfl⟩) zarrI ⟨by decide, rfl, by decide⟩ ⟨by decide, by decide⟩ dX8_init_15 ?_
  refine b_putr (Y' := [kd115 P, kc1_82, kc1_82]) X hP hname lff8_13 (fun _ => ⟨rfl, rfl⟩) (by omega) rfl (Nat.le_of_ble_eq_true rfl) rfl dX8_init_17 ?_
  refine a_aload_n X dX8_init_20 rfl ?_
  refine a_bipush (v := 82) X dX8_init_21 (by decide) ?_
  refine b_newarray (at_ := .int) (Y' := [kd115 P, kc1_82, kc1_82, kc1_82]) X 3 hP rfl (by omega) ((hz.up (by omega))) rfl (Or.inl ⟨rfl, rfl⟩) zarrI ⟨by decide, rfl, by decide⟩ ⟨by decide, by decide⟩ dX8_init_23 ?_
  refine b_putr (Y' := [kd116 P, kc1_82, kc1_82, kc1_82]) X hP hname lff8_16 (fun _ => ⟨rfl, rfl⟩) (by omega) rfl (Nat.le_of_ble_eq_true rfl) rfl dX8_init_25 ?_
  refine a_aload_n X dX8_init_28 rfl ?_
  refine a_sipush (v := 656) X dX8_init_29 (by decide) ?_
  refine b_newarray (at_ := .int) (Y' := [kd116 P, kc1_82, kc1_82, kc1_82, kc1_656]) X 4 hP rfl (by omega) ((hz.up (by omega))) rfl (Or.inl ⟨rfl, rfl⟩) zarrI ⟨by decide, rfl, by decide⟩ ⟨by decide, by decide⟩ dX8_init_32 ?_
  refine b_putr (Y' := [kd117 P, kc1_82, kc1_82, kc1_82, kc1_656]) X hP hname lff8_19 (fun _ => ⟨rfl, rfl⟩) (by omega) rfl (Nat.le_of_ble_eq_true rfl) rfl dX8_init_34 ?_
  refine a_aload_n X dX8_init_37 rfl ?_
  refine a_bipush (v := 10) X dX8_init_38 (by decide) ?_
  refine b_newarray (at_ := .boolean) (Y' := [kd117 P, kc1_82, kc1_82, kc1_82, kc1_656, kc2_10]) X 5 hP rfl (by omega) ((hz.up (by omega))) rfl (Or.inr (Or.inl ⟨rfl, rfl⟩)) zarrZ ⟨by decide, rfl, by decide⟩ ⟨by decide, by decide⟩ dX8_init_40 ?_
  refine b_putr (Y' := [kd118 P, kc1_82, kc1_82, kc1_82, kc1_656, kc2_10]) X hP hname lff8_22 (fun _ => ⟨rfl, rfl⟩) (by omega) rfl (Nat.le_of_ble_eq_true rfl) rfl dX8_init_42 ?_
  refine a_aload_n X dX8_init_45 rfl ?_
  refine a_bipush (v := 10) X dX8_init_46 (by decide) ?_
  refine b_newarray (at_ := .boolean) (Y' := [kd118 P, kc1_82, kc1_82, kc1_82, kc1_656, kc2_10, kc2_10]) X 6 hP rfl (by omega) ((hz.up (by omega))) rfl (Or.inr (Or.inl ⟨rfl, rfl⟩)) zarrZ ⟨by decide, rfl, by decide⟩ ⟨by decide, by decide⟩ dX8_init_48 ?_
  refine b_putr (Y' := [kd119 P, kc1_82, kc1_82, kc1_82, kc1_656, kc2_10, kc2_10]) X hP hname lff8_26 (fun _ => ⟨rfl, rfl⟩) (by omega) rfl (Nat.le_of_ble_eq_true rfl) rfl dX8_init_50 ?_
  refine a_aload_n X dX8_init_53 rfl ?_
  refine a_sipush (v := 700) X dX8_init_54 (by decide) ?_
  refine b_newarray (at_ := .int) (Y' := [kd119 P, kc1_82, kc1_82, kc1_82, kc1_656, kc2_10, kc2_10, kc1_700]) X 7 hP rfl (by omega) ((hz.up (by omega))) rfl (Or.inl ⟨rfl, rfl⟩) zarrI ⟨by decide, rfl, by decide⟩ ⟨by decide, by decide⟩ dX8_init_57 ?_
  refine b_putr (Y' := [kd120 P, kc1_82, kc1_82, kc1_82, kc1_656, kc2_10, kc2_10, kc1_700]) X hP hname lff8_29 (fun _ => ⟨rfl, rfl⟩) (by omega) rfl (Nat.le_of_ble_eq_true rfl) rfl dX8_init_59 ?_
  refine a_aload_n X dX8_init_62 rfl ?_
  refine a_iconst (v := -1) X dX8_init_63 (by decide) ?_
  refine a_puti (P := P) X lf8_32 (by show (pre ++ _)[P]? = _; rw [← hP, List.getElem?_append_right (Nat.le_refl _), Nat.sub_self]; rfl) rfl dX8_init_64 ?_
  change Zw _ _ _ _ _ _ _ _ _ _ _ _ _ _ _ _ _ _ _ (pre ++ [kd120 P, kc1_82, kc1_82, kc1_82, kc1_656, kc2_10, kc2_10, kc1_700], zu (M) P 13 (-1), N)
  refine a_aload_n X dX8_init_67 rfl ?_
  refine a_iconst (v := -1) X dX8_init_68 (by decide) ?_
  refine a_puti (P := P) X lf8_36 (by show (pre ++ _)[P]? = _; rw [← hP, List.getElem?_append_right (Nat.le_refl _), Nat.sub_self]; rfl) rfl dX8_init_69 ?_
  change Zw _ _ _ _ _ _ _ _ _ _ _ _ _ _ _ _ _ _ _ (pre ++ [kd120 P, kc1_82, kc1_82, kc1_82, kc1_656, kc2_10, kc2_10, kc1_700], zu (zu (M) P 13 (-1)) P 14 (-1), N)
  refine a_aload_n X dX8_init_72 rfl ?_
  refine a_iconst (v := 5) X dX8_init_73 (by decide) ?_
  refine b_newarray (at_ := .long) (Y' := [kd120 P, kc1_82, kc1_82, kc1_82, kc1_656, kc2_10, kc2_10, kc1_700, kc3_5]) X 8 hP rfl (by omega) (((zz.zuM (a := P + 8) (zz.zuM (a := P + 8) (hz.up (by omega)) (by omega)) (by omega))).up (by omega)) rfl (Or.inr (Or.inr ⟨rfl, rfl⟩)) zarrJ ⟨by decide, rfl, by decide⟩ ⟨by decide, by decide⟩ dX8_init_74 ?_
  refine b_putr (Y' := [kd121 P, kc1_82, kc1_82, kc1_82, kc1_656, kc2_10, kc2_10, kc1_700, kc3_5]) X hP hname lff8_39 (fun _ => ⟨rfl, rfl⟩) (by omega) rfl (Nat.le_of_ble_eq_true rfl) rfl dX8_init_76 ?_
  refine a_aload_n X dX8_init_79 rfl ?_
  refine a_bipush (v := 10) X dX8_init_80 (by decide) ?_
  refine b_newarray (at_ := .long) (Y' := [kd121 P, kc1_82, kc1_82, kc1_82, kc1_656, kc2_10, kc2_10, kc1_700, kc3_5, kc3_10]) X 9 hP rfl (by omega) (((zz.zuM (a := P + 9) (zz.zuM (a := P + 9) (hz.up (by omega)) (by omega)) (by omega))).up (by omega)) rfl (Or.inr (Or.inr ⟨rfl, rfl⟩)) zarrJ ⟨by decide, rfl, by decide⟩ ⟨by decide, by decide⟩ dX8_init_82 ?_
  refine b_putr (Y' := [kd122 P, kc1_82, kc1_82, kc1_82, kc1_656, kc2_10, kc2_10, kc1_700, kc3_5, kc3_10]) X hP hname lff8_43 (fun _ => ⟨rfl, rfl⟩) (by omega) rfl (Nat.le_of_ble_eq_true rfl) rfl dX8_init_84 ?_
  refine a_aload_n X dX8_init_87 rfl ?_
  refine a_iconst (v := 4) X dX8_init_88 (by decide) ?_
  refine b_newarray (at_ := .long) (Y' := [kd122 P, kc1_82, kc1_82, kc1_82, kc1_656, kc2_10, kc2_10, kc1_700, kc3_5, kc3_10, kc3_4]) X 10 hP rfl (by omega) (((zz.zuM (a := P + 10) (zz.zuM (a := P + 10) (hz.up (by omega)) (by omega)) (by omega))).up (by omega)) rfl (Or.inr (Or.inr ⟨rfl, rfl⟩)) zarrJ ⟨by decide, rfl, by decide⟩ ⟨by decide, by decide⟩ dX8_init_89 ?_
  refine b_putr (Y' := [kd123 P, kc1_82, kc1_82, kc1_82, kc1_656, kc2_10, kc2_10, kc1_700, kc3_5, kc3_10, kc3_4]) X hP hname lff8_46 (fun _ => ⟨rfl, rfl⟩) (by omega) rfl (Nat.le_of_ble_eq_true rfl) rfl dX8_init_91 ?_
  refine a_aload_n X dX8_init_94 rfl ?_
  refine a_bipush (v := 10) X dX8_init_95 (by decide) ?_
  refine b_newarray (at_ := .int) (Y' := [kd123 P, kc1_82, kc1_82, kc1_82, kc1_656, kc2_10, kc2_10, kc1_700, kc3_5, kc3_10, kc3_4, kc1_10]) X 11 hP rfl (by omega) (((zz.zuM (a := P + 11) (zz.zuM (a := P + 11) (hz.up (by omega)) (by omega)) (by omega))).up (by omega)) rfl (Or.inl ⟨rfl, rfl⟩) zarrI ⟨by decide, rfl, by decide⟩ ⟨by decide, by decide⟩ dX8_init_97 ?_
  refine b_putr (Y' := [kd124 P, kc1_82, kc1_82, kc1_82, kc1_656, kc2_10, kc2_10, kc1_700, kc3_5, kc3_10, kc3_4, kc1_10]) X hP hname lff8_49 (fun _ => ⟨rfl, rfl⟩) (by omega) rfl (Nat.le_of_ble_eq_true rfl) rfl dX8_init_99 ?_
  refine a_aload_n X dX8_init_102 rfl ?_
  refine a_bipush (v := 10) X dX8_init_103 (by decide) ?_
  refine b_newarray (at_ := .int) (Y' := [kd124 P, kc1_82, kc1_82, kc1_82, kc1_656, kc2_10, kc2_10, kc1_700, kc3_5, kc3_10, kc3_4, kc1_10, kc1_10]) X 12 hP rfl (by omega) (((zz.zuM (a := P + 12) (zz.zuM (a := P + 12) (hz.up (by omega)) (by omega)) (by omega))).up (by omega)) rfl (Or.inl ⟨rfl, rfl⟩) zarrI ⟨by decide, rfl, by decide⟩ ⟨by decide, by decide⟩ dX8_init_105 ?_
  refine b_putr (Y' := [kd125 P, kc1_82, kc1_82, kc1_82, kc1_656, kc2_10, kc2_10, kc1_700, kc3_5, kc3_10, kc3_4, kc1_10, kc1_10]) X hP hname lff8_52 (fun _ => ⟨rfl, rfl⟩) (by omega) rfl (Nat.le_of_ble_eq_true rfl) rfl dX8_init_107 ?_
  refine a_aload_n X dX8_init_110 rfl ?_
  refine a_bipush (v := 10) X dX8_init_111 (by decide) ?_
  refine b_newarray (at_ := .int) (Y' := [kd125 P, kc1_82, kc1_82, kc1_82, kc1_656, kc2_10, kc2_10, kc1_700, kc3_5, kc3_10, kc3_4, kc1_10, kc1_10, kc1_10]) X 13 hP rfl (by omega) (((zz.zuM (a := P + 13) (zz.zuM (a := P + 13) (hz.up (by omega)) (by omega)) (by omega))).up (by omega)) rfl (Or.inl ⟨rfl, rfl⟩) zarrI ⟨by decide, rfl, by decide⟩ ⟨by decide, by decide⟩ dX8_init_113 ?_
  refine b_putr (Y' := [kd126 P, kc1_82, kc1_82, kc1_82, kc1_656, kc2_10, kc2_10, kc1_700, kc3_5, kc3_10, kc3_4, kc1_10, kc1_10, kc1_10]) X hP hname lff8_55 (fun _ => ⟨rfl, rfl⟩) (by omega) rfl (Nat.le_of_ble_eq_true rfl) rfl dX8_init_115 ?_
  refine a_aload_n X dX8_init_118 rfl ?_
  refine a_bipush (v := 10) X dX8_init_119 (by decide) ?_
  refine b_newarray (at_ := .int) (Y' := [kd126 P, kc1_82, kc1_82, kc1_82, kc1_656, kc2_10, kc2_10, kc1_700, kc3_5, kc3_10, kc3_4, kc1_10, kc1_10, kc1_10, kc1_10]) X 14 hP rfl (by omega) (((zz.zuM (a := P + 14) (zz.zuM (a := P + 14) (hz.up (by omega)) (by omega)) (by omega))).up (by omega)) rfl (Or.inl ⟨rfl, rfl⟩) zarrI ⟨by decide, rfl, by decide⟩ ⟨by decide, by decide⟩ dX8_init_121 ?_
  refine b_putr (Y' := [kd127 P, kc1_82, kc1_82, kc1_82, kc1_656, kc2_10, kc2_10, kc1_700, kc3_5, kc3_10, kc3_4, kc1_10, kc1_10, kc1_10, kc1_10]) X hP hname lff8_58 (fun _ => ⟨rfl, rfl⟩) (by omega) rfl (Nat.le_of_ble_eq_true rfl) rfl dX8_init_123 ?_
  refine a_aload_n X dX8_init_126 rfl ?_
  refine a_bipush (v := 10) X dX8_init_127 (by decide) ?_
  refine b_newarray (at_ := .int) (Y' := [kd127 P, kc1_82, kc1_82, kc1_82, kc1_656, kc2_10, kc2_10, kc1_700, kc3_5, kc3_10, kc3_4, kc1_10, kc1_10, kc1_10, kc1_10, kc1_10]) X 15 hP rfl (by omega) (((zz.zuM (a := P + 15) (zz.zuM (a := P + 15) (hz.up (by omega)) (by omega)) (by omega))).up (by omega)) rfl (Or.inl ⟨rfl, rfl⟩) zarrI ⟨by decide, rfl, by decide⟩ ⟨by decide, by decide⟩ dX8_init_129 ?_
  refine b_putr (Y' := [kd128 P, kc1_82, kc1_82, kc1_82, kc1_656, kc2_10, kc2_10, kc1_700, kc3_5, kc3_10, kc3_4, kc1_10, kc1_10, kc1_10, kc1_10, kc1_10]) X hP hname lff8_61 (fun _ => ⟨rfl, rfl⟩) (by omega) rfl (Nat.le_of_ble_eq_true rfl) rfl dX8_init_131 ?_
  refine a_aload_n X dX8_init_134 rfl ?_
  refine a_bipush (v := 10) X dX8_init_135 (by decide) ?_
  refine b_newarray (at_ := .int) (Y' := [kd128 P, kc1_82, kc1_82, kc1_82, kc1_656, kc2_10, kc2_10, kc1_700, kc3_5, kc3_10, kc3_4, kc1_10, kc1_10, kc1_10, kc1_10, kc1_10, kc1_10]) X 16 hP rfl (by omega) (((zz.zuM (a := P + 16) (zz.zuM (a := P + 16) (hz.up (by omega)) (by omega)) (by omega))).up (by omega)) rfl (Or.inl ⟨rfl, rfl⟩) zarrI ⟨by decide, rfl, by decide⟩ ⟨by decide, by decide⟩ dX8_init_137 ?_
  refine b_putr (Y' := [kd129 P, kc1_82, kc1_82, kc1_82, kc1_656, kc2_10, kc2_10, kc1_700, kc3_5, kc3_10, kc3_4, kc1_10, kc1_10, kc1_10, kc1_10, kc1_10, kc1_10]) X hP hname lff8_64 (fun _ => ⟨rfl, rfl⟩) (by omega) rfl (Nat.le_of_ble_eq_true rfl) rfl dX8_init_139 ?_
  refine a_aload_n X dX8_init_142 rfl ?_
  refine a_bipush (v := 10) X dX8_init_143 (by decide) ?_
  refine b_newarray (at_ := .int) (Y' := [kd129 P, kc1_82, kc1_82, kc1_82, kc1_656, kc2_10, kc2_10, kc1_700, kc3_5, kc3_10, kc3_4, kc1_10, kc1_10, kc1_10, kc1_10, kc1_10, kc1_10, kc1_10]) X 17 hP rfl (by omega) (((zz.zuM (a := P + 17) (zz.zuM (a := P + 17) (hz.up (by omega)) (by omega)) (by omega))).up (by omega)) rfl (Or.inl ⟨rfl, rfl⟩) zarrI ⟨by decide, rfl, by decide⟩ ⟨by decide, by decide⟩ dX8_init_145 ?_
  refine b_putr (Y' := [kd130 P, kc1_82, kc1_82, kc1_82, kc1_656, kc2_10, kc2_10, kc1_700, kc3_5, kc3_10, kc3_4, kc1_10, kc1_10, kc1_10, kc1_10, kc1_10, kc1_10, kc1_10]) X hP hname lff8_67 (fun _ => ⟨rfl, rfl⟩) (by omega) rfl (Nat.le_of_ble_eq_true rfl) rfl dX8_init_147 ?_
  refine a_aload_n X dX8_init_150 rfl ?_
  refine a_bipush (v := 10) X dX8_init_151 (by decide) ?_
  refine b_newarray (at_ := .int) (Y' := [kd130 P, kc1_82, kc1_82, kc1_82, kc1_656, kc2_10, kc2_10, kc1_700, kc3_5, kc3_10, kc3_4, kc1_10, kc1_10, kc1_10, kc1_10, kc1_10, kc1_10, kc1_10, kc1_10]) X 18 hP rfl (by omega) (((zz.zuM (a := P + 18) (zz.zuM (a := P + 18) (hz.up (by omega)) (by omega)) (by omega))).up (by omega)) rfl (Or.inl ⟨rfl, rfl⟩) zarrI ⟨by decide, rfl, by decide⟩ ⟨by decide, by decide⟩ dX8_init_153 ?_
  refine b_putr (Y' := [kd131 P, kc1_82, kc1_82, kc1_82, kc1_656, kc2_10, kc2_10, kc1_700, kc3_5, kc3_10, kc3_4, kc1_10, kc1_10, kc1_10, kc1_10, kc1_10, kc1_10, kc1_10, kc1_10]) X hP hname lff8_70 (fun _ => ⟨rfl, rfl⟩) (by omega) rfl (Nat.le_of_ble_eq_true rfl) rfl dX8_init_155 ?_
  refine a_aload_n X dX8_init_158 rfl ?_
  refine a_bipush (v := 10) X dX8_init_159 (by decide) ?_
  refine b_newarray (at_ := .int) (Y' := [kd131 P, kc1_82, kc1_82, kc1_82, kc1_656, kc2_10, kc2_10, kc1_700, kc3_5, kc3_10, kc3_4, kc1_10, kc1_10, kc1_10, kc1_10, kc1_10, kc1_10, kc1_10, kc1_10, kc1_10]) X 19 hP rfl (by omega) (((zz.zuM (a := P + 19) (zz.zuM (a := P + 19) (hz.up (by omega)) (by omega)) (by omega))).up (by omega)) rfl (Or.inl ⟨rfl, rfl⟩) zarrI ⟨by decide, rfl, by decide⟩ ⟨by decide, by decide⟩ dX8_init_161 ?_
  refine b_putr (Y' := [kd132 P, kc1_82, kc1_82, kc1_82, kc1_656, kc2_10, kc2_10, kc1_700, kc3_5, kc3_10, kc3_4, kc1_10, kc1_10, kc1_10, kc1_10, kc1_10, kc1_10, kc1_10, kc1_10, kc1_10]) X hP hname lff8_73 (fun _ => ⟨rfl, rfl⟩) (by omega) rfl (Nat.le_of_ble_eq_true rfl) rfl dX8_init_163 ?_
  refine a_aload_n X dX8_init_166 rfl ?_
  refine a_bipush (v := 10) X dX8_init_167 (by decide) ?_
  refine b_newarray (at_ := .int) (Y' := [kd132 P, kc1_82, kc1_82, kc1_82, kc1_656, kc2_10, kc2_10, kc1_700, kc3_5, kc3_10, kc3_4, kc1_10, kc1_10, kc1_10, kc1_10, kc1_10, kc1_10, kc1_10, kc1_10, kc1_10, kc1_10]) X 20 hP rfl (by omega) (((zz.zuM (a := P + 20) (zz.zuM (a := P + 20) (hz.up (by omega)) (by omega)) (by omega))).up (by omega)) rfl (Or.inl ⟨rfl, rfl⟩) zarrI ⟨by decide, rfl, by decide⟩ ⟨by decide, by decide⟩ dX8_init_169 ?_
  refine b_putr (Y' := [kd133 P, kc1_82, kc1_82, kc1_82, kc1_656, kc2_10, kc2_10, kc1_700, kc3_5, kc3_10, kc3_4, kc1_10, kc1_10, kc1_10, kc1_10, kc1_10, kc1_10, kc1_10, kc1_10, kc1_10, kc1_10]) X hP hname lff8_76 (fun _ => ⟨rfl, rfl⟩) (by omega) rfl (Nat.le_of_ble_eq_true rfl) rfl dX8_init_171 ?_
  refine a_aload_n X dX8_init_174 rfl ?_
  refine a_iconst (v := 5) X dX8_init_175 (by decide) ?_
  refine b_newarray (at_ := .int) (Y' := [kd133 P, kc1_82, kc1_82, kc1_82, kc1_656, kc2_10, kc2_10, kc1_700, kc3_5, kc3_10, kc3_4, kc1_10, kc1_10, kc1_10, kc1_10, kc1_10, kc1_10, kc1_10, kc1_10, kc1_10, kc1_10, kc1_5]) X 21 hP rfl (by omega) (((zz.zuM (a := P + 21) (zz.zuM (a := P + 21) (hz.up (by omega)) (by omega)) (by omega))).up (by omega)) rfl (Or.inl ⟨rfl, rfl⟩) zarrI ⟨by decide, rfl, by decide⟩ ⟨by decide, by decide⟩ dX8_init_176 ?_
  refine b_putr (Y' := [kd134 P, kc1_82, kc1_82, kc1_82, kc1_656, kc2_10, kc2_10, kc1_700, kc3_5, kc3_10, kc3_4, kc1_10, kc1_10, kc1_10, kc1_10, kc1_10, kc1_10, kc1_10, kc1_10, kc1_10, kc1_10, kc1_5]) X hP hname lff8_79 (fun _ => ⟨rfl, rfl⟩) (by omega) rfl (Nat.le_of_ble_eq_true rfl) rfl dX8_init_178 ?_
  refine a_aload_n X dX8_init_181 rfl ?_
  refine a_iconst (v := 5) X dX8_init_182 (by decide) ?_
  refine b_newarray (at_ := .int) (Y' := [kd134 P, kc1_82, kc1_82, kc1_82, kc1_656, kc2_10, kc2_10, kc1_700, kc3_5, kc3_10, kc3_4, kc1_10, kc1_10, kc1_10, kc1_10, kc1_10, kc1_10, kc1_10, kc1_10, kc1_10, kc1_10, kc1_5, kc1_5]) X 22 hP rfl (by omega) (((zz.zuM (a := P + 22) (zz.zuM (a := P + 22) (hz.up (by omega)) (by omega)) (by omega))).up (by omega)) rfl (Or.inl ⟨rfl, rfl⟩) zarrI ⟨by decide, rfl, by decide⟩ ⟨by decide, by decide⟩ dX8_init_183 ?_
  refine b_putr (Y' := [kd135 P, kc1_82, kc1_82, kc1_82, kc1_656, kc2_10, kc2_10, kc1_700, kc3_5, kc3_10, kc3_4, kc1_10, kc1_10, kc1_10, kc1_10, kc1_10, kc1_10, kc1_10, kc1_10, kc1_10, kc1_10, kc1_5, kc1_5]) X hP hname lff8_82 (fun _ => ⟨rfl, rfl⟩) (by omega) rfl (Nat.le_of_ble_eq_true rfl) rfl dX8_init_185 ?_
  refine a_aload_n X dX8_init_188 rfl ?_
  refine a_bipush (v := 10) X dX8_init_189 (by decide) ?_
  refine b_newarray (at_ := .int) (Y' := [kd135 P, kc1_82, kc1_82, kc1_82, kc1_656, kc2_10, kc2_10, kc1_700, kc3_5, kc3_10, kc3_4, kc1_10, kc1_10, kc1_10, kc1_10, kc1_10, kc1_10, kc1_10, kc1_10, kc1_10, kc1_10, kc1_5, kc1_5, kc1_10]) X 23 hP rfl (by omega) (((zz.zuM (a := P + 23) (zz.zuM (a := P + 23) (hz.up (by omega)) (by omega)) (by omega))).up (by omega)) rfl (Or.inl ⟨rfl, rfl⟩) zarrI ⟨by decide, rfl, by decide⟩ ⟨by decide, by decide⟩ dX8_init_191 ?_
  refine b_putr (Y' := [kd136 P, kc1_82, kc1_82, kc1_82, kc1_656, kc2_10, kc2_10, kc1_700, kc3_5, kc3_10, kc3_4, kc1_10, kc1_10, kc1_10, kc1_10, kc1_10, kc1_10, kc1_10, kc1_10, kc1_10, kc1_10, kc1_5, kc1_5, kc1_10]) X hP hname lff8_85 (fun _ => ⟨rfl, rfl⟩) (by omega) rfl (Nat.le_of_ble_eq_true rfl) rfl dX8_init_193 ?_
  refine a_aload_n X dX8_init_196 rfl ?_
  refine a_bipush (v := 35) X dX8_init_197 (by decide) ?_
  refine b_newarray (at_ := .long) (Y' := [kd136 P, kc1_82, kc1_82, kc1_82, kc1_656, kc2_10, kc2_10, kc1_700, kc3_5, kc3_10, kc3_4, kc1_10, kc1_10, kc1_10, kc1_10, kc1_10, kc1_10, kc1_10, kc1_10, kc1_10, kc1_10, kc1_5, kc1_5, kc1_10, kc3_35]) X 24 hP rfl (by omega) (((zz.zuM (a := P + 24) (zz.zuM (a := P + 24) (hz.up (by omega)) (by omega)) (by omega))).up (by omega)) rfl (Or.inr (Or.inr ⟨rfl, rfl⟩)) zarrJ ⟨by decide, rfl, by decide⟩ ⟨by decide, by decide⟩ dX8_init_199 ?_
  refine b_putr (Y' := [kd137 P, kc1_82, kc1_82, kc1_82, kc1_656, kc2_10, kc2_10, kc1_700, kc3_5, kc3_10, kc3_4, kc1_10, kc1_10, kc1_10, kc1_10, kc1_10, kc1_10, kc1_10, kc1_10, kc1_10, kc1_10, kc1_5, kc1_5, kc1_10, kc3_35]) X hP hname lff8_88 (fun _ => ⟨rfl, rfl⟩) (by omega) rfl (Nat.le_of_ble_eq_true rfl) rfl dX8_init_201 ?_
  refine a_aload_n X dX8_init_204 rfl ?_
  refine a_bipush (v := 7) X dX8_init_205 (by decide) ?_
  refine b_newarray (at_ := .long) (Y' := [kd137 P, kc1_82, kc1_82, kc1_82, kc1_656, kc2_10, kc2_10, kc1_700, kc3_5, kc3_10, kc3_4, kc1_10, kc1_10, kc1_10, kc1_10, kc1_10, kc1_10, kc1_10, kc1_10, kc1_10, kc1_10, kc1_5, kc1_5, kc1_10, kc3_35, kc3_7]) X 25 hP rfl (by omega) (((zz.zuM (a := P + 25) (zz.zuM (a := P + 25) (hz.up (by omega)) (by omega)) (by omega))).up (by omega)) rfl (Or.inr (Or.inr ⟨rfl, rfl⟩)) zarrJ ⟨by decide, rfl, by decide⟩ ⟨by decide, by decide⟩ dX8_init_207 ?_
  refine b_putr (Y' := [kd138 P, kc1_82, kc1_82, kc1_82, kc1_656, kc2_10, kc2_10, kc1_700, kc3_5, kc3_10, kc3_4, kc1_10, kc1_10, kc1_10, kc1_10, kc1_10, kc1_10, kc1_10, kc1_10, kc1_10, kc1_10, kc1_5, kc1_5, kc1_10, kc3_35, kc3_7]) X hP hname lff8_91 (fun _ => ⟨rfl, rfl⟩) (by omega) rfl (Nat.le_of_ble_eq_true rfl) rfl dX8_init_209 ?_
  refine a_aload_n X dX8_init_212 rfl ?_
  refine a_bipush (v := 7) X dX8_init_213 (by decide) ?_
  refine b_newarray (at_ := .long) (Y' := [kd138 P, kc1_82, kc1_82, kc1_82, kc1_656, kc2_10, kc2_10, kc1_700, kc3_5, kc3_10, kc3_4, kc1_10, kc1_10, kc1_10, kc1_10, kc1_10, kc1_10, kc1_10, kc1_10, kc1_10, kc1_10, kc1_5, kc1_5, kc1_10, kc3_35, kc3_7, kc3_7]) X 26 hP rfl (by omega) (((zz.zuM (a := P + 26) (zz.zuM (a := P + 26) (hz.up (by omega)) (by omega)) (by omega))).up (by omega)) rfl (Or.inr (Or.inr ⟨rfl, rfl⟩)) zarrJ ⟨by decide, rfl, by decide⟩ ⟨by decide, by decide⟩ dX8_init_215 ?_
  refine b_putr (Y' := [kd139 P, kc1_82, kc1_82, kc1_82, kc1_656, kc2_10, kc2_10, kc1_700, kc3_5, kc3_10, kc3_4, kc1_10, kc1_10, kc1_10, kc1_10, kc1_10, kc1_10, kc1_10, kc1_10, kc1_10, kc1_10, kc1_5, kc1_5, kc1_10, kc3_35, kc3_7, kc3_7]) X hP hname lff8_94 (fun _ => ⟨rfl, rfl⟩) (by omega) rfl (Nat.le_of_ble_eq_true rfl) rfl dX8_init_217 ?_
  refine a_aload_n X dX8_init_220 rfl ?_
  refine a_bipush (v := 49) X dX8_init_221 (by decide) ?_
  refine b_newarray (at_ := .long) (Y' := [kd139 P, kc1_82, kc1_82, kc1_82, kc1_656, kc2_10, kc2_10, kc1_700, kc3_5, kc3_10, kc3_4, kc1_10, kc1_10, kc1_10, kc1_10, kc1_10, kc1_10, kc1_10, kc1_10, kc1_10, kc1_10, kc1_5, kc1_5, kc1_10, kc3_35, kc3_7, kc3_7, kc3_49]) X 27 hP rfl (by omega) (((zz.zuM (a := P + 27) (zz.zuM (a := P + 27) (hz.up (by omega)) (by omega)) (by omega))).up (by omega)) rfl (Or.inr (Or.inr ⟨rfl, rfl⟩)) zarrJ ⟨by decide, rfl, by decide⟩ ⟨by decide, by decide⟩ dX8_init_223 ?_
  refine b_putr (Y' := [kd140 P, kc1_82, kc1_82, kc1_82, kc1_656, kc2_10, kc2_10, kc1_700, kc3_5, kc3_10, kc3_4, kc1_10, kc1_10, kc1_10, kc1_10, kc1_10, kc1_10, kc1_10, kc1_10, kc1_10, kc1_10, kc1_5, kc1_5, kc1_10, kc3_35, kc3_7, kc3_7, kc3_49]) X hP hname lff8_97 (fun _ => ⟨rfl, rfl⟩) (by omega) rfl (Nat.le_of_ble_eq_true rfl) rfl dX8_init_225 ?_
  refine a_aload_n X dX8_init_228 rfl ?_
  refine a_iconst (v := 5) X dX8_init_229 (by decide) ?_
  refine b_newarray (at_ := .long) (Y' := [kd140 P, kc1_82, kc1_82, kc1_82, kc1_656, kc2_10, kc2_10, kc1_700, kc3_5, kc3_10, kc3_4, kc1_10, kc1_10, kc1_10, kc1_10, kc1_10, kc1_10, kc1_10, kc1_10, kc1_10, kc1_10, kc1_5, kc1_5, kc1_10, kc3_35, kc3_7, kc3_7, kc3_49, kc3_5]) X 28 hP rfl (by omega) (((zz.zuM (a := P + 28) (zz.zuM (a := P + 28) (hz.up (by omega)) (by omega)) (by omega))).up (by omega)) rfl (Or.inr (Or.inr ⟨rfl, rfl⟩)) zarrJ ⟨by decide, rfl, by decide⟩ ⟨by decide, by decide⟩ dX8_init_230 ?_
  refine b_putr (Y' := [kd141 P, kc1_82, kc1_82, kc1_82, kc1_656, kc2_10, kc2_10, kc1_700, kc3_5, kc3_10, kc3_4, kc1_10, kc1_10, kc1_10, kc1_10, kc1_10, kc1_10, kc1_10, kc1_10, kc1_10, kc1_10, kc1_5, kc1_5, kc1_10, kc3_35, kc3_7, kc3_7, kc3_49, kc3_5]) X hP hname lff8_100 (fun _ => ⟨rfl, rfl⟩) (by omega) rfl (Nat.le_of_ble_eq_true rfl) rfl dX8_init_232 ?_
  refine a_aload_n X dX8_init_235 rfl ?_
  refine a_sipush (v := 128) X dX8_init_236 (by decide) ?_
  refine b_newarray (at_ := .boolean) (Y' := [kd141 P, kc1_82, kc1_82, kc1_82, kc1_656, kc2_10, kc2_10, kc1_700, kc3_5, kc3_10, kc3_4, kc1_10, kc1_10, kc1_10, kc1_10, kc1_10, kc1_10, kc1_10, kc1_10, kc1_10, kc1_10, kc1_5, kc1_5, kc1_10, kc3_35, kc3_7, kc3_7, kc3_49, kc3_5, kc2_128]) X 29 hP rfl (by omega) (((zz.zuM (a := P + 29) (zz.zuM (a := P + 29) (hz.up (by omega)) (by omega)) (by omega))).up (by omega)) rfl (Or.inr (Or.inl ⟨rfl, rfl⟩)) zarrZ ⟨by decide, rfl, by decide⟩ ⟨by decide, by decide⟩ dX8_init_239 ?_
  refine b_putr (Y' := [kd142 P, kc1_82, kc1_82, kc1_82, kc1_656, kc2_10, kc2_10, kc1_700, kc3_5, kc3_10, kc3_4, kc1_10, kc1_10, kc1_10, kc1_10, kc1_10, kc1_10, kc1_10, kc1_10, kc1_10, kc1_10, kc1_5, kc1_5, kc1_10, kc3_35, kc3_7, kc3_7, kc3_49, kc3_5, kc2_128]) X hP hname lff8_103 (fun _ => ⟨rfl, rfl⟩) (by omega) rfl (Nat.le_of_ble_eq_true rfl) rfl dX8_init_241 ?_
  refine a_aload_n X dX8_init_244 rfl ?_
  refine a_bipush (v := 10) X dX8_init_245 (by decide) ?_
  refine b_newarray (at_ := .int) (Y' := [kd142 P, kc1_82, kc1_82, kc1_82, kc1_656, kc2_10, kc2_10, kc1_700, kc3_5, kc3_10, kc3_4, kc1_10, kc1_10, kc1_10, kc1_10, kc1_10, kc1_10, kc1_10, kc1_10, kc1_10, kc1_10, kc1_5, kc1_5, kc1_10, kc3_35, kc3_7, kc3_7, kc3_49, kc3_5, kc2_128, kc1_10]) X 30 hP rfl (by omega) (((zz.zuM (a := P + 30) (zz.zuM (a := P + 30) (hz.up (by omega)) (by omega)) (by omega))).up (by omega)) rfl (Or.inl ⟨rfl, rfl⟩) zarrI ⟨by decide, rfl, by decide⟩ ⟨by decide, by decide⟩ dX8_init_247 ?_
  refine b_putr (Y' := [kd143 P, kc1_82, kc1_82, kc1_82, kc1_656, kc2_10, kc2_10, kc1_700, kc3_5, kc3_10, kc3_4, kc1_10, kc1_10, kc1_10, kc1_10, kc1_10, kc1_10, kc1_10, kc1_10, kc1_10, kc1_10, kc1_5, kc1_5, kc1_10, kc3_35, kc3_7, kc3_7, kc3_49, kc3_5, kc2_128, kc1_10]) X hP hname lff8_106 (fun _ => ⟨rfl, rfl⟩) (by omega) rfl (Nat.le_of_ble_eq_true rfl) rfl dX8_init_249 ?_
  refine a_aload_n X dX8_init_252 rfl ?_
  refine a_bipush (v := 10) X dX8_init_253 (by decide) ?_
  refine b_newarray (at_ := .int) (Y' := [kd143 P, kc1_82, kc1_82, kc1_82, kc1_656, kc2_10, kc2_10, kc1_700, kc3_5, kc3_10, kc3_4, kc1_10, kc1_10, kc1_10, kc1_10, kc1_10, kc1_10, kc1_10, kc1_10, kc1_10, kc1_10, kc1_5, kc1_5, kc1_10, kc3_35, kc3_7, kc3_7, kc3_49, kc3_5, kc2_128, kc1_10, kc1_10]) X 31 hP rfl (by omega) (((zz.zuM (a := P + 31) (zz.zuM (a := P + 31) (hz.up (by omega)) (by omega)) (by omega))).up (by omega)) rfl (Or.inl ⟨rfl, rfl⟩) zarrI ⟨by decide, rfl, by decide⟩ ⟨by decide, by decide⟩ dX8_init_255 ?_
  refine b_putr (Y' := [kd144 P, kc1_82, kc1_82, kc1_82, kc1_656, kc2_10, kc2_10, kc1_700, kc3_5, kc3_10, kc3_4, kc1_10, kc1_10, kc1_10, kc1_10, kc1_10, kc1_10, kc1_10, kc1_10, kc1_10, kc1_10, kc1_5, kc1_5, kc1_10, kc3_35, kc3_7, kc3_7, kc3_49, kc3_5, kc2_128, kc1_10, kc1_10]) X hP hname lff8_109 (fun _ => ⟨rfl, rfl⟩) (by omega) rfl (Nat.le_of_ble_eq_true rfl) rfl dX8_init_257 ?_
  refine a_aload_n X dX8_init_260 rfl ?_
  refine a_bipush (v := 64) X dX8_init_261 (by decide) ?_
  refine b_newarray (at_ := .int) (Y' := [kd144 P, kc1_82, kc1_82, kc1_82, kc1_656, kc2_10, kc2_10, kc1_700, kc3_5, kc3_10, kc3_4, kc1_10, kc1_10, kc1_10, kc1_10, kc1_10, kc1_10, kc1_10, kc1_10, kc1_10, kc1_10, kc1_5, kc1_5, kc1_10, kc3_35, kc3_7, kc3_7, kc3_49, kc3_5, kc2_128, kc1_10, kc1_10, kc1_64]) X 32 hP rfl (by omega) (((zz.zuM (a := P + 32) (zz.zuM (a := P + 32) (hz.up (by omega)) (by omega)) (by omega))).up (by omega)) rfl (Or.inl ⟨rfl, rfl⟩) zarrI ⟨by decide, rfl, by decide⟩ ⟨by decide, by decide⟩ dX8_init_263 ?_
  refine b_putr (Y' := [kd112 P, kc1_82, kc1_82, kc1_82, kc1_656, kc2_10, kc2_10, kc1_700, kc3_5, kc3_10, kc3_4, kc1_10, kc1_10, kc1_10, kc1_10, kc1_10, kc1_10, kc1_10, kc1_10, kc1_10, kc1_10, kc1_5, kc1_5, kc1_10, kc3_35, kc3_7, kc3_7, kc3_49, kc3_5, kc2_128, kc1_10, kc1_10, kc1_64]) X hP hname lff8_112 (fun _ => ⟨rfl, rfl⟩) (by omega) rfl (Nat.le_of_ble_eq_true rfl) rfl dX8_init_265 ?_
  have hT : LX8 (pre ++ blk8 P) P := lx8 hP hp
  change Zw _ _ _ _ _ _ _ _ _ _ _ _ _ _ _ _ _ _ _ (pre ++ blk8 P, zu (zu (M) P 13 (-1)) P 14 (-1), N)
  obtain ⟨z_lt, z_o, z_s, z_read, z_aside, z_kept, z_guest, z_readGuest, z_tape, z_unitName, z_hunterName, z_partyName, z_bits, z_partyOf, z_choiceAt, z_sizes, z_guestMany, z_pointsOf, z_ticketsOf, z_ord, z_given, z_roundOf, z_tags, z_guestTags, z_places, z_sumAt, z_sumFirst, z_sumRound, z_sumBoth, z_sumTags, z_isEnd, z_newPoints, z_inRow, z_out⟩ := id hT
  refine a_aload_n X dX8_init_268 rfl ?_
  refine a_getr X lf8_7 (by assumption) rfl (by omega) dX8_init_269 ?_
  refine a_callSx X dX8_init_272 miX8_begins lm8_115 (m_begins (by assumption)) rfl rfl (Nat.le_of_ble_eq_true rfl) ⟨by decide, by decide, by decide, by decide⟩ (fun r_272 S_272 q_272 => ?_)
  obtain ⟨M_272, rfl, rfl, b0_272, b1_272, b2_272, b3_272, b4_272⟩ := q_272
  refine a_vret X hr dX8_init_275 ⟨by decide, by decide⟩ ?_
  subst hF
  have z0 : ∀ k j, P ≤ k → M k j = 0 := fun k j h => (hz k h j).1
  have g0 : ∀ a j, ¬ (a = P + 1 ∧ j < 82) → M_272 a j = (zu (zu (M) P 13 (-1)) P 14 (-1)) a j := b0_272
  have gz : ∀ a j, P < a → a ≠ P + 1 → M_272 a j = 0 := fun a j h1 h2 => by
    rw [g0 a j (by omega), zu_row (by omega), zu_row (by omega)]
    exact z0 a j (by omega)
  refine ⟨rfl, _, _, rfl, ⟨hT, ?_, ?_, ?_, ?_, ?_, ?_, ?_, b1_272, b2_272, b3_272, b4_272⟩, ?_, ?_⟩
  · refine jJ.fresh (fun j hj => ?_) (fun a ha => gz (P + 19) a (by omega) (by omega)) b1_272 b2_272 b3_272
    show M_272 P j = 0
    rw [g0 P j (by omega), zu_ne (by omega), zu_ne (by omega)]
    exact z0 P j (by omega)
  · show M_272 P 11 = 0
    rw [g0 P 11 (by omega), zu_ne (by omega), zu_ne (by omega)]
    exact z0 P 11 (by omega)
  · show M_272 P 13 = -1
    rw [g0 P 13 (by omega), zu_ne (by omega), zu_eq]
  · show M_272 P 14 = -1
    rw [g0 P 14 (by omega), zu_eq]
  · show M_272 P 7 = 0
    rw [g0 P 7 (by omega), zu_ne (by omega), zu_ne (by omega)]
    exact z0 P 7 (by omega)
  · show M_272 P 8 = 0
    rw [g0 P 8 (by omega), zu_ne (by omega), zu_ne (by omega)]
    exact z0 P 8 (by omega)
  · show M_272 P 9 = 0
    rw [g0 P 9 (by omega), zu_ne (by omega), zu_ne (by omega)]
    exact z0 P 9 (by omega)
  · intro k hk j
    exact ⟨gz k j (by omega) (by omega), (hz k (by omega) j).2⟩
  · intro a ha
    funext j
    show M_272 a j = M a j
    rw [g0 a j (by omega), zu_row (by omega), zu_row (by omega)]
/-! THE CLAIM OUT OF ONE WALK OF THE LAW'S BODY. Your part is whole_start (and what it stands on); all else here is the same for every law, but numbers. -/
def lw_P (b : Addr) (xs : List Int32) (args : Array Value) (s : State) : Prop := args = #[.ref b] ∧ s.IntsAt b xs ∧ xs.length ≤ 3072 ∧ (Jvm.Cond.and given_1 narrow_1).before args s = true
def lw_Q (_ : Array Value) (s : State) (o : Outcome) (t : State) : Prop := o = .returned (some (.int 1)) ∧ Framed s o t [] 600000 7302250
def lw_Z (below : List Frame) (a : Array Value) (s : State) : State → Prop := fun t => ∃ o, t.status = .running ∧ Ended t below o ∧ lw_Q a s o t
/-- the law's own end, with 1 on the stack, nothing written that was there before, its room as the claim has it -/
theorem lw_ret {p : Program} {l : Launch} {e : Env} {s : State} {m : MethodId} {below : List Frame} {meth : Method} {c : Code} {b : Nat} (hx : p.tables.exec = Jvm.exec) (hb : c.code = code) (hr : meth.sig.returnType = ret) (hlocks : meth.locks = false) {pc : Nat} {H : Heap} {ls : Array Slot} (hdg : decode code pc = .ok (.ireturn, 1)) : W p l e room_1 s m #[Value.ref b] below meth c H [] 600000 7302250 (lw_Z below #[Value.ref b] s) (F0 m pc ls [.int 1]) := by
  intro T hT X
  obtain ⟨fs, hret, hrun, hended, hW, hframe⟩ := X.leave (v := some (.int 1)) (hlocks := hlocks) (fun h => by rw [hr] at h; cases h)
  have hmeth' : T.vm.method? m = some meth := X.method'
  refine ⟨T.setFrames fs, ?_, .returned (some (.int 1)), hrun, hended, rfl, ⟨_, rfl⟩, hW, hframe⟩
  jvm_step X.here [X.here.top, hx, hb, hdg, hmeth', hr, ret, narrow_b1]
  (try refine ⟨rfl, ?_⟩); (try refine ⟨rfl, ?_⟩)
  first | (intro acts; rw [hret _ acts rfl rfl rfl]) | rw [hret _ _ rfl rfl rfl]
  exact Steps.refl _
/-- what holds at the law's entry: the machine, the code, the tables' words (any of lw_tbl by 'hts w (by decide +kernel)'), the script of L ints xs at the cell b, what the Statement gives of the start (any of its parts by flat_of_before) -/
def lw_At (p : Program) (s : State) (m : MethodId) (meth : Method) (c : Code) (b L : Nat) (xs : Nat → Int32) : Prop :=
  p.tables.exec = Jvm.exec ∧ c.code = code ∧ meth.sig.returnType = ret ∧ c.maxLocals = 4 ∧ s.vm.findClass R_law = some m.cls ∧ (∀ w ∈ lw_tbl, w.before #[Value.ref b] s = true) ∧ va_X b L xs s s.heap ∧ b < s.heap.size ∧ meth.locks = false ∧ (Jvm.Cond.and given_1 narrow_1).before #[Value.ref b] s = true
section
/-! the law's own walk -/
section ZS
variable {p : Program} {l : Launch} {e : Env} {R : Room} {s : State} {m : MethodId} {args : Array Value} {below : List Frame} {meth : Method} {c : Code} {G : zG} {b : Nat} {Q : State → Prop} {nc ns : Nat}
variable {cc : ByteArray} {pc nL : Nat} {own : String} {ls : List (Option Value)} {st : List Value} {S : zS}
theorem a_sld (X : zOK p s m args meth c G b own cc nL) {sb L : Nat} {xs : Nat → Int32} (hX0 : va_X sb L xs s s.heap) (hsb : sb < s.heap.size) (hbb : b = s.heap.size) {i : Int32} (hin : vp_in i L) (hd : decode cc pc = .ok (.iaload, 1)) (kk : Zw p l e R s m args below meth c G b nL Q nc ns (pc + 1) ls (.int (xs i.toNatClampNeg) :: st) S) : Zw p l e R s m args below meth c G b nL Q nc ns pc ls (.int i :: .ref (1000000 + sb) :: st) S := by
  intro H locs la hH hS hL
  show W p l e R s m args below meth c H locs nc ns Q (F0 m pc la (.int i :: zv b (.ref (1000000 + sb)) :: st.map (zv b)))
  rw [zv_far]
  exact va_sld (A := fun q : Nat => b ≤ q) X.1 X.2.1 hX0 hsb (by omega) hS hin hd (kk H locs la hH hS hL)
theorem a_slen (X : zOK p s m args meth c G b own cc nL) {sb L : Nat} {xs : Nat → Int32} (hX0 : va_X sb L xs s s.heap) (hsb : sb < s.heap.size) (hbb : b = s.heap.size) (hd : decode cc pc = .ok (.arraylength, 1)) (kk : Zw p l e R s m args below meth c G b nL Q nc ns (pc + 1) ls (.int (Int32.ofNat L) :: st) S) : Zw p l e R s m args below meth c G b nL Q nc ns pc ls (.ref (1000000 + sb) :: st) S := by
  intro H locs la hH hS hL
  show W p l e R s m args below meth c H locs nc ns Q (F0 m pc la (zv b (.ref (1000000 + sb)) :: st.map (zv b)))
  rw [zv_far]
  exact va_slen (A := fun q : Nat => b ≤ q) X.1 X.2.1 hX0 hsb (by omega) hS hd (kk H locs la hH hS hL)
theorem a_pop2 (X : zOK p s m args meth c G b own cc nL) {v : Value} (hd : decode cc pc = .ok (.pop2, 1)) (hc : v.category = 2) (kk : Zw p l e R s m args below meth c G b nL Q nc ns (pc + 1) ls st S) : Zw p l e R s m args below meth c G b nL Q nc ns pc ls (v :: st) S :=
  fun H locs la hH hS hL => lv_pop2_2 X.1 X.2.1 hd (by rw [zv_cat]; exact hc) (kk H locs la hH hS hL)
end ZS
theorem l_app {L K : List zC} {k : Nat} {q : zC} (h : L[k]? = some q) : (L ++ K)[k]? = some q := by
  rw [List.getElem?_append_left (List.getElem?_eq_some_iff.mp h).1]
  exact h
theorem LX4.app {L K : List zC} {P : Nat} (h : LX4 L P) : LX4 (L ++ K) P := ⟨h.1, l_app h.2.1, l_app h.2.2.1, l_app h.2.2.2.1, l_app h.2.2.2.2.1, l_app h.2.2.2.2.2.1, l_app h.2.2.2.2.2.2.1, l_app h.2.2.2.2.2.2.2.1, l_app h.2.2.2.2.2.2.2.2⟩
theorem LX2.app {L K : List zC} {P : Nat} (h : LX2 L P) : LX2 (L ++ K) P := ⟨h.1, l_app h.2.1, l_app h.2.2.1, l_app h.2.2.2.1, l_app h.2.2.2.2.1, l_app h.2.2.2.2.2.1, l_app h.2.2.2.2.2.2.1, l_app h.2.2.2.2.2.2.2.1, l_app h.2.2.2.2.2.2.2.2.1, l_app h.2.2.2.2.2.2.2.2.2.1, l_app h.2.2.2.2.2.2.2.2.2.2.1, l_app h.2.2.2.2.2.2.2.2.2.2.2.1, l_app h.2.2.2.2.2.2.2.2.2.2.2.2.1, l_app h.2.2.2.2.2.2.2.2.2.2.2.2.2⟩
theorem LX5.app {L K : List zC} {P : Nat} (h : LX5 L P) : LX5 (L ++ K) P := ⟨h.1, l_app h.2.1, l_app h.2.2.1, l_app h.2.2.2.1, l_app h.2.2.2.2.1, l_app h.2.2.2.2.2.1, l_app h.2.2.2.2.2.2.1, l_app h.2.2.2.2.2.2.2.1, l_app h.2.2.2.2.2.2.2.2⟩
theorem LX0.app {L K : List zC} {P : Nat} (h : LX0 L P) : LX0 (L ++ K) P := ⟨h.1, l_app h.2.1, l_app h.2.2.1, l_app h.2.2.2.1, l_app h.2.2.2.2.1, l_app h.2.2.2.2.2.1, LX5.app (h.2.2.2.2.2.2)⟩
theorem LX6.app {L K : List zC} {P : Nat} (h : LX6 L P) : LX6 (L ++ K) P := ⟨h.1, l_app h.2.1, l_app h.2.2.1, l_app h.2.2.2.1, l_app h.2.2.2.2.1, LX4.app (h.2.2.2.2.2.1), LX2.app (h.2.2.2.2.2.2.1), LX5.app (h.2.2.2.2.2.2.2)⟩
theorem LX3.app {L K : List zC} {P : Nat} (h : LX3 L P) : LX3 (L ++ K) P := ⟨h.1, l_app h.2.1, LX4.app (h.2.2.1), l_app h.2.2.2.1, l_app h.2.2.2.2.1, l_app h.2.2.2.2.2.1, l_app h.2.2.2.2.2.2.1, l_app h.2.2.2.2.2.2.2⟩
theorem LX1.app {L K : List zC} {P : Nat} (h : LX1 L P) : LX1 (L ++ K) P := ⟨h.1, l_app h.2.1, l_app h.2.2.1, LX4.app (h.2.2.2.1), LX4.app (h.2.2.2.2.1), LX4.app (h.2.2.2.2.2.1), LX4.app (h.2.2.2.2.2.2.1), LX4.app (h.2.2.2.2.2.2.2.1), LX4.app (h.2.2.2.2.2.2.2.2.1), LX4.app (h.2.2.2.2.2.2.2.2.2.1), LX4.app (h.2.2.2.2.2.2.2.2.2.2)⟩
theorem LX7.app {L K : List zC} {P : Nat} (h : LX7 L P) : LX7 (L ++ K) P := ⟨h.1, l_app h.2.1, l_app h.2.2.1, l_app h.2.2.2.1, LX3.app (h.2.2.2.2.1), LX4.app (h.2.2.2.2.2.1), LX1.app (h.2.2.2.2.2.2.1), LX2.app (h.2.2.2.2.2.2.2.1), LX5.app (h.2.2.2.2.2.2.2.2.1), LX0.app (h.2.2.2.2.2.2.2.2.2.1), LX6.app (h.2.2.2.2.2.2.2.2.2.2.1), LX4.app (h.2.2.2.2.2.2.2.2.2.2.2.1), LX2.app (h.2.2.2.2.2.2.2.2.2.2.2.2.1), LX5.app (h.2.2.2.2.2.2.2.2.2.2.2.2.2.1), LX0.app (h.2.2.2.2.2.2.2.2.2.2.2.2.2.2)⟩
theorem zE7.app {S z : zS} {P : Nat} {K : List zC} (h : zE7 S P) (h1 : z.1 = S.1 ++ K) (h2 : ∀ a, a < P + 200 → z.2.1 a = S.2.1 a) : zE7 z P := by
  obtain ⟨h0, hr⟩ := h
  refine ⟨by rw [h1]; exact h0.app, ?_⟩
  rw [h2 P (by omega), h2 (P + 3) (by omega), h2 (P + 17) (by omega), h2 (P + 18) (by omega), h2 (P + 20) (by omega), h2 (P + 25) (by omega), h2 (P + 91) (by omega), h2 (P + 19) (by omega), h2 (P + 21) (by omega), h2 (P + 22) (by omega), h2 (P + 23) (by omega), h2 (P + 24) (by omega)]
  exact hr
theorem law_sub {w : Cond} (h : w ∈ zT) : w ∈ lw_tbl := (List.mem_filter.mp h).1
theorem law_arr {s : State} {args : Array Value} {ty : FieldType} (h : (Cond.arrayClass ty).before args s = true) (hno : ∀ C, ty ≠ .object C) : ∃ cA, ArrOfT s cA ty ∧ va_RA s cA ty := by
  obtain ⟨cA, k, comp, h1, h2, h3⟩ := Cond.arrayClass_spec h
  refine ⟨cA, fun N z => ⟨(fun k h => by cases h), k, h2, comp, h3⟩, ?_⟩
  cases ty with
  | object C => exact absurd rfl (hno C)
  | _ => exact h1
theorem law_over {s : State} {args : Array Value} {C : String} (h : (Cond.arrayOver (.object C)).before args s = true) : ∃ cA, ArrOfT s cA (.object C) ∧ va_RA s cA (.object C) := by
  obtain ⟨comp, cA, k, h1, h2, h3, h4, h5⟩ := Cond.arrayOver_spec h
  exact ⟨cA, fun N z => ⟨(fun k h => by cases h), k, h3, comp, h4⟩, k, comp, h3, h4, h1, h5⟩
theorem law_ov {s : State} {args : Array Value} (hts : ∀ w ∈ lw_tbl, w.before args s = true) : (Cond.arrayOver (.object RX4)).before args s = true := hts _ (by decide +kernel)
def zTm (i : Nat) : Term := Term.string (zLit.getD i ("", 0, "")).1 (zLit.getD i ("", 0, "")).2.1
def zPos : List Nat := [9, 17, 28, 39, 51, 63, 75, 91, 108, 124, 143, 162, 224]
def zFla : List Cond := flatC (Jvm.Cond.and given_1 narrow_1)
theorem law_q1 : ∀ i, i < 13 → zFla[zPos.getD i 0]? = some (Cond.exactly (zTm i) "java/lang/String") := by decide +kernel
theorem law_q2 : ∀ i, i < 13 → zFla[zPos.getD i 0 + 1]? = some (Cond.eq (.field (zTm i) "java/lang/String" "coder" "B") (.int 0)) := by decide +kernel
theorem law_q3 : ∀ i, i < 13 → zFla[zPos.getD i 0 + 2]? = some (Cond.arrayOf (.field (zTm i) "java/lang/String" "value" "[B") .byte) := by decide +kernel
theorem law_q4 : ∀ i, i < 13 → zFla[zPos.getD i 0 + 3]? = some (Cond.eq (.length (.field (zTm i) "java/lang/String" "value" "[B")) (.int (Int32.ofNat (zLen.getD i 0)))) := by decide +kernel
theorem law_q5 : ∀ i, i < 13 → ∀ j, j < zLen.getD i 0 → zFla[zPos.getD i 0 + 4 + j]? = some (Cond.eq (.elem (.field (zTm i) "java/lang/String" "value" "[B") (.int (Int32.ofNat j))) (.int ((zByt.getD i []).getD j 0))) := by decide +kernel
theorem law_q6 : ∀ i, i < 13 → ∀ j, j < i → zFla[zPos.getD i 0 + 4 + zLen.getD i 0 + j]? = some (Cond.not (Cond.eq (zTm j) (zTm i))) := by decide +kernel
theorem law_s1 : ∀ i, i < 13 → Cond.exactly (zTm i) "java/lang/String" ∈ flatC (Jvm.Cond.and given_1 narrow_1) := fun i hi => List.mem_of_getElem? (law_q1 i hi)
theorem law_s2 : ∀ i, i < 13 → Cond.eq (.field (zTm i) "java/lang/String" "coder" "B") (.int 0) ∈ flatC (Jvm.Cond.and given_1 narrow_1) := fun i hi => List.mem_of_getElem? (law_q2 i hi)
theorem law_s3 : ∀ i, i < 13 → Cond.arrayOf (.field (zTm i) "java/lang/String" "value" "[B") .byte ∈ flatC (Jvm.Cond.and given_1 narrow_1) := fun i hi => List.mem_of_getElem? (law_q3 i hi)
theorem law_s4 : ∀ i, i < 13 → Cond.eq (.length (.field (zTm i) "java/lang/String" "value" "[B")) (.int (Int32.ofNat (zLen.getD i 0))) ∈ flatC (Jvm.Cond.and given_1 narrow_1) := fun i hi => List.mem_of_getElem? (law_q4 i hi)
theorem law_s5 : ∀ i, i < 13 → ∀ j, j < zLen.getD i 0 → Cond.eq (.elem (.field (zTm i) "java/lang/String" "value" "[B") (.int (Int32.ofNat j))) (.int ((zByt.getD i []).getD j 0)) ∈ flatC (Jvm.Cond.and given_1 narrow_1) := fun i hi j hj => List.mem_of_getElem? (law_q5 i hi j hj)
theorem law_s6 : ∀ i, i < 13 → ∀ j, j < 13 → i ≠ j → Cond.not (Cond.eq (zTm i) (zTm j)) ∈ flatC (Jvm.Cond.and given_1 narrow_1) ∨ Cond.not (Cond.eq (zTm j) (zTm i)) ∈ flatC (Jvm.Cond.and given_1 narrow_1) := fun i hi j hj hij => by
  by_cases z : i < j
  · exact Or.inl (List.mem_of_getElem? (law_q6 j hj i z))
  · exact Or.inr (List.mem_of_getElem? (law_q6 i hi j (by omega)))
theorem law_s7 : ∀ i, i < 13 → Cond.stringRef (zLit.getD i ("", 0, "")).1 (zLit.getD i ("", 0, "")).2.1 (zLit.getD i ("", 0, "")).2.2 ∈ lw_tbl := by decide +kernel
theorem law_s8 : Cond.laysStatic "java/lang/String" "COMPACT_STRINGS" "Z" ∈ lw_tbl ∧ Cond.initialized "java/lang/String" ∈ lw_tbl ∧ Cond.laysStatic "jdk/internal/util/Preconditions" "SIOOBE_FORMATTER" "Ljava/util/function/BiFunction;" ∈ lw_tbl ∧ Cond.initialized "jdk/internal/util/Preconditions" ∈ lw_tbl ∧ Cond.eq (.static "java/lang/String" "COMPACT_STRINGS" "Z") (.int 1) ∈ flatC (Jvm.Cond.and given_1 narrow_1) ∧ Cond.isRef (.static "jdk/internal/util/Preconditions" "SIOOBE_FORMATTER" "Ljava/util/function/BiFunction;") ∈ flatC (Jvm.Cond.and given_1 narrow_1) := by decide +kernel
theorem law_strs {s : State} {args : Array Value} (hgv : (Jvm.Cond.and given_1 narrow_1).before args s = true) (hts : ∀ w ∈ lw_tbl, w.before args s = true) : ∃ adK adV : Nat → Nat, vk_S 13 zLen zByt adK adV (fun q : Nat => s.heap.size ≤ q) s s.heap ∧ (∀ (i : Nat) (q : String × Nat × String), zLit[i]? = some q → vk_R q.1 q.2.1 q.2.2 (adK i) s) := by
  have hs := flat_of_before _ hgv
  obtain ⟨adK, adV, h1, h2⟩ := vk_Sof (args := args) (s := s) (N := 13) (tm := zTm) (len := zLen) (byt := zByt) (A := fun q : Nat => s.heap.size ≤ q) (by decide) (fun i hi => hs _ (law_s1 i hi)) (fun i hi => hs _ (law_s2 i hi)) (fun i hi => hs _ (law_s3 i hi)) (fun i hi => hs _ (law_s4 i hi)) (fun i hi j hj => hs _ (law_s5 i hi j hj)) (fun i j hi hj hij => (law_s6 i hi j hj hij).elim (fun h => Or.inl (hs _ h)) (fun h => Or.inr (hs _ h))) (fun a ha h => by omega)
  refine ⟨adK, adV, h1, fun i q hq => ?_⟩
  have hi : i < 13 := (List.getElem?_eq_some_iff.mp hq).1
  have e : zLit.getD i ("", 0, "") = q := by rw [List.getD_eq_getElem?_getD, hq]; rfl
  have k1 := hts _ (law_s7 i hi)
  have k2 := h2 i hi
  unfold zTm at k2
  rw [e] at k1 k2
  exact vk_R.of k1 k2
theorem law_world {s : State} {args : Array Value} (hgv : (Jvm.Cond.and given_1 narrow_1).before args s = true) (hts : ∀ w ∈ lw_tbl, w.before args s = true) : ∃ G : zG, va_K G.1 vwCl (zty G) s ∧ zStr G s.heap.size s := by
  have hT : ∀ w ∈ zT, w.before args s = true := fun w h => hts w (law_sub h)
  obtain ⟨c0, i0, u0⟩ := u_known hT zc0.2.1 (hT _ zinst0)
  obtain ⟨c1, i1, u1⟩ := u_known hT zc1.2.1 (hT _ zinst1)
  obtain ⟨c2, i2, u2⟩ := u_known hT zc2.2.1 (hT _ zinst2)
  obtain ⟨c3, i3, u3⟩ := u_known hT zc3.2.1 (hT _ zinst3)
  obtain ⟨c4, i4, u4⟩ := u_known hT zc4.2.1 (hT _ zinst4)
  obtain ⟨c5, i5, u5⟩ := u_known hT zc5.2.1 (hT _ zinst5)
  obtain ⟨c6, i6, u6⟩ := u_known hT zc6.2.1 (hT _ zinst6)
  obtain ⟨c7, i7, u7⟩ := u_known hT zc7.2.1 (hT _ zinst7)
  obtain ⟨c8, i8, u8⟩ := u_known hT zc8.2.1 (hT _ zinst8)
  obtain ⟨aI, qI⟩ := law_arr (hT _ zarrI) (fun C q => by cases q)
  obtain ⟨aZ, qZ⟩ := law_arr (hT _ zarrZ) (fun C q => by cases q)
  obtain ⟨aJ, qJ⟩ := law_arr (hT _ zarrJ) (fun C q => by cases q)
  obtain ⟨aR, qR⟩ := law_over (law_ov hts)
  obtain ⟨adK, adV, hS, hR⟩ := law_strs hgv hts
  have hs := flat_of_before _ hgv
  obtain ⟨w1, w2, w3, w4, w5, w6⟩ := law_s8
  refine ⟨((fun c => [c0, c1, c2, c3, c4, c5, c6, c7, c8].getD c 0, fun c => [i0, i1, i2, i3, i4, i5, i6, i7, i8].getD c (fun _ => 0)), fun k => if k < 100 then [0, aI, aZ, aJ, aR].getD k 0 else if k < 200 then adK (k - 100) else adV (k - 200)), ⟨fun c q hq => ?_, fun k q hk => ?_⟩, ?_⟩
  · match c, hq with
    | 0, hq => cases hq; exact u0
    | 1, hq => cases hq; exact u1
    | 2, hq => cases hq; exact u2
    | 3, hq => cases hq; exact u3
    | 4, hq => cases hq; exact u4
    | 5, hq => cases hq; exact u5
    | 6, hq => cases hq; exact u6
    | 7, hq => cases hq; exact u7
    | 8, hq => cases hq; exact u8
    | k + 9, hq => exact absurd hq (by simp [vwCl])
  · match k, hk with
    | 0, hk => cases hk; exact qI
    | 1, hk => cases hk; exact qZ
    | 2, hk => cases hk; exact qJ
    | 3, hk => cases hk; exact qR
    | k + 4, hk => exact absurd hk (by simp [zty])
  · have eK : ∀ (G1 : va_G) (i : Nat), i < 100 → zKa (G1, fun k => if k < 100 then [0, aI, aZ, aJ, aR].getD k 0 else if k < 200 then adK (k - 100) else adV (k - 200)) i = adK i := fun G1 i hi => by
      show (if 100 + i < 100 then _ else if 100 + i < 200 then adK (100 + i - 100) else _) = _
      rw [if_neg (by omega), if_pos (by omega), Nat.add_sub_cancel_left]
    have eV : ∀ (G1 : va_G) (i : Nat), zVa (G1, fun k => if k < 100 then [0, aI, aZ, aJ, aR].getD k 0 else if k < 200 then adK (k - 100) else adV (k - 200)) i = adV i := fun G1 i => by
      show (if 200 + i < 100 then _ else if 200 + i < 200 then _ else adV (200 + i - 200)) = _
      rw [if_neg (by omega), if_neg (by omega), Nat.add_sub_cancel_left]
    refine ⟨⟨fun i hi => ?_, fun i j hi hj hij => ?_⟩, fun i q hi => ?_, va_Zof (hts _ w1) (hts _ w2) (va_eqt (hs _ w5)) (fun a ha h => by omega), va_Zqof (hts _ w3) (hts _ w4) (hs _ w6) (fun a ha h => by omega)⟩
    · rw [eK _ i (by omega), eV]
      exact hS.1 i hi
    · rw [eK _ i (by omega), eK _ j (by omega)] at hij
      exact hS.2 i j hi hj hij
    · rw [eK _ i (by have : i < 13 := (List.getElem?_eq_some_iff.mp hi).1; omega)]
      exact hR i q hi
end
theorem law_ret {p : Program} {l : Launch} {e : Env} {s : State} {m : MethodId} {below : List Frame} {meth : Method} {c : Code} {G : zG} {b sb L : Nat} {xs : Nat → Int32} (X : zOK p s m #[Value.ref sb] meth c G b R_law code 4) (hr : meth.sig.returnType = ret) (hX0 : va_X sb L xs s s.heap) (hsb : sb < s.heap.size) (hbb : b = s.heap.size) {nc ns : Nat} (hc : nc ≤ 600000) (hs : ns ≤ 7302250) {ls : List (Option Value)} {S : zS} : Zw p l e room_1 s m #[Value.ref sb] below meth c G b 4 (lw_Z below #[Value.ref sb] s) nc ns 1738 ls [.int 1] S := by
  intro H locs la hH hS hL
  exact va_forget (fun q hq => by rw [← hbb]; exact hS.2.2 q hq) (W.widen hc hs (lw_ret X.1 X.2.1 hr X.2.2.2.2.2.2.2.1 dL_law_1738))
theorem law_in {L : Nat} {i : Int32} (hL : L ≤ 3072) (h : ¬ Int32.ofNat L - 6 < i) : i.toInt + 6 ≤ L := by
  have o6 : (6 : Int32).toInt = 6 := by decide
  have e1 : (Int32.ofNat L).toInt = L := nI_toInt (n := L) (by omega)
  have e2 : (Int32.ofNat L - 6).toInt = L - 6 := by rw [z_sub (by rw [e1, o6]; omega) (by rw [e1, o6]; omega), e1, o6]
  have := Int32.le_iff_toInt_le.mp (Int32.not_lt.mp h)
  omega
theorem law_ix {L : Nat} {i k : Int32} (hL : L ≤ 3072) (h0 : 0 ≤ i.toInt) (h6 : i.toInt + 6 ≤ L) (k0 : 0 ≤ k.toInt) (k5 : k.toInt ≤ 5) : vp_in (i + k) L := by
  have e : (i + k).toInt = i.toInt + k.toInt := z_add (by omega) (by omega)
  exact vp_of (by omega) (by omega)
theorem law_6 {L : Nat} {i : Int32} (hL : L ≤ 3072) (h0 : 0 ≤ i.toInt) (h6 : i.toInt + 6 ≤ L) : (i + 6).toInt = i.toInt + 6 := by
  have o6 : (6 : Int32).toInt = 6 := by decide
  rw [z_add (by omega) (by omega), o6]
set_option maxRecDepth 100000 in
set_option maxHeartbeats 8000000 in
theorem law_K {p : Program} {l : Launch} {e : Env} {s : State} {m : MethodId} {below : List Frame} {meth : Method} {c : Code} {G : zG} {b sb L : Nat} {xs : Nat → Int32} (X : zOK p s m #[Value.ref sb] meth c G b R_law code 4) (hr : meth.sig.returnType = ret) (hX0 : va_X sb L xs s s.heap) (hsb : sb < s.heap.size) (hbb : b = s.heap.size) {nc ns : Nat} {i : Int32} {S : zS} (hI : jI S) (ih : ∀ S' : zS, jI S' → Zw p l e room_1 s m #[Value.ref sb] below meth c G b 4 (lw_Z below #[Value.ref sb] s) nc ns 18 [some (.ref (1000000 + sb)), some (.ref 0), some (.ref 200), some (.int (i + 6))] [] S') : Zw p l e room_1 s m #[Value.ref sb] below meth c G b 4 (lw_Z below #[Value.ref sb] s) nc ns 1731 [some (.ref (1000000 + sb)), some (.ref 0), some (.ref 200), some (.int i)] [] S := by
  refine a_iinc (v := i + 6) X dL_law_1731 (by decide) rfl (by rw [show Int32.ofInt 6 = (6 : Int32) by decide]) ?_
  refine a_goto (tgt := 18) X dL_law_1734 (by decide) ?_
  exact Zw.to (ih S hI) rfl rfl
set_option maxRecDepth 100000 in
set_option maxHeartbeats 8000000 in
theorem law_c0 {p : Program} {l : Launch} {e : Env} {s : State} {m : MethodId} {below : List Frame} {meth : Method} {c : Code} {G : zG} {b sb L : Nat} {xs : Nat → Int32} (X : zOK p s m #[Value.ref sb] meth c G b R_law code 4) (hr : meth.sig.returnType = ret) (hX0 : va_X sb L xs s s.heap) (hsb : sb < s.heap.size) (hbb : b = s.heap.size) (hL : L ≤ 3072) {nc ns : Nat} (hc : nc ≤ 600000) (hs : ns ≤ 7302250) {i : Int32} (h0 : 0 ≤ i.toInt) (h6 : i.toInt + 6 ≤ L) {S : zS} (hI : jI S) (ih : ∀ S' : zS, jI S' → Zw p l e room_1 s m #[Value.ref sb] below meth c G b 4 (lw_Z below #[Value.ref sb] s) nc ns 18 [some (.ref (1000000 + sb)), some (.ref 0), some (.ref 200), some (.int (i + 6))] [] S') : Zw p l e room_1 s m #[Value.ref sb] below meth c G b 4 (lw_Z below #[Value.ref sb] s) nc ns 244 [some (.ref (1000000 + sb)), some (.ref 0), some (.ref 200), some (.int i)] [] S := by
  have i1 : vp_in (i + 1) L := law_ix hL h0 h6 (by decide) (by decide)
  have i2 : vp_in (i + 2) L := law_ix hL h0 h6 (by decide) (by decide)
  have i3 : vp_in (i + 3) L := law_ix hL h0 h6 (by decide) (by decide)
  have i4 : vp_in (i + 4) L := law_ix hL h0 h6 (by decide) (by decide)
  have i5 : vp_in (i + 5) L := law_ix hL h0 h6 (by decide) (by decide)
  refine a_aload_n X dL_law_244 rfl ?_
  refine a_callVx X dL_law_245 miX7_status lmL_13 (f_status hI) (hI.1.2.1) rfl rfl rfl (Nat.le_of_ble_eq_true rfl) ⟨by decide, by decide, hc, hs⟩ (fun r_245 S_245 q_245 => ?_)
  obtain ⟨⟨v_245, rfl⟩, h_245⟩ := q_245
  refine a_pop X dL_law_248 rfl ?_
  refine a_aload_n X dL_law_249 rfl ?_
  refine a_callVx X dL_law_250 miX8_status lmL_17 (m_status h_245) (h_245.2.1.2.1) rfl rfl rfl (Nat.le_of_ble_eq_true rfl) ⟨by decide, by decide, hc, hs⟩ (fun r_250 S_250 q_250 => ?_)
  obtain ⟨⟨v_250, rfl⟩, h_250⟩ := q_250
  refine a_pop X dL_law_253 rfl ?_
  refine a_goto (tgt := 1731) X dL_law_254 (by decide) ?_
  exact law_K X hr hX0 hsb hbb h_250 ih
set_option maxRecDepth 100000 in
set_option maxHeartbeats 8000000 in
theorem law_c1 {p : Program} {l : Launch} {e : Env} {s : State} {m : MethodId} {below : List Frame} {meth : Method} {c : Code} {G : zG} {b sb L : Nat} {xs : Nat → Int32} (X : zOK p s m #[Value.ref sb] meth c G b R_law code 4) (hr : meth.sig.returnType = ret) (hX0 : va_X sb L xs s s.heap) (hsb : sb < s.heap.size) (hbb : b = s.heap.size) (hL : L ≤ 3072) {nc ns : Nat} (hc : nc ≤ 600000) (hs : ns ≤ 7302250) {i : Int32} (h0 : 0 ≤ i.toInt) (h6 : i.toInt + 6 ≤ L) {S : zS} (hI : jI S) (ih : ∀ S' : zS, jI S' → Zw p l e room_1 s m #[Value.ref sb] below meth c G b 4 (lw_Z below #[Value.ref sb] s) nc ns 18 [some (.ref (1000000 + sb)), some (.ref 0), some (.ref 200), some (.int (i + 6))] [] S') : Zw p l e room_1 s m #[Value.ref sb] below meth c G b 4 (lw_Z below #[Value.ref sb] s) nc ns 257 [some (.ref (1000000 + sb)), some (.ref 0), some (.ref 200), some (.int i)] [] S := by
  have i1 : vp_in (i + 1) L := law_ix hL h0 h6 (by decide) (by decide)
  have i2 : vp_in (i + 2) L := law_ix hL h0 h6 (by decide) (by decide)
  have i3 : vp_in (i + 3) L := law_ix hL h0 h6 (by decide) (by decide)
  have i4 : vp_in (i + 4) L := law_ix hL h0 h6 (by decide) (by decide)
  have i5 : vp_in (i + 5) L := law_ix hL h0 h6 (by decide) (by decide)
  refine a_aload_n X dL_law_257 rfl ?_
  refine a_aload_n X dL_law_258 rfl ?_
  refine a_iload_n X dL_law_259 rfl ?_
  refine a_iconst (v := 1) X dL_law_260 (by decide) ?_
  refine a_iadd X dL_law_261 ?_
  refine a_sld X hX0 hsb hbb (i1) dL_law_262 ?_
  refine a_aload_n X dL_law_263 rfl ?_
  refine a_iload_n X dL_law_264 rfl ?_
  refine a_iconst (v := 2) X dL_law_265 (by decide) ?_
  refine a_iadd X dL_law_266 ?_
  refine a_sld X hX0 hsb hbb (i2) dL_law_267 ?_
  refine a_aload_n X dL_law_268 rfl ?_
  refine a_iload_n X dL_law_269 rfl ?_
  refine a_iconst (v := 3) X dL_law_270 (by decide) ?_
  refine a_iadd X dL_law_271 ?_
  refine a_sld X hX0 hsb hbb (i3) dL_law_272 ?_
  refine a_aload_n X dL_law_273 rfl ?_
  refine a_iload_n X dL_law_274 rfl ?_
  refine a_iconst (v := 4) X dL_law_275 (by decide) ?_
  refine a_iadd X dL_law_276 ?_
  refine a_sld X hX0 hsb hbb (i4) dL_law_277 ?_
  refine a_aload_n X dL_law_278 rfl ?_
  refine a_iload_n X dL_law_279 rfl ?_
  refine a_iconst (v := 5) X dL_law_280 (by decide) ?_
  refine a_iadd X dL_law_281 ?_
  refine a_sld X hX0 hsb hbb (i5) dL_law_282 ?_
  refine a_callVx X dL_law_283 miX7_feed lmL_18 (f_feed hI) (hI.1.2.1) rfl rfl rfl (Nat.le_of_ble_eq_true rfl) ⟨by decide, by decide, hc, hs⟩ (fun r_283 S_283 q_283 => ?_)
  obtain ⟨e_283, he_283, rfl, rfl⟩ := q_283
  refine a_pop X dL_law_286 rfl ?_
  refine a_aload_n X dL_law_287 rfl ?_
  refine a_aload_n X dL_law_288 rfl ?_
  refine a_iload_n X dL_law_289 rfl ?_
  refine a_iconst (v := 1) X dL_law_290 (by decide) ?_
  refine a_iadd X dL_law_291 ?_
  refine a_sld X hX0 hsb hbb (i1) dL_law_292 ?_
  refine a_aload_n X dL_law_293 rfl ?_
  refine a_iload_n X dL_law_294 rfl ?_
  refine a_iconst (v := 2) X dL_law_295 (by decide) ?_
  refine a_iadd X dL_law_296 ?_
  refine a_sld X hX0 hsb hbb (i2) dL_law_297 ?_
  refine a_aload_n X dL_law_298 rfl ?_
  refine a_iload_n X dL_law_299 rfl ?_
  refine a_iconst (v := 3) X dL_law_300 (by decide) ?_
  refine a_iadd X dL_law_301 ?_
  refine a_sld X hX0 hsb hbb (i3) dL_law_302 ?_
  refine a_aload_n X dL_law_303 rfl ?_
  refine a_iload_n X dL_law_304 rfl ?_
  refine a_iconst (v := 4) X dL_law_305 (by decide) ?_
  refine a_iadd X dL_law_306 ?_
  refine a_sld X hX0 hsb hbb (i4) dL_law_307 ?_
  refine a_aload_n X dL_law_308 rfl ?_
  refine a_iload_n X dL_law_309 rfl ?_
  refine a_iconst (v := 5) X dL_law_310 (by decide) ?_
  refine a_iadd X dL_law_311 ?_
  refine a_sld X hX0 hsb hbb (i5) dL_law_312 ?_
  refine a_callVx X dL_law_313 miX8_feed lmL_22 (m_feed hI he_283) (hI.2.1.2.1) rfl rfl rfl (Nat.le_of_ble_eq_true rfl) ⟨by decide, by decide, hc, hs⟩ (fun r_313 S_313 q_313 => ?_)
  obtain ⟨rfl, h_313⟩ := q_313
  refine a_pop X dL_law_316 rfl ?_
  refine a_goto (tgt := 1731) X dL_law_317 (by decide) ?_
  exact law_K X hr hX0 hsb hbb h_313 ih
set_option maxRecDepth 100000 in
set_option maxHeartbeats 8000000 in
theorem law_c2 {p : Program} {l : Launch} {e : Env} {s : State} {m : MethodId} {below : List Frame} {meth : Method} {c : Code} {G : zG} {b sb L : Nat} {xs : Nat → Int32} (X : zOK p s m #[Value.ref sb] meth c G b R_law code 4) (hr : meth.sig.returnType = ret) (hX0 : va_X sb L xs s s.heap) (hsb : sb < s.heap.size) (hbb : b = s.heap.size) (hL : L ≤ 3072) {nc ns : Nat} (hc : nc ≤ 600000) (hs : ns ≤ 7302250) {i : Int32} (h0 : 0 ≤ i.toInt) (h6 : i.toInt + 6 ≤ L) {S : zS} (hI : jI S) (ih : ∀ S' : zS, jI S' → Zw p l e room_1 s m #[Value.ref sb] below meth c G b 4 (lw_Z below #[Value.ref sb] s) nc ns 18 [some (.ref (1000000 + sb)), some (.ref 0), some (.ref 200), some (.int (i + 6))] [] S') : Zw p l e room_1 s m #[Value.ref sb] below meth c G b 4 (lw_Z below #[Value.ref sb] s) nc ns 320 [some (.ref (1000000 + sb)), some (.ref 0), some (.ref 200), some (.int i)] [] S := by
  have i1 : vp_in (i + 1) L := law_ix hL h0 h6 (by decide) (by decide)
  have i2 : vp_in (i + 2) L := law_ix hL h0 h6 (by decide) (by decide)
  have i3 : vp_in (i + 3) L := law_ix hL h0 h6 (by decide) (by decide)
  have i4 : vp_in (i + 4) L := law_ix hL h0 h6 (by decide) (by decide)
  have i5 : vp_in (i + 5) L := law_ix hL h0 h6 (by decide) (by decide)
  refine a_aload_n X dL_law_320 rfl ?_
  refine a_aload_n X dL_law_321 rfl ?_
  refine a_iload_n X dL_law_322 rfl ?_
  refine a_iconst (v := 1) X dL_law_323 (by decide) ?_
  refine a_iadd X dL_law_324 ?_
  refine a_sld X hX0 hsb hbb (i1) dL_law_325 ?_
  refine a_callVx X dL_law_326 miX7_load lmL_23 (f_load hI) (hI.1.2.1) rfl rfl rfl (Nat.le_of_ble_eq_true rfl) ⟨by decide, by decide, hc, hs⟩ (fun r_326 S_326 q_326 => ?_)
  obtain ⟨e_326, he_326, rfl, rfl⟩ := q_326
  refine a_pop X dL_law_329 rfl ?_
  refine a_aload_n X dL_law_330 rfl ?_
  refine a_aload_n X dL_law_331 rfl ?_
  refine a_iload_n X dL_law_332 rfl ?_
  refine a_iconst (v := 1) X dL_law_333 (by decide) ?_
  refine a_iadd X dL_law_334 ?_
  refine a_sld X hX0 hsb hbb (i1) dL_law_335 ?_
  refine a_callVx X dL_law_336 miX8_load lmL_27 (m_load hI he_326) (hI.2.1.2.1) rfl rfl rfl (Nat.le_of_ble_eq_true rfl) ⟨by decide, by decide, hc, hs⟩ (fun r_336 S_336 q_336 => ?_)
  obtain ⟨rfl, h_336⟩ := q_336
  refine a_pop X dL_law_339 rfl ?_
  refine a_goto (tgt := 1731) X dL_law_340 (by decide) ?_
  exact law_K X hr hX0 hsb hbb h_336 ih
set_option maxRecDepth 100000 in
set_option maxHeartbeats 8000000 in
theorem law_c3 {p : Program} {l : Launch} {e : Env} {s : State} {m : MethodId} {below : List Frame} {meth : Method} {c : Code} {G : zG} {b sb L : Nat} {xs : Nat → Int32} (X : zOK p s m #[Value.ref sb] meth c G b R_law code 4) (hr : meth.sig.returnType = ret) (hX0 : va_X sb L xs s s.heap) (hsb : sb < s.heap.size) (hbb : b = s.heap.size) (hL : L ≤ 3072) {nc ns : Nat} (hc : nc ≤ 600000) (hs : ns ≤ 7302250) {i : Int32} (h0 : 0 ≤ i.toInt) (h6 : i.toInt + 6 ≤ L) {S : zS} (hI : jI S) (ih : ∀ S' : zS, jI S' → Zw p l e room_1 s m #[Value.ref sb] below meth c G b 4 (lw_Z below #[Value.ref sb] s) nc ns 18 [some (.ref (1000000 + sb)), some (.ref 0), some (.ref 200), some (.int (i + 6))] [] S') : Zw p l e room_1 s m #[Value.ref sb] below meth c G b 4 (lw_Z below #[Value.ref sb] s) nc ns 343 [some (.ref (1000000 + sb)), some (.ref 0), some (.ref 200), some (.int i)] [] S := by
  have i1 : vp_in (i + 1) L := law_ix hL h0 h6 (by decide) (by decide)
  have i2 : vp_in (i + 2) L := law_ix hL h0 h6 (by decide) (by decide)
  have i3 : vp_in (i + 3) L := law_ix hL h0 h6 (by decide) (by decide)
  have i4 : vp_in (i + 4) L := law_ix hL h0 h6 (by decide) (by decide)
  have i5 : vp_in (i + 5) L := law_ix hL h0 h6 (by decide) (by decide)
  refine a_aload_n X dL_law_343 rfl ?_
  refine a_aload_n X dL_law_344 rfl ?_
  refine a_iload_n X dL_law_345 rfl ?_
  refine a_iconst (v := 1) X dL_law_346 (by decide) ?_
  refine a_iadd X dL_law_347 ?_
  refine a_sld X hX0 hsb hbb (i1) dL_law_348 ?_
  refine a_callVx X dL_law_349 miX7_fault lmL_28 (f_fault hI) (hI.1.2.1) rfl rfl rfl (Nat.le_of_ble_eq_true rfl) ⟨by decide, by decide, hc, hs⟩ (fun r_349 S_349 q_349 => ?_)
  obtain ⟨⟨v_349, rfl⟩, h_349⟩ := q_349
  refine a_pop X dL_law_352 rfl ?_
  refine a_aload_n X dL_law_353 rfl ?_
  refine a_aload_n X dL_law_354 rfl ?_
  refine a_iload_n X dL_law_355 rfl ?_
  refine a_iconst (v := 1) X dL_law_356 (by decide) ?_
  refine a_iadd X dL_law_357 ?_
  refine a_sld X hX0 hsb hbb (i1) dL_law_358 ?_
  refine a_callVx X dL_law_359 miX8_fault lmL_31 (m_fault h_349) (h_349.2.1.2.1) rfl rfl rfl (Nat.le_of_ble_eq_true rfl) ⟨by decide, by decide, hc, hs⟩ (fun r_359 S_359 q_359 => ?_)
  obtain ⟨⟨v_359, rfl⟩, h_359⟩ := q_359
  refine a_pop X dL_law_362 rfl ?_
  refine a_goto (tgt := 1731) X dL_law_363 (by decide) ?_
  exact law_K X hr hX0 hsb hbb h_359 ih
set_option maxRecDepth 100000 in
set_option maxHeartbeats 8000000 in
theorem law_c4 {p : Program} {l : Launch} {e : Env} {s : State} {m : MethodId} {below : List Frame} {meth : Method} {c : Code} {G : zG} {b sb L : Nat} {xs : Nat → Int32} (X : zOK p s m #[Value.ref sb] meth c G b R_law code 4) (hr : meth.sig.returnType = ret) (hX0 : va_X sb L xs s s.heap) (hsb : sb < s.heap.size) (hbb : b = s.heap.size) (hL : L ≤ 3072) {nc ns : Nat} (hc : nc ≤ 600000) (hs : ns ≤ 7302250) {i : Int32} (h0 : 0 ≤ i.toInt) (h6 : i.toInt + 6 ≤ L) {S : zS} (hI : jI S) (ih : ∀ S' : zS, jI S' → Zw p l e room_1 s m #[Value.ref sb] below meth c G b 4 (lw_Z below #[Value.ref sb] s) nc ns 18 [some (.ref (1000000 + sb)), some (.ref 0), some (.ref 200), some (.int (i + 6))] [] S') : Zw p l e room_1 s m #[Value.ref sb] below meth c G b 4 (lw_Z below #[Value.ref sb] s) nc ns 366 [some (.ref (1000000 + sb)), some (.ref 0), some (.ref 200), some (.int i)] [] S := by
  have i1 : vp_in (i + 1) L := law_ix hL h0 h6 (by decide) (by decide)
  have i2 : vp_in (i + 2) L := law_ix hL h0 h6 (by decide) (by decide)
  have i3 : vp_in (i + 3) L := law_ix hL h0 h6 (by decide) (by decide)
  have i4 : vp_in (i + 4) L := law_ix hL h0 h6 (by decide) (by decide)
  have i5 : vp_in (i + 5) L := law_ix hL h0 h6 (by decide) (by decide)
  refine a_aload_n X dL_law_366 rfl ?_
  refine a_aload_n X dL_law_367 rfl ?_
  refine a_iload_n X dL_law_368 rfl ?_
  refine a_iconst (v := 1) X dL_law_369 (by decide) ?_
  refine a_iadd X dL_law_370 ?_
  refine a_sld X hX0 hsb hbb (i1) dL_law_371 ?_
  refine a_callVx X dL_law_372 miX7_many lmL_32 (f_many hI) (hI.1.2.1) rfl rfl rfl (Nat.le_of_ble_eq_true rfl) ⟨by decide, by decide, hc, hs⟩ (fun r_372 S_372 q_372 => ?_)
  obtain ⟨⟨v_372, rfl⟩, h_372⟩ := q_372
  refine a_pop X dL_law_375 rfl ?_
  refine a_aload_n X dL_law_376 rfl ?_
  refine a_aload_n X dL_law_377 rfl ?_
  refine a_iload_n X dL_law_378 rfl ?_
  refine a_iconst (v := 1) X dL_law_379 (by decide) ?_
  refine a_iadd X dL_law_380 ?_
  refine a_sld X hX0 hsb hbb (i1) dL_law_381 ?_
  refine a_callVx X dL_law_382 miX8_many lmL_35 (m_many h_372) (h_372.2.1.2.1) rfl rfl rfl (Nat.le_of_ble_eq_true rfl) ⟨by decide, by decide, hc, hs⟩ (fun r_382 S_382 q_382 => ?_)
  obtain ⟨⟨v_382, rfl⟩, h_382⟩ := q_382
  refine a_pop X dL_law_385 rfl ?_
  refine a_goto (tgt := 1731) X dL_law_386 (by decide) ?_
  exact law_K X hr hX0 hsb hbb h_382 ih
set_option maxRecDepth 100000 in
set_option maxHeartbeats 8000000 in
theorem law_c5 {p : Program} {l : Launch} {e : Env} {s : State} {m : MethodId} {below : List Frame} {meth : Method} {c : Code} {G : zG} {b sb L : Nat} {xs : Nat → Int32} (X : zOK p s m #[Value.ref sb] meth c G b R_law code 4) (hr : meth.sig.returnType = ret) (hX0 : va_X sb L xs s s.heap) (hsb : sb < s.heap.size) (hbb : b = s.heap.size) (hL : L ≤ 3072) {nc ns : Nat} (hc : nc ≤ 600000) (hs : ns ≤ 7302250) {i : Int32} (h0 : 0 ≤ i.toInt) (h6 : i.toInt + 6 ≤ L) {S : zS} (hI : jI S) (ih : ∀ S' : zS, jI S' → Zw p l e room_1 s m #[Value.ref sb] below meth c G b 4 (lw_Z below #[Value.ref sb] s) nc ns 18 [some (.ref (1000000 + sb)), some (.ref 0), some (.ref 200), some (.int (i + 6))] [] S') : Zw p l e room_1 s m #[Value.ref sb] below meth c G b 4 (lw_Z below #[Value.ref sb] s) nc ns 389 [some (.ref (1000000 + sb)), some (.ref 0), some (.ref 200), some (.int i)] [] S := by
  have i1 : vp_in (i + 1) L := law_ix hL h0 h6 (by decide) (by decide)
  have i2 : vp_in (i + 2) L := law_ix hL h0 h6 (by decide) (by decide)
  have i3 : vp_in (i + 3) L := law_ix hL h0 h6 (by decide) (by decide)
  have i4 : vp_in (i + 4) L := law_ix hL h0 h6 (by decide) (by decide)
  have i5 : vp_in (i + 5) L := law_ix hL h0 h6 (by decide) (by decide)
  refine a_aload_n X dL_law_389 rfl ?_
  refine a_aload_n X dL_law_390 rfl ?_
  refine a_iload_n X dL_law_391 rfl ?_
  refine a_iconst (v := 1) X dL_law_392 (by decide) ?_
  refine a_iadd X dL_law_393 ?_
  refine a_sld X hX0 hsb hbb (i1) dL_law_394 ?_
  refine a_aload_n X dL_law_395 rfl ?_
  refine a_iload_n X dL_law_396 rfl ?_
  refine a_iconst (v := 2) X dL_law_397 (by decide) ?_
  refine a_iadd X dL_law_398 ?_
  refine a_sld X hX0 hsb hbb (i2) dL_law_399 ?_
  refine a_callVx X dL_law_400 miX7_hunter lmL_36 (f_hunter hI) (hI.1.2.1) rfl rfl rfl (Nat.le_of_ble_eq_true rfl) ⟨by decide, by decide, hc, hs⟩ (fun r_400 S_400 q_400 => ?_)
  obtain ⟨⟨v_400, rfl⟩, h_400⟩ := q_400
  refine a_pop X dL_law_403 rfl ?_
  refine a_aload_n X dL_law_404 rfl ?_
  refine a_aload_n X dL_law_405 rfl ?_
  refine a_iload_n X dL_law_406 rfl ?_
  refine a_iconst (v := 1) X dL_law_407 (by decide) ?_
  refine a_iadd X dL_law_408 ?_
  refine a_sld X hX0 hsb hbb (i1) dL_law_409 ?_
  refine a_aload_n X dL_law_410 rfl ?_
  refine a_iload_n X dL_law_411 rfl ?_
  refine a_iconst (v := 2) X dL_law_412 (by decide) ?_
  refine a_iadd X dL_law_413 ?_
  refine a_sld X hX0 hsb hbb (i2) dL_law_414 ?_
  refine a_callVx X dL_law_415 miX8_hunter lmL_40 (m_hunter h_400) (h_400.2.1.2.1) rfl rfl rfl (Nat.le_of_ble_eq_true rfl) ⟨by decide, by decide, hc, hs⟩ (fun r_415 S_415 q_415 => ?_)
  obtain ⟨⟨v_415, rfl⟩, h_415⟩ := q_415
  refine a_pop X dL_law_418 rfl ?_
  refine a_goto (tgt := 1731) X dL_law_419 (by decide) ?_
  exact law_K X hr hX0 hsb hbb h_415 ih
set_option maxRecDepth 100000 in
set_option maxHeartbeats 8000000 in
theorem law_c6 {p : Program} {l : Launch} {e : Env} {s : State} {m : MethodId} {below : List Frame} {meth : Method} {c : Code} {G : zG} {b sb L : Nat} {xs : Nat → Int32} (X : zOK p s m #[Value.ref sb] meth c G b R_law code 4) (hr : meth.sig.returnType = ret) (hX0 : va_X sb L xs s s.heap) (hsb : sb < s.heap.size) (hbb : b = s.heap.size) (hL : L ≤ 3072) {nc ns : Nat} (hc : nc ≤ 600000) (hs : ns ≤ 7302250) {i : Int32} (h0 : 0 ≤ i.toInt) (h6 : i.toInt + 6 ≤ L) {S : zS} (hI : jI S) (ih : ∀ S' : zS, jI S' → Zw p l e room_1 s m #[Value.ref sb] below meth c G b 4 (lw_Z below #[Value.ref sb] s) nc ns 18 [some (.ref (1000000 + sb)), some (.ref 0), some (.ref 200), some (.int (i + 6))] [] S') : Zw p l e room_1 s m #[Value.ref sb] below meth c G b 4 (lw_Z below #[Value.ref sb] s) nc ns 422 [some (.ref (1000000 + sb)), some (.ref 0), some (.ref 200), some (.int i)] [] S := by
  have i1 : vp_in (i + 1) L := law_ix hL h0 h6 (by decide) (by decide)
  have i2 : vp_in (i + 2) L := law_ix hL h0 h6 (by decide) (by decide)
  have i3 : vp_in (i + 3) L := law_ix hL h0 h6 (by decide) (by decide)
  have i4 : vp_in (i + 4) L := law_ix hL h0 h6 (by decide) (by decide)
  have i5 : vp_in (i + 5) L := law_ix hL h0 h6 (by decide) (by decide)
  refine a_aload_n X dL_law_422 rfl ?_
  refine a_aload_n X dL_law_423 rfl ?_
  refine a_iload_n X dL_law_424 rfl ?_
  refine a_iconst (v := 1) X dL_law_425 (by decide) ?_
  refine a_iadd X dL_law_426 ?_
  refine a_sld X hX0 hsb hbb (i1) dL_law_427 ?_
  refine a_aload_n X dL_law_428 rfl ?_
  refine a_iload_n X dL_law_429 rfl ?_
  refine a_iconst (v := 2) X dL_law_430 (by decide) ?_
  refine a_iadd X dL_law_431 ?_
  refine a_sld X hX0 hsb hbb (i2) dL_law_432 ?_
  refine a_callVx X dL_law_433 miX7_unit lmL_41 (f_unit hI) (hI.1.2.1) rfl rfl rfl (Nat.le_of_ble_eq_true rfl) ⟨by decide, by decide, hc, hs⟩ (fun r_433 S_433 q_433 => ?_)
  obtain ⟨⟨v_433, rfl⟩, h_433⟩ := q_433
  refine a_pop X dL_law_436 rfl ?_
  refine a_aload_n X dL_law_437 rfl ?_
  refine a_aload_n X dL_law_438 rfl ?_
  refine a_iload_n X dL_law_439 rfl ?_
  refine a_iconst (v := 1) X dL_law_440 (by decide) ?_
  refine a_iadd X dL_law_441 ?_
  refine a_sld X hX0 hsb hbb (i1) dL_law_442 ?_
  refine a_aload_n X dL_law_443 rfl ?_
  refine a_iload_n X dL_law_444 rfl ?_
  refine a_iconst (v := 2) X dL_law_445 (by decide) ?_
  refine a_iadd X dL_law_446 ?_
  refine a_sld X hX0 hsb hbb (i2) dL_law_447 ?_
  refine a_callVx X dL_law_448 miX8_unit lmL_44 (m_unit h_433) (h_433.2.1.2.1) rfl rfl rfl (Nat.le_of_ble_eq_true rfl) ⟨by decide, by decide, hc, hs⟩ (fun r_448 S_448 q_448 => ?_)
  obtain ⟨⟨v_448, rfl⟩, h_448⟩ := q_448
  refine a_pop X dL_law_451 rfl ?_
  refine a_goto (tgt := 1731) X dL_law_452 (by decide) ?_
  exact law_K X hr hX0 hsb hbb h_448 ih
set_option maxRecDepth 100000 in
set_option maxHeartbeats 8000000 in
theorem law_c7 {p : Program} {l : Launch} {e : Env} {s : State} {m : MethodId} {below : List Frame} {meth : Method} {c : Code} {G : zG} {b sb L : Nat} {xs : Nat → Int32} (X : zOK p s m #[Value.ref sb] meth c G b R_law code 4) (hr : meth.sig.returnType = ret) (hX0 : va_X sb L xs s s.heap) (hsb : sb < s.heap.size) (hbb : b = s.heap.size) (hL : L ≤ 3072) {nc ns : Nat} (hc : nc ≤ 600000) (hs : ns ≤ 7302250) {i : Int32} (h0 : 0 ≤ i.toInt) (h6 : i.toInt + 6 ≤ L) {S : zS} (hI : jI S) (ih : ∀ S' : zS, jI S' → Zw p l e room_1 s m #[Value.ref sb] below meth c G b 4 (lw_Z below #[Value.ref sb] s) nc ns 18 [some (.ref (1000000 + sb)), some (.ref 0), some (.ref 200), some (.int (i + 6))] [] S') : Zw p l e room_1 s m #[Value.ref sb] below meth c G b 4 (lw_Z below #[Value.ref sb] s) nc ns 455 [some (.ref (1000000 + sb)), some (.ref 0), some (.ref 200), some (.int i)] [] S := by
  have i1 : vp_in (i + 1) L := law_ix hL h0 h6 (by decide) (by decide)
  have i2 : vp_in (i + 2) L := law_ix hL h0 h6 (by decide) (by decide)
  have i3 : vp_in (i + 3) L := law_ix hL h0 h6 (by decide) (by decide)
  have i4 : vp_in (i + 4) L := law_ix hL h0 h6 (by decide) (by decide)
  have i5 : vp_in (i + 5) L := law_ix hL h0 h6 (by decide) (by decide)
  refine a_aload_n X dL_law_455 rfl ?_
  refine a_aload_n X dL_law_456 rfl ?_
  refine a_iload_n X dL_law_457 rfl ?_
  refine a_iconst (v := 1) X dL_law_458 (by decide) ?_
  refine a_iadd X dL_law_459 ?_
  refine a_sld X hX0 hsb hbb (i1) dL_law_460 ?_
  refine a_aload_n X dL_law_461 rfl ?_
  refine a_iload_n X dL_law_462 rfl ?_
  refine a_iconst (v := 2) X dL_law_463 (by decide) ?_
  refine a_iadd X dL_law_464 ?_
  refine a_sld X hX0 hsb hbb (i2) dL_law_465 ?_
  refine a_callVx X dL_law_466 miX7_applicant lmL_45 (f_applicant hI) (hI.1.2.1) rfl rfl rfl (Nat.le_of_ble_eq_true rfl) ⟨by decide, by decide, hc, hs⟩ (fun r_466 S_466 q_466 => ?_)
  obtain ⟨⟨v_466, rfl⟩, h_466⟩ := q_466
  refine a_pop X dL_law_469 rfl ?_
  refine a_aload_n X dL_law_470 rfl ?_
  refine a_aload_n X dL_law_471 rfl ?_
  refine a_iload_n X dL_law_472 rfl ?_
  refine a_iconst (v := 1) X dL_law_473 (by decide) ?_
  refine a_iadd X dL_law_474 ?_
  refine a_sld X hX0 hsb hbb (i1) dL_law_475 ?_
  refine a_aload_n X dL_law_476 rfl ?_
  refine a_iload_n X dL_law_477 rfl ?_
  refine a_iconst (v := 2) X dL_law_478 (by decide) ?_
  refine a_iadd X dL_law_479 ?_
  refine a_sld X hX0 hsb hbb (i2) dL_law_480 ?_
  refine a_callVx X dL_law_481 miX8_applicant lmL_48 (m_applicant h_466) (h_466.2.1.2.1) rfl rfl rfl (Nat.le_of_ble_eq_true rfl) ⟨by decide, by decide, hc, hs⟩ (fun r_481 S_481 q_481 => ?_)
  obtain ⟨⟨v_481, rfl⟩, h_481⟩ := q_481
  refine a_pop X dL_law_484 rfl ?_
  refine a_goto (tgt := 1731) X dL_law_485 (by decide) ?_
  exact law_K X hr hX0 hsb hbb h_481 ih
set_option maxRecDepth 100000 in
set_option maxHeartbeats 8000000 in
theorem law_c8 {p : Program} {l : Launch} {e : Env} {s : State} {m : MethodId} {below : List Frame} {meth : Method} {c : Code} {G : zG} {b sb L : Nat} {xs : Nat → Int32} (X : zOK p s m #[Value.ref sb] meth c G b R_law code 4) (hr : meth.sig.returnType = ret) (hX0 : va_X sb L xs s s.heap) (hsb : sb < s.heap.size) (hbb : b = s.heap.size) (hL : L ≤ 3072) {nc ns : Nat} (hc : nc ≤ 600000) (hs : ns ≤ 7302250) {i : Int32} (h0 : 0 ≤ i.toInt) (h6 : i.toInt + 6 ≤ L) {S : zS} (hI : jI S) (ih : ∀ S' : zS, jI S' → Zw p l e room_1 s m #[Value.ref sb] below meth c G b 4 (lw_Z below #[Value.ref sb] s) nc ns 18 [some (.ref (1000000 + sb)), some (.ref 0), some (.ref 200), some (.int (i + 6))] [] S') : Zw p l e room_1 s m #[Value.ref sb] below meth c G b 4 (lw_Z below #[Value.ref sb] s) nc ns 488 [some (.ref (1000000 + sb)), some (.ref 0), some (.ref 200), some (.int i)] [] S := by
  have i1 : vp_in (i + 1) L := law_ix hL h0 h6 (by decide) (by decide)
  have i2 : vp_in (i + 2) L := law_ix hL h0 h6 (by decide) (by decide)
  have i3 : vp_in (i + 3) L := law_ix hL h0 h6 (by decide) (by decide)
  have i4 : vp_in (i + 4) L := law_ix hL h0 h6 (by decide) (by decide)
  have i5 : vp_in (i + 5) L := law_ix hL h0 h6 (by decide) (by decide)
  refine a_aload_n X dL_law_488 rfl ?_
  refine a_aload_n X dL_law_489 rfl ?_
  refine a_iload_n X dL_law_490 rfl ?_
  refine a_iconst (v := 1) X dL_law_491 (by decide) ?_
  refine a_iadd X dL_law_492 ?_
  refine a_sld X hX0 hsb hbb (i1) dL_law_493 ?_
  refine a_aload_n X dL_law_494 rfl ?_
  refine a_iload_n X dL_law_495 rfl ?_
  refine a_iconst (v := 2) X dL_law_496 (by decide) ?_
  refine a_iadd X dL_law_497 ?_
  refine a_sld X hX0 hsb hbb (i2) dL_law_498 ?_
  refine a_callVx X dL_law_499 miX7_choice lmL_49 (f_choice hI) (hI.1.2.1) rfl rfl rfl (Nat.le_of_ble_eq_true rfl) ⟨by decide, by decide, hc, hs⟩ (fun r_499 S_499 q_499 => ?_)
  obtain ⟨⟨v_499, rfl⟩, h_499⟩ := q_499
  refine a_pop X dL_law_502 rfl ?_
  refine a_aload_n X dL_law_503 rfl ?_
  refine a_aload_n X dL_law_504 rfl ?_
  refine a_iload_n X dL_law_505 rfl ?_
  refine a_iconst (v := 1) X dL_law_506 (by decide) ?_
  refine a_iadd X dL_law_507 ?_
  refine a_sld X hX0 hsb hbb (i1) dL_law_508 ?_
  refine a_aload_n X dL_law_509 rfl ?_
  refine a_iload_n X dL_law_510 rfl ?_
  refine a_iconst (v := 2) X dL_law_511 (by decide) ?_
  refine a_iadd X dL_law_512 ?_
  refine a_sld X hX0 hsb hbb (i2) dL_law_513 ?_
  refine a_callVx X dL_law_514 miX8_choice lmL_52 (m_choice h_499) (h_499.2.1.2.1) rfl rfl rfl (Nat.le_of_ble_eq_true rfl) ⟨by decide, by decide, hc, hs⟩ (fun r_514 S_514 q_514 => ?_)
  obtain ⟨⟨v_514, rfl⟩, h_514⟩ := q_514
  refine a_pop X dL_law_517 rfl ?_
  refine a_goto (tgt := 1731) X dL_law_518 (by decide) ?_
  exact law_K X hr hX0 hsb hbb h_514 ih
set_option maxRecDepth 100000 in
set_option maxHeartbeats 8000000 in
theorem law_c9 {p : Program} {l : Launch} {e : Env} {s : State} {m : MethodId} {below : List Frame} {meth : Method} {c : Code} {G : zG} {b sb L : Nat} {xs : Nat → Int32} (X : zOK p s m #[Value.ref sb] meth c G b R_law code 4) (hr : meth.sig.returnType = ret) (hX0 : va_X sb L xs s s.heap) (hsb : sb < s.heap.size) (hbb : b = s.heap.size) (hL : L ≤ 3072) {nc ns : Nat} (hc : nc ≤ 600000) (hs : ns ≤ 7302250) {i : Int32} (h0 : 0 ≤ i.toInt) (h6 : i.toInt + 6 ≤ L) {S : zS} (hI : jI S) (ih : ∀ S' : zS, jI S' → Zw p l e room_1 s m #[Value.ref sb] below meth c G b 4 (lw_Z below #[Value.ref sb] s) nc ns 18 [some (.ref (1000000 + sb)), some (.ref 0), some (.ref 200), some (.int (i + 6))] [] S') : Zw p l e room_1 s m #[Value.ref sb] below meth c G b 4 (lw_Z below #[Value.ref sb] s) nc ns 521 [some (.ref (1000000 + sb)), some (.ref 0), some (.ref 200), some (.int i)] [] S := by
  have i1 : vp_in (i + 1) L := law_ix hL h0 h6 (by decide) (by decide)
  have i2 : vp_in (i + 2) L := law_ix hL h0 h6 (by decide) (by decide)
  have i3 : vp_in (i + 3) L := law_ix hL h0 h6 (by decide) (by decide)
  have i4 : vp_in (i + 4) L := law_ix hL h0 h6 (by decide) (by decide)
  have i5 : vp_in (i + 5) L := law_ix hL h0 h6 (by decide) (by decide)
  refine a_aload_n X dL_law_521 rfl ?_
  refine a_aload_n X dL_law_522 rfl ?_
  refine a_iload_n X dL_law_523 rfl ?_
  refine a_iconst (v := 1) X dL_law_524 (by decide) ?_
  refine a_iadd X dL_law_525 ?_
  refine a_sld X hX0 hsb hbb (i1) dL_law_526 ?_
  refine a_aload_n X dL_law_527 rfl ?_
  refine a_iload_n X dL_law_528 rfl ?_
  refine a_iconst (v := 2) X dL_law_529 (by decide) ?_
  refine a_iadd X dL_law_530 ?_
  refine a_sld X hX0 hsb hbb (i2) dL_law_531 ?_
  refine a_callVx X dL_law_532 miX7_demand lmL_53 (f_demand hI) (hI.1.2.1) rfl rfl rfl (Nat.le_of_ble_eq_true rfl) ⟨by decide, by decide, hc, hs⟩ (fun r_532 S_532 q_532 => ?_)
  obtain ⟨⟨v_532, rfl⟩, h_532⟩ := q_532
  refine a_pop X dL_law_535 rfl ?_
  refine a_aload_n X dL_law_536 rfl ?_
  refine a_aload_n X dL_law_537 rfl ?_
  refine a_iload_n X dL_law_538 rfl ?_
  refine a_iconst (v := 1) X dL_law_539 (by decide) ?_
  refine a_iadd X dL_law_540 ?_
  refine a_sld X hX0 hsb hbb (i1) dL_law_541 ?_
  refine a_aload_n X dL_law_542 rfl ?_
  refine a_iload_n X dL_law_543 rfl ?_
  refine a_iconst (v := 2) X dL_law_544 (by decide) ?_
  refine a_iadd X dL_law_545 ?_
  refine a_sld X hX0 hsb hbb (i2) dL_law_546 ?_
  refine a_callVx X dL_law_547 miX8_demand lmL_56 (m_demand h_532) (h_532.2.1.2.1) rfl rfl rfl (Nat.le_of_ble_eq_true rfl) ⟨by decide, by decide, hc, hs⟩ (fun r_547 S_547 q_547 => ?_)
  obtain ⟨⟨v_547, rfl⟩, h_547⟩ := q_547
  refine a_pop X dL_law_550 rfl ?_
  refine a_goto (tgt := 1731) X dL_law_551 (by decide) ?_
  exact law_K X hr hX0 hsb hbb h_547 ih
set_option maxRecDepth 100000 in
set_option maxHeartbeats 8000000 in
theorem law_c10 {p : Program} {l : Launch} {e : Env} {s : State} {m : MethodId} {below : List Frame} {meth : Method} {c : Code} {G : zG} {b sb L : Nat} {xs : Nat → Int32} (X : zOK p s m #[Value.ref sb] meth c G b R_law code 4) (hr : meth.sig.returnType = ret) (hX0 : va_X sb L xs s s.heap) (hsb : sb < s.heap.size) (hbb : b = s.heap.size) (hL : L ≤ 3072) {nc ns : Nat} (hc : nc ≤ 600000) (hs : ns ≤ 7302250) {i : Int32} (h0 : 0 ≤ i.toInt) (h6 : i.toInt + 6 ≤ L) {S : zS} (hI : jI S) (ih : ∀ S' : zS, jI S' → Zw p l e room_1 s m #[Value.ref sb] below meth c G b 4 (lw_Z below #[Value.ref sb] s) nc ns 18 [some (.ref (1000000 + sb)), some (.ref 0), some (.ref 200), some (.int (i + 6))] [] S') : Zw p l e room_1 s m #[Value.ref sb] below meth c G b 4 (lw_Z below #[Value.ref sb] s) nc ns 554 [some (.ref (1000000 + sb)), some (.ref 0), some (.ref 200), some (.int i)] [] S := by
  have i1 : vp_in (i + 1) L := law_ix hL h0 h6 (by decide) (by decide)
  have i2 : vp_in (i + 2) L := law_ix hL h0 h6 (by decide) (by decide)
  have i3 : vp_in (i + 3) L := law_ix hL h0 h6 (by decide) (by decide)
  have i4 : vp_in (i + 4) L := law_ix hL h0 h6 (by decide) (by decide)
  have i5 : vp_in (i + 5) L := law_ix hL h0 h6 (by decide) (by decide)
  refine a_aload_n X dL_law_554 rfl ?_
  refine a_aload_n X dL_law_555 rfl ?_
  refine a_iload_n X dL_law_556 rfl ?_
  refine a_iconst (v := 1) X dL_law_557 (by decide) ?_
  refine a_iadd X dL_law_558 ?_
  refine a_sld X hX0 hsb hbb (i1) dL_law_559 ?_
  refine a_aload_n X dL_law_560 rfl ?_
  refine a_iload_n X dL_law_561 rfl ?_
  refine a_iconst (v := 2) X dL_law_562 (by decide) ?_
  refine a_iadd X dL_law_563 ?_
  refine a_sld X hX0 hsb hbb (i2) dL_law_564 ?_
  refine a_callVx X dL_law_565 miX7_share lmL_57 (f_share hI) (hI.1.2.1) rfl rfl rfl (Nat.le_of_ble_eq_true rfl) ⟨by decide, by decide, hc, hs⟩ (fun r_565 S_565 q_565 => ?_)
  obtain ⟨e_565, he_565, rfl, rfl⟩ := q_565
  refine a_aload_n X dL_law_568 rfl ?_
  refine a_aload_n X dL_law_569 rfl ?_
  refine a_iload_n X dL_law_570 rfl ?_
  refine a_iconst (v := 1) X dL_law_571 (by decide) ?_
  refine a_iadd X dL_law_572 ?_
  refine a_sld X hX0 hsb hbb (i1) dL_law_573 ?_
  refine a_aload_n X dL_law_574 rfl ?_
  refine a_iload_n X dL_law_575 rfl ?_
  refine a_iconst (v := 2) X dL_law_576 (by decide) ?_
  refine a_iadd X dL_law_577 ?_
  refine a_sld X hX0 hsb hbb (i2) dL_law_578 ?_
  refine a_callVx X dL_law_579 miX8_share lmL_60 (m_share hI he_565) (hI.2.1.2.1) rfl rfl rfl (Nat.le_of_ble_eq_true rfl) ⟨by decide, by decide, hc, hs⟩ (fun r_579 S_579 q_579 => ?_)
  obtain ⟨rfl, h_579⟩ := q_579
  refine a_icmp_eq (tgt := 1731) X dL_law_582 (by decide) (fun h_582 => ?_) (fun h_582 => absurd rfl h_582)
  exact law_K X hr hX0 hsb hbb h_579 ih
set_option maxRecDepth 100000 in
set_option maxHeartbeats 8000000 in
theorem law_c11 {p : Program} {l : Launch} {e : Env} {s : State} {m : MethodId} {below : List Frame} {meth : Method} {c : Code} {G : zG} {b sb L : Nat} {xs : Nat → Int32} (X : zOK p s m #[Value.ref sb] meth c G b R_law code 4) (hr : meth.sig.returnType = ret) (hX0 : va_X sb L xs s s.heap) (hsb : sb < s.heap.size) (hbb : b = s.heap.size) (hL : L ≤ 3072) {nc ns : Nat} (hc : nc ≤ 600000) (hs : ns ≤ 7302250) {i : Int32} (h0 : 0 ≤ i.toInt) (h6 : i.toInt + 6 ≤ L) {S : zS} (hI : jI S) (ih : ∀ S' : zS, jI S' → Zw p l e room_1 s m #[Value.ref sb] below meth c G b 4 (lw_Z below #[Value.ref sb] s) nc ns 18 [some (.ref (1000000 + sb)), some (.ref 0), some (.ref 200), some (.int (i + 6))] [] S') : Zw p l e room_1 s m #[Value.ref sb] below meth c G b 4 (lw_Z below #[Value.ref sb] s) nc ns 587 [some (.ref (1000000 + sb)), some (.ref 0), some (.ref 200), some (.int i)] [] S := by
  have i1 : vp_in (i + 1) L := law_ix hL h0 h6 (by decide) (by decide)
  have i2 : vp_in (i + 2) L := law_ix hL h0 h6 (by decide) (by decide)
  have i3 : vp_in (i + 3) L := law_ix hL h0 h6 (by decide) (by decide)
  have i4 : vp_in (i + 4) L := law_ix hL h0 h6 (by decide) (by decide)
  have i5 : vp_in (i + 5) L := law_ix hL h0 h6 (by decide) (by decide)
  refine a_aload_n X dL_law_587 rfl ?_
  refine a_aload_n X dL_law_588 rfl ?_
  refine a_iload_n X dL_law_589 rfl ?_
  refine a_iconst (v := 1) X dL_law_590 (by decide) ?_
  refine a_iadd X dL_law_591 ?_
  refine a_sld X hX0 hsb hbb (i1) dL_law_592 ?_
  refine a_aload_n X dL_law_593 rfl ?_
  refine a_iload_n X dL_law_594 rfl ?_
  refine a_iconst (v := 2) X dL_law_595 (by decide) ?_
  refine a_iadd X dL_law_596 ?_
  refine a_sld X hX0 hsb hbb (i2) dL_law_597 ?_
  refine a_callVx X dL_law_598 miX7_order lmL_61 (f_order hI) (hI.1.2.1) rfl rfl rfl (Nat.le_of_ble_eq_true rfl) ⟨by decide, by decide, hc, hs⟩ (fun r_598 S_598 q_598 => ?_)
  obtain ⟨⟨v_598, rfl⟩, h_598⟩ := q_598
  refine a_pop X dL_law_601 rfl ?_
  refine a_aload_n X dL_law_602 rfl ?_
  refine a_aload_n X dL_law_603 rfl ?_
  refine a_iload_n X dL_law_604 rfl ?_
  refine a_iconst (v := 1) X dL_law_605 (by decide) ?_
  refine a_iadd X dL_law_606 ?_
  refine a_sld X hX0 hsb hbb (i1) dL_law_607 ?_
  refine a_aload_n X dL_law_608 rfl ?_
  refine a_iload_n X dL_law_609 rfl ?_
  refine a_iconst (v := 2) X dL_law_610 (by decide) ?_
  refine a_iadd X dL_law_611 ?_
  refine a_sld X hX0 hsb hbb (i2) dL_law_612 ?_
  refine a_callVx X dL_law_613 miX8_order lmL_64 (m_order h_598) (h_598.2.1.2.1) rfl rfl rfl (Nat.le_of_ble_eq_true rfl) ⟨by decide, by decide, hc, hs⟩ (fun r_613 S_613 q_613 => ?_)
  obtain ⟨⟨v_613, rfl⟩, h_613⟩ := q_613
  refine a_pop X dL_law_616 rfl ?_
  refine a_goto (tgt := 1731) X dL_law_617 (by decide) ?_
  exact law_K X hr hX0 hsb hbb h_613 ih
set_option maxRecDepth 100000 in
set_option maxHeartbeats 8000000 in
theorem law_c12 {p : Program} {l : Launch} {e : Env} {s : State} {m : MethodId} {below : List Frame} {meth : Method} {c : Code} {G : zG} {b sb L : Nat} {xs : Nat → Int32} (X : zOK p s m #[Value.ref sb] meth c G b R_law code 4) (hr : meth.sig.returnType = ret) (hX0 : va_X sb L xs s s.heap) (hsb : sb < s.heap.size) (hbb : b = s.heap.size) (hL : L ≤ 3072) {nc ns : Nat} (hc : nc ≤ 600000) (hs : ns ≤ 7302250) {i : Int32} (h0 : 0 ≤ i.toInt) (h6 : i.toInt + 6 ≤ L) {S : zS} (hI : jI S) (ih : ∀ S' : zS, jI S' → Zw p l e room_1 s m #[Value.ref sb] below meth c G b 4 (lw_Z below #[Value.ref sb] s) nc ns 18 [some (.ref (1000000 + sb)), some (.ref 0), some (.ref 200), some (.int (i + 6))] [] S') : Zw p l e room_1 s m #[Value.ref sb] below meth c G b 4 (lw_Z below #[Value.ref sb] s) nc ns 620 [some (.ref (1000000 + sb)), some (.ref 0), some (.ref 200), some (.int i)] [] S := by
  have i1 : vp_in (i + 1) L := law_ix hL h0 h6 (by decide) (by decide)
  have i2 : vp_in (i + 2) L := law_ix hL h0 h6 (by decide) (by decide)
  have i3 : vp_in (i + 3) L := law_ix hL h0 h6 (by decide) (by decide)
  have i4 : vp_in (i + 4) L := law_ix hL h0 h6 (by decide) (by decide)
  have i5 : vp_in (i + 5) L := law_ix hL h0 h6 (by decide) (by decide)
  refine a_aload_n X dL_law_620 rfl ?_
  refine a_aload_n X dL_law_621 rfl ?_
  refine a_iload_n X dL_law_622 rfl ?_
  refine a_iconst (v := 1) X dL_law_623 (by decide) ?_
  refine a_iadd X dL_law_624 ?_
  refine a_sld X hX0 hsb hbb (i1) dL_law_625 ?_
  refine a_aload_n X dL_law_626 rfl ?_
  refine a_iload_n X dL_law_627 rfl ?_
  refine a_iconst (v := 2) X dL_law_628 (by decide) ?_
  refine a_iadd X dL_law_629 ?_
  refine a_sld X hX0 hsb hbb (i2) dL_law_630 ?_
  refine a_callVx X dL_law_631 miX7_drawn lmL_65 (f_drawn hI) (hI.1.2.1) rfl rfl rfl (Nat.le_of_ble_eq_true rfl) ⟨by decide, by decide, hc, hs⟩ (fun r_631 S_631 q_631 => ?_)
  obtain ⟨⟨v_631, rfl⟩, h_631⟩ := q_631
  refine a_pop X dL_law_634 rfl ?_
  refine a_aload_n X dL_law_635 rfl ?_
  refine a_aload_n X dL_law_636 rfl ?_
  refine a_iload_n X dL_law_637 rfl ?_
  refine a_iconst (v := 1) X dL_law_638 (by decide) ?_
  refine a_iadd X dL_law_639 ?_
  refine a_sld X hX0 hsb hbb (i1) dL_law_640 ?_
  refine a_aload_n X dL_law_641 rfl ?_
  refine a_iload_n X dL_law_642 rfl ?_
  refine a_iconst (v := 2) X dL_law_643 (by decide) ?_
  refine a_iadd X dL_law_644 ?_
  refine a_sld X hX0 hsb hbb (i2) dL_law_645 ?_
  refine a_callVx X dL_law_646 miX8_drawn lmL_68 (m_drawn h_631) (h_631.2.1.2.1) rfl rfl rfl (Nat.le_of_ble_eq_true rfl) ⟨by decide, by decide, hc, hs⟩ (fun r_646 S_646 q_646 => ?_)
  obtain ⟨⟨v_646, rfl⟩, h_646⟩ := q_646
  refine a_pop X dL_law_649 rfl ?_
  refine a_goto (tgt := 1731) X dL_law_650 (by decide) ?_
  exact law_K X hr hX0 hsb hbb h_646 ih
set_option maxRecDepth 100000 in
set_option maxHeartbeats 8000000 in
theorem law_c13 {p : Program} {l : Launch} {e : Env} {s : State} {m : MethodId} {below : List Frame} {meth : Method} {c : Code} {G : zG} {b sb L : Nat} {xs : Nat → Int32} (X : zOK p s m #[Value.ref sb] meth c G b R_law code 4) (hr : meth.sig.returnType = ret) (hX0 : va_X sb L xs s s.heap) (hsb : sb < s.heap.size) (hbb : b = s.heap.size) (hL : L ≤ 3072) {nc ns : Nat} (hc : nc ≤ 600000) (hs : ns ≤ 7302250) {i : Int32} (h0 : 0 ≤ i.toInt) (h6 : i.toInt + 6 ≤ L) {S : zS} (hI : jI S) (ih : ∀ S' : zS, jI S' → Zw p l e room_1 s m #[Value.ref sb] below meth c G b 4 (lw_Z below #[Value.ref sb] s) nc ns 18 [some (.ref (1000000 + sb)), some (.ref 0), some (.ref 200), some (.int (i + 6))] [] S') : Zw p l e room_1 s m #[Value.ref sb] below meth c G b 4 (lw_Z below #[Value.ref sb] s) nc ns 653 [some (.ref (1000000 + sb)), some (.ref 0), some (.ref 200), some (.int i)] [] S := by
  have i1 : vp_in (i + 1) L := law_ix hL h0 h6 (by decide) (by decide)
  have i2 : vp_in (i + 2) L := law_ix hL h0 h6 (by decide) (by decide)
  have i3 : vp_in (i + 3) L := law_ix hL h0 h6 (by decide) (by decide)
  have i4 : vp_in (i + 4) L := law_ix hL h0 h6 (by decide) (by decide)
  have i5 : vp_in (i + 5) L := law_ix hL h0 h6 (by decide) (by decide)
  refine a_aload_n X dL_law_653 rfl ?_
  refine a_aload_n X dL_law_654 rfl ?_
  refine a_iload_n X dL_law_655 rfl ?_
  refine a_iconst (v := 1) X dL_law_656 (by decide) ?_
  refine a_iadd X dL_law_657 ?_
  refine a_sld X hX0 hsb hbb (i1) dL_law_658 ?_
  refine a_aload_n X dL_law_659 rfl ?_
  refine a_iload_n X dL_law_660 rfl ?_
  refine a_iconst (v := 2) X dL_law_661 (by decide) ?_
  refine a_iadd X dL_law_662 ?_
  refine a_sld X hX0 hsb hbb (i2) dL_law_663 ?_
  refine a_callVx X dL_law_664 miX7_round lmL_69 (f_round hI) (hI.1.2.1) rfl rfl rfl (Nat.le_of_ble_eq_true rfl) ⟨by decide, by decide, hc, hs⟩ (fun r_664 S_664 q_664 => ?_)
  obtain ⟨⟨v_664, rfl⟩, h_664⟩ := q_664
  refine a_pop X dL_law_667 rfl ?_
  refine a_aload_n X dL_law_668 rfl ?_
  refine a_aload_n X dL_law_669 rfl ?_
  refine a_iload_n X dL_law_670 rfl ?_
  refine a_iconst (v := 1) X dL_law_671 (by decide) ?_
  refine a_iadd X dL_law_672 ?_
  refine a_sld X hX0 hsb hbb (i1) dL_law_673 ?_
  refine a_aload_n X dL_law_674 rfl ?_
  refine a_iload_n X dL_law_675 rfl ?_
  refine a_iconst (v := 2) X dL_law_676 (by decide) ?_
  refine a_iadd X dL_law_677 ?_
  refine a_sld X hX0 hsb hbb (i2) dL_law_678 ?_
  refine a_callVx X dL_law_679 miX8_round lmL_72 (m_round h_664) (h_664.2.1.2.1) rfl rfl rfl (Nat.le_of_ble_eq_true rfl) ⟨by decide, by decide, hc, hs⟩ (fun r_679 S_679 q_679 => ?_)
  obtain ⟨⟨v_679, rfl⟩, h_679⟩ := q_679
  refine a_pop X dL_law_682 rfl ?_
  refine a_goto (tgt := 1731) X dL_law_683 (by decide) ?_
  exact law_K X hr hX0 hsb hbb h_679 ih
set_option maxRecDepth 100000 in
set_option maxHeartbeats 8000000 in
theorem law_c14 {p : Program} {l : Launch} {e : Env} {s : State} {m : MethodId} {below : List Frame} {meth : Method} {c : Code} {G : zG} {b sb L : Nat} {xs : Nat → Int32} (X : zOK p s m #[Value.ref sb] meth c G b R_law code 4) (hr : meth.sig.returnType = ret) (hX0 : va_X sb L xs s s.heap) (hsb : sb < s.heap.size) (hbb : b = s.heap.size) (hL : L ≤ 3072) {nc ns : Nat} (hc : nc ≤ 600000) (hs : ns ≤ 7302250) {i : Int32} (h0 : 0 ≤ i.toInt) (h6 : i.toInt + 6 ≤ L) {S : zS} (hI : jI S) (ih : ∀ S' : zS, jI S' → Zw p l e room_1 s m #[Value.ref sb] below meth c G b 4 (lw_Z below #[Value.ref sb] s) nc ns 18 [some (.ref (1000000 + sb)), some (.ref 0), some (.ref 200), some (.int (i + 6))] [] S') : Zw p l e room_1 s m #[Value.ref sb] below meth c G b 4 (lw_Z below #[Value.ref sb] s) nc ns 686 [some (.ref (1000000 + sb)), some (.ref 0), some (.ref 200), some (.int i)] [] S := by
  have i1 : vp_in (i + 1) L := law_ix hL h0 h6 (by decide) (by decide)
  have i2 : vp_in (i + 2) L := law_ix hL h0 h6 (by decide) (by decide)
  have i3 : vp_in (i + 3) L := law_ix hL h0 h6 (by decide) (by decide)
  have i4 : vp_in (i + 4) L := law_ix hL h0 h6 (by decide) (by decide)
  have i5 : vp_in (i + 5) L := law_ix hL h0 h6 (by decide) (by decide)
  refine a_aload_n X dL_law_686 rfl ?_
  refine a_aload_n X dL_law_687 rfl ?_
  refine a_iload_n X dL_law_688 rfl ?_
  refine a_iconst (v := 1) X dL_law_689 (by decide) ?_
  refine a_iadd X dL_law_690 ?_
  refine a_sld X hX0 hsb hbb (i1) dL_law_691 ?_
  refine a_aload_n X dL_law_692 rfl ?_
  refine a_iload_n X dL_law_693 rfl ?_
  refine a_iconst (v := 2) X dL_law_694 (by decide) ?_
  refine a_iadd X dL_law_695 ?_
  refine a_sld X hX0 hsb hbb (i2) dL_law_696 ?_
  refine a_aload_n X dL_law_697 rfl ?_
  refine a_iload_n X dL_law_698 rfl ?_
  refine a_iconst (v := 3) X dL_law_699 (by decide) ?_
  refine a_iadd X dL_law_700 ?_
  refine a_sld X hX0 hsb hbb (i3) dL_law_701 ?_
  refine a_callVx X dL_law_702 miX7_left lmL_73 (f_left hI) (hI.1.2.1) rfl rfl rfl (Nat.le_of_ble_eq_true rfl) ⟨by decide, by decide, hc, hs⟩ (fun r_702 S_702 q_702 => ?_)
  obtain ⟨⟨v_702, rfl⟩, h_702⟩ := q_702
  refine a_pop X dL_law_705 rfl ?_
  refine a_aload_n X dL_law_706 rfl ?_
  refine a_aload_n X dL_law_707 rfl ?_
  refine a_iload_n X dL_law_708 rfl ?_
  refine a_iconst (v := 1) X dL_law_709 (by decide) ?_
  refine a_iadd X dL_law_710 ?_
  refine a_sld X hX0 hsb hbb (i1) dL_law_711 ?_
  refine a_aload_n X dL_law_712 rfl ?_
  refine a_iload_n X dL_law_713 rfl ?_
  refine a_iconst (v := 2) X dL_law_714 (by decide) ?_
  refine a_iadd X dL_law_715 ?_
  refine a_sld X hX0 hsb hbb (i2) dL_law_716 ?_
  refine a_aload_n X dL_law_717 rfl ?_
  refine a_iload_n X dL_law_718 rfl ?_
  refine a_iconst (v := 3) X dL_law_719 (by decide) ?_
  refine a_iadd X dL_law_720 ?_
  refine a_sld X hX0 hsb hbb (i3) dL_law_721 ?_
  refine a_callVx X dL_law_722 miX8_left lmL_77 (m_left h_702) (h_702.2.1.2.1) rfl rfl rfl (Nat.le_of_ble_eq_true rfl) ⟨by decide, by decide, hc, hs⟩ (fun r_722 S_722 q_722 => ?_)
  obtain ⟨⟨v_722, rfl⟩, h_722⟩ := q_722
  refine a_pop X dL_law_725 rfl ?_
  refine a_goto (tgt := 1731) X dL_law_726 (by decide) ?_
  exact law_K X hr hX0 hsb hbb h_722 ih
set_option maxRecDepth 100000 in
set_option maxHeartbeats 8000000 in
theorem law_c15 {p : Program} {l : Launch} {e : Env} {s : State} {m : MethodId} {below : List Frame} {meth : Method} {c : Code} {G : zG} {b sb L : Nat} {xs : Nat → Int32} (X : zOK p s m #[Value.ref sb] meth c G b R_law code 4) (hr : meth.sig.returnType = ret) (hX0 : va_X sb L xs s s.heap) (hsb : sb < s.heap.size) (hbb : b = s.heap.size) (hL : L ≤ 3072) {nc ns : Nat} (hc : nc ≤ 600000) (hs : ns ≤ 7302250) {i : Int32} (h0 : 0 ≤ i.toInt) (h6 : i.toInt + 6 ≤ L) {S : zS} (hI : jI S) (ih : ∀ S' : zS, jI S' → Zw p l e room_1 s m #[Value.ref sb] below meth c G b 4 (lw_Z below #[Value.ref sb] s) nc ns 18 [some (.ref (1000000 + sb)), some (.ref 0), some (.ref 200), some (.int (i + 6))] [] S') : Zw p l e room_1 s m #[Value.ref sb] below meth c G b 4 (lw_Z below #[Value.ref sb] s) nc ns 729 [some (.ref (1000000 + sb)), some (.ref 0), some (.ref 200), some (.int i)] [] S := by
  have i1 : vp_in (i + 1) L := law_ix hL h0 h6 (by decide) (by decide)
  have i2 : vp_in (i + 2) L := law_ix hL h0 h6 (by decide) (by decide)
  have i3 : vp_in (i + 3) L := law_ix hL h0 h6 (by decide) (by decide)
  have i4 : vp_in (i + 4) L := law_ix hL h0 h6 (by decide) (by decide)
  have i5 : vp_in (i + 5) L := law_ix hL h0 h6 (by decide) (by decide)
  refine a_aload_n X dL_law_729 rfl ?_
  refine a_aload_n X dL_law_730 rfl ?_
  refine a_iload_n X dL_law_731 rfl ?_
  refine a_iconst (v := 1) X dL_law_732 (by decide) ?_
  refine a_iadd X dL_law_733 ?_
  refine a_sld X hX0 hsb hbb (i1) dL_law_734 ?_
  refine a_callVx X dL_law_735 miX7_winners lmL_78 (f_winners hI) (hI.1.2.1) rfl rfl rfl (Nat.le_of_ble_eq_true rfl) ⟨by decide, by decide, hc, hs⟩ (fun r_735 S_735 q_735 => ?_)
  obtain ⟨⟨v_735, rfl⟩, h_735⟩ := q_735
  refine a_pop X dL_law_738 rfl ?_
  refine a_aload_n X dL_law_739 rfl ?_
  refine a_aload_n X dL_law_740 rfl ?_
  refine a_iload_n X dL_law_741 rfl ?_
  refine a_iconst (v := 1) X dL_law_742 (by decide) ?_
  refine a_iadd X dL_law_743 ?_
  refine a_sld X hX0 hsb hbb (i1) dL_law_744 ?_
  refine a_callVx X dL_law_745 miX8_winners lmL_81 (m_winners h_735) (h_735.2.1.2.1) rfl rfl rfl (Nat.le_of_ble_eq_true rfl) ⟨by decide, by decide, hc, hs⟩ (fun r_745 S_745 q_745 => ?_)
  obtain ⟨⟨v_745, rfl⟩, h_745⟩ := q_745
  refine a_pop X dL_law_748 rfl ?_
  refine a_goto (tgt := 1731) X dL_law_749 (by decide) ?_
  exact law_K X hr hX0 hsb hbb h_745 ih
set_option maxRecDepth 100000 in
set_option maxHeartbeats 8000000 in
theorem law_c16 {p : Program} {l : Launch} {e : Env} {s : State} {m : MethodId} {below : List Frame} {meth : Method} {c : Code} {G : zG} {b sb L : Nat} {xs : Nat → Int32} (X : zOK p s m #[Value.ref sb] meth c G b R_law code 4) (hr : meth.sig.returnType = ret) (hX0 : va_X sb L xs s s.heap) (hsb : sb < s.heap.size) (hbb : b = s.heap.size) (hL : L ≤ 3072) {nc ns : Nat} (hc : nc ≤ 600000) (hs : ns ≤ 7302250) {i : Int32} (h0 : 0 ≤ i.toInt) (h6 : i.toInt + 6 ≤ L) {S : zS} (hI : jI S) (ih : ∀ S' : zS, jI S' → Zw p l e room_1 s m #[Value.ref sb] below meth c G b 4 (lw_Z below #[Value.ref sb] s) nc ns 18 [some (.ref (1000000 + sb)), some (.ref 0), some (.ref 200), some (.int (i + 6))] [] S') : Zw p l e room_1 s m #[Value.ref sb] below meth c G b 4 (lw_Z below #[Value.ref sb] s) nc ns 752 [some (.ref (1000000 + sb)), some (.ref 0), some (.ref 200), some (.int i)] [] S := by
  have i1 : vp_in (i + 1) L := law_ix hL h0 h6 (by decide) (by decide)
  have i2 : vp_in (i + 2) L := law_ix hL h0 h6 (by decide) (by decide)
  have i3 : vp_in (i + 3) L := law_ix hL h0 h6 (by decide) (by decide)
  have i4 : vp_in (i + 4) L := law_ix hL h0 h6 (by decide) (by decide)
  have i5 : vp_in (i + 5) L := law_ix hL h0 h6 (by decide) (by decide)
  refine a_aload_n X dL_law_752 rfl ?_
  refine a_aload_n X dL_law_753 rfl ?_
  refine a_iload_n X dL_law_754 rfl ?_
  refine a_iconst (v := 1) X dL_law_755 (by decide) ?_
  refine a_iadd X dL_law_756 ?_
  refine a_sld X hX0 hsb hbb (i1) dL_law_757 ?_
  refine a_aload_n X dL_law_758 rfl ?_
  refine a_iload_n X dL_law_759 rfl ?_
  refine a_iconst (v := 2) X dL_law_760 (by decide) ?_
  refine a_iadd X dL_law_761 ?_
  refine a_sld X hX0 hsb hbb (i2) dL_law_762 ?_
  refine a_aload_n X dL_law_763 rfl ?_
  refine a_iload_n X dL_law_764 rfl ?_
  refine a_iconst (v := 3) X dL_law_765 (by decide) ?_
  refine a_iadd X dL_law_766 ?_
  refine a_sld X hX0 hsb hbb (i3) dL_law_767 ?_
  refine a_callVx X dL_law_768 miX7_waits lmL_82 (f_waits hI) (hI.1.2.1) rfl rfl rfl (Nat.le_of_ble_eq_true rfl) ⟨by decide, by decide, hc, hs⟩ (fun r_768 S_768 q_768 => ?_)
  obtain ⟨⟨v_768, rfl⟩, h_768⟩ := q_768
  refine a_pop X dL_law_771 rfl ?_
  refine a_aload_n X dL_law_772 rfl ?_
  refine a_aload_n X dL_law_773 rfl ?_
  refine a_iload_n X dL_law_774 rfl ?_
  refine a_iconst (v := 1) X dL_law_775 (by decide) ?_
  refine a_iadd X dL_law_776 ?_
  refine a_sld X hX0 hsb hbb (i1) dL_law_777 ?_
  refine a_aload_n X dL_law_778 rfl ?_
  refine a_iload_n X dL_law_779 rfl ?_
  refine a_iconst (v := 2) X dL_law_780 (by decide) ?_
  refine a_iadd X dL_law_781 ?_
  refine a_sld X hX0 hsb hbb (i2) dL_law_782 ?_
  refine a_aload_n X dL_law_783 rfl ?_
  refine a_iload_n X dL_law_784 rfl ?_
  refine a_iconst (v := 3) X dL_law_785 (by decide) ?_
  refine a_iadd X dL_law_786 ?_
  refine a_sld X hX0 hsb hbb (i3) dL_law_787 ?_
  refine a_callVx X dL_law_788 miX8_waits lmL_85 (m_waits h_768) (h_768.2.1.2.1) rfl rfl rfl (Nat.le_of_ble_eq_true rfl) ⟨by decide, by decide, hc, hs⟩ (fun r_788 S_788 q_788 => ?_)
  obtain ⟨⟨v_788, rfl⟩, h_788⟩ := q_788
  refine a_pop X dL_law_791 rfl ?_
  refine a_goto (tgt := 1731) X dL_law_792 (by decide) ?_
  exact law_K X hr hX0 hsb hbb h_788 ih
set_option maxRecDepth 100000 in
set_option maxHeartbeats 8000000 in
theorem law_c17 {p : Program} {l : Launch} {e : Env} {s : State} {m : MethodId} {below : List Frame} {meth : Method} {c : Code} {G : zG} {b sb L : Nat} {xs : Nat → Int32} (X : zOK p s m #[Value.ref sb] meth c G b R_law code 4) (hr : meth.sig.returnType = ret) (hX0 : va_X sb L xs s s.heap) (hsb : sb < s.heap.size) (hbb : b = s.heap.size) (hL : L ≤ 3072) {nc ns : Nat} (hc : nc ≤ 600000) (hs : ns ≤ 7302250) {i : Int32} (h0 : 0 ≤ i.toInt) (h6 : i.toInt + 6 ≤ L) {S : zS} (hI : jI S) (ih : ∀ S' : zS, jI S' → Zw p l e room_1 s m #[Value.ref sb] below meth c G b 4 (lw_Z below #[Value.ref sb] s) nc ns 18 [some (.ref (1000000 + sb)), some (.ref 0), some (.ref 200), some (.int (i + 6))] [] S') : Zw p l e room_1 s m #[Value.ref sb] below meth c G b 4 (lw_Z below #[Value.ref sb] s) nc ns 795 [some (.ref (1000000 + sb)), some (.ref 0), some (.ref 200), some (.int i)] [] S := by
  have i1 : vp_in (i + 1) L := law_ix hL h0 h6 (by decide) (by decide)
  have i2 : vp_in (i + 2) L := law_ix hL h0 h6 (by decide) (by decide)
  have i3 : vp_in (i + 3) L := law_ix hL h0 h6 (by decide) (by decide)
  have i4 : vp_in (i + 4) L := law_ix hL h0 h6 (by decide) (by decide)
  have i5 : vp_in (i + 5) L := law_ix hL h0 h6 (by decide) (by decide)
  refine a_aload_n X dL_law_795 rfl ?_
  refine a_aload_n X dL_law_796 rfl ?_
  refine a_iload_n X dL_law_797 rfl ?_
  refine a_iconst (v := 1) X dL_law_798 (by decide) ?_
  refine a_iadd X dL_law_799 ?_
  refine a_sld X hX0 hsb hbb (i1) dL_law_800 ?_
  refine a_aload_n X dL_law_801 rfl ?_
  refine a_iload_n X dL_law_802 rfl ?_
  refine a_iconst (v := 2) X dL_law_803 (by decide) ?_
  refine a_iadd X dL_law_804 ?_
  refine a_sld X hX0 hsb hbb (i2) dL_law_805 ?_
  refine a_aload_n X dL_law_806 rfl ?_
  refine a_iload_n X dL_law_807 rfl ?_
  refine a_iconst (v := 3) X dL_law_808 (by decide) ?_
  refine a_iadd X dL_law_809 ?_
  refine a_sld X hX0 hsb hbb (i3) dL_law_810 ?_
  refine a_callVx X dL_law_811 miX7_next lmL_86 (f_next hI) (hI.1.2.1) rfl rfl rfl (Nat.le_of_ble_eq_true rfl) ⟨by decide, by decide, hc, hs⟩ (fun r_811 S_811 q_811 => ?_)
  obtain ⟨⟨v_811, rfl⟩, h_811⟩ := q_811
  refine a_pop X dL_law_814 rfl ?_
  refine a_aload_n X dL_law_815 rfl ?_
  refine a_aload_n X dL_law_816 rfl ?_
  refine a_iload_n X dL_law_817 rfl ?_
  refine a_iconst (v := 1) X dL_law_818 (by decide) ?_
  refine a_iadd X dL_law_819 ?_
  refine a_sld X hX0 hsb hbb (i1) dL_law_820 ?_
  refine a_aload_n X dL_law_821 rfl ?_
  refine a_iload_n X dL_law_822 rfl ?_
  refine a_iconst (v := 2) X dL_law_823 (by decide) ?_
  refine a_iadd X dL_law_824 ?_
  refine a_sld X hX0 hsb hbb (i2) dL_law_825 ?_
  refine a_aload_n X dL_law_826 rfl ?_
  refine a_iload_n X dL_law_827 rfl ?_
  refine a_iconst (v := 3) X dL_law_828 (by decide) ?_
  refine a_iadd X dL_law_829 ?_
  refine a_sld X hX0 hsb hbb (i3) dL_law_830 ?_
  refine a_callVx X dL_law_831 miX8_next_ lmL_89 (m_next h_811) (h_811.2.1.2.1) rfl rfl rfl (Nat.le_of_ble_eq_true rfl) ⟨by decide, by decide, hc, hs⟩ (fun r_831 S_831 q_831 => ?_)
  obtain ⟨⟨v_831, rfl⟩, h_831⟩ := q_831
  refine a_pop X dL_law_834 rfl ?_
  refine a_goto (tgt := 1731) X dL_law_835 (by decide) ?_
  exact law_K X hr hX0 hsb hbb h_831 ih
set_option maxRecDepth 100000 in
set_option maxHeartbeats 8000000 in
theorem law_c18 {p : Program} {l : Launch} {e : Env} {s : State} {m : MethodId} {below : List Frame} {meth : Method} {c : Code} {G : zG} {b sb L : Nat} {xs : Nat → Int32} (X : zOK p s m #[Value.ref sb] meth c G b R_law code 4) (hr : meth.sig.returnType = ret) (hX0 : va_X sb L xs s s.heap) (hsb : sb < s.heap.size) (hbb : b = s.heap.size) (hL : L ≤ 3072) {nc ns : Nat} (hc : nc ≤ 600000) (hs : ns ≤ 7302250) {i : Int32} (h0 : 0 ≤ i.toInt) (h6 : i.toInt + 6 ≤ L) {S : zS} (hI : jI S) (ih : ∀ S' : zS, jI S' → Zw p l e room_1 s m #[Value.ref sb] below meth c G b 4 (lw_Z below #[Value.ref sb] s) nc ns 18 [some (.ref (1000000 + sb)), some (.ref 0), some (.ref 200), some (.int (i + 6))] [] S') : Zw p l e room_1 s m #[Value.ref sb] below meth c G b 4 (lw_Z below #[Value.ref sb] s) nc ns 838 [some (.ref (1000000 + sb)), some (.ref 0), some (.ref 200), some (.int i)] [] S := by
  have i1 : vp_in (i + 1) L := law_ix hL h0 h6 (by decide) (by decide)
  have i2 : vp_in (i + 2) L := law_ix hL h0 h6 (by decide) (by decide)
  have i3 : vp_in (i + 3) L := law_ix hL h0 h6 (by decide) (by decide)
  have i4 : vp_in (i + 4) L := law_ix hL h0 h6 (by decide) (by decide)
  have i5 : vp_in (i + 5) L := law_ix hL h0 h6 (by decide) (by decide)
  refine a_aload_n X dL_law_838 rfl ?_
  refine a_aload_n X dL_law_839 rfl ?_
  refine a_iload_n X dL_law_840 rfl ?_
  refine a_iconst (v := 1) X dL_law_841 (by decide) ?_
  refine a_iadd X dL_law_842 ?_
  refine a_sld X hX0 hsb hbb (i1) dL_law_843 ?_
  refine a_aload_n X dL_law_844 rfl ?_
  refine a_iload_n X dL_law_845 rfl ?_
  refine a_iconst (v := 2) X dL_law_846 (by decide) ?_
  refine a_iadd X dL_law_847 ?_
  refine a_sld X hX0 hsb hbb (i2) dL_law_848 ?_
  refine a_callVx X dL_law_849 miX7_envies lmL_90 (f_envies hI) (hI.1.2.1) rfl rfl rfl (Nat.le_of_ble_eq_true rfl) ⟨by decide, by decide, hc, hs⟩ (fun r_849 S_849 q_849 => ?_)
  obtain ⟨⟨v_849, rfl⟩, h_849⟩ := q_849
  refine a_pop X dL_law_852 rfl ?_
  refine a_aload_n X dL_law_853 rfl ?_
  refine a_aload_n X dL_law_854 rfl ?_
  refine a_iload_n X dL_law_855 rfl ?_
  refine a_iconst (v := 1) X dL_law_856 (by decide) ?_
  refine a_iadd X dL_law_857 ?_
  refine a_sld X hX0 hsb hbb (i1) dL_law_858 ?_
  refine a_aload_n X dL_law_859 rfl ?_
  refine a_iload_n X dL_law_860 rfl ?_
  refine a_iconst (v := 2) X dL_law_861 (by decide) ?_
  refine a_iadd X dL_law_862 ?_
  refine a_sld X hX0 hsb hbb (i2) dL_law_863 ?_
  refine a_callVx X dL_law_864 miX8_envies lmL_93 (m_envies h_849) (h_849.2.1.2.1) rfl rfl rfl (Nat.le_of_ble_eq_true rfl) ⟨by decide, by decide, hc, hs⟩ (fun r_864 S_864 q_864 => ?_)
  obtain ⟨⟨v_864, rfl⟩, h_864⟩ := q_864
  refine a_pop X dL_law_867 rfl ?_
  refine a_goto (tgt := 1731) X dL_law_868 (by decide) ?_
  exact law_K X hr hX0 hsb hbb h_864 ih
set_option maxRecDepth 100000 in
set_option maxHeartbeats 8000000 in
theorem law_c19 {p : Program} {l : Launch} {e : Env} {s : State} {m : MethodId} {below : List Frame} {meth : Method} {c : Code} {G : zG} {b sb L : Nat} {xs : Nat → Int32} (X : zOK p s m #[Value.ref sb] meth c G b R_law code 4) (hr : meth.sig.returnType = ret) (hX0 : va_X sb L xs s s.heap) (hsb : sb < s.heap.size) (hbb : b = s.heap.size) (hL : L ≤ 3072) {nc ns : Nat} (hc : nc ≤ 600000) (hs : ns ≤ 7302250) {i : Int32} (h0 : 0 ≤ i.toInt) (h6 : i.toInt + 6 ≤ L) {S : zS} (hI : jI S) (ih : ∀ S' : zS, jI S' → Zw p l e room_1 s m #[Value.ref sb] below meth c G b 4 (lw_Z below #[Value.ref sb] s) nc ns 18 [some (.ref (1000000 + sb)), some (.ref 0), some (.ref 200), some (.int (i + 6))] [] S') : Zw p l e room_1 s m #[Value.ref sb] below meth c G b 4 (lw_Z below #[Value.ref sb] s) nc ns 871 [some (.ref (1000000 + sb)), some (.ref 0), some (.ref 200), some (.int i)] [] S := by
  have i1 : vp_in (i + 1) L := law_ix hL h0 h6 (by decide) (by decide)
  have i2 : vp_in (i + 2) L := law_ix hL h0 h6 (by decide) (by decide)
  have i3 : vp_in (i + 3) L := law_ix hL h0 h6 (by decide) (by decide)
  have i4 : vp_in (i + 4) L := law_ix hL h0 h6 (by decide) (by decide)
  have i5 : vp_in (i + 5) L := law_ix hL h0 h6 (by decide) (by decide)
  refine a_aload_n X dL_law_871 rfl ?_
  refine a_aload_n X dL_law_872 rfl ?_
  refine a_iload_n X dL_law_873 rfl ?_
  refine a_iconst (v := 1) X dL_law_874 (by decide) ?_
  refine a_iadd X dL_law_875 ?_
  refine a_sld X hX0 hsb hbb (i1) dL_law_876 ?_
  refine a_aload_n X dL_law_877 rfl ?_
  refine a_iload_n X dL_law_878 rfl ?_
  refine a_iconst (v := 2) X dL_law_879 (by decide) ?_
  refine a_iadd X dL_law_880 ?_
  refine a_sld X hX0 hsb hbb (i2) dL_law_881 ?_
  refine a_callVx X dL_law_882 miX7_spoils lmL_94 (f_spoils hI) (hI.1.2.1) rfl rfl rfl (Nat.le_of_ble_eq_true rfl) ⟨by decide, by decide, hc, hs⟩ (fun r_882 S_882 q_882 => ?_)
  obtain ⟨⟨v_882, rfl⟩, h_882⟩ := q_882
  refine a_pop X dL_law_885 rfl ?_
  refine a_aload_n X dL_law_886 rfl ?_
  refine a_aload_n X dL_law_887 rfl ?_
  refine a_iload_n X dL_law_888 rfl ?_
  refine a_iconst (v := 1) X dL_law_889 (by decide) ?_
  refine a_iadd X dL_law_890 ?_
  refine a_sld X hX0 hsb hbb (i1) dL_law_891 ?_
  refine a_aload_n X dL_law_892 rfl ?_
  refine a_iload_n X dL_law_893 rfl ?_
  refine a_iconst (v := 2) X dL_law_894 (by decide) ?_
  refine a_iadd X dL_law_895 ?_
  refine a_sld X hX0 hsb hbb (i2) dL_law_896 ?_
  refine a_callVx X dL_law_897 miX8_spoils lmL_97 (m_spoils h_882) (h_882.2.1.2.1) rfl rfl rfl (Nat.le_of_ble_eq_true rfl) ⟨by decide, by decide, hc, hs⟩ (fun r_897 S_897 q_897 => ?_)
  obtain ⟨⟨v_897, rfl⟩, h_897⟩ := q_897
  refine a_pop X dL_law_900 rfl ?_
  refine a_goto (tgt := 1731) X dL_law_901 (by decide) ?_
  exact law_K X hr hX0 hsb hbb h_897 ih
set_option maxRecDepth 100000 in
set_option maxHeartbeats 8000000 in
theorem law_c20 {p : Program} {l : Launch} {e : Env} {s : State} {m : MethodId} {below : List Frame} {meth : Method} {c : Code} {G : zG} {b sb L : Nat} {xs : Nat → Int32} (X : zOK p s m #[Value.ref sb] meth c G b R_law code 4) (hr : meth.sig.returnType = ret) (hX0 : va_X sb L xs s s.heap) (hsb : sb < s.heap.size) (hbb : b = s.heap.size) (hL : L ≤ 3072) {nc ns : Nat} (hc : nc ≤ 600000) (hs : ns ≤ 7302250) {i : Int32} (h0 : 0 ≤ i.toInt) (h6 : i.toInt + 6 ≤ L) {S : zS} (hI : jI S) (ih : ∀ S' : zS, jI S' → Zw p l e room_1 s m #[Value.ref sb] below meth c G b 4 (lw_Z below #[Value.ref sb] s) nc ns 18 [some (.ref (1000000 + sb)), some (.ref 0), some (.ref 200), some (.int (i + 6))] [] S') : Zw p l e room_1 s m #[Value.ref sb] below meth c G b 4 (lw_Z below #[Value.ref sb] s) nc ns 904 [some (.ref (1000000 + sb)), some (.ref 0), some (.ref 200), some (.int i)] [] S := by
  have i1 : vp_in (i + 1) L := law_ix hL h0 h6 (by decide) (by decide)
  have i2 : vp_in (i + 2) L := law_ix hL h0 h6 (by decide) (by decide)
  have i3 : vp_in (i + 3) L := law_ix hL h0 h6 (by decide) (by decide)
  have i4 : vp_in (i + 4) L := law_ix hL h0 h6 (by decide) (by decide)
  have i5 : vp_in (i + 5) L := law_ix hL h0 h6 (by decide) (by decide)
  refine a_aload_n X dL_law_904 rfl ?_
  refine a_aload_n X dL_law_905 rfl ?_
  refine a_iload_n X dL_law_906 rfl ?_
  refine a_iconst (v := 1) X dL_law_907 (by decide) ?_
  refine a_iadd X dL_law_908 ?_
  refine a_sld X hX0 hsb hbb (i1) dL_law_909 ?_
  refine a_aload_n X dL_law_910 rfl ?_
  refine a_iload_n X dL_law_911 rfl ?_
  refine a_iconst (v := 2) X dL_law_912 (by decide) ?_
  refine a_iadd X dL_law_913 ?_
  refine a_sld X hX0 hsb hbb (i2) dL_law_914 ?_
  refine a_callVx X dL_law_915 miX7_behind lmL_98 (f_behind hI) (hI.1.2.1) rfl rfl rfl (Nat.le_of_ble_eq_true rfl) ⟨by decide, by decide, hc, hs⟩ (fun r_915 S_915 q_915 => ?_)
  obtain ⟨⟨v_915, rfl⟩, h_915⟩ := q_915
  refine a_pop X dL_law_918 rfl ?_
  refine a_aload_n X dL_law_919 rfl ?_
  refine a_aload_n X dL_law_920 rfl ?_
  refine a_iload_n X dL_law_921 rfl ?_
  refine a_iconst (v := 1) X dL_law_922 (by decide) ?_
  refine a_iadd X dL_law_923 ?_
  refine a_sld X hX0 hsb hbb (i1) dL_law_924 ?_
  refine a_aload_n X dL_law_925 rfl ?_
  refine a_iload_n X dL_law_926 rfl ?_
  refine a_iconst (v := 2) X dL_law_927 (by decide) ?_
  refine a_iadd X dL_law_928 ?_
  refine a_sld X hX0 hsb hbb (i2) dL_law_929 ?_
  refine a_callVx X dL_law_930 miX8_behind lmL_101 (m_behind h_915) (h_915.2.1.2.1) rfl rfl rfl (Nat.le_of_ble_eq_true rfl) ⟨by decide, by decide, hc, hs⟩ (fun r_930 S_930 q_930 => ?_)
  obtain ⟨⟨v_930, rfl⟩, h_930⟩ := q_930
  refine a_pop X dL_law_933 rfl ?_
  refine a_goto (tgt := 1731) X dL_law_934 (by decide) ?_
  exact law_K X hr hX0 hsb hbb h_930 ih
set_option maxRecDepth 100000 in
set_option maxHeartbeats 8000000 in
theorem law_c21 {p : Program} {l : Launch} {e : Env} {s : State} {m : MethodId} {below : List Frame} {meth : Method} {c : Code} {G : zG} {b sb L : Nat} {xs : Nat → Int32} (X : zOK p s m #[Value.ref sb] meth c G b R_law code 4) (hr : meth.sig.returnType = ret) (hX0 : va_X sb L xs s s.heap) (hsb : sb < s.heap.size) (hbb : b = s.heap.size) (hL : L ≤ 3072) {nc ns : Nat} (hc : nc ≤ 600000) (hs : ns ≤ 7302250) {i : Int32} (h0 : 0 ≤ i.toInt) (h6 : i.toInt + 6 ≤ L) {S : zS} (hI : jI S) (ih : ∀ S' : zS, jI S' → Zw p l e room_1 s m #[Value.ref sb] below meth c G b 4 (lw_Z below #[Value.ref sb] s) nc ns 18 [some (.ref (1000000 + sb)), some (.ref 0), some (.ref 200), some (.int (i + 6))] [] S') : Zw p l e room_1 s m #[Value.ref sb] below meth c G b 4 (lw_Z below #[Value.ref sb] s) nc ns 937 [some (.ref (1000000 + sb)), some (.ref 0), some (.ref 200), some (.int i)] [] S := by
  have i1 : vp_in (i + 1) L := law_ix hL h0 h6 (by decide) (by decide)
  have i2 : vp_in (i + 2) L := law_ix hL h0 h6 (by decide) (by decide)
  have i3 : vp_in (i + 3) L := law_ix hL h0 h6 (by decide) (by decide)
  have i4 : vp_in (i + 4) L := law_ix hL h0 h6 (by decide) (by decide)
  have i5 : vp_in (i + 5) L := law_ix hL h0 h6 (by decide) (by decide)
  refine a_aload_n X dL_law_937 rfl ?_
  refine a_aload_n X dL_law_938 rfl ?_
  refine a_iload_n X dL_law_939 rfl ?_
  refine a_iconst (v := 1) X dL_law_940 (by decide) ?_
  refine a_iadd X dL_law_941 ?_
  refine a_sld X hX0 hsb hbb (i1) dL_law_942 ?_
  refine a_aload_n X dL_law_943 rfl ?_
  refine a_iload_n X dL_law_944 rfl ?_
  refine a_iconst (v := 2) X dL_law_945 (by decide) ?_
  refine a_iadd X dL_law_946 ?_
  refine a_sld X hX0 hsb hbb (i2) dL_law_947 ?_
  refine a_callVx X dL_law_948 miX7_lucky lmL_102 (f_lucky hI) (hI.1.2.1) rfl rfl rfl (Nat.le_of_ble_eq_true rfl) ⟨by decide, by decide, hc, hs⟩ (fun r_948 S_948 q_948 => ?_)
  obtain ⟨⟨v_948, rfl⟩, h_948⟩ := q_948
  refine a_pop X dL_law_951 rfl ?_
  refine a_aload_n X dL_law_952 rfl ?_
  refine a_aload_n X dL_law_953 rfl ?_
  refine a_iload_n X dL_law_954 rfl ?_
  refine a_iconst (v := 1) X dL_law_955 (by decide) ?_
  refine a_iadd X dL_law_956 ?_
  refine a_sld X hX0 hsb hbb (i1) dL_law_957 ?_
  refine a_aload_n X dL_law_958 rfl ?_
  refine a_iload_n X dL_law_959 rfl ?_
  refine a_iconst (v := 2) X dL_law_960 (by decide) ?_
  refine a_iadd X dL_law_961 ?_
  refine a_sld X hX0 hsb hbb (i2) dL_law_962 ?_
  refine a_callVx X dL_law_963 miX8_lucky lmL_105 (m_lucky h_948) (h_948.2.1.2.1) rfl rfl rfl (Nat.le_of_ble_eq_true rfl) ⟨by decide, by decide, hc, hs⟩ (fun r_963 S_963 q_963 => ?_)
  obtain ⟨⟨v_963, rfl⟩, h_963⟩ := q_963
  refine a_pop X dL_law_966 rfl ?_
  refine a_goto (tgt := 1731) X dL_law_967 (by decide) ?_
  exact law_K X hr hX0 hsb hbb h_963 ih
set_option maxRecDepth 100000 in
set_option maxHeartbeats 8000000 in
theorem law_c22 {p : Program} {l : Launch} {e : Env} {s : State} {m : MethodId} {below : List Frame} {meth : Method} {c : Code} {G : zG} {b sb L : Nat} {xs : Nat → Int32} (X : zOK p s m #[Value.ref sb] meth c G b R_law code 4) (hr : meth.sig.returnType = ret) (hX0 : va_X sb L xs s s.heap) (hsb : sb < s.heap.size) (hbb : b = s.heap.size) (hL : L ≤ 3072) {nc ns : Nat} (hc : nc ≤ 600000) (hs : ns ≤ 7302250) {i : Int32} (h0 : 0 ≤ i.toInt) (h6 : i.toInt + 6 ≤ L) {S : zS} (hI : jI S) (ih : ∀ S' : zS, jI S' → Zw p l e room_1 s m #[Value.ref sb] below meth c G b 4 (lw_Z below #[Value.ref sb] s) nc ns 18 [some (.ref (1000000 + sb)), some (.ref 0), some (.ref 200), some (.int (i + 6))] [] S') : Zw p l e room_1 s m #[Value.ref sb] below meth c G b 4 (lw_Z below #[Value.ref sb] s) nc ns 970 [some (.ref (1000000 + sb)), some (.ref 0), some (.ref 200), some (.int i)] [] S := by
  have i1 : vp_in (i + 1) L := law_ix hL h0 h6 (by decide) (by decide)
  have i2 : vp_in (i + 2) L := law_ix hL h0 h6 (by decide) (by decide)
  have i3 : vp_in (i + 3) L := law_ix hL h0 h6 (by decide) (by decide)
  have i4 : vp_in (i + 4) L := law_ix hL h0 h6 (by decide) (by decide)
  have i5 : vp_in (i + 5) L := law_ix hL h0 h6 (by decide) (by decide)
  refine a_aload_n X dL_law_970 rfl ?_
  refine a_aload_n X dL_law_971 rfl ?_
  refine a_iload_n X dL_law_972 rfl ?_
  refine a_iconst (v := 1) X dL_law_973 (by decide) ?_
  refine a_iadd X dL_law_974 ?_
  refine a_sld X hX0 hsb hbb (i1) dL_law_975 ?_
  refine a_aload_n X dL_law_976 rfl ?_
  refine a_iload_n X dL_law_977 rfl ?_
  refine a_iconst (v := 2) X dL_law_978 (by decide) ?_
  refine a_iadd X dL_law_979 ?_
  refine a_sld X hX0 hsb hbb (i2) dL_law_980 ?_
  refine a_callVx X dL_law_981 miX7_chance lmL_106 (f_chance hI) (hI.1.2.1) rfl rfl rfl (Nat.le_of_ble_eq_true rfl) ⟨by decide, by decide, hc, hs⟩ (fun r_981 S_981 q_981 => ?_)
  obtain ⟨⟨v_981, rfl⟩, h_981⟩ := q_981
  refine a_pop2 X dL_law_984 rfl ?_
  refine a_aload_n X dL_law_985 rfl ?_
  refine a_aload_n X dL_law_986 rfl ?_
  refine a_iload_n X dL_law_987 rfl ?_
  refine a_iconst (v := 1) X dL_law_988 (by decide) ?_
  refine a_iadd X dL_law_989 ?_
  refine a_sld X hX0 hsb hbb (i1) dL_law_990 ?_
  refine a_aload_n X dL_law_991 rfl ?_
  refine a_iload_n X dL_law_992 rfl ?_
  refine a_iconst (v := 2) X dL_law_993 (by decide) ?_
  refine a_iadd X dL_law_994 ?_
  refine a_sld X hX0 hsb hbb (i2) dL_law_995 ?_
  refine a_callVx X dL_law_996 miX8_chance lmL_110 (m_chance h_981) (h_981.2.1.2.1) rfl rfl rfl (Nat.le_of_ble_eq_true rfl) ⟨by decide, by decide, hc, hs⟩ (fun r_996 S_996 q_996 => ?_)
  obtain ⟨⟨v_996, rfl⟩, h_996⟩ := q_996
  refine a_pop2 X dL_law_999 rfl ?_
  refine a_goto (tgt := 1731) X dL_law_1000 (by decide) ?_
  exact law_K X hr hX0 hsb hbb h_996 ih
set_option maxRecDepth 100000 in
set_option maxHeartbeats 8000000 in
theorem law_c23 {p : Program} {l : Launch} {e : Env} {s : State} {m : MethodId} {below : List Frame} {meth : Method} {c : Code} {G : zG} {b sb L : Nat} {xs : Nat → Int32} (X : zOK p s m #[Value.ref sb] meth c G b R_law code 4) (hr : meth.sig.returnType = ret) (hX0 : va_X sb L xs s s.heap) (hsb : sb < s.heap.size) (hbb : b = s.heap.size) (hL : L ≤ 3072) {nc ns : Nat} (hc : nc ≤ 600000) (hs : ns ≤ 7302250) {i : Int32} (h0 : 0 ≤ i.toInt) (h6 : i.toInt + 6 ≤ L) {S : zS} (hI : jI S) (ih : ∀ S' : zS, jI S' → Zw p l e room_1 s m #[Value.ref sb] below meth c G b 4 (lw_Z below #[Value.ref sb] s) nc ns 18 [some (.ref (1000000 + sb)), some (.ref 0), some (.ref 200), some (.int (i + 6))] [] S') : Zw p l e room_1 s m #[Value.ref sb] below meth c G b 4 (lw_Z below #[Value.ref sb] s) nc ns 1003 [some (.ref (1000000 + sb)), some (.ref 0), some (.ref 200), some (.int i)] [] S := by
  have i1 : vp_in (i + 1) L := law_ix hL h0 h6 (by decide) (by decide)
  have i2 : vp_in (i + 2) L := law_ix hL h0 h6 (by decide) (by decide)
  have i3 : vp_in (i + 3) L := law_ix hL h0 h6 (by decide) (by decide)
  have i4 : vp_in (i + 4) L := law_ix hL h0 h6 (by decide) (by decide)
  have i5 : vp_in (i + 5) L := law_ix hL h0 h6 (by decide) (by decide)
  refine a_aload_n X dL_law_1003 rfl ?_
  refine a_aload_n X dL_law_1004 rfl ?_
  refine a_iload_n X dL_law_1005 rfl ?_
  refine a_iconst (v := 1) X dL_law_1006 (by decide) ?_
  refine a_iadd X dL_law_1007 ?_
  refine a_sld X hX0 hsb hbb (i1) dL_law_1008 ?_
  refine a_aload_n X dL_law_1009 rfl ?_
  refine a_iload_n X dL_law_1010 rfl ?_
  refine a_iconst (v := 2) X dL_law_1011 (by decide) ?_
  refine a_iadd X dL_law_1012 ?_
  refine a_sld X hX0 hsb hbb (i2) dL_law_1013 ?_
  refine a_callVx X dL_law_1014 miX7_at lmL_111 (f_at hI) (hI.1.2.1) rfl rfl rfl (Nat.le_of_ble_eq_true rfl) ⟨by decide, by decide, hc, hs⟩ (fun r_1014 S_1014 q_1014 => ?_)
  obtain ⟨⟨v_1014, rfl⟩, h_1014⟩ := q_1014
  refine a_pop2 X dL_law_1017 rfl ?_
  refine a_aload_n X dL_law_1018 rfl ?_
  refine a_aload_n X dL_law_1019 rfl ?_
  refine a_iload_n X dL_law_1020 rfl ?_
  refine a_iconst (v := 1) X dL_law_1021 (by decide) ?_
  refine a_iadd X dL_law_1022 ?_
  refine a_sld X hX0 hsb hbb (i1) dL_law_1023 ?_
  refine a_aload_n X dL_law_1024 rfl ?_
  refine a_iload_n X dL_law_1025 rfl ?_
  refine a_iconst (v := 2) X dL_law_1026 (by decide) ?_
  refine a_iadd X dL_law_1027 ?_
  refine a_sld X hX0 hsb hbb (i2) dL_law_1028 ?_
  refine a_callVx X dL_law_1029 miX8_at lmL_114 (m_at h_1014) (h_1014.2.1.2.1) rfl rfl rfl (Nat.le_of_ble_eq_true rfl) ⟨by decide, by decide, hc, hs⟩ (fun r_1029 S_1029 q_1029 => ?_)
  obtain ⟨⟨v_1029, rfl⟩, h_1029⟩ := q_1029
  refine a_pop2 X dL_law_1032 rfl ?_
  refine a_goto (tgt := 1731) X dL_law_1033 (by decide) ?_
  exact law_K X hr hX0 hsb hbb h_1029 ih
set_option maxRecDepth 100000 in
set_option maxHeartbeats 8000000 in
theorem law_c24 {p : Program} {l : Launch} {e : Env} {s : State} {m : MethodId} {below : List Frame} {meth : Method} {c : Code} {G : zG} {b sb L : Nat} {xs : Nat → Int32} (X : zOK p s m #[Value.ref sb] meth c G b R_law code 4) (hr : meth.sig.returnType = ret) (hX0 : va_X sb L xs s s.heap) (hsb : sb < s.heap.size) (hbb : b = s.heap.size) (hL : L ≤ 3072) {nc ns : Nat} (hc : nc ≤ 600000) (hs : ns ≤ 7302250) {i : Int32} (h0 : 0 ≤ i.toInt) (h6 : i.toInt + 6 ≤ L) {S : zS} (hI : jI S) (ih : ∀ S' : zS, jI S' → Zw p l e room_1 s m #[Value.ref sb] below meth c G b 4 (lw_Z below #[Value.ref sb] s) nc ns 18 [some (.ref (1000000 + sb)), some (.ref 0), some (.ref 200), some (.int (i + 6))] [] S') : Zw p l e room_1 s m #[Value.ref sb] below meth c G b 4 (lw_Z below #[Value.ref sb] s) nc ns 1036 [some (.ref (1000000 + sb)), some (.ref 0), some (.ref 200), some (.int i)] [] S := by
  have i1 : vp_in (i + 1) L := law_ix hL h0 h6 (by decide) (by decide)
  have i2 : vp_in (i + 2) L := law_ix hL h0 h6 (by decide) (by decide)
  have i3 : vp_in (i + 3) L := law_ix hL h0 h6 (by decide) (by decide)
  have i4 : vp_in (i + 4) L := law_ix hL h0 h6 (by decide) (by decide)
  have i5 : vp_in (i + 5) L := law_ix hL h0 h6 (by decide) (by decide)
  refine a_aload_n X dL_law_1036 rfl ?_
  refine a_aload_n X dL_law_1037 rfl ?_
  refine a_iload_n X dL_law_1038 rfl ?_
  refine a_iconst (v := 1) X dL_law_1039 (by decide) ?_
  refine a_iadd X dL_law_1040 ?_
  refine a_sld X hX0 hsb hbb (i1) dL_law_1041 ?_
  refine a_aload_n X dL_law_1042 rfl ?_
  refine a_iload_n X dL_law_1043 rfl ?_
  refine a_iconst (v := 2) X dL_law_1044 (by decide) ?_
  refine a_iadd X dL_law_1045 ?_
  refine a_sld X hX0 hsb hbb (i2) dL_law_1046 ?_
  refine a_callVx X dL_law_1047 miX7_both lmL_115 (f_both hI) (hI.1.2.1) rfl rfl rfl (Nat.le_of_ble_eq_true rfl) ⟨by decide, by decide, hc, hs⟩ (fun r_1047 S_1047 q_1047 => ?_)
  obtain ⟨⟨v_1047, rfl⟩, h_1047⟩ := q_1047
  refine a_pop2 X dL_law_1050 rfl ?_
  refine a_aload_n X dL_law_1051 rfl ?_
  refine a_aload_n X dL_law_1052 rfl ?_
  refine a_iload_n X dL_law_1053 rfl ?_
  refine a_iconst (v := 1) X dL_law_1054 (by decide) ?_
  refine a_iadd X dL_law_1055 ?_
  refine a_sld X hX0 hsb hbb (i1) dL_law_1056 ?_
  refine a_aload_n X dL_law_1057 rfl ?_
  refine a_iload_n X dL_law_1058 rfl ?_
  refine a_iconst (v := 2) X dL_law_1059 (by decide) ?_
  refine a_iadd X dL_law_1060 ?_
  refine a_sld X hX0 hsb hbb (i2) dL_law_1061 ?_
  refine a_callVx X dL_law_1062 miX8_both lmL_118 (m_both h_1047) (h_1047.2.1.2.1) rfl rfl rfl (Nat.le_of_ble_eq_true rfl) ⟨by decide, by decide, hc, hs⟩ (fun r_1062 S_1062 q_1062 => ?_)
  obtain ⟨⟨v_1062, rfl⟩, h_1062⟩ := q_1062
  refine a_pop2 X dL_law_1065 rfl ?_
  refine a_goto (tgt := 1731) X dL_law_1066 (by decide) ?_
  exact law_K X hr hX0 hsb hbb h_1062 ih
set_option maxRecDepth 100000 in
set_option maxHeartbeats 8000000 in
theorem law_c25 {p : Program} {l : Launch} {e : Env} {s : State} {m : MethodId} {below : List Frame} {meth : Method} {c : Code} {G : zG} {b sb L : Nat} {xs : Nat → Int32} (X : zOK p s m #[Value.ref sb] meth c G b R_law code 4) (hr : meth.sig.returnType = ret) (hX0 : va_X sb L xs s s.heap) (hsb : sb < s.heap.size) (hbb : b = s.heap.size) (hL : L ≤ 3072) {nc ns : Nat} (hc : nc ≤ 600000) (hs : ns ≤ 7302250) {i : Int32} (h0 : 0 ≤ i.toInt) (h6 : i.toInt + 6 ≤ L) {S : zS} (hI : jI S) (ih : ∀ S' : zS, jI S' → Zw p l e room_1 s m #[Value.ref sb] below meth c G b 4 (lw_Z below #[Value.ref sb] s) nc ns 18 [some (.ref (1000000 + sb)), some (.ref 0), some (.ref 200), some (.int (i + 6))] [] S') : Zw p l e room_1 s m #[Value.ref sb] below meth c G b 4 (lw_Z below #[Value.ref sb] s) nc ns 1069 [some (.ref (1000000 + sb)), some (.ref 0), some (.ref 200), some (.int i)] [] S := by
  have i1 : vp_in (i + 1) L := law_ix hL h0 h6 (by decide) (by decide)
  have i2 : vp_in (i + 2) L := law_ix hL h0 h6 (by decide) (by decide)
  have i3 : vp_in (i + 3) L := law_ix hL h0 h6 (by decide) (by decide)
  have i4 : vp_in (i + 4) L := law_ix hL h0 h6 (by decide) (by decide)
  have i5 : vp_in (i + 5) L := law_ix hL h0 h6 (by decide) (by decide)
  refine a_aload_n X dL_law_1069 rfl ?_
  refine a_aload_n X dL_law_1070 rfl ?_
  refine a_iload_n X dL_law_1071 rfl ?_
  refine a_iconst (v := 1) X dL_law_1072 (by decide) ?_
  refine a_iadd X dL_law_1073 ?_
  refine a_sld X hX0 hsb hbb (i1) dL_law_1074 ?_
  refine a_callVx X dL_law_1075 miX7_sure lmL_119 (f_sure hI) (hI.1.2.1) rfl rfl rfl (Nat.le_of_ble_eq_true rfl) ⟨by decide, by decide, hc, hs⟩ (fun r_1075 S_1075 q_1075 => ?_)
  obtain ⟨⟨v_1075, rfl⟩, h_1075⟩ := q_1075
  refine a_pop X dL_law_1078 rfl ?_
  refine a_aload_n X dL_law_1079 rfl ?_
  refine a_aload_n X dL_law_1080 rfl ?_
  refine a_iload_n X dL_law_1081 rfl ?_
  refine a_iconst (v := 1) X dL_law_1082 (by decide) ?_
  refine a_iadd X dL_law_1083 ?_
  refine a_sld X hX0 hsb hbb (i1) dL_law_1084 ?_
  refine a_callVx X dL_law_1085 miX8_sure lmL_122 (m_sure h_1075) (h_1075.2.1.2.1) rfl rfl rfl (Nat.le_of_ble_eq_true rfl) ⟨by decide, by decide, hc, hs⟩ (fun r_1085 S_1085 q_1085 => ?_)
  obtain ⟨⟨v_1085, rfl⟩, h_1085⟩ := q_1085
  refine a_pop X dL_law_1088 rfl ?_
  refine a_goto (tgt := 1731) X dL_law_1089 (by decide) ?_
  exact law_K X hr hX0 hsb hbb h_1085 ih
set_option maxRecDepth 100000 in
set_option maxHeartbeats 8000000 in
theorem law_c26 {p : Program} {l : Launch} {e : Env} {s : State} {m : MethodId} {below : List Frame} {meth : Method} {c : Code} {G : zG} {b sb L : Nat} {xs : Nat → Int32} (X : zOK p s m #[Value.ref sb] meth c G b R_law code 4) (hr : meth.sig.returnType = ret) (hX0 : va_X sb L xs s s.heap) (hsb : sb < s.heap.size) (hbb : b = s.heap.size) (hL : L ≤ 3072) {nc ns : Nat} (hc : nc ≤ 600000) (hs : ns ≤ 7302250) {i : Int32} (h0 : 0 ≤ i.toInt) (h6 : i.toInt + 6 ≤ L) {S : zS} (hI : jI S) (ih : ∀ S' : zS, jI S' → Zw p l e room_1 s m #[Value.ref sb] below meth c G b 4 (lw_Z below #[Value.ref sb] s) nc ns 18 [some (.ref (1000000 + sb)), some (.ref 0), some (.ref 200), some (.int (i + 6))] [] S') : Zw p l e room_1 s m #[Value.ref sb] below meth c G b 4 (lw_Z below #[Value.ref sb] s) nc ns 1092 [some (.ref (1000000 + sb)), some (.ref 0), some (.ref 200), some (.int i)] [] S := by
  have i1 : vp_in (i + 1) L := law_ix hL h0 h6 (by decide) (by decide)
  have i2 : vp_in (i + 2) L := law_ix hL h0 h6 (by decide) (by decide)
  have i3 : vp_in (i + 3) L := law_ix hL h0 h6 (by decide) (by decide)
  have i4 : vp_in (i + 4) L := law_ix hL h0 h6 (by decide) (by decide)
  have i5 : vp_in (i + 5) L := law_ix hL h0 h6 (by decide) (by decide)
  refine a_aload_n X dL_law_1092 rfl ?_
  refine a_aload_n X dL_law_1093 rfl ?_
  refine a_iload_n X dL_law_1094 rfl ?_
  refine a_iconst (v := 1) X dL_law_1095 (by decide) ?_
  refine a_iadd X dL_law_1096 ?_
  refine a_sld X hX0 hsb hbb (i1) dL_law_1097 ?_
  refine a_callVx X dL_law_1098 miX7_mean lmL_123 (f_mean hI) (hI.1.2.1) rfl rfl rfl (Nat.le_of_ble_eq_true rfl) ⟨by decide, by decide, hc, hs⟩ (fun r_1098 S_1098 q_1098 => ?_)
  obtain ⟨⟨v_1098, rfl⟩, h_1098⟩ := q_1098
  refine a_pop2 X dL_law_1101 rfl ?_
  refine a_aload_n X dL_law_1102 rfl ?_
  refine a_aload_n X dL_law_1103 rfl ?_
  refine a_iload_n X dL_law_1104 rfl ?_
  refine a_iconst (v := 1) X dL_law_1105 (by decide) ?_
  refine a_iadd X dL_law_1106 ?_
  refine a_sld X hX0 hsb hbb (i1) dL_law_1107 ?_
  refine a_callVx X dL_law_1108 miX8_mean lmL_127 (m_mean h_1098) (h_1098.2.1.2.1) rfl rfl rfl (Nat.le_of_ble_eq_true rfl) ⟨by decide, by decide, hc, hs⟩ (fun r_1108 S_1108 q_1108 => ?_)
  obtain ⟨⟨v_1108, rfl⟩, h_1108⟩ := q_1108
  refine a_pop2 X dL_law_1111 rfl ?_
  refine a_goto (tgt := 1731) X dL_law_1112 (by decide) ?_
  exact law_K X hr hX0 hsb hbb h_1108 ih
set_option maxRecDepth 100000 in
set_option maxHeartbeats 8000000 in
theorem law_c27 {p : Program} {l : Launch} {e : Env} {s : State} {m : MethodId} {below : List Frame} {meth : Method} {c : Code} {G : zG} {b sb L : Nat} {xs : Nat → Int32} (X : zOK p s m #[Value.ref sb] meth c G b R_law code 4) (hr : meth.sig.returnType = ret) (hX0 : va_X sb L xs s s.heap) (hsb : sb < s.heap.size) (hbb : b = s.heap.size) (hL : L ≤ 3072) {nc ns : Nat} (hc : nc ≤ 600000) (hs : ns ≤ 7302250) {i : Int32} (h0 : 0 ≤ i.toInt) (h6 : i.toInt + 6 ≤ L) {S : zS} (hI : jI S) (ih : ∀ S' : zS, jI S' → Zw p l e room_1 s m #[Value.ref sb] below meth c G b 4 (lw_Z below #[Value.ref sb] s) nc ns 18 [some (.ref (1000000 + sb)), some (.ref 0), some (.ref 200), some (.int (i + 6))] [] S') : Zw p l e room_1 s m #[Value.ref sb] below meth c G b 4 (lw_Z below #[Value.ref sb] s) nc ns 1115 [some (.ref (1000000 + sb)), some (.ref 0), some (.ref 200), some (.int i)] [] S := by
  have i1 : vp_in (i + 1) L := law_ix hL h0 h6 (by decide) (by decide)
  have i2 : vp_in (i + 2) L := law_ix hL h0 h6 (by decide) (by decide)
  have i3 : vp_in (i + 3) L := law_ix hL h0 h6 (by decide) (by decide)
  have i4 : vp_in (i + 4) L := law_ix hL h0 h6 (by decide) (by decide)
  have i5 : vp_in (i + 5) L := law_ix hL h0 h6 (by decide) (by decide)
  refine a_aload_n X dL_law_1115 rfl ?_
  refine a_aload_n X dL_law_1116 rfl ?_
  refine a_iload_n X dL_law_1117 rfl ?_
  refine a_iconst (v := 1) X dL_law_1118 (by decide) ?_
  refine a_iadd X dL_law_1119 ?_
  refine a_sld X hX0 hsb hbb (i1) dL_law_1120 ?_
  refine a_callVx X dL_law_1121 miX7_given lmL_128 (f_given hI) (hI.1.2.1) rfl rfl rfl (Nat.le_of_ble_eq_true rfl) ⟨by decide, by decide, hc, hs⟩ (fun r_1121 S_1121 q_1121 => ?_)
  obtain ⟨⟨v_1121, rfl⟩, h_1121⟩ := q_1121
  refine a_pop X dL_law_1124 rfl ?_
  refine a_aload_n X dL_law_1125 rfl ?_
  refine a_aload_n X dL_law_1126 rfl ?_
  refine a_iload_n X dL_law_1127 rfl ?_
  refine a_iconst (v := 1) X dL_law_1128 (by decide) ?_
  refine a_iadd X dL_law_1129 ?_
  refine a_sld X hX0 hsb hbb (i1) dL_law_1130 ?_
  refine a_callVx X dL_law_1131 miX8_given lmL_131 (m_given h_1121) (h_1121.2.1.2.1) rfl rfl rfl (Nat.le_of_ble_eq_true rfl) ⟨by decide, by decide, hc, hs⟩ (fun r_1131 S_1131 q_1131 => ?_)
  obtain ⟨⟨v_1131, rfl⟩, h_1131⟩ := q_1131
  refine a_pop X dL_law_1134 rfl ?_
  refine a_goto (tgt := 1731) X dL_law_1135 (by decide) ?_
  exact law_K X hr hX0 hsb hbb h_1131 ih
set_option maxRecDepth 100000 in
set_option maxHeartbeats 8000000 in
theorem law_c28 {p : Program} {l : Launch} {e : Env} {s : State} {m : MethodId} {below : List Frame} {meth : Method} {c : Code} {G : zG} {b sb L : Nat} {xs : Nat → Int32} (X : zOK p s m #[Value.ref sb] meth c G b R_law code 4) (hr : meth.sig.returnType = ret) (hX0 : va_X sb L xs s s.heap) (hsb : sb < s.heap.size) (hbb : b = s.heap.size) (hL : L ≤ 3072) {nc ns : Nat} (hc : nc ≤ 600000) (hs : ns ≤ 7302250) {i : Int32} (h0 : 0 ≤ i.toInt) (h6 : i.toInt + 6 ≤ L) {S : zS} (hI : jI S) (ih : ∀ S' : zS, jI S' → Zw p l e room_1 s m #[Value.ref sb] below meth c G b 4 (lw_Z below #[Value.ref sb] s) nc ns 18 [some (.ref (1000000 + sb)), some (.ref 0), some (.ref 200), some (.int (i + 6))] [] S') : Zw p l e room_1 s m #[Value.ref sb] below meth c G b 4 (lw_Z below #[Value.ref sb] s) nc ns 1138 [some (.ref (1000000 + sb)), some (.ref 0), some (.ref 200), some (.int i)] [] S := by
  have i1 : vp_in (i + 1) L := law_ix hL h0 h6 (by decide) (by decide)
  have i2 : vp_in (i + 2) L := law_ix hL h0 h6 (by decide) (by decide)
  have i3 : vp_in (i + 3) L := law_ix hL h0 h6 (by decide) (by decide)
  have i4 : vp_in (i + 4) L := law_ix hL h0 h6 (by decide) (by decide)
  have i5 : vp_in (i + 5) L := law_ix hL h0 h6 (by decide) (by decide)
  refine a_aload_n X dL_law_1138 rfl ?_
  refine a_callVx X dL_law_1139 miX7_ends lmL_132 (f_ends hI) (hI.1.2.1) rfl rfl rfl (Nat.le_of_ble_eq_true rfl) ⟨by decide, by decide, hc, hs⟩ (fun r_1139 S_1139 q_1139 => ?_)
  obtain ⟨⟨v_1139, rfl⟩, h_1139⟩ := q_1139
  refine a_pop X dL_law_1142 rfl ?_
  refine a_aload_n X dL_law_1143 rfl ?_
  refine a_callVx X dL_law_1144 miX8_ends lmL_135 (m_ends h_1139) (h_1139.2.1.2.1) rfl rfl rfl (Nat.le_of_ble_eq_true rfl) ⟨by decide, by decide, hc, hs⟩ (fun r_1144 S_1144 q_1144 => ?_)
  obtain ⟨⟨v_1144, rfl⟩, h_1144⟩ := q_1144
  refine a_pop X dL_law_1147 rfl ?_
  refine a_goto (tgt := 1731) X dL_law_1148 (by decide) ?_
  exact law_K X hr hX0 hsb hbb h_1144 ih
set_option maxRecDepth 100000 in
set_option maxHeartbeats 8000000 in
theorem law_c29 {p : Program} {l : Launch} {e : Env} {s : State} {m : MethodId} {below : List Frame} {meth : Method} {c : Code} {G : zG} {b sb L : Nat} {xs : Nat → Int32} (X : zOK p s m #[Value.ref sb] meth c G b R_law code 4) (hr : meth.sig.returnType = ret) (hX0 : va_X sb L xs s s.heap) (hsb : sb < s.heap.size) (hbb : b = s.heap.size) (hL : L ≤ 3072) {nc ns : Nat} (hc : nc ≤ 600000) (hs : ns ≤ 7302250) {i : Int32} (h0 : 0 ≤ i.toInt) (h6 : i.toInt + 6 ≤ L) {S : zS} (hI : jI S) (ih : ∀ S' : zS, jI S' → Zw p l e room_1 s m #[Value.ref sb] below meth c G b 4 (lw_Z below #[Value.ref sb] s) nc ns 18 [some (.ref (1000000 + sb)), some (.ref 0), some (.ref 200), some (.int (i + 6))] [] S') : Zw p l e room_1 s m #[Value.ref sb] below meth c G b 4 (lw_Z below #[Value.ref sb] s) nc ns 1151 [some (.ref (1000000 + sb)), some (.ref 0), some (.ref 200), some (.int i)] [] S := by
  have i1 : vp_in (i + 1) L := law_ix hL h0 h6 (by decide) (by decide)
  have i2 : vp_in (i + 2) L := law_ix hL h0 h6 (by decide) (by decide)
  have i3 : vp_in (i + 3) L := law_ix hL h0 h6 (by decide) (by decide)
  have i4 : vp_in (i + 4) L := law_ix hL h0 h6 (by decide) (by decide)
  have i5 : vp_in (i + 5) L := law_ix hL h0 h6 (by decide) (by decide)
  refine a_aload_n X dL_law_1151 rfl ?_
  refine a_aload_n X dL_law_1152 rfl ?_
  refine a_iload_n X dL_law_1153 rfl ?_
  refine a_iconst (v := 1) X dL_law_1154 (by decide) ?_
  refine a_iadd X dL_law_1155 ?_
  refine a_sld X hX0 hsb hbb (i1) dL_law_1156 ?_
  refine a_aload_n X dL_law_1157 rfl ?_
  refine a_iload_n X dL_law_1158 rfl ?_
  refine a_iconst (v := 2) X dL_law_1159 (by decide) ?_
  refine a_iadd X dL_law_1160 ?_
  refine a_sld X hX0 hsb hbb (i2) dL_law_1161 ?_
  refine a_callVx X dL_law_1162 miX7_need lmL_136 (f_need hI) (hI.1.2.1) rfl rfl rfl (Nat.le_of_ble_eq_true rfl) ⟨by decide, by decide, hc, hs⟩ (fun r_1162 S_1162 q_1162 => ?_)
  obtain ⟨⟨v_1162, rfl⟩, h_1162⟩ := q_1162
  refine a_pop X dL_law_1165 rfl ?_
  refine a_aload_n X dL_law_1166 rfl ?_
  refine a_aload_n X dL_law_1167 rfl ?_
  refine a_iload_n X dL_law_1168 rfl ?_
  refine a_iconst (v := 1) X dL_law_1169 (by decide) ?_
  refine a_iadd X dL_law_1170 ?_
  refine a_sld X hX0 hsb hbb (i1) dL_law_1171 ?_
  refine a_aload_n X dL_law_1172 rfl ?_
  refine a_iload_n X dL_law_1173 rfl ?_
  refine a_iconst (v := 2) X dL_law_1174 (by decide) ?_
  refine a_iadd X dL_law_1175 ?_
  refine a_sld X hX0 hsb hbb (i2) dL_law_1176 ?_
  refine a_callVx X dL_law_1177 miX8_need lmL_139 (m_need h_1162) (h_1162.2.1.2.1) rfl rfl rfl (Nat.le_of_ble_eq_true rfl) ⟨by decide, by decide, hc, hs⟩ (fun r_1177 S_1177 q_1177 => ?_)
  obtain ⟨⟨v_1177, rfl⟩, h_1177⟩ := q_1177
  refine a_pop X dL_law_1180 rfl ?_
  refine a_goto (tgt := 1731) X dL_law_1181 (by decide) ?_
  exact law_K X hr hX0 hsb hbb h_1177 ih
set_option maxRecDepth 100000 in
set_option maxHeartbeats 8000000 in
theorem law_c30 {p : Program} {l : Launch} {e : Env} {s : State} {m : MethodId} {below : List Frame} {meth : Method} {c : Code} {G : zG} {b sb L : Nat} {xs : Nat → Int32} (X : zOK p s m #[Value.ref sb] meth c G b R_law code 4) (hr : meth.sig.returnType = ret) (hX0 : va_X sb L xs s s.heap) (hsb : sb < s.heap.size) (hbb : b = s.heap.size) (hL : L ≤ 3072) {nc ns : Nat} (hc : nc ≤ 600000) (hs : ns ≤ 7302250) {i : Int32} (h0 : 0 ≤ i.toInt) (h6 : i.toInt + 6 ≤ L) {S : zS} (hI : jI S) (ih : ∀ S' : zS, jI S' → Zw p l e room_1 s m #[Value.ref sb] below meth c G b 4 (lw_Z below #[Value.ref sb] s) nc ns 18 [some (.ref (1000000 + sb)), some (.ref 0), some (.ref 200), some (.int (i + 6))] [] S') : Zw p l e room_1 s m #[Value.ref sb] below meth c G b 4 (lw_Z below #[Value.ref sb] s) nc ns 1184 [some (.ref (1000000 + sb)), some (.ref 0), some (.ref 200), some (.int i)] [] S := by
  have i1 : vp_in (i + 1) L := law_ix hL h0 h6 (by decide) (by decide)
  have i2 : vp_in (i + 2) L := law_ix hL h0 h6 (by decide) (by decide)
  have i3 : vp_in (i + 3) L := law_ix hL h0 h6 (by decide) (by decide)
  have i4 : vp_in (i + 4) L := law_ix hL h0 h6 (by decide) (by decide)
  have i5 : vp_in (i + 5) L := law_ix hL h0 h6 (by decide) (by decide)
  refine a_aload_n X dL_law_1184 rfl ?_
  refine a_aload_n X dL_law_1185 rfl ?_
  refine a_iload_n X dL_law_1186 rfl ?_
  refine a_iconst (v := 1) X dL_law_1187 (by decide) ?_
  refine a_iadd X dL_law_1188 ?_
  refine a_sld X hX0 hsb hbb (i1) dL_law_1189 ?_
  refine a_callVx X dL_law_1190 miX7_wise lmL_140 (f_wise hI) (hI.1.2.1) rfl rfl rfl (Nat.le_of_ble_eq_true rfl) ⟨by decide, by decide, hc, hs⟩ (fun r_1190 S_1190 q_1190 => ?_)
  obtain ⟨⟨v_1190, rfl⟩, h_1190⟩ := q_1190
  refine a_pop X dL_law_1193 rfl ?_
  refine a_aload_n X dL_law_1194 rfl ?_
  refine a_aload_n X dL_law_1195 rfl ?_
  refine a_iload_n X dL_law_1196 rfl ?_
  refine a_iconst (v := 1) X dL_law_1197 (by decide) ?_
  refine a_iadd X dL_law_1198 ?_
  refine a_sld X hX0 hsb hbb (i1) dL_law_1199 ?_
  refine a_callVx X dL_law_1200 miX8_wise lmL_143 (m_wise h_1190) (h_1190.2.1.2.1) rfl rfl rfl (Nat.le_of_ble_eq_true rfl) ⟨by decide, by decide, hc, hs⟩ (fun r_1200 S_1200 q_1200 => ?_)
  obtain ⟨⟨v_1200, rfl⟩, h_1200⟩ := q_1200
  refine a_pop X dL_law_1203 rfl ?_
  refine a_goto (tgt := 1731) X dL_law_1204 (by decide) ?_
  exact law_K X hr hX0 hsb hbb h_1200 ih
set_option maxRecDepth 100000 in
set_option maxHeartbeats 8000000 in
theorem law_c31 {p : Program} {l : Launch} {e : Env} {s : State} {m : MethodId} {below : List Frame} {meth : Method} {c : Code} {G : zG} {b sb L : Nat} {xs : Nat → Int32} (X : zOK p s m #[Value.ref sb] meth c G b R_law code 4) (hr : meth.sig.returnType = ret) (hX0 : va_X sb L xs s s.heap) (hsb : sb < s.heap.size) (hbb : b = s.heap.size) (hL : L ≤ 3072) {nc ns : Nat} (hc : nc ≤ 600000) (hs : ns ≤ 7302250) {i : Int32} (h0 : 0 ≤ i.toInt) (h6 : i.toInt + 6 ≤ L) {S : zS} (hI : jI S) (ih : ∀ S' : zS, jI S' → Zw p l e room_1 s m #[Value.ref sb] below meth c G b 4 (lw_Z below #[Value.ref sb] s) nc ns 18 [some (.ref (1000000 + sb)), some (.ref 0), some (.ref 200), some (.int (i + 6))] [] S') : Zw p l e room_1 s m #[Value.ref sb] below meth c G b 4 (lw_Z below #[Value.ref sb] s) nc ns 1207 [some (.ref (1000000 + sb)), some (.ref 0), some (.ref 200), some (.int i)] [] S := by
  have i1 : vp_in (i + 1) L := law_ix hL h0 h6 (by decide) (by decide)
  have i2 : vp_in (i + 2) L := law_ix hL h0 h6 (by decide) (by decide)
  have i3 : vp_in (i + 3) L := law_ix hL h0 h6 (by decide) (by decide)
  have i4 : vp_in (i + 4) L := law_ix hL h0 h6 (by decide) (by decide)
  have i5 : vp_in (i + 5) L := law_ix hL h0 h6 (by decide) (by decide)
  refine a_aload_n X dL_law_1207 rfl ?_
  refine a_aload_n X dL_law_1208 rfl ?_
  refine a_iload_n X dL_law_1209 rfl ?_
  refine a_iconst (v := 1) X dL_law_1210 (by decide) ?_
  refine a_iadd X dL_law_1211 ?_
  refine a_sld X hX0 hsb hbb (i1) dL_law_1212 ?_
  refine a_callVx X dL_law_1213 miX7_wiseChance lmL_144 (f_wiseChance hI) (hI.1.2.1) rfl rfl rfl (Nat.le_of_ble_eq_true rfl) ⟨by decide, by decide, hc, hs⟩ (fun r_1213 S_1213 q_1213 => ?_)
  obtain ⟨⟨v_1213, rfl⟩, h_1213⟩ := q_1213
  refine a_pop2 X dL_law_1216 rfl ?_
  refine a_aload_n X dL_law_1217 rfl ?_
  refine a_aload_n X dL_law_1218 rfl ?_
  refine a_iload_n X dL_law_1219 rfl ?_
  refine a_iconst (v := 1) X dL_law_1220 (by decide) ?_
  refine a_iadd X dL_law_1221 ?_
  refine a_sld X hX0 hsb hbb (i1) dL_law_1222 ?_
  refine a_callVx X dL_law_1223 miX8_wiseChance lmL_147 (m_wiseChance h_1213) (h_1213.2.1.2.1) rfl rfl rfl (Nat.le_of_ble_eq_true rfl) ⟨by decide, by decide, hc, hs⟩ (fun r_1223 S_1223 q_1223 => ?_)
  obtain ⟨⟨v_1223, rfl⟩, h_1223⟩ := q_1223
  refine a_pop2 X dL_law_1226 rfl ?_
  refine a_goto (tgt := 1731) X dL_law_1227 (by decide) ?_
  exact law_K X hr hX0 hsb hbb h_1223 ih
set_option maxRecDepth 100000 in
set_option maxHeartbeats 8000000 in
theorem law_c32 {p : Program} {l : Launch} {e : Env} {s : State} {m : MethodId} {below : List Frame} {meth : Method} {c : Code} {G : zG} {b sb L : Nat} {xs : Nat → Int32} (X : zOK p s m #[Value.ref sb] meth c G b R_law code 4) (hr : meth.sig.returnType = ret) (hX0 : va_X sb L xs s s.heap) (hsb : sb < s.heap.size) (hbb : b = s.heap.size) (hL : L ≤ 3072) {nc ns : Nat} (hc : nc ≤ 600000) (hs : ns ≤ 7302250) {i : Int32} (h0 : 0 ≤ i.toInt) (h6 : i.toInt + 6 ≤ L) {S : zS} (hI : jI S) (ih : ∀ S' : zS, jI S' → Zw p l e room_1 s m #[Value.ref sb] below meth c G b 4 (lw_Z below #[Value.ref sb] s) nc ns 18 [some (.ref (1000000 + sb)), some (.ref 0), some (.ref 200), some (.int (i + 6))] [] S') : Zw p l e room_1 s m #[Value.ref sb] below meth c G b 4 (lw_Z below #[Value.ref sb] s) nc ns 1230 [some (.ref (1000000 + sb)), some (.ref 0), some (.ref 200), some (.int i)] [] S := by
  have i1 : vp_in (i + 1) L := law_ix hL h0 h6 (by decide) (by decide)
  have i2 : vp_in (i + 2) L := law_ix hL h0 h6 (by decide) (by decide)
  have i3 : vp_in (i + 3) L := law_ix hL h0 h6 (by decide) (by decide)
  have i4 : vp_in (i + 4) L := law_ix hL h0 h6 (by decide) (by decide)
  have i5 : vp_in (i + 5) L := law_ix hL h0 h6 (by decide) (by decide)
  refine a_aload_n X dL_law_1230 rfl ?_
  refine a_aload_n X dL_law_1231 rfl ?_
  refine a_iload_n X dL_law_1232 rfl ?_
  refine a_iconst (v := 1) X dL_law_1233 (by decide) ?_
  refine a_iadd X dL_law_1234 ?_
  refine a_sld X hX0 hsb hbb (i1) dL_law_1235 ?_
  refine a_aload_n X dL_law_1236 rfl ?_
  refine a_iload_n X dL_law_1237 rfl ?_
  refine a_iconst (v := 2) X dL_law_1238 (by decide) ?_
  refine a_iadd X dL_law_1239 ?_
  refine a_sld X hX0 hsb hbb (i2) dL_law_1240 ?_
  refine a_callVx X dL_law_1241 miX7_together lmL_148 (f_together hI) (hI.1.2.1) rfl rfl rfl (Nat.le_of_ble_eq_true rfl) ⟨by decide, by decide, hc, hs⟩ (fun r_1241 S_1241 q_1241 => ?_)
  obtain ⟨⟨v_1241, rfl⟩, h_1241⟩ := q_1241
  refine a_pop2 X dL_law_1244 rfl ?_
  refine a_aload_n X dL_law_1245 rfl ?_
  refine a_aload_n X dL_law_1246 rfl ?_
  refine a_iload_n X dL_law_1247 rfl ?_
  refine a_iconst (v := 1) X dL_law_1248 (by decide) ?_
  refine a_iadd X dL_law_1249 ?_
  refine a_sld X hX0 hsb hbb (i1) dL_law_1250 ?_
  refine a_aload_n X dL_law_1251 rfl ?_
  refine a_iload_n X dL_law_1252 rfl ?_
  refine a_iconst (v := 2) X dL_law_1253 (by decide) ?_
  refine a_iadd X dL_law_1254 ?_
  refine a_sld X hX0 hsb hbb (i2) dL_law_1255 ?_
  refine a_callVx X dL_law_1256 miX8_together lmL_151 (m_together h_1241) (h_1241.2.1.2.1) rfl rfl rfl (Nat.le_of_ble_eq_true rfl) ⟨by decide, by decide, hc, hs⟩ (fun r_1256 S_1256 q_1256 => ?_)
  obtain ⟨⟨v_1256, rfl⟩, h_1256⟩ := q_1256
  refine a_pop2 X dL_law_1259 rfl ?_
  refine a_goto (tgt := 1731) X dL_law_1260 (by decide) ?_
  exact law_K X hr hX0 hsb hbb h_1256 ih
set_option maxRecDepth 100000 in
set_option maxHeartbeats 8000000 in
theorem law_c33 {p : Program} {l : Launch} {e : Env} {s : State} {m : MethodId} {below : List Frame} {meth : Method} {c : Code} {G : zG} {b sb L : Nat} {xs : Nat → Int32} (X : zOK p s m #[Value.ref sb] meth c G b R_law code 4) (hr : meth.sig.returnType = ret) (hX0 : va_X sb L xs s s.heap) (hsb : sb < s.heap.size) (hbb : b = s.heap.size) (hL : L ≤ 3072) {nc ns : Nat} (hc : nc ≤ 600000) (hs : ns ≤ 7302250) {i : Int32} (h0 : 0 ≤ i.toInt) (h6 : i.toInt + 6 ≤ L) {S : zS} (hI : jI S) (ih : ∀ S' : zS, jI S' → Zw p l e room_1 s m #[Value.ref sb] below meth c G b 4 (lw_Z below #[Value.ref sb] s) nc ns 18 [some (.ref (1000000 + sb)), some (.ref 0), some (.ref 200), some (.int (i + 6))] [] S') : Zw p l e room_1 s m #[Value.ref sb] below meth c G b 4 (lw_Z below #[Value.ref sb] s) nc ns 1263 [some (.ref (1000000 + sb)), some (.ref 0), some (.ref 200), some (.int i)] [] S := by
  have i1 : vp_in (i + 1) L := law_ix hL h0 h6 (by decide) (by decide)
  have i2 : vp_in (i + 2) L := law_ix hL h0 h6 (by decide) (by decide)
  have i3 : vp_in (i + 3) L := law_ix hL h0 h6 (by decide) (by decide)
  have i4 : vp_in (i + 4) L := law_ix hL h0 h6 (by decide) (by decide)
  have i5 : vp_in (i + 5) L := law_ix hL h0 h6 (by decide) (by decide)
  refine a_aload_n X dL_law_1263 rfl ?_
  refine a_aload_n X dL_law_1264 rfl ?_
  refine a_iload_n X dL_law_1265 rfl ?_
  refine a_iconst (v := 1) X dL_law_1266 (by decide) ?_
  refine a_iadd X dL_law_1267 ?_
  refine a_sld X hX0 hsb hbb (i1) dL_law_1268 ?_
  refine a_callVx X dL_law_1269 miX7_apart lmL_152 (f_apart hI) (hI.1.2.1) rfl rfl rfl (Nat.le_of_ble_eq_true rfl) ⟨by decide, by decide, hc, hs⟩ (fun r_1269 S_1269 q_1269 => ?_)
  obtain ⟨⟨v_1269, rfl⟩, h_1269⟩ := q_1269
  refine a_pop2 X dL_law_1272 rfl ?_
  refine a_aload_n X dL_law_1273 rfl ?_
  refine a_aload_n X dL_law_1274 rfl ?_
  refine a_iload_n X dL_law_1275 rfl ?_
  refine a_iconst (v := 1) X dL_law_1276 (by decide) ?_
  refine a_iadd X dL_law_1277 ?_
  refine a_sld X hX0 hsb hbb (i1) dL_law_1278 ?_
  refine a_callVx X dL_law_1279 miX8_apart lmL_155 (m_apart h_1269) (h_1269.2.1.2.1) rfl rfl rfl (Nat.le_of_ble_eq_true rfl) ⟨by decide, by decide, hc, hs⟩ (fun r_1279 S_1279 q_1279 => ?_)
  obtain ⟨⟨v_1279, rfl⟩, h_1279⟩ := q_1279
  refine a_pop2 X dL_law_1282 rfl ?_
  refine a_goto (tgt := 1731) X dL_law_1283 (by decide) ?_
  exact law_K X hr hX0 hsb hbb h_1279 ih
set_option maxRecDepth 100000 in
set_option maxHeartbeats 8000000 in
theorem law_c34 {p : Program} {l : Launch} {e : Env} {s : State} {m : MethodId} {below : List Frame} {meth : Method} {c : Code} {G : zG} {b sb L : Nat} {xs : Nat → Int32} (X : zOK p s m #[Value.ref sb] meth c G b R_law code 4) (hr : meth.sig.returnType = ret) (hX0 : va_X sb L xs s s.heap) (hsb : sb < s.heap.size) (hbb : b = s.heap.size) (hL : L ≤ 3072) {nc ns : Nat} (hc : nc ≤ 600000) (hs : ns ≤ 7302250) {i : Int32} (h0 : 0 ≤ i.toInt) (h6 : i.toInt + 6 ≤ L) {S : zS} (hI : jI S) (ih : ∀ S' : zS, jI S' → Zw p l e room_1 s m #[Value.ref sb] below meth c G b 4 (lw_Z below #[Value.ref sb] s) nc ns 18 [some (.ref (1000000 + sb)), some (.ref 0), some (.ref 200), some (.int (i + 6))] [] S') : Zw p l e room_1 s m #[Value.ref sb] below meth c G b 4 (lw_Z below #[Value.ref sb] s) nc ns 1286 [some (.ref (1000000 + sb)), some (.ref 0), some (.ref 200), some (.int i)] [] S := by
  have i1 : vp_in (i + 1) L := law_ix hL h0 h6 (by decide) (by decide)
  have i2 : vp_in (i + 2) L := law_ix hL h0 h6 (by decide) (by decide)
  have i3 : vp_in (i + 3) L := law_ix hL h0 h6 (by decide) (by decide)
  have i4 : vp_in (i + 4) L := law_ix hL h0 h6 (by decide) (by decide)
  have i5 : vp_in (i + 5) L := law_ix hL h0 h6 (by decide) (by decide)
  refine a_aload_n X dL_law_1286 rfl ?_
  refine a_aload_n X dL_law_1287 rfl ?_
  refine a_iload_n X dL_law_1288 rfl ?_
  refine a_iconst (v := 1) X dL_law_1289 (by decide) ?_
  refine a_iadd X dL_law_1290 ?_
  refine a_sld X hX0 hsb hbb (i1) dL_law_1291 ?_
  refine a_callVx X dL_law_1292 miX7_likes lmL_156 (f_likes hI) (hI.1.2.1) rfl rfl rfl (Nat.le_of_ble_eq_true rfl) ⟨by decide, by decide, hc, hs⟩ (fun r_1292 S_1292 q_1292 => ?_)
  obtain ⟨⟨v_1292, rfl⟩, h_1292⟩ := q_1292
  refine a_pop X dL_law_1295 rfl ?_
  refine a_aload_n X dL_law_1296 rfl ?_
  refine a_aload_n X dL_law_1297 rfl ?_
  refine a_iload_n X dL_law_1298 rfl ?_
  refine a_iconst (v := 1) X dL_law_1299 (by decide) ?_
  refine a_iadd X dL_law_1300 ?_
  refine a_sld X hX0 hsb hbb (i1) dL_law_1301 ?_
  refine a_callVx X dL_law_1302 miX8_likes lmL_159 (m_likes h_1292) (h_1292.2.1.2.1) rfl rfl rfl (Nat.le_of_ble_eq_true rfl) ⟨by decide, by decide, hc, hs⟩ (fun r_1302 S_1302 q_1302 => ?_)
  obtain ⟨⟨v_1302, rfl⟩, h_1302⟩ := q_1302
  refine a_pop X dL_law_1305 rfl ?_
  refine a_goto (tgt := 1731) X dL_law_1306 (by decide) ?_
  exact law_K X hr hX0 hsb hbb h_1302 ih
set_option maxRecDepth 100000 in
set_option maxHeartbeats 8000000 in
theorem law_c35 {p : Program} {l : Launch} {e : Env} {s : State} {m : MethodId} {below : List Frame} {meth : Method} {c : Code} {G : zG} {b sb L : Nat} {xs : Nat → Int32} (X : zOK p s m #[Value.ref sb] meth c G b R_law code 4) (hr : meth.sig.returnType = ret) (hX0 : va_X sb L xs s s.heap) (hsb : sb < s.heap.size) (hbb : b = s.heap.size) (hL : L ≤ 3072) {nc ns : Nat} (hc : nc ≤ 600000) (hs : ns ≤ 7302250) {i : Int32} (h0 : 0 ≤ i.toInt) (h6 : i.toInt + 6 ≤ L) {S : zS} (hI : jI S) (ih : ∀ S' : zS, jI S' → Zw p l e room_1 s m #[Value.ref sb] below meth c G b 4 (lw_Z below #[Value.ref sb] s) nc ns 18 [some (.ref (1000000 + sb)), some (.ref 0), some (.ref 200), some (.int (i + 6))] [] S') : Zw p l e room_1 s m #[Value.ref sb] below meth c G b 4 (lw_Z below #[Value.ref sb] s) nc ns 1309 [some (.ref (1000000 + sb)), some (.ref 0), some (.ref 200), some (.int i)] [] S := by
  have i1 : vp_in (i + 1) L := law_ix hL h0 h6 (by decide) (by decide)
  have i2 : vp_in (i + 2) L := law_ix hL h0 h6 (by decide) (by decide)
  have i3 : vp_in (i + 3) L := law_ix hL h0 h6 (by decide) (by decide)
  have i4 : vp_in (i + 4) L := law_ix hL h0 h6 (by decide) (by decide)
  have i5 : vp_in (i + 5) L := law_ix hL h0 h6 (by decide) (by decide)
  refine a_aload_n X dL_law_1309 rfl ?_
  refine a_aload_n X dL_law_1310 rfl ?_
  refine a_iload_n X dL_law_1311 rfl ?_
  refine a_iconst (v := 1) X dL_law_1312 (by decide) ?_
  refine a_iadd X dL_law_1313 ?_
  refine a_sld X hX0 hsb hbb (i1) dL_law_1314 ?_
  refine a_aload_n X dL_law_1315 rfl ?_
  refine a_iload_n X dL_law_1316 rfl ?_
  refine a_iconst (v := 2) X dL_law_1317 (by decide) ?_
  refine a_iadd X dL_law_1318 ?_
  refine a_sld X hX0 hsb hbb (i2) dL_law_1319 ?_
  refine a_aload_n X dL_law_1320 rfl ?_
  refine a_iload_n X dL_law_1321 rfl ?_
  refine a_iconst (v := 3) X dL_law_1322 (by decide) ?_
  refine a_iadd X dL_law_1323 ?_
  refine a_sld X hX0 hsb hbb (i3) dL_law_1324 ?_
  refine a_callVx X dL_law_1325 miX7_years lmL_160 (f_years hI) (hI.1.2.1) rfl rfl rfl (Nat.le_of_ble_eq_true rfl) ⟨by decide, by decide, hc, hs⟩ (fun r_1325 S_1325 q_1325 => ?_)
  obtain ⟨⟨v_1325, rfl⟩, h_1325⟩ := q_1325
  refine a_pop X dL_law_1328 rfl ?_
  refine a_aload_n X dL_law_1329 rfl ?_
  refine a_aload_n X dL_law_1330 rfl ?_
  refine a_iload_n X dL_law_1331 rfl ?_
  refine a_iconst (v := 1) X dL_law_1332 (by decide) ?_
  refine a_iadd X dL_law_1333 ?_
  refine a_sld X hX0 hsb hbb (i1) dL_law_1334 ?_
  refine a_aload_n X dL_law_1335 rfl ?_
  refine a_iload_n X dL_law_1336 rfl ?_
  refine a_iconst (v := 2) X dL_law_1337 (by decide) ?_
  refine a_iadd X dL_law_1338 ?_
  refine a_sld X hX0 hsb hbb (i2) dL_law_1339 ?_
  refine a_aload_n X dL_law_1340 rfl ?_
  refine a_iload_n X dL_law_1341 rfl ?_
  refine a_iconst (v := 3) X dL_law_1342 (by decide) ?_
  refine a_iadd X dL_law_1343 ?_
  refine a_sld X hX0 hsb hbb (i3) dL_law_1344 ?_
  refine a_callVx X dL_law_1345 miX8_years lmL_163 (m_years h_1325) (h_1325.2.1.2.1) rfl rfl rfl (Nat.le_of_ble_eq_true rfl) ⟨by decide, by decide, hc, hs⟩ (fun r_1345 S_1345 q_1345 => ?_)
  obtain ⟨⟨v_1345, rfl⟩, h_1345⟩ := q_1345
  refine a_pop X dL_law_1348 rfl ?_
  refine a_goto (tgt := 1731) X dL_law_1349 (by decide) ?_
  exact law_K X hr hX0 hsb hbb h_1345 ih
set_option maxRecDepth 100000 in
set_option maxHeartbeats 8000000 in
theorem law_c36 {p : Program} {l : Launch} {e : Env} {s : State} {m : MethodId} {below : List Frame} {meth : Method} {c : Code} {G : zG} {b sb L : Nat} {xs : Nat → Int32} (X : zOK p s m #[Value.ref sb] meth c G b R_law code 4) (hr : meth.sig.returnType = ret) (hX0 : va_X sb L xs s s.heap) (hsb : sb < s.heap.size) (hbb : b = s.heap.size) (hL : L ≤ 3072) {nc ns : Nat} (hc : nc ≤ 600000) (hs : ns ≤ 7302250) {i : Int32} (h0 : 0 ≤ i.toInt) (h6 : i.toInt + 6 ≤ L) {S : zS} (hI : jI S) (ih : ∀ S' : zS, jI S' → Zw p l e room_1 s m #[Value.ref sb] below meth c G b 4 (lw_Z below #[Value.ref sb] s) nc ns 18 [some (.ref (1000000 + sb)), some (.ref 0), some (.ref 200), some (.int (i + 6))] [] S') : Zw p l e room_1 s m #[Value.ref sb] below meth c G b 4 (lw_Z below #[Value.ref sb] s) nc ns 1352 [some (.ref (1000000 + sb)), some (.ref 0), some (.ref 200), some (.int i)] [] S := by
  have i1 : vp_in (i + 1) L := law_ix hL h0 h6 (by decide) (by decide)
  have i2 : vp_in (i + 2) L := law_ix hL h0 h6 (by decide) (by decide)
  have i3 : vp_in (i + 3) L := law_ix hL h0 h6 (by decide) (by decide)
  have i4 : vp_in (i + 4) L := law_ix hL h0 h6 (by decide) (by decide)
  have i5 : vp_in (i + 5) L := law_ix hL h0 h6 (by decide) (by decide)
  refine a_aload_n X dL_law_1352 rfl ?_
  refine a_aload_n X dL_law_1353 rfl ?_
  refine a_iload_n X dL_law_1354 rfl ?_
  refine a_iconst (v := 1) X dL_law_1355 (by decide) ?_
  refine a_iadd X dL_law_1356 ?_
  refine a_sld X hX0 hsb hbb (i1) dL_law_1357 ?_
  refine a_aload_n X dL_law_1358 rfl ?_
  refine a_iload_n X dL_law_1359 rfl ?_
  refine a_iconst (v := 2) X dL_law_1360 (by decide) ?_
  refine a_iadd X dL_law_1361 ?_
  refine a_sld X hX0 hsb hbb (i2) dL_law_1362 ?_
  refine a_aload_n X dL_law_1363 rfl ?_
  refine a_iload_n X dL_law_1364 rfl ?_
  refine a_iconst (v := 3) X dL_law_1365 (by decide) ?_
  refine a_iadd X dL_law_1366 ?_
  refine a_sld X hX0 hsb hbb (i3) dL_law_1367 ?_
  refine a_callVx X dL_law_1368 miX7_often lmL_164 (f_often hI) (hI.1.2.1) rfl rfl rfl (Nat.le_of_ble_eq_true rfl) ⟨by decide, by decide, hc, hs⟩ (fun r_1368 S_1368 q_1368 => ?_)
  obtain ⟨⟨v_1368, rfl⟩, h_1368⟩ := q_1368
  refine a_pop X dL_law_1371 rfl ?_
  refine a_aload_n X dL_law_1372 rfl ?_
  refine a_aload_n X dL_law_1373 rfl ?_
  refine a_iload_n X dL_law_1374 rfl ?_
  refine a_iconst (v := 1) X dL_law_1375 (by decide) ?_
  refine a_iadd X dL_law_1376 ?_
  refine a_sld X hX0 hsb hbb (i1) dL_law_1377 ?_
  refine a_aload_n X dL_law_1378 rfl ?_
  refine a_iload_n X dL_law_1379 rfl ?_
  refine a_iconst (v := 2) X dL_law_1380 (by decide) ?_
  refine a_iadd X dL_law_1381 ?_
  refine a_sld X hX0 hsb hbb (i2) dL_law_1382 ?_
  refine a_aload_n X dL_law_1383 rfl ?_
  refine a_iload_n X dL_law_1384 rfl ?_
  refine a_iconst (v := 3) X dL_law_1385 (by decide) ?_
  refine a_iadd X dL_law_1386 ?_
  refine a_sld X hX0 hsb hbb (i3) dL_law_1387 ?_
  refine a_callVx X dL_law_1388 miX8_often lmL_167 (m_often h_1368) (h_1368.2.1.2.1) rfl rfl rfl (Nat.le_of_ble_eq_true rfl) ⟨by decide, by decide, hc, hs⟩ (fun r_1388 S_1388 q_1388 => ?_)
  obtain ⟨⟨v_1388, rfl⟩, h_1388⟩ := q_1388
  refine a_pop X dL_law_1391 rfl ?_
  refine a_goto (tgt := 1731) X dL_law_1392 (by decide) ?_
  exact law_K X hr hX0 hsb hbb h_1388 ih
set_option maxRecDepth 100000 in
set_option maxHeartbeats 8000000 in
theorem law_c37 {p : Program} {l : Launch} {e : Env} {s : State} {m : MethodId} {below : List Frame} {meth : Method} {c : Code} {G : zG} {b sb L : Nat} {xs : Nat → Int32} (X : zOK p s m #[Value.ref sb] meth c G b R_law code 4) (hr : meth.sig.returnType = ret) (hX0 : va_X sb L xs s s.heap) (hsb : sb < s.heap.size) (hbb : b = s.heap.size) (hL : L ≤ 3072) {nc ns : Nat} (hc : nc ≤ 600000) (hs : ns ≤ 7302250) {i : Int32} (h0 : 0 ≤ i.toInt) (h6 : i.toInt + 6 ≤ L) {S : zS} (hI : jI S) (ih : ∀ S' : zS, jI S' → Zw p l e room_1 s m #[Value.ref sb] below meth c G b 4 (lw_Z below #[Value.ref sb] s) nc ns 18 [some (.ref (1000000 + sb)), some (.ref 0), some (.ref 200), some (.int (i + 6))] [] S') : Zw p l e room_1 s m #[Value.ref sb] below meth c G b 4 (lw_Z below #[Value.ref sb] s) nc ns 1395 [some (.ref (1000000 + sb)), some (.ref 0), some (.ref 200), some (.int i)] [] S := by
  have i1 : vp_in (i + 1) L := law_ix hL h0 h6 (by decide) (by decide)
  have i2 : vp_in (i + 2) L := law_ix hL h0 h6 (by decide) (by decide)
  have i3 : vp_in (i + 3) L := law_ix hL h0 h6 (by decide) (by decide)
  have i4 : vp_in (i + 4) L := law_ix hL h0 h6 (by decide) (by decide)
  have i5 : vp_in (i + 5) L := law_ix hL h0 h6 (by decide) (by decide)
  refine a_aload_n X dL_law_1395 rfl ?_
  refine a_aload_n X dL_law_1396 rfl ?_
  refine a_iload_n X dL_law_1397 rfl ?_
  refine a_iconst (v := 1) X dL_law_1398 (by decide) ?_
  refine a_iadd X dL_law_1399 ?_
  refine a_sld X hX0 hsb hbb (i1) dL_law_1400 ?_
  refine a_aload_n X dL_law_1401 rfl ?_
  refine a_iload_n X dL_law_1402 rfl ?_
  refine a_iconst (v := 2) X dL_law_1403 (by decide) ?_
  refine a_iadd X dL_law_1404 ?_
  refine a_sld X hX0 hsb hbb (i2) dL_law_1405 ?_
  refine a_aload_n X dL_law_1406 rfl ?_
  refine a_iload_n X dL_law_1407 rfl ?_
  refine a_iconst (v := 3) X dL_law_1408 (by decide) ?_
  refine a_iadd X dL_law_1409 ?_
  refine a_sld X hX0 hsb hbb (i3) dL_law_1410 ?_
  refine a_callVx X dL_law_1411 miX7_soonest lmL_168 (f_soonest hI) (hI.1.2.1) rfl rfl rfl (Nat.le_of_ble_eq_true rfl) ⟨by decide, by decide, hc, hs⟩ (fun r_1411 S_1411 q_1411 => ?_)
  obtain ⟨⟨v_1411, rfl⟩, h_1411⟩ := q_1411
  refine a_pop X dL_law_1414 rfl ?_
  refine a_aload_n X dL_law_1415 rfl ?_
  refine a_aload_n X dL_law_1416 rfl ?_
  refine a_iload_n X dL_law_1417 rfl ?_
  refine a_iconst (v := 1) X dL_law_1418 (by decide) ?_
  refine a_iadd X dL_law_1419 ?_
  refine a_sld X hX0 hsb hbb (i1) dL_law_1420 ?_
  refine a_aload_n X dL_law_1421 rfl ?_
  refine a_iload_n X dL_law_1422 rfl ?_
  refine a_iconst (v := 2) X dL_law_1423 (by decide) ?_
  refine a_iadd X dL_law_1424 ?_
  refine a_sld X hX0 hsb hbb (i2) dL_law_1425 ?_
  refine a_aload_n X dL_law_1426 rfl ?_
  refine a_iload_n X dL_law_1427 rfl ?_
  refine a_iconst (v := 3) X dL_law_1428 (by decide) ?_
  refine a_iadd X dL_law_1429 ?_
  refine a_sld X hX0 hsb hbb (i3) dL_law_1430 ?_
  refine a_callVx X dL_law_1431 miX8_soonest lmL_171 (m_soonest h_1411) (h_1411.2.1.2.1) rfl rfl rfl (Nat.le_of_ble_eq_true rfl) ⟨by decide, by decide, hc, hs⟩ (fun r_1431 S_1431 q_1431 => ?_)
  obtain ⟨⟨v_1431, rfl⟩, h_1431⟩ := q_1431
  refine a_pop X dL_law_1434 rfl ?_
  refine a_goto (tgt := 1731) X dL_law_1435 (by decide) ?_
  exact law_K X hr hX0 hsb hbb h_1431 ih
set_option maxRecDepth 100000 in
set_option maxHeartbeats 8000000 in
theorem law_c38 {p : Program} {l : Launch} {e : Env} {s : State} {m : MethodId} {below : List Frame} {meth : Method} {c : Code} {G : zG} {b sb L : Nat} {xs : Nat → Int32} (X : zOK p s m #[Value.ref sb] meth c G b R_law code 4) (hr : meth.sig.returnType = ret) (hX0 : va_X sb L xs s s.heap) (hsb : sb < s.heap.size) (hbb : b = s.heap.size) (hL : L ≤ 3072) {nc ns : Nat} (hc : nc ≤ 600000) (hs : ns ≤ 7302250) {i : Int32} (h0 : 0 ≤ i.toInt) (h6 : i.toInt + 6 ≤ L) {S : zS} (hI : jI S) (ih : ∀ S' : zS, jI S' → Zw p l e room_1 s m #[Value.ref sb] below meth c G b 4 (lw_Z below #[Value.ref sb] s) nc ns 18 [some (.ref (1000000 + sb)), some (.ref 0), some (.ref 200), some (.int (i + 6))] [] S') : Zw p l e room_1 s m #[Value.ref sb] below meth c G b 4 (lw_Z below #[Value.ref sb] s) nc ns 1438 [some (.ref (1000000 + sb)), some (.ref 0), some (.ref 200), some (.int i)] [] S := by
  have i1 : vp_in (i + 1) L := law_ix hL h0 h6 (by decide) (by decide)
  have i2 : vp_in (i + 2) L := law_ix hL h0 h6 (by decide) (by decide)
  have i3 : vp_in (i + 3) L := law_ix hL h0 h6 (by decide) (by decide)
  have i4 : vp_in (i + 4) L := law_ix hL h0 h6 (by decide) (by decide)
  have i5 : vp_in (i + 5) L := law_ix hL h0 h6 (by decide) (by decide)
  refine a_aload_n X dL_law_1438 rfl ?_
  refine a_aload_n X dL_law_1439 rfl ?_
  refine a_iload_n X dL_law_1440 rfl ?_
  refine a_iconst (v := 1) X dL_law_1441 (by decide) ?_
  refine a_iadd X dL_law_1442 ?_
  refine a_sld X hX0 hsb hbb (i1) dL_law_1443 ?_
  refine a_callVx X dL_law_1444 miX7_draw lmL_172 (f_draw hI) (hI.1.2.1) rfl rfl rfl (Nat.le_of_ble_eq_true rfl) ⟨by decide, by decide, hc, hs⟩ (fun r_1444 S_1444 q_1444 => ?_)
  obtain ⟨e_1444, he_1444, rfl, rfl⟩ := q_1444
  refine a_pop X dL_law_1447 rfl ?_
  refine a_aload_n X dL_law_1448 rfl ?_
  refine a_aload_n X dL_law_1449 rfl ?_
  refine a_iload_n X dL_law_1450 rfl ?_
  refine a_iconst (v := 1) X dL_law_1451 (by decide) ?_
  refine a_iadd X dL_law_1452 ?_
  refine a_sld X hX0 hsb hbb (i1) dL_law_1453 ?_
  refine a_callVx X dL_law_1454 miX8_draw lmL_175 (m_draw hI he_1444) (hI.2.1.2.1) rfl rfl rfl (Nat.le_of_ble_eq_true rfl) ⟨by decide, by decide, hc, hs⟩ (fun r_1454 S_1454 q_1454 => ?_)
  obtain ⟨rfl, h_1454⟩ := q_1454
  refine a_pop X dL_law_1457 rfl ?_
  refine a_goto (tgt := 1731) X dL_law_1458 (by decide) ?_
  exact law_K X hr hX0 hsb hbb h_1454 ih
set_option maxRecDepth 100000 in
set_option maxHeartbeats 8000000 in
theorem law_c39 {p : Program} {l : Launch} {e : Env} {s : State} {m : MethodId} {below : List Frame} {meth : Method} {c : Code} {G : zG} {b sb L : Nat} {xs : Nat → Int32} (X : zOK p s m #[Value.ref sb] meth c G b R_law code 4) (hr : meth.sig.returnType = ret) (hX0 : va_X sb L xs s s.heap) (hsb : sb < s.heap.size) (hbb : b = s.heap.size) (hL : L ≤ 3072) {nc ns : Nat} (hc : nc ≤ 600000) (hs : ns ≤ 7302250) {i : Int32} (h0 : 0 ≤ i.toInt) (h6 : i.toInt + 6 ≤ L) {S : zS} (hI : jI S) (ih : ∀ S' : zS, jI S' → Zw p l e room_1 s m #[Value.ref sb] below meth c G b 4 (lw_Z below #[Value.ref sb] s) nc ns 18 [some (.ref (1000000 + sb)), some (.ref 0), some (.ref 200), some (.int (i + 6))] [] S') : Zw p l e room_1 s m #[Value.ref sb] below meth c G b 4 (lw_Z below #[Value.ref sb] s) nc ns 1461 [some (.ref (1000000 + sb)), some (.ref 0), some (.ref 200), some (.int i)] [] S := by
  have i1 : vp_in (i + 1) L := law_ix hL h0 h6 (by decide) (by decide)
  have i2 : vp_in (i + 2) L := law_ix hL h0 h6 (by decide) (by decide)
  have i3 : vp_in (i + 3) L := law_ix hL h0 h6 (by decide) (by decide)
  have i4 : vp_in (i + 4) L := law_ix hL h0 h6 (by decide) (by decide)
  have i5 : vp_in (i + 5) L := law_ix hL h0 h6 (by decide) (by decide)
  refine a_aload_n X dL_law_1461 rfl ?_
  refine a_aload_n X dL_law_1462 rfl ?_
  refine a_iload_n X dL_law_1463 rfl ?_
  refine a_iconst (v := 1) X dL_law_1464 (by decide) ?_
  refine a_iadd X dL_law_1465 ?_
  refine a_sld X hX0 hsb hbb (i1) dL_law_1466 ?_
  refine a_aload_n X dL_law_1467 rfl ?_
  refine a_iload_n X dL_law_1468 rfl ?_
  refine a_iconst (v := 2) X dL_law_1469 (by decide) ?_
  refine a_iadd X dL_law_1470 ?_
  refine a_sld X hX0 hsb hbb (i2) dL_law_1471 ?_
  refine a_callVx X dL_law_1472 miX7_points lmL_176 (f_points hI) (hI.1.2.1) rfl rfl rfl (Nat.le_of_ble_eq_true rfl) ⟨by decide, by decide, hc, hs⟩ (fun r_1472 S_1472 q_1472 => ?_)
  obtain ⟨e_1472, he_1472, rfl, rfl⟩ := q_1472
  refine a_pop X dL_law_1475 rfl ?_
  refine a_aload_n X dL_law_1476 rfl ?_
  refine a_aload_n X dL_law_1477 rfl ?_
  refine a_iload_n X dL_law_1478 rfl ?_
  refine a_iconst (v := 1) X dL_law_1479 (by decide) ?_
  refine a_iadd X dL_law_1480 ?_
  refine a_sld X hX0 hsb hbb (i1) dL_law_1481 ?_
  refine a_aload_n X dL_law_1482 rfl ?_
  refine a_iload_n X dL_law_1483 rfl ?_
  refine a_iconst (v := 2) X dL_law_1484 (by decide) ?_
  refine a_iadd X dL_law_1485 ?_
  refine a_sld X hX0 hsb hbb (i2) dL_law_1486 ?_
  refine a_callVx X dL_law_1487 miX8_points lmL_179 (m_points hI he_1472) (hI.2.1.2.1) rfl rfl rfl (Nat.le_of_ble_eq_true rfl) ⟨by decide, by decide, hc, hs⟩ (fun r_1487 S_1487 q_1487 => ?_)
  obtain ⟨rfl, h_1487⟩ := q_1487
  refine a_pop X dL_law_1490 rfl ?_
  refine a_goto (tgt := 1731) X dL_law_1491 (by decide) ?_
  exact law_K X hr hX0 hsb hbb h_1487 ih
set_option maxRecDepth 100000 in
set_option maxHeartbeats 8000000 in
theorem law_c40 {p : Program} {l : Launch} {e : Env} {s : State} {m : MethodId} {below : List Frame} {meth : Method} {c : Code} {G : zG} {b sb L : Nat} {xs : Nat → Int32} (X : zOK p s m #[Value.ref sb] meth c G b R_law code 4) (hr : meth.sig.returnType = ret) (hX0 : va_X sb L xs s s.heap) (hsb : sb < s.heap.size) (hbb : b = s.heap.size) (hL : L ≤ 3072) {nc ns : Nat} (hc : nc ≤ 600000) (hs : ns ≤ 7302250) {i : Int32} (h0 : 0 ≤ i.toInt) (h6 : i.toInt + 6 ≤ L) {S : zS} (hI : jI S) (ih : ∀ S' : zS, jI S' → Zw p l e room_1 s m #[Value.ref sb] below meth c G b 4 (lw_Z below #[Value.ref sb] s) nc ns 18 [some (.ref (1000000 + sb)), some (.ref 0), some (.ref 200), some (.int (i + 6))] [] S') : Zw p l e room_1 s m #[Value.ref sb] below meth c G b 4 (lw_Z below #[Value.ref sb] s) nc ns 1494 [some (.ref (1000000 + sb)), some (.ref 0), some (.ref 200), some (.int i)] [] S := by
  have i1 : vp_in (i + 1) L := law_ix hL h0 h6 (by decide) (by decide)
  have i2 : vp_in (i + 2) L := law_ix hL h0 h6 (by decide) (by decide)
  have i3 : vp_in (i + 3) L := law_ix hL h0 h6 (by decide) (by decide)
  have i4 : vp_in (i + 4) L := law_ix hL h0 h6 (by decide) (by decide)
  have i5 : vp_in (i + 5) L := law_ix hL h0 h6 (by decide) (by decide)
  refine a_aload_n X dL_law_1494 rfl ?_
  refine a_aload_n X dL_law_1495 rfl ?_
  refine a_iload_n X dL_law_1496 rfl ?_
  refine a_iconst (v := 1) X dL_law_1497 (by decide) ?_
  refine a_iadd X dL_law_1498 ?_
  refine a_sld X hX0 hsb hbb (i1) dL_law_1499 ?_
  refine a_aload_n X dL_law_1500 rfl ?_
  refine a_iload_n X dL_law_1501 rfl ?_
  refine a_iconst (v := 2) X dL_law_1502 (by decide) ?_
  refine a_iadd X dL_law_1503 ?_
  refine a_sld X hX0 hsb hbb (i2) dL_law_1504 ?_
  refine a_callVx X dL_law_1505 miX7_quota lmL_180 (f_quota hI) (hI.1.2.1) rfl rfl rfl (Nat.le_of_ble_eq_true rfl) ⟨by decide, by decide, hc, hs⟩ (fun r_1505 S_1505 q_1505 => ?_)
  obtain ⟨e_1505, he_1505, rfl, rfl⟩ := q_1505
  refine a_pop X dL_law_1508 rfl ?_
  refine a_aload_n X dL_law_1509 rfl ?_
  refine a_aload_n X dL_law_1510 rfl ?_
  refine a_iload_n X dL_law_1511 rfl ?_
  refine a_iconst (v := 1) X dL_law_1512 (by decide) ?_
  refine a_iadd X dL_law_1513 ?_
  refine a_sld X hX0 hsb hbb (i1) dL_law_1514 ?_
  refine a_aload_n X dL_law_1515 rfl ?_
  refine a_iload_n X dL_law_1516 rfl ?_
  refine a_iconst (v := 2) X dL_law_1517 (by decide) ?_
  refine a_iadd X dL_law_1518 ?_
  refine a_sld X hX0 hsb hbb (i2) dL_law_1519 ?_
  refine a_callVx X dL_law_1520 miX8_quota lmL_183 (m_quota hI he_1505) (hI.2.1.2.1) rfl rfl rfl (Nat.le_of_ble_eq_true rfl) ⟨by decide, by decide, hc, hs⟩ (fun r_1520 S_1520 q_1520 => ?_)
  obtain ⟨rfl, h_1520⟩ := q_1520
  refine a_pop X dL_law_1523 rfl ?_
  refine a_goto (tgt := 1731) X dL_law_1524 (by decide) ?_
  exact law_K X hr hX0 hsb hbb h_1520 ih
set_option maxRecDepth 100000 in
set_option maxHeartbeats 8000000 in
theorem law_c41 {p : Program} {l : Launch} {e : Env} {s : State} {m : MethodId} {below : List Frame} {meth : Method} {c : Code} {G : zG} {b sb L : Nat} {xs : Nat → Int32} (X : zOK p s m #[Value.ref sb] meth c G b R_law code 4) (hr : meth.sig.returnType = ret) (hX0 : va_X sb L xs s s.heap) (hsb : sb < s.heap.size) (hbb : b = s.heap.size) (hL : L ≤ 3072) {nc ns : Nat} (hc : nc ≤ 600000) (hs : ns ≤ 7302250) {i : Int32} (h0 : 0 ≤ i.toInt) (h6 : i.toInt + 6 ≤ L) {S : zS} (hI : jI S) (ih : ∀ S' : zS, jI S' → Zw p l e room_1 s m #[Value.ref sb] below meth c G b 4 (lw_Z below #[Value.ref sb] s) nc ns 18 [some (.ref (1000000 + sb)), some (.ref 0), some (.ref 200), some (.int (i + 6))] [] S') : Zw p l e room_1 s m #[Value.ref sb] below meth c G b 4 (lw_Z below #[Value.ref sb] s) nc ns 1527 [some (.ref (1000000 + sb)), some (.ref 0), some (.ref 200), some (.int i)] [] S := by
  have i1 : vp_in (i + 1) L := law_ix hL h0 h6 (by decide) (by decide)
  have i2 : vp_in (i + 2) L := law_ix hL h0 h6 (by decide) (by decide)
  have i3 : vp_in (i + 3) L := law_ix hL h0 h6 (by decide) (by decide)
  have i4 : vp_in (i + 4) L := law_ix hL h0 h6 (by decide) (by decide)
  have i5 : vp_in (i + 5) L := law_ix hL h0 h6 (by decide) (by decide)
  refine a_aload_n X dL_law_1527 rfl ?_
  refine a_aload_n X dL_law_1528 rfl ?_
  refine a_iload_n X dL_law_1529 rfl ?_
  refine a_iconst (v := 1) X dL_law_1530 (by decide) ?_
  refine a_iadd X dL_law_1531 ?_
  refine a_sld X hX0 hsb hbb (i1) dL_law_1532 ?_
  refine a_aload_n X dL_law_1533 rfl ?_
  refine a_iload_n X dL_law_1534 rfl ?_
  refine a_iconst (v := 2) X dL_law_1535 (by decide) ?_
  refine a_iadd X dL_law_1536 ?_
  refine a_sld X hX0 hsb hbb (i2) dL_law_1537 ?_
  refine a_aload_n X dL_law_1538 rfl ?_
  refine a_iload_n X dL_law_1539 rfl ?_
  refine a_iconst (v := 3) X dL_law_1540 (by decide) ?_
  refine a_iadd X dL_law_1541 ?_
  refine a_sld X hX0 hsb hbb (i3) dL_law_1542 ?_
  refine a_aload_n X dL_law_1543 rfl ?_
  refine a_iload_n X dL_law_1544 rfl ?_
  refine a_iconst (v := 4) X dL_law_1545 (by decide) ?_
  refine a_iadd X dL_law_1546 ?_
  refine a_sld X hX0 hsb hbb (i4) dL_law_1547 ?_
  refine a_callVx X dL_law_1548 miX7_choose lmL_184 (f_choose hI) (hI.1.2.1) rfl rfl rfl (Nat.le_of_ble_eq_true rfl) ⟨by decide, by decide, hc, hs⟩ (fun r_1548 S_1548 q_1548 => ?_)
  obtain ⟨e_1548, he_1548, rfl, rfl⟩ := q_1548
  refine a_pop X dL_law_1551 rfl ?_
  refine a_aload_n X dL_law_1552 rfl ?_
  refine a_aload_n X dL_law_1553 rfl ?_
  refine a_iload_n X dL_law_1554 rfl ?_
  refine a_iconst (v := 1) X dL_law_1555 (by decide) ?_
  refine a_iadd X dL_law_1556 ?_
  refine a_sld X hX0 hsb hbb (i1) dL_law_1557 ?_
  refine a_aload_n X dL_law_1558 rfl ?_
  refine a_iload_n X dL_law_1559 rfl ?_
  refine a_iconst (v := 2) X dL_law_1560 (by decide) ?_
  refine a_iadd X dL_law_1561 ?_
  refine a_sld X hX0 hsb hbb (i2) dL_law_1562 ?_
  refine a_aload_n X dL_law_1563 rfl ?_
  refine a_iload_n X dL_law_1564 rfl ?_
  refine a_iconst (v := 3) X dL_law_1565 (by decide) ?_
  refine a_iadd X dL_law_1566 ?_
  refine a_sld X hX0 hsb hbb (i3) dL_law_1567 ?_
  refine a_aload_n X dL_law_1568 rfl ?_
  refine a_iload_n X dL_law_1569 rfl ?_
  refine a_iconst (v := 4) X dL_law_1570 (by decide) ?_
  refine a_iadd X dL_law_1571 ?_
  refine a_sld X hX0 hsb hbb (i4) dL_law_1572 ?_
  refine a_callVx X dL_law_1573 miX8_choose lmL_188 (m_choose hI he_1548) (hI.2.1.2.1) rfl rfl rfl (Nat.le_of_ble_eq_true rfl) ⟨by decide, by decide, hc, hs⟩ (fun r_1573 S_1573 q_1573 => ?_)
  obtain ⟨rfl, h_1573⟩ := q_1573
  refine a_pop X dL_law_1576 rfl ?_
  refine a_goto (tgt := 1731) X dL_law_1577 (by decide) ?_
  exact law_K X hr hX0 hsb hbb h_1573 ih
set_option maxRecDepth 100000 in
set_option maxHeartbeats 8000000 in
theorem law_c42 {p : Program} {l : Launch} {e : Env} {s : State} {m : MethodId} {below : List Frame} {meth : Method} {c : Code} {G : zG} {b sb L : Nat} {xs : Nat → Int32} (X : zOK p s m #[Value.ref sb] meth c G b R_law code 4) (hr : meth.sig.returnType = ret) (hX0 : va_X sb L xs s s.heap) (hsb : sb < s.heap.size) (hbb : b = s.heap.size) (hL : L ≤ 3072) {nc ns : Nat} (hc : nc ≤ 600000) (hs : ns ≤ 7302250) {i : Int32} (h0 : 0 ≤ i.toInt) (h6 : i.toInt + 6 ≤ L) {S : zS} (hI : jI S) (ih : ∀ S' : zS, jI S' → Zw p l e room_1 s m #[Value.ref sb] below meth c G b 4 (lw_Z below #[Value.ref sb] s) nc ns 18 [some (.ref (1000000 + sb)), some (.ref 0), some (.ref 200), some (.int (i + 6))] [] S') : Zw p l e room_1 s m #[Value.ref sb] below meth c G b 4 (lw_Z below #[Value.ref sb] s) nc ns 1580 [some (.ref (1000000 + sb)), some (.ref 0), some (.ref 200), some (.int i)] [] S := by
  have i1 : vp_in (i + 1) L := law_ix hL h0 h6 (by decide) (by decide)
  have i2 : vp_in (i + 2) L := law_ix hL h0 h6 (by decide) (by decide)
  have i3 : vp_in (i + 3) L := law_ix hL h0 h6 (by decide) (by decide)
  have i4 : vp_in (i + 4) L := law_ix hL h0 h6 (by decide) (by decide)
  have i5 : vp_in (i + 5) L := law_ix hL h0 h6 (by decide) (by decide)
  refine a_aload_n X dL_law_1580 rfl ?_
  refine a_aload_n X dL_law_1581 rfl ?_
  refine a_iload_n X dL_law_1582 rfl ?_
  refine a_iconst (v := 1) X dL_law_1583 (by decide) ?_
  refine a_iadd X dL_law_1584 ?_
  refine a_sld X hX0 hsb hbb (i1) dL_law_1585 ?_
  refine a_callVx X dL_law_1586 miX7_law lmL_189 (f_law hI) (hI.1.2.1) rfl rfl rfl (Nat.le_of_ble_eq_true rfl) ⟨by decide, by decide, hc, hs⟩ (fun r_1586 S_1586 q_1586 => ?_)
  obtain ⟨e_1586, he_1586, rfl, rfl⟩ := q_1586
  refine a_pop X dL_law_1589 rfl ?_
  refine a_aload_n X dL_law_1590 rfl ?_
  refine a_aload_n X dL_law_1591 rfl ?_
  refine a_iload_n X dL_law_1592 rfl ?_
  refine a_iconst (v := 1) X dL_law_1593 (by decide) ?_
  refine a_iadd X dL_law_1594 ?_
  refine a_sld X hX0 hsb hbb (i1) dL_law_1595 ?_
  refine a_callVx X dL_law_1596 miX8_law lmL_192 (m_law hI he_1586) (hI.2.1.2.1) rfl rfl rfl (Nat.le_of_ble_eq_true rfl) ⟨by decide, by decide, hc, hs⟩ (fun r_1596 S_1596 q_1596 => ?_)
  obtain ⟨rfl, h_1596⟩ := q_1596
  refine a_pop X dL_law_1599 rfl ?_
  refine a_goto (tgt := 1731) X dL_law_1600 (by decide) ?_
  exact law_K X hr hX0 hsb hbb h_1596 ih
set_option maxRecDepth 100000 in
set_option maxHeartbeats 8000000 in
theorem law_c43 {p : Program} {l : Launch} {e : Env} {s : State} {m : MethodId} {below : List Frame} {meth : Method} {c : Code} {G : zG} {b sb L : Nat} {xs : Nat → Int32} (X : zOK p s m #[Value.ref sb] meth c G b R_law code 4) (hr : meth.sig.returnType = ret) (hX0 : va_X sb L xs s s.heap) (hsb : sb < s.heap.size) (hbb : b = s.heap.size) (hL : L ≤ 3072) {nc ns : Nat} (hc : nc ≤ 600000) (hs : ns ≤ 7302250) {i : Int32} (h0 : 0 ≤ i.toInt) (h6 : i.toInt + 6 ≤ L) {S : zS} (hI : jI S) (ih : ∀ S' : zS, jI S' → Zw p l e room_1 s m #[Value.ref sb] below meth c G b 4 (lw_Z below #[Value.ref sb] s) nc ns 18 [some (.ref (1000000 + sb)), some (.ref 0), some (.ref 200), some (.int (i + 6))] [] S') : Zw p l e room_1 s m #[Value.ref sb] below meth c G b 4 (lw_Z below #[Value.ref sb] s) nc ns 1603 [some (.ref (1000000 + sb)), some (.ref 0), some (.ref 200), some (.int i)] [] S := by
  have i1 : vp_in (i + 1) L := law_ix hL h0 h6 (by decide) (by decide)
  have i2 : vp_in (i + 2) L := law_ix hL h0 h6 (by decide) (by decide)
  have i3 : vp_in (i + 3) L := law_ix hL h0 h6 (by decide) (by decide)
  have i4 : vp_in (i + 4) L := law_ix hL h0 h6 (by decide) (by decide)
  have i5 : vp_in (i + 5) L := law_ix hL h0 h6 (by decide) (by decide)
  refine a_aload_n X dL_law_1603 rfl ?_
  refine a_aload_n X dL_law_1604 rfl ?_
  refine a_iload_n X dL_law_1605 rfl ?_
  refine a_iconst (v := 1) X dL_law_1606 (by decide) ?_
  refine a_iadd X dL_law_1607 ?_
  refine a_sld X hX0 hsb hbb (i1) dL_law_1608 ?_
  refine a_callVx X dL_law_1609 miX7_prefer lmL_193 (f_prefer hI) (hI.1.2.1) rfl rfl rfl (Nat.le_of_ble_eq_true rfl) ⟨by decide, by decide, hc, hs⟩ (fun r_1609 S_1609 q_1609 => ?_)
  obtain ⟨e_1609, he_1609, rfl, rfl⟩ := q_1609
  refine a_pop X dL_law_1612 rfl ?_
  refine a_aload_n X dL_law_1613 rfl ?_
  refine a_aload_n X dL_law_1614 rfl ?_
  refine a_iload_n X dL_law_1615 rfl ?_
  refine a_iconst (v := 1) X dL_law_1616 (by decide) ?_
  refine a_iadd X dL_law_1617 ?_
  refine a_sld X hX0 hsb hbb (i1) dL_law_1618 ?_
  refine a_callVx X dL_law_1619 miX8_prefer lmL_196 (m_prefer hI he_1609) (hI.2.1.2.1) rfl rfl rfl (Nat.le_of_ble_eq_true rfl) ⟨by decide, by decide, hc, hs⟩ (fun r_1619 S_1619 q_1619 => ?_)
  obtain ⟨rfl, h_1619⟩ := q_1619
  refine a_pop X dL_law_1622 rfl ?_
  refine a_goto (tgt := 1731) X dL_law_1623 (by decide) ?_
  exact law_K X hr hX0 hsb hbb h_1619 ih
set_option maxRecDepth 100000 in
set_option maxHeartbeats 8000000 in
theorem law_c44 {p : Program} {l : Launch} {e : Env} {s : State} {m : MethodId} {below : List Frame} {meth : Method} {c : Code} {G : zG} {b sb L : Nat} {xs : Nat → Int32} (X : zOK p s m #[Value.ref sb] meth c G b R_law code 4) (hr : meth.sig.returnType = ret) (hX0 : va_X sb L xs s s.heap) (hsb : sb < s.heap.size) (hbb : b = s.heap.size) (hL : L ≤ 3072) {nc ns : Nat} (hc : nc ≤ 600000) (hs : ns ≤ 7302250) {i : Int32} (h0 : 0 ≤ i.toInt) (h6 : i.toInt + 6 ≤ L) {S : zS} (hI : jI S) (ih : ∀ S' : zS, jI S' → Zw p l e room_1 s m #[Value.ref sb] below meth c G b 4 (lw_Z below #[Value.ref sb] s) nc ns 18 [some (.ref (1000000 + sb)), some (.ref 0), some (.ref 200), some (.int (i + 6))] [] S') : Zw p l e room_1 s m #[Value.ref sb] below meth c G b 4 (lw_Z below #[Value.ref sb] s) nc ns 1626 [some (.ref (1000000 + sb)), some (.ref 0), some (.ref 200), some (.int i)] [] S := by
  have i1 : vp_in (i + 1) L := law_ix hL h0 h6 (by decide) (by decide)
  have i2 : vp_in (i + 2) L := law_ix hL h0 h6 (by decide) (by decide)
  have i3 : vp_in (i + 3) L := law_ix hL h0 h6 (by decide) (by decide)
  have i4 : vp_in (i + 4) L := law_ix hL h0 h6 (by decide) (by decide)
  have i5 : vp_in (i + 5) L := law_ix hL h0 h6 (by decide) (by decide)
  refine a_aload_n X dL_law_1626 rfl ?_
  refine a_aload_n X dL_law_1627 rfl ?_
  refine a_iload_n X dL_law_1628 rfl ?_
  refine a_iconst (v := 1) X dL_law_1629 (by decide) ?_
  refine a_iadd X dL_law_1630 ?_
  refine a_sld X hX0 hsb hbb (i1) dL_law_1631 ?_
  refine a_callVx X dL_law_1632 miX7_guests lmL_197 (f_guests hI) (hI.1.2.1) rfl rfl rfl (Nat.le_of_ble_eq_true rfl) ⟨by decide, by decide, hc, hs⟩ (fun r_1632 S_1632 q_1632 => ?_)
  obtain ⟨e_1632, he_1632, rfl, rfl⟩ := q_1632
  refine a_pop X dL_law_1635 rfl ?_
  refine a_aload_n X dL_law_1636 rfl ?_
  refine a_aload_n X dL_law_1637 rfl ?_
  refine a_iload_n X dL_law_1638 rfl ?_
  refine a_iconst (v := 1) X dL_law_1639 (by decide) ?_
  refine a_iadd X dL_law_1640 ?_
  refine a_sld X hX0 hsb hbb (i1) dL_law_1641 ?_
  refine a_callVx X dL_law_1642 miX8_guests lmL_200 (m_guests hI he_1632) (hI.2.1.2.1) rfl rfl rfl (Nat.le_of_ble_eq_true rfl) ⟨by decide, by decide, hc, hs⟩ (fun r_1642 S_1642 q_1642 => ?_)
  obtain ⟨rfl, h_1642⟩ := q_1642
  refine a_pop X dL_law_1645 rfl ?_
  refine a_goto (tgt := 1731) X dL_law_1646 (by decide) ?_
  exact law_K X hr hX0 hsb hbb h_1642 ih
set_option maxRecDepth 100000 in
set_option maxHeartbeats 8000000 in
theorem law_c45 {p : Program} {l : Launch} {e : Env} {s : State} {m : MethodId} {below : List Frame} {meth : Method} {c : Code} {G : zG} {b sb L : Nat} {xs : Nat → Int32} (X : zOK p s m #[Value.ref sb] meth c G b R_law code 4) (hr : meth.sig.returnType = ret) (hX0 : va_X sb L xs s s.heap) (hsb : sb < s.heap.size) (hbb : b = s.heap.size) (hL : L ≤ 3072) {nc ns : Nat} (hc : nc ≤ 600000) (hs : ns ≤ 7302250) {i : Int32} (h0 : 0 ≤ i.toInt) (h6 : i.toInt + 6 ≤ L) {S : zS} (hI : jI S) (ih : ∀ S' : zS, jI S' → Zw p l e room_1 s m #[Value.ref sb] below meth c G b 4 (lw_Z below #[Value.ref sb] s) nc ns 18 [some (.ref (1000000 + sb)), some (.ref 0), some (.ref 200), some (.int (i + 6))] [] S') : Zw p l e room_1 s m #[Value.ref sb] below meth c G b 4 (lw_Z below #[Value.ref sb] s) nc ns 1649 [some (.ref (1000000 + sb)), some (.ref 0), some (.ref 200), some (.int i)] [] S := by
  have i1 : vp_in (i + 1) L := law_ix hL h0 h6 (by decide) (by decide)
  have i2 : vp_in (i + 2) L := law_ix hL h0 h6 (by decide) (by decide)
  have i3 : vp_in (i + 3) L := law_ix hL h0 h6 (by decide) (by decide)
  have i4 : vp_in (i + 4) L := law_ix hL h0 h6 (by decide) (by decide)
  have i5 : vp_in (i + 5) L := law_ix hL h0 h6 (by decide) (by decide)
  refine a_aload_n X dL_law_1649 rfl ?_
  refine a_aload_n X dL_law_1650 rfl ?_
  refine a_iload_n X dL_law_1651 rfl ?_
  refine a_iconst (v := 1) X dL_law_1652 (by decide) ?_
  refine a_iadd X dL_law_1653 ?_
  refine a_sld X hX0 hsb hbb (i1) dL_law_1654 ?_
  refine a_callVx X dL_law_1655 miX7_split lmL_201 (f_split hI) (hI.1.2.1) rfl rfl rfl (Nat.le_of_ble_eq_true rfl) ⟨by decide, by decide, hc, hs⟩ (fun r_1655 S_1655 q_1655 => ?_)
  obtain ⟨e_1655, he_1655, rfl, rfl⟩ := q_1655
  refine a_pop X dL_law_1658 rfl ?_
  refine a_aload_n X dL_law_1659 rfl ?_
  refine a_aload_n X dL_law_1660 rfl ?_
  refine a_iload_n X dL_law_1661 rfl ?_
  refine a_iconst (v := 1) X dL_law_1662 (by decide) ?_
  refine a_iadd X dL_law_1663 ?_
  refine a_sld X hX0 hsb hbb (i1) dL_law_1664 ?_
  refine a_callVx X dL_law_1665 miX8_split lmL_204 (m_split hI he_1655) (hI.2.1.2.1) rfl rfl rfl (Nat.le_of_ble_eq_true rfl) ⟨by decide, by decide, hc, hs⟩ (fun r_1665 S_1665 q_1665 => ?_)
  obtain ⟨rfl, h_1665⟩ := q_1665
  refine a_pop X dL_law_1668 rfl ?_
  refine a_goto (tgt := 1731) X dL_law_1669 (by decide) ?_
  exact law_K X hr hX0 hsb hbb h_1665 ih
set_option maxRecDepth 100000 in
set_option maxHeartbeats 8000000 in
theorem law_c46 {p : Program} {l : Launch} {e : Env} {s : State} {m : MethodId} {below : List Frame} {meth : Method} {c : Code} {G : zG} {b sb L : Nat} {xs : Nat → Int32} (X : zOK p s m #[Value.ref sb] meth c G b R_law code 4) (hr : meth.sig.returnType = ret) (hX0 : va_X sb L xs s s.heap) (hsb : sb < s.heap.size) (hbb : b = s.heap.size) (hL : L ≤ 3072) {nc ns : Nat} (hc : nc ≤ 600000) (hs : ns ≤ 7302250) {i : Int32} (h0 : 0 ≤ i.toInt) (h6 : i.toInt + 6 ≤ L) {S : zS} (hI : jI S) (ih : ∀ S' : zS, jI S' → Zw p l e room_1 s m #[Value.ref sb] below meth c G b 4 (lw_Z below #[Value.ref sb] s) nc ns 18 [some (.ref (1000000 + sb)), some (.ref 0), some (.ref 200), some (.int (i + 6))] [] S') : Zw p l e room_1 s m #[Value.ref sb] below meth c G b 4 (lw_Z below #[Value.ref sb] s) nc ns 1672 [some (.ref (1000000 + sb)), some (.ref 0), some (.ref 200), some (.int i)] [] S := by
  have i1 : vp_in (i + 1) L := law_ix hL h0 h6 (by decide) (by decide)
  have i2 : vp_in (i + 2) L := law_ix hL h0 h6 (by decide) (by decide)
  have i3 : vp_in (i + 3) L := law_ix hL h0 h6 (by decide) (by decide)
  have i4 : vp_in (i + 4) L := law_ix hL h0 h6 (by decide) (by decide)
  have i5 : vp_in (i + 5) L := law_ix hL h0 h6 (by decide) (by decide)
  refine a_aload_n X dL_law_1672 rfl ?_
  refine a_callVx X dL_law_1673 miX7_undo lmL_205 (f_undo hI) (hI.1.2.1) rfl rfl rfl (Nat.le_of_ble_eq_true rfl) ⟨by decide, by decide, hc, hs⟩ (fun r_1673 S_1673 q_1673 => ?_)
  obtain ⟨e_1673, he_1673, rfl, rfl⟩ := q_1673
  refine a_pop X dL_law_1676 rfl ?_
  refine a_aload_n X dL_law_1677 rfl ?_
  refine a_callVx X dL_law_1678 miX8_undo lmL_208 (m_undo hI he_1673) (hI.2.1.2.1) rfl rfl rfl (Nat.le_of_ble_eq_true rfl) ⟨by decide, by decide, hc, hs⟩ (fun r_1678 S_1678 q_1678 => ?_)
  obtain ⟨rfl, h_1678⟩ := q_1678
  refine a_pop X dL_law_1681 rfl ?_
  refine a_goto (tgt := 1731) X dL_law_1682 (by decide) ?_
  exact law_K X hr hX0 hsb hbb h_1678 ih
set_option maxRecDepth 100000 in
set_option maxHeartbeats 8000000 in
theorem law_c47 {p : Program} {l : Launch} {e : Env} {s : State} {m : MethodId} {below : List Frame} {meth : Method} {c : Code} {G : zG} {b sb L : Nat} {xs : Nat → Int32} (X : zOK p s m #[Value.ref sb] meth c G b R_law code 4) (hr : meth.sig.returnType = ret) (hX0 : va_X sb L xs s s.heap) (hsb : sb < s.heap.size) (hbb : b = s.heap.size) (hL : L ≤ 3072) {nc ns : Nat} (hc : nc ≤ 600000) (hs : ns ≤ 7302250) {i : Int32} (h0 : 0 ≤ i.toInt) (h6 : i.toInt + 6 ≤ L) {S : zS} (hI : jI S) (ih : ∀ S' : zS, jI S' → Zw p l e room_1 s m #[Value.ref sb] below meth c G b 4 (lw_Z below #[Value.ref sb] s) nc ns 18 [some (.ref (1000000 + sb)), some (.ref 0), some (.ref 200), some (.int (i + 6))] [] S') : Zw p l e room_1 s m #[Value.ref sb] below meth c G b 4 (lw_Z below #[Value.ref sb] s) nc ns 1685 [some (.ref (1000000 + sb)), some (.ref 0), some (.ref 200), some (.int i)] [] S := by
  have i1 : vp_in (i + 1) L := law_ix hL h0 h6 (by decide) (by decide)
  have i2 : vp_in (i + 2) L := law_ix hL h0 h6 (by decide) (by decide)
  have i3 : vp_in (i + 3) L := law_ix hL h0 h6 (by decide) (by decide)
  have i4 : vp_in (i + 4) L := law_ix hL h0 h6 (by decide) (by decide)
  have i5 : vp_in (i + 5) L := law_ix hL h0 h6 (by decide) (by decide)
  refine a_aload_n X dL_law_1685 rfl ?_
  refine a_aload_n X dL_law_1686 rfl ?_
  refine a_iload_n X dL_law_1687 rfl ?_
  refine a_iconst (v := 1) X dL_law_1688 (by decide) ?_
  refine a_iadd X dL_law_1689 ?_
  refine a_sld X hX0 hsb hbb (i1) dL_law_1690 ?_
  refine a_callVx X dL_law_1691 miX7_print lmL_209 (f_print hI) (hI.1.2.1) rfl rfl rfl (Nat.le_of_ble_eq_true rfl) ⟨by decide, by decide, hc, hs⟩ (fun r_1691 S_1691 q_1691 => ?_)
  obtain ⟨⟨v_1691, rfl⟩, h_1691⟩ := q_1691
  refine a_pop X dL_law_1694 rfl ?_
  refine a_aload_n X dL_law_1695 rfl ?_
  refine a_aload_n X dL_law_1696 rfl ?_
  refine a_iload_n X dL_law_1697 rfl ?_
  refine a_iconst (v := 1) X dL_law_1698 (by decide) ?_
  refine a_iadd X dL_law_1699 ?_
  refine a_sld X hX0 hsb hbb (i1) dL_law_1700 ?_
  refine a_callVx X dL_law_1701 miX8_print lmL_212 (m_print h_1691) (h_1691.2.1.2.1) rfl rfl rfl (Nat.le_of_ble_eq_true rfl) ⟨by decide, by decide, hc, hs⟩ (fun r_1701 S_1701 q_1701 => ?_)
  obtain ⟨⟨v_1701, rfl⟩, h_1701⟩ := q_1701
  refine a_pop X dL_law_1704 rfl ?_
  refine a_goto (tgt := 1731) X dL_law_1705 (by decide) ?_
  exact law_K X hr hX0 hsb hbb h_1701 ih
set_option maxRecDepth 100000 in
set_option maxHeartbeats 8000000 in
theorem law_c48 {p : Program} {l : Launch} {e : Env} {s : State} {m : MethodId} {below : List Frame} {meth : Method} {c : Code} {G : zG} {b sb L : Nat} {xs : Nat → Int32} (X : zOK p s m #[Value.ref sb] meth c G b R_law code 4) (hr : meth.sig.returnType = ret) (hX0 : va_X sb L xs s s.heap) (hsb : sb < s.heap.size) (hbb : b = s.heap.size) (hL : L ≤ 3072) {nc ns : Nat} (hc : nc ≤ 600000) (hs : ns ≤ 7302250) {i : Int32} (h0 : 0 ≤ i.toInt) (h6 : i.toInt + 6 ≤ L) {S : zS} (hI : jI S) (ih : ∀ S' : zS, jI S' → Zw p l e room_1 s m #[Value.ref sb] below meth c G b 4 (lw_Z below #[Value.ref sb] s) nc ns 18 [some (.ref (1000000 + sb)), some (.ref 0), some (.ref 200), some (.int (i + 6))] [] S') : Zw p l e room_1 s m #[Value.ref sb] below meth c G b 4 (lw_Z below #[Value.ref sb] s) nc ns 1708 [some (.ref (1000000 + sb)), some (.ref 0), some (.ref 200), some (.int i)] [] S := by
  have i1 : vp_in (i + 1) L := law_ix hL h0 h6 (by decide) (by decide)
  have i2 : vp_in (i + 2) L := law_ix hL h0 h6 (by decide) (by decide)
  have i3 : vp_in (i + 3) L := law_ix hL h0 h6 (by decide) (by decide)
  have i4 : vp_in (i + 4) L := law_ix hL h0 h6 (by decide) (by decide)
  have i5 : vp_in (i + 5) L := law_ix hL h0 h6 (by decide) (by decide)
  refine a_aload_n X dL_law_1708 rfl ?_
  refine a_aload_n X dL_law_1709 rfl ?_
  refine a_iload_n X dL_law_1710 rfl ?_
  refine a_iconst (v := 1) X dL_law_1711 (by decide) ?_
  refine a_iadd X dL_law_1712 ?_
  refine a_sld X hX0 hsb hbb (i1) dL_law_1713 ?_
  refine a_callVx X dL_law_1714 miX7_out lmL_213 (f_out hI) (hI.1.2.1) rfl rfl rfl (Nat.le_of_ble_eq_true rfl) ⟨by decide, by decide, hc, hs⟩ (fun r_1714 S_1714 q_1714 => ?_)
  obtain ⟨⟨v_1714, rfl⟩, h_1714⟩ := q_1714
  refine a_pop X dL_law_1717 rfl ?_
  refine a_aload_n X dL_law_1718 rfl ?_
  refine a_aload_n X dL_law_1719 rfl ?_
  refine a_iload_n X dL_law_1720 rfl ?_
  refine a_iconst (v := 1) X dL_law_1721 (by decide) ?_
  refine a_iadd X dL_law_1722 ?_
  refine a_sld X hX0 hsb hbb (i1) dL_law_1723 ?_
  refine a_callVx X dL_law_1724 miX8_out lmL_216 (m_out h_1714) (h_1714.2.1.2.1) rfl rfl rfl (Nat.le_of_ble_eq_true rfl) ⟨by decide, by decide, hc, hs⟩ (fun r_1724 S_1724 q_1724 => ?_)
  obtain ⟨⟨v_1724, rfl⟩, h_1724⟩ := q_1724
  refine a_pop X dL_law_1727 rfl ?_
  refine a_goto (tgt := 1731) X dL_law_1728 (by decide) ?_
  exact law_K X hr hX0 hsb hbb h_1724 ih
