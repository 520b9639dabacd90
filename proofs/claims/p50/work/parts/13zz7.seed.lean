/-! the result of a seed, both sides, and what reads it -/
theorem t_ansN {C P : Nat} {A B : zMt} {N : zNt} {x y : Int32} (h : x = y) : two (zB (D_X7_answer C x A) fun e => some (e.1, e.2)) (zB (D_X8_gives P y B) fun e => some (e.1, e.2, N)) (fun a b => a.1 = b.1) :=
  two.l (e := (x, zu A C 0 (0 : Int32))) rfl (two.r (e := (y, zu (zu B P 6 (0 : Int32)) P 12 (0 : Int32))) rfl (two.mk h))
theorem t_rfsN {C P : Nat} {A B : zMt} {N : zNt} {v v' : Int32} : two (zB (D_X7_refuse C v A) fun e => some (e.1, e.2)) (zB (D_X8_refuse P v' B) fun e => some (e.1, e.2, N)) (fun a b => a.1 = b.1) :=
  two.l (e := ((-1 : Int32), zu A C 0 v)) rfl (two.r (e := ((-1 : Int32), zu (zu B P 6 (0 : Int32)) P 12 v')) rfl (two.mk rfl))
def sdR (C P : Nat) (T A B : zMt) (n U : Nat) (l : Nat → Nat) (s : zMt) : Prop := gP T n U ∧ (∀ i j, i < 13 → A (C + 91 + i) j = T i j) ∧ mP P B T n U ∧ lnO n n (A (C + 105)) (B (P + 18)) l ∧ rC (C + 104) A s n U ∧ rM P B s n U ∧ okS T s n U
theorem t_seed {C P U H G K : Nat} {A B : zMt} {N : zNt} {r g : Nat → Int32} {seed : Int32} (w : eqS C P A B r g U H G K) (hs : 0 ≤ seed.toInt) : two (D_X5_bySeed (C + 104) (C + 91) seed A) (D_X8_laysResult P seed B N) (fun A' b => ∃ n l, n = fr r H + G ∧ gH (tP (C + 91) A) n H ∧ sdR C P (tP (C + 91) A) A' b.1 n U l (rs (tP (C + 91) A) 10 U n l) ∧ (∀ i j, ¬ (C + 105 ≤ i ∧ i ≤ C + 111) → A' i j = A i j) ∧ (∀ i j, ¬ (i = P ∧ j = 33) → ¬ (P + 11 ≤ i ∧ i ≤ P + 22) → b.1 i j = B i j)) := by
  obtain ⟨n, B1, hn, l1, l2, l3, l4, l5⟩ := t_laid w
  refine (t_result (Q := C + 91) (S := C + 104) (A := A) (N := N) (seed := seed) l2 (fun _ _ _ => rfl) (Or.inr (by omega)) l1 l4 hs).imp (fun A' b hb => ?_)
  obtain ⟨⟨l, hl, hC, hM⟩, hm2, k1, k2, k3⟩ := hb
  exact ⟨n, l, hn, l3, ⟨l2, fun i j hi => k1 _ _ (by omega), hm2, hl, hC, hM, rs_ok l2 (fun k hk => (hl.1 k hk).1)⟩, fun i j h => k1 i j (by omega), fun i j h1 h2 => (k2 i j (by omega)).trans (l5 i j h1 (by omega))⟩
theorem t_order13 {C P : Nat} {A B : zMt} {N : zNt} {v0 v1 : Int32} (w0 : eqE C P A B) (_hJ : jJ P B) : two (D_X7_order C v0 v1 A) (D_X8_order P v0 v1 B N) (fun a b => a.1 = b.1) := by
  obtain ⟨r, g, U, H, G, K, w⟩ := w0
  unfold D_X7_order D_X8_order
  rcases t_isS (v := v0) with ⟨e1, e2, hs, hs2⟩ | ⟨e1, e2⟩
  · rw [zB_s e1, zB_s e2, if_neg n10, if_neg n10]
    refine two.ite Iff.rfl (fun hge => ?_) (fun _ => t_rfsN)
    have hge2 := Int32.le_iff_toInt_le.mp hge
    rw [show (0 : Int32).toInt = 0 by decide] at hge2
    have hk : v1 = nI v1.toInt.toNat := z_toN hge2
    have hlt := Int32.toInt_lt v1
    have hkk : v1.toInt.toNat < 2147483648 := by omega
    generalize v1.toInt.toNat = k at hk hkk
    subst hk
    obtain ⟨n, B1, hn, l1, l2, l3, l4, l5⟩ := t_laid w
    have hn10 := l2.1
    have e91 : A (C + 91) 1 = nI n := l2.2.2.1
    obtain ⟨A', ea, b, eb, ⟨l, hl⟩, k1, k2, k3⟩ := t_order (Q := C + 91) (S := C + 104) (A := A) (N := N) (seed := v0) l2 rfl rfl (fun _ _ => rfl) (Or.inr (by omega)) l1 l4 hs
    rw [e91]
    refine two.r eb ?_
    rw [k2 _ _ (by omega), l4.1]
    by_cases q : k < n
    · rw [if_pos (by exact (nI_ltI (by omega) (by omega)).mpr q), if_neg (by intro z; exact absurd ((nI_leI (by omega) (by omega)).mp z) (by omega))]
      refine two.l ea (two.ir (vp_in_nI (by omega) (by decide)) ?_)
      rw [zrd_nI (show k < 10 by omega) (by decide), nI_clamp (by omega)]
      obtain ⟨o1, o2, o3⟩ := hl.1 k q
      exact t_ansN (show A' (C + 105) k = b.1 (P + 18) k from o2.trans o3.symm)
    · rw [if_neg (by intro z; exact q ((nI_ltI (by omega) (by omega)).mp z)), if_pos (by exact (nI_leI (by omega) (by omega)).mpr (by omega))]
      exact t_rfsN
  · rw [zB_s e1, zB_s e2, if_pos rfl, if_pos rfl]
    exact t_rfsN
theorem t_drawn {C P : Nat} {A B : zMt} {N : zNt} {v0 v1 : Int32} (w0 : eqE C P A B) (_hJ : jJ P B) : two (D_X7_drawn C v0 v1 A) (D_X8_drawn P v0 v1 B N) (fun a b => a.1 = b.1) := by
  obtain ⟨r, g, U, H, G, K, w⟩ := w0
  unfold D_X7_drawn D_X8_drawn
  rcases t_isS (v := v0) with ⟨e1, e2, hs, hs2⟩ | ⟨e1, e2⟩
  · rw [zB_s e1, zB_s e2, if_neg n10, if_neg n10]
    obtain ⟨n, B1, hn, l1, l2, l3, l4, l5, hA⟩ := t_isA (v := v1) w
    have hn10 := l2.1
    rcases hA with ⟨f1, f2, a, ha, hv⟩ | ⟨f1, f2⟩
    · subst hv
      have w' : eqS C P A B1 r g U H G K := w.k (fun _ _ _ _ => rfl) (fun i j h => l5 i j (by omega) (by omega))
      rw [zB_s f1, zB_s f2, if_neg n10, if_neg n10]
      refine two.bind (t_seed w' hs) (fun A' b hb => ?_)
      obtain ⟨m, l, hm, h3, ⟨s1, s2, s3, s4, s5, s6, s7⟩, k1, k2⟩ := hb
      have : m = n := hm.trans hn.symm
      subst this
      have o1 : A' (C + 106) a = b.1 (P + 19) a := (s5.1 a ha).1.trans (s6.1 a ha).1.symm
      refine two.ir (vp_in_nI (by omega) (by decide)) ?_
      rw [zrd_nI (show a < 10 by omega) (by decide), nI_clamp (by omega), o1]
      exact two.ite Iff.rfl (fun _ => t_rfsN) (fun _ => two.ir (vp_in_nI (by omega) (by decide)) (t_ansN rfl))
    · rw [zB_s f1, zB_s f2, if_pos rfl, if_pos rfl]
      exact t_rfsN
  · rw [zB_s e1, zB_s e2, if_pos rfl, if_pos rfl]
    exact t_rfsN
theorem t_round {C P : Nat} {A B : zMt} {N : zNt} {v0 v1 : Int32} (w0 : eqE C P A B) (_hJ : jJ P B) : two (D_X7_round C v0 v1 A) (D_X8_round P v0 v1 B N) (fun a b => a.1 = b.1) := by
  obtain ⟨r, g, U, H, G, K, w⟩ := w0
  unfold D_X7_round D_X8_round
  rcases t_isS (v := v0) with ⟨e1, e2, hs, hs2⟩ | ⟨e1, e2⟩
  · rw [zB_s e1, zB_s e2, if_neg n10, if_neg n10]
    obtain ⟨n, B1, hn, l1, l2, l3, l4, l5, hA⟩ := t_isA (v := v1) w
    have hn10 := l2.1
    rcases hA with ⟨f1, f2, a, ha, hv⟩ | ⟨f1, f2⟩
    · subst hv
      have w' : eqS C P A B1 r g U H G K := w.k (fun _ _ _ _ => rfl) (fun i j h => l5 i j (by omega) (by omega))
      rw [zB_s f1, zB_s f2, if_neg n10, if_neg n10]
      refine two.bind (t_seed w' hs) (fun A' b hb => ?_)
      obtain ⟨m, l, hm, h3, ⟨s1, s2, s3, s4, s5, s6, s7⟩, k1, k2⟩ := hb
      have : m = n := hm.trans hn.symm
      subst this
      have o1 : A' (C + 106) a = b.1 (P + 19) a := (s5.1 a ha).1.trans (s6.1 a ha).1.symm
      have o2 : A' (C + 107) a = b.1 (P + 20) a := (s5.1 a ha).2.trans (s6.1 a ha).2.symm
      refine two.ir (vp_in_nI (by omega) (by decide)) ?_
      rw [zrd_nI (show a < 10 by omega) (by decide), zrd_nI (show a < 10 by omega) (by decide), nI_clamp (by omega), o1, o2]
      exact two.ite Iff.rfl (fun _ => t_rfsN) (fun _ => two.ir (vp_in_nI (by omega) (by decide)) (t_ansN rfl))
    · rw [zB_s f1, zB_s f2, if_pos rfl, if_pos rfl]
      exact t_rfsN
  · rw [zB_s e1, zB_s e2, if_pos rfl, if_pos rfl]
    exact t_rfsN
/-- how many hold a unit; the fewest points among them -/
def fd (s : zMt) (x : Int32) (a : Nat) : Int32 := if s 0 a = x then 1 else 0
def lw (T s : zMt) (x : Int32) : Nat → Int32
  | 0 => -1
  | k + 1 => if s 0 k = x then (if lw T s x k = -1 then T 7 k else if lw T s x k ≤ T 7 k then lw T s x k else T 7 k) else lw T s x k
theorem cc_holders {Q S n U : Nat} {A s : zMt} {x : Int32} (hn : n ≤ 10) (e1 : A Q 1 = nI n) (hs : rC S A s n U) : D_X5_holders S Q A x = some (zsum (fd s x) n) := by
  have go : ∀ (v k : Nat), k ≤ n → n - k < v → D_X5_holders_5 S Q A v x (zsum (fd s x) k) (nI k) = some (zsum (fd s x) n) := by
    intro v
    induction v with
    | zero => intro k _ h; omega
    | succ v ih =>
      intro k hk hv
      rw [D_X5_holders_5, e1]
      by_cases hc : n ≤ k
      · rw [if_pos (by exact (nI_leI (by omega) (by omega)).mpr hc), show k = n by omega]
      · rw [if_neg (by intro z; exact hc ((nI_leI (by omega) (by omega)).mp z)), zrd_nI (show k < 10 by omega) (by decide), (hs.1 k (by omega)).1]
        have := ih (k + 1) (by omega) (by omega)
        rw [zsum_s, ← nI_add1] at this
        by_cases q : s 0 k = x
        · rw [if_pos q]
          rw [show fd s x k = 1 from if_pos q] at this
          exact this
        · rw [if_neg q]
          rw [show fd s x k = 0 from if_neg q] at this
          exact this
  have := go zFu 0 (by omega) (by unfold zFu; omega)
  rw [show nI 0 = (0 : Int32) by decide] at this
  exact this
theorem cc_fewest {Q S n U : Nat} {A T s : zMt} {x : Int32} (hn : n ≤ 10) (e1 : A Q 1 = nI n) (hT : ∀ i j, i < 13 → A (Q + i) j = T i j) (hs : rC S A s n U) : D_X5_fewestPoints S Q A x = some (lw T s x n) := by
  have go : ∀ (v k : Nat), k ≤ n → n - k < v → D_X5_fewestPoints_5 S Q A v x (lw T s x k) (nI k) = some (lw T s x n) := by
    intro v
    induction v with
    | zero => intro k _ h; omega
    | succ v ih =>
      intro k hk hv
      rw [D_X5_fewestPoints_5, e1]
      by_cases hc : n ≤ k
      · rw [if_pos (by exact (nI_leI (by omega) (by omega)).mpr hc), show k = n by omega]
      · rw [if_neg (by intro z; exact hc ((nI_leI (by omega) (by omega)).mp z)), zrd_nI (show k < 10 by omega) (by decide), (hs.1 k (by omega)).1]
        have := ih (k + 1) (by omega) (by omega)
        rw [← nI_add1] at this
        by_cases q : s 0 k = x
        · have e : lw T s x (k + 1) = if lw T s x k = -1 then T 7 k else if lw T s x k ≤ T 7 k then lw T s x k else T 7 k := if_pos q
          rw [e] at this
          rw [if_pos q]
          unfold D_X5_fewestPoints_45
          rw [zrd_nI (show k < 10 by omega) (by decide), hT 7 k (by omega)]
          by_cases q1 : lw T s x k = -1
          · rw [if_pos q1]
            rw [if_pos q1] at this
            exact this
          · rw [if_neg q1]
            rw [if_neg q1] at this
            by_cases q2 : lw T s x k ≤ T 7 k
            · rw [if_pos q2]
              rw [if_pos q2] at this
              exact this
            · rw [if_neg q2]
              rw [if_neg q2] at this
              exact this
        · have e : lw T s x (k + 1) = lw T s x k := if_neg q
          rw [e] at this
          rw [if_neg q]
          exact this
  have := go zFu 0 (by omega) (by unfold zFu; omega)
  rw [show nI 0 = (0 : Int32) by decide] at this
  exact this
theorem mm_left53 {P n U : Nat} {B T s : zMt} {x y : Int32} {N : zNt} (hn : n ≤ 10) (hm : mP P B T n U) (hs : rM P B s n U) : ∀ (v k : Nat), k ≤ n → n - k < v → D_X8_left_53 P v x y (zsum (fd s x) k) (lw T s x k) (nI k) B N = D_X8_left_53 P (0 + 1) x y (zsum (fd s x) n) (lw T s x n) (nI n) B N := by
  intro v
  induction v with
  | zero => intro k _ h; omega
  | succ v ih =>
    intro k hk hv
    by_cases hc : n ≤ k
    · have : k = n := by omega
      subst this
      have hle : nI k ≤ nI k := (nI_leI (by omega) (by omega)).mpr (Nat.le_refl k)
      rw [D_X8_left_53, D_X8_left_53, hm.1, if_pos hle, if_pos hle]
    · have := ih (k + 1) (by omega) (by omega)
      rw [zsum_s, ← nI_add1] at this
      have e16 : B (P + 16) k = T 7 k := (hm.2.2.1 k (by omega)).2.2.2.2.1
      rw [← this]
      conv => lhs; rw [D_X8_left_53]
      rw [hm.1, if_neg (by intro z; exact hc ((nI_leI (by omega) (by omega)).mp z))]
      unfold zI
      rw [if_neg (vp_in_nI (show k < 10 by omega) (by decide)), nI_clamp (by omega), (hs.1 k (by omega)).1, e16]
      by_cases q : s 0 k = x
      · have e : lw T s x (k + 1) = if lw T s x k = -1 then T 7 k else if lw T s x k ≤ T 7 k then lw T s x k else T 7 k := if_pos q
        rw [e, show fd s x k = 1 from if_pos q, if_pos q]
        by_cases q1 : lw T s x k = -1
        · rw [if_pos q1, if_pos q1, if_neg (ci (show k < 10 by omega) (by omega))]
          rfl
        · rw [if_neg q1, if_neg q1, if_neg (ci (show k < 10 by omega) (by omega))]
          have h : (if T 7 k < lw T s x k then T 7 k else lw T s x k) = (if lw T s x k ≤ T 7 k then lw T s x k else T 7 k) := by
            by_cases q2 : lw T s x k ≤ T 7 k
            · rw [if_pos q2, if_neg (Int32.not_lt.mpr q2)]
            · rw [if_neg q2, if_pos (Int32.not_le.mp q2)]
          rw [h]
          rfl
      · have e : lw T s x (k + 1) = lw T s x k := if_neg q
        rw [e, show fd s x k = 0 from if_neg q, if_neg q, Int32.add_zero]
        rfl
theorem t_left {C P : Nat} {A B : zMt} {N : zNt} {v0 v1 v2 : Int32} (w0 : eqE C P A B) (_hJ : jJ P B) : two (D_X7_left C v0 v1 v2 A) (D_X8_left P v0 v1 v2 B N) (fun a b => a.1 = b.1) := by
  obtain ⟨r, g, U, H, G, K, w⟩ := w0
  have c1 := w.2.2.2.2.2.1.1.1
  unfold D_X7_left D_X8_left
  rcases t_isS (v := v0) with ⟨e1, e2, hs, hs2⟩ | ⟨e1, e2⟩
  · rw [zB_s e1, zB_s e2, if_neg n10, if_neg n10]
    rcases t_rng (v := v2) (x := 3) (y := 3) (by decide) with ⟨g1, g2, g3, g4, g5⟩ | ⟨gn, g5⟩
    · rw [if_neg g1, if_pos g2, zB_s g5, if_neg n10]
      rcases t_isU (v := v1) w with ⟨f1, f2, u, hu, hv⟩ | ⟨f1, f2⟩
      · subst hv
        rw [zB_s f1, zB_s f2, if_neg n10, if_neg n10]
        refine two.bind (t_seed w hs) (fun A' b hb => ?_)
        obtain ⟨n, l, hm, h3, ⟨s1, s2, s3, s4, s5, s6, s7⟩, k1, k2⟩ := hb
        have hn10 := s1.1
        have em := mm_left53 (x := nI u) (y := v2) (N := b.2) hn10 s3 s6 zFu 0 (by omega) (by unfold zFu; omega)
        generalize rs (tP (C + 91) A) 10 U n l = s at s4 s5 s6 s7 em
        have o1 : A' (C + 108) u = b.1 (P + 21) u := (s5.2 u hu).1.trans (s6.2 u hu).1.symm
        have o2 : A' (C + 109) u = b.1 (P + 22) u := (s5.2 u hu).2.trans (s6.2 u hu).2.symm
        have e91 : A' (C + 91) 1 = nI n := (s2 0 1 (by omega)).trans s1.2.2.1
        rw [show nI 0 = (0 : Int32) by decide, show zsum (fd s (nI u)) 0 = (0 : Int32) from rfl, show lw (tP (C + 91) A) s (nI u) 0 = (-1 : Int32) from rfl] at em
        have ho := cc_holders (x := nI u) hn10 e91 s5
        have hf := cc_fewest (x := nI u) hn10 e91 s2 s5
        have o5 : (3 : Int32).toInt = 3 := by decide
        have hle : nI n ≤ nI n := (nI_leI (by omega) (by omega)).mpr (Nat.le_refl n)
        rw [em, D_X8_left_53, s3.1, if_pos hle]
        have hc : v2 = 0 ∨ v2 = 1 ∨ v2 = 2 ∨ v2 = 3 := by
          have : v2.toInt = 0 ∨ v2.toInt = 1 ∨ v2.toInt = 2 ∨ v2.toInt = 3 := by omega
          rcases this with q | q | q | q
          · exact Or.inl (i_of (k := 0) q (by omega))
          · exact Or.inr (Or.inl (i_of (k := 1) q (by omega)))
          · exact Or.inr (Or.inr (Or.inl (i_of (k := 2) q (by omega))))
          · exact Or.inr (Or.inr (Or.inr (i_of (k := 3) q (by omega))))
        rcases hc with q | q | q | q <;> subst q
        · rw [if_pos (show Int32.toInt (0 : Int32) = 0 by decide), if_neg (show ¬ (0 : Int32) = 3 by decide), if_pos (show (0 : Int32) = 0 from rfl), zrd_nI (show u < 5 by omega) (by decide), o1]
          refine two.ir (vp_in_nI (by omega) (by decide)) ?_
          rw [nI_clamp (by omega)]
          exact t_ansN rfl
        · rw [if_neg (show ¬ Int32.toInt (1 : Int32) = 0 by decide), if_pos (show Int32.toInt (1 : Int32) = 1 by decide), if_neg (show ¬ (1 : Int32) = 3 by decide), if_neg (show ¬ (1 : Int32) = 0 by decide), if_pos (show (1 : Int32) = 1 from rfl), zrd_nI (show u < 5 by omega) (by decide), o2]
          refine two.ir (vp_in_nI (by omega) (by decide)) ?_
          rw [nI_clamp (by omega)]
          exact t_ansN rfl
        · rw [if_neg (show ¬ Int32.toInt (2 : Int32) = 0 by decide), if_neg (show ¬ Int32.toInt (2 : Int32) = 1 by decide), if_pos (show Int32.toInt (2 : Int32) = 2 by decide), if_neg (show ¬ (2 : Int32) = 3 by decide), if_neg (show ¬ (2 : Int32) = 0 by decide), if_neg (show ¬ (2 : Int32) = 1 by decide)]
          exact two.l ho (t_ansN rfl)
        · rw [if_neg (show ¬ Int32.toInt (3 : Int32) = 0 by decide), if_neg (show ¬ Int32.toInt (3 : Int32) = 1 by decide), if_neg (show ¬ Int32.toInt (3 : Int32) = 2 by decide), if_pos (show (3 : Int32) = 3 from rfl)]
          refine two.l hf ?_
          exact two.ite Iff.rfl (fun _ => t_rfsN) (fun _ => t_ansN rfl)
      · rw [zB_s f1, zB_s f2, if_pos rfl, if_pos rfl]
        exact t_rfsN
    · rw [zB_s g5, if_pos rfl]
      rcases gn with z | ⟨z, z2⟩
      · rw [if_pos z]
        exact t_rfsN
      · rw [if_neg z, if_neg z2]
        exact t_rfsN
  · rw [zB_s e1, zB_s e2, if_pos rfl, if_pos rfl]
    exact t_rfsN
/-- who wins -/
def wn (T s : zMt) : Nat → Int32
  | 0 => 0
  | k + 1 => if s 0 k = -1 then wn T s k else wn T s k ||| T 9 k
theorem cc_win {C n U : Nat} {A T s : zMt} (hn : n ≤ 10) (e1 : A (C + 91) 1 = nI n) (hT : ∀ i j, i < 13 → A (C + 91 + i) j = T i j) (hs : rC (C + 104) A s n U) : ∀ (v k : Nat), k ≤ n → n - k < v → D_X7_winners_29 C v (wn T s k) (nI k) A = zB (D_X7_answer C (wn T s n) A) fun e => some (e.1, e.2) := by
  intro v
  induction v with
  | zero => intro k _ h; omega
  | succ v ih =>
    intro k hk hv
    rw [D_X7_winners_29, e1]
    by_cases hc : n ≤ k
    · rw [if_pos (by exact (nI_leI (by omega) (by omega)).mpr hc), show k = n by omega]
    · have o1 : A (C + 106) k = s 0 k := (hs.1 k (by omega)).1
      have o2 : A (C + 100) k = T 9 k := hT 9 k (by omega)
      have := ih (k + 1) (by omega) (by omega)
      rw [← nI_add1] at this
      rw [if_neg (by intro z; exact hc ((nI_leI (by omega) (by omega)).mp z)), zrd_nI (show k < 10 by omega) (by decide), zrd_nI (show k < 10 by omega) (by decide), o1, o2]
      by_cases q : s 0 k = -1
      · rw [if_pos q]
        rw [show wn T s (k + 1) = wn T s k from if_pos q] at this
        exact this
      · rw [if_neg q]
        rw [show wn T s (k + 1) = wn T s k ||| T 9 k from if_neg q] at this
        exact this
theorem mm_win {P n U : Nat} {B T s : zMt} (hn : n ≤ 10) (hm : mP P B T n U) (hs : rM P B s n U) : D_X8_winnersNow P B = some (wn T s n) := by
  have go : ∀ (v k : Nat), k ≤ n → n - k < v → D_X8_winnersNow_4 P B v (wn T s k) (nI k) = some (wn T s n) := by
    intro v
    induction v with
    | zero => intro k _ h; omega
    | succ v ih =>
      intro k hk hv
      rw [D_X8_winnersNow_4, hm.1]
      by_cases hc : n ≤ k
      · rw [if_pos (by exact (nI_leI (by omega) (by omega)).mpr hc), show k = n by omega]
      · have o2 : B (P + 11) k = T 9 k := (hm.2.2.1 k (by omega)).1
        have := ih (k + 1) (by omega) (by omega)
        rw [← nI_add1] at this
        rw [if_neg (by intro z; exact hc ((nI_leI (by omega) (by omega)).mp z))]
        unfold zI D_X8_winnersNow_33
        rw [if_neg (vp_in_nI (show k < 10 by omega) (by decide)), if_neg (vp_in_nI (show k < 10 by omega) (by decide)), nI_clamp (by omega), (hs.1 k (by omega)).1, o2]
        by_cases q : s 0 k = -1
        · rw [if_pos q, Int32.or_zero]
          rw [show wn T s (k + 1) = wn T s k from if_pos q] at this
          exact this
        · rw [if_neg q]
          rw [show wn T s (k + 1) = wn T s k ||| T 9 k from if_neg q] at this
          exact this
  have := go zFu 0 (by omega) (by unfold zFu; omega)
  rw [show nI 0 = (0 : Int32) by decide] at this
  exact this
theorem t_winners {C P : Nat} {A B : zMt} {N : zNt} {v0 : Int32} (w0 : eqE C P A B) (_hJ : jJ P B) : two (D_X7_winners C v0 A) (D_X8_winners P v0 B N) (fun a b => a.1 = b.1) := by
  obtain ⟨r, g, U, H, G, K, w⟩ := w0
  unfold D_X7_winners D_X8_winners
  rcases t_isS (v := v0) with ⟨e1, e2, hs, hs2⟩ | ⟨e1, e2⟩
  · rw [zB_s e1, zB_s e2, if_neg n10, if_neg n10]
    refine two.bind (t_seed w hs) (fun A' b hb => ?_)
    obtain ⟨n, l, hm, h3, ⟨s1, s2, s3, s4, s5, s6, s7⟩, k1, k2⟩ := hb
    have hn10 := s1.1
    have e91 : A' (C + 91) 1 = nI n := (s2 0 1 (by omega)).trans s1.2.2.1
    have ew := cc_win hn10 e91 s2 s5 zFu 0 (by omega) (by unfold zFu; omega)
    rw [show nI 0 = (0 : Int32) by decide, show ∀ T s : zMt, wn T s 0 = (0 : Int32) from fun _ _ => rfl] at ew
    rw [ew]
    exact two.r (mm_win hn10 s3 s6) (t_ansN rfl)
  · rw [zB_s e1, zB_s e2, if_pos rfl, if_pos rfl]
    exact t_rfsN
/-- who waits -/
def iw (T s : zMt) (a : Nat) (x : Int32) : Int32 := if s 0 a = -1 then (if rk T a x = -1 then 0 else 1) else 0
theorem cc_iw {Q S n U a : Nat} {A T s : zMt} {x : Int32} (hg : gP T n U) (hT : ∀ i j, i < 13 → A (Q + i) j = T i j) (hs : rC S A s n U) (ha : a < n) : D_X5_isWaiting S Q A (nI a) x = some (iw T s a x) := by
  have hn := hg.1
  unfold D_X5_isWaiting iw
  rw [zrd_nI (show a < 10 by omega) (by decide), (hs.1 a ha).1]
  by_cases q : s 0 a = -1
  · rw [if_pos q, if_pos q, zB_s (cc_rank hg hT ha)]
    by_cases q1 : rk T a x = -1
    · rw [if_pos q1, if_pos q1]
      rfl
    · rw [if_neg q1, if_neg q1]
      rfl
  · rw [if_neg q, if_neg q]
    rfl
theorem mm_iw {P n U a : Nat} {B T s : zMt} {x : Int32} (hg : gP T n U) (hm : mP P B T n U) (hs : rM P B s n U) (ha : a < n) : D_X8_isWaiting P B (nI a) x = some (iw T s a x) := by
  have hn := hg.1
  unfold D_X8_isWaiting iw zI
  rw [if_neg (vp_in_nI (show a < 10 by omega) (by decide)), nI_clamp (by omega), (hs.1 a ha).1]
  by_cases q : s 0 a = -1
  · rw [if_pos q, if_pos q, zB_s (mm_place hg hm ha)]
    by_cases q1 : rk T a x = -1
    · rw [if_pos q1, if_pos q1]
      rfl
    · rw [if_neg q1, if_neg q1]
      rfl
  · rw [if_neg q, if_neg q]
    rfl
theorem t_waits50 {C P n U : Nat} {A B T s : zMt} {N : zNt} {x y : Int32} {l : Nat → Nat} (h : sdR C P T A B n U l s) : ∀ (v k : Nat) (c : Int32), k ≤ n → n - k < v → two (D_X7_waits_50 C v x y c (nI k) A) (D_X8_waits_43 P v x y c (nI k) B N) (fun a b => a.1 = b.1) := by
  obtain ⟨s1, s2, s3, s4, s5, s6, s7⟩ := h
  have hn10 := s1.1
  have e91 : A (C + 91) 1 = nI n := (s2 0 1 (by omega)).trans s1.2.2.1
  intro v
  induction v with
  | zero => intro k _ _ h; omega
  | succ v ih =>
    intro k c hk hv
    rw [D_X7_waits_50, D_X8_waits_43, e91, s3.1]
    by_cases hc : n ≤ k
    · have hle : nI n ≤ nI k := (nI_leI (by omega) (by omega)).mpr hc
      rw [if_pos hle, if_pos hle]
      exact two.ite Iff.rfl (fun _ => t_ansN rfl) (fun _ => t_rfsN)
    · have hle : ¬ nI n ≤ nI k := fun z => hc ((nI_leI (by omega) (by omega)).mp z)
      obtain ⟨o1, o2, o3⟩ := s4.1 k (by omega)
      rw [if_neg hle, if_neg hle, zrd_nI (show k < 10 by omega) (by decide), o2]
      refine two.ir (vp_in_nI (by omega) (by decide)) ?_
      rw [nI_clamp (by omega), o3]
      refine two.l (cc_iw s1 s2 s5 o1) (two.r (mm_iw s1 s3 s6 o1) ?_)
      refine two.ite Iff.rfl (fun _ => ?_) (fun _ => ?_)
      · unfold D_X7_waits_112 D_X8_waits_91
        rw [nI_add1]
        exact ih (k + 1) c (by omega) (by omega)
      refine two.ite Iff.rfl (fun _ => two.ir (vp_in_nI (by omega) (by decide)) (t_ansN rfl)) (fun _ => ?_)
      · unfold D_X7_waits_112 D_X8_waits_91
        rw [nI_add1]
        exact ih (k + 1) _ (by omega) (by omega)
theorem t_waits {C P : Nat} {A B : zMt} {N : zNt} {v0 v1 v2 : Int32} (w0 : eqE C P A B) (_hJ : jJ P B) : two (D_X7_waits C v0 v1 v2 A) (D_X8_waits P v0 v1 v2 B N) (fun a b => a.1 = b.1) := by
  obtain ⟨r, g, U, H, G, K, w⟩ := w0
  unfold D_X7_waits D_X8_waits
  rcases t_isS (v := v0) with ⟨e1, e2, hs, hs2⟩ | ⟨e1, e2⟩
  · rw [zB_s e1, zB_s e2, if_neg n10, if_neg n10]
    refine two.ite Iff.rfl (fun _ => ?_) (fun _ => t_rfsN)
    rcases t_isU (v := v1) w with ⟨f1, f2, u, hu, hv⟩ | ⟨f1, f2⟩
    · rw [zB_s f1, zB_s f2, if_neg n10, if_neg n10]
      refine two.bind (t_seed w hs) (fun A' b hb => ?_)
      obtain ⟨n, l, hm, h3, hd, k1, k2⟩ := hb
      have hn10 := hd.1.1
      have := t_waits50 (N := b.2) (x := v1) (y := v2) hd zFu 0 (0 : Int32) (by omega) (by unfold zFu; omega)
      rw [show nI 0 = (0 : Int32) by decide] at this
      exact this
    · rw [zB_s f1, zB_s f2, if_pos rfl, if_pos rfl]
      exact t_rfsN
  · rw [zB_s e1, zB_s e2, if_pos rfl, if_pos rfl]
    exact t_rfsN
theorem t_next82 {C P n U u : Nat} {A B T s : zMt} {N : zNt} {y : Int32} {l : Nat → Nat} (hn10 : n ≤ 10) (hU : U ≤ 5) (hu : u < U) (hg : gP T n U) (hT : ∀ i j, i < 13 → A (C + 91 + i) j = T i j) (hm : mP P B T n U) (hl : lnO n n (A (C + 105)) (B (P + 18)) l) (s0 : zMt) (hC : rC (C + 104) A s0 n U) (hM : rM P B s n U) (he : ∀ a, s 0 a = s0 0 a) : ∀ (v k : Nat), k ≤ n → n - k < v → two (D_X7_next_82 C v (nI u) (s 2 u + y) (s 3 u) (nI k) A) (D_X8_next__57 P v (nI u) y (nI k) B N) (fun a b => a.1 = b.1) := by
  have e91 : A (C + 91) 1 = nI n := (hT 0 1 (by omega)).trans hg.2.2.1
  intro v
  induction v with
  | zero => intro k _ h; omega
  | succ v ih =>
    intro k hk hv
    rw [D_X7_next_82, D_X8_next__57, e91, hm.1]
    by_cases hc : n ≤ k
    · have hle : nI n ≤ nI k := (nI_leI (by omega) (by omega)).mpr hc
      rw [if_pos hle, if_pos hle]
      exact t_rfsN
    · have hle : ¬ nI n ≤ nI k := fun z => hc ((nI_leI (by omega) (by omega)).mp z)
      obtain ⟨o1, o2, o3⟩ := hl.1 k (by omega)
      rw [if_neg hle, if_neg hle, zrd_nI (show k < 10 by omega) (by decide), o2]
      refine two.ir (vp_in_nI (by omega) (by decide)) ?_
      rw [nI_clamp (show k < 2147483648 by omega), o3]
      have ei : iw T s0 (l k) (nI u) = iw T s (l k) (nI u) := by
        unfold iw
        rw [he]
      refine two.l (cc_iw hg hT hC o1) (two.r (mm_iw hg hm hM o1) ?_)
      rw [ei]
      refine two.ite Iff.rfl (fun _ => ?_) (fun _ => ?_)
      · unfold D_X7_next_148 D_X8_next__116
        rw [nI_add1]
        exact ih (k + 1) (by omega) (by omega)
      refine two.ir (vp_in_nI (by omega) (by decide)) (two.ir (vp_in_nI (by omega) (by decide)) ?_)
      rw [nI_clamp (show u < 2147483648 by omega), (hM.2 u hu).1]
      refine two.l (cc_fits (U := U) o1 hn10 hT) (two.r (mm_fits hn10 hU hm hM o1 hu) ?_)
      refine two.ite Iff.rfl (fun _ => ?_) (fun _ => two.ir (vp_in_nI (by omega) (by decide)) (t_ansN rfl))
      · unfold D_X7_next_148 D_X8_next__116
        rw [nI_add1]
        exact ih (k + 1) (by omega) (by omega)
theorem t_next {C P : Nat} {A B : zMt} {N : zNt} {v0 v1 v2 : Int32} (w0 : eqE C P A B) (_hJ : jJ P B) : two (D_X7_next C v0 v1 v2 A) (D_X8_next_ P v0 v1 v2 B N) (fun a b => a.1 = b.1) := by
  obtain ⟨r, g, U, H, G, K, w⟩ := w0
  have c1 := w.2.2.2.2.2.1.1.1
  unfold D_X7_next D_X8_next_
  rcases t_isS (v := v0) with ⟨e1, e2, hs, hs2⟩ | ⟨e1, e2⟩
  · rw [zB_s e1, zB_s e2, if_neg n10, if_neg n10]
    rcases t_rng (v := v2) (x := 20) (y := 20) (by decide) with ⟨g1, g2, g3, g4, g5⟩ | ⟨gn, g5⟩
    · rw [if_neg g1, if_pos g2, zB_s g5, if_neg n10]
      rcases t_isU (v := v1) w with ⟨f1, f2, u, hu, hv⟩ | ⟨f1, f2⟩
      · subst hv
        rw [zB_s f1, zB_s f2, if_neg n10, if_neg n10]
        refine two.bind (t_seed w hs) (fun A' b hb => ?_)
        obtain ⟨n, l, hm, h3, ⟨s1, s2, s3, s4, s5, s6, s7⟩, k1, k2⟩ := hb
        generalize rs (tP (C + 91) A) 10 U n l = s at s5 s6 s7
        have hn10 := s1.1
        refine two.ir (vp_in_nI (by omega) (by decide)) (two.ir (vp_in_nI (by omega) (by decide)) (two.letr ?_))
        have o1 : A' (C + 108) u = s 2 u := (s5.2 u hu).1
        have o2 : A' (C + 109) u = s 3 u := (s5.2 u hu).2
        rw [zrd_nI (show u < 5 by omega) (by decide), zrd_nI (show u < 5 by omega) (by decide), nI_clamp (by omega), o1, o2, (s6.2 u hu).2]
        have kz : ∀ i j, ¬ (i = P + 22 ∧ j = u) → zu b.1 (P + 22) u (s 3 u + v2) i j = b.1 i j := fun i j h => zu_ne h
        have hm' : mP P (zu b.1 (P + 22) u (s 3 u + v2)) (tP (C + 91) A) n U := s3.m c1 (kz _ _ (by omega)) (kz _ _ (by omega)) (fun j _ _ => kz _ _ (by omega)) (fun i j _ _ => kz _ _ (by omega))
        have hM' : rM P (zu b.1 (P + 22) u (s 3 u + v2)) (zu s 3 u (s 3 u + v2)) n U := by
          refine ⟨fun a ha => ?_, fun x hx => ?_⟩
          · rw [kz _ _ (by omega), kz _ _ (by omega), zu_ne (by omega), zu_ne (by omega)]
            exact s6.1 a ha
          · rw [kz _ _ (by omega), zu_ne (by omega)]
            refine ⟨(s6.2 x hx).1, ?_⟩
            by_cases q : x = u
            · subst q
              rw [zu_eq, zu_eq]
            · rw [zu_ne (by omega), zu_ne (by omega)]
              exact (s6.2 x hx).2
        have := t_next82 (C := C) (A := A') (y := v2) (N := b.2) (l := l) hn10 c1 hu s1 s2 hm' ⟨fun k hk => ⟨(s4.1 k hk).1, (s4.1 k hk).2.1, (kz _ _ (by omega)).trans (s4.1 k hk).2.2⟩, s4.2⟩ s s5 hM' (fun a => zu_ne (by omega)) zFu 0 (by omega) (by unfold zFu; omega)
        rw [show nI 0 = (0 : Int32) by decide, zu_ne (show ¬ ((2 : Nat) = 3 ∧ u = u) by omega), zu_eq] at this
        exact this
      · rw [zB_s f1, zB_s f2, if_pos rfl, if_pos rfl]
        exact t_rfsN
    · rw [zB_s g5, if_pos rfl]
      rcases gn with z | ⟨z, z2⟩
      · rw [if_pos z]
        exact t_rfsN
      · rw [if_neg z, if_neg z2]
        exact t_rfsN
  · rw [zB_s e1, zB_s e2, if_pos rfl, if_pos rfl]
    exact t_rfsN
theorem t_behind {C P : Nat} {A B : zMt} {N : zNt} {v0 v1 : Int32} (w0 : eqE C P A B) (_hJ : jJ P B) : two (D_X7_behind C v0 v1 A) (D_X8_behind P v0 v1 B N) (fun a b => a.1 = b.1) := by
  obtain ⟨r, g, U, H, G, K, w⟩ := w0
  have c2 := w.2.2.2.2.2.1.1.2.1
  have r2 := w.2.2.2.2.2.1.2.2.1
  have w1 := w.1
  unfold D_X7_behind D_X8_behind
  rcases t_isS (v := v0) with ⟨e1, e2, hs, hs2⟩ | ⟨e1, e2⟩
  · rw [zB_s e1, zB_s e2, if_neg n10, if_neg n10]
    rcases t_isH (v := v1) w with ⟨f1, f2, h, hh, hv⟩ | ⟨f1, f2⟩
    · subst hv
      rw [zB_s f1, zB_s f2, if_neg n10, if_neg n10]
      refine two.bind (t_seed w hs) (fun A' b hb => ?_)
      obtain ⟨n, l, hm, h3, ⟨s1, s2, s3, s4, s5, s6, s7⟩, k1, k2⟩ := hb
      have hn10 := s1.1
      have o1 : A' (C + 95) h = nI (aOf (tP (C + 91) A) h) := (s2 4 h (by omega)).trans (h3 h hh).2.1
      have o2 : A' (C + 19) h = b.1 (P + 1) h := (k1 _ _ (by omega)).trans ((r2 h (by omega)).trans ((w1 h (by omega)).symm.trans (k2 _ _ (by omega) (by omega)).symm))
      rw [zrd_nI (show h < 10 by omega) (by decide), zrd_nI (show h < 10 by omega) (by decide), o1, o2]
      exact two.l (cc_behind hn10 (h3 h hh).1 s2 s5) (two.r (mm_behind s1 s3 s6 h3 c2 hh s7) (t_ansN rfl))
    · rw [zB_s f1, zB_s f2, if_pos rfl, if_pos rfl]
      exact t_rfsN
  · rw [zB_s e1, zB_s e2, if_pos rfl, if_pos rfl]
    exact t_rfsN
