/-! p52: what is told of a seed is as worked out by hand -/
/-- what is left of a unit, and who wins, in the order -/
def uL (T s : zMt) (u : Nat) : List Nat → Int32 → Int32
  | [], x => x
  | a :: L, x => uL T s u L (if s 0 a = nI u then x - T 5 a else x)
def oL (T s : zMt) : List Nat → Int32 → Int32
  | [], x => x
  | a :: L, x => oL T s L (if s 0 a = -1 then x else x ||| T 9 a)
theorem i_ss {x y z : Int32} : x - y - z = x - z - y := by
  rw [Int32.sub_eq_add_neg, Int32.sub_eq_add_neg, Int32.sub_eq_add_neg, Int32.sub_eq_add_neg]
  ac_rfl
theorem uL_sub {T s : zMt} {u : Nat} {y : Int32} : ∀ (L : List Nat) (x : Int32), uL T s u L (x - y) = uL T s u L x - y
  | [], _ => rfl
  | a :: L, x => by
    show uL T s u L (if s 0 a = nI u then x - y - T 5 a else x - y) = uL T s u L (if s 0 a = nI u then x - T 5 a else x) - y
    by_cases q : s 0 a = nI u
    · rw [if_pos q, if_pos q, i_ss, uL_sub L]
    · rw [if_neg q, if_neg q, uL_sub L]
theorem uL_congr {T s s' : zMt} {u : Nat} : ∀ (L : List Nat) (x : Int32), (∀ b, b ∈ L → (s' 0 b = nI u ↔ s 0 b = nI u)) → uL T s' u L x = uL T s u L x
  | [], _, _ => rfl
  | a :: L, x, h => by
    show uL T s' u L (if s' 0 a = nI u then x - T 5 a else x) = uL T s u L (if s 0 a = nI u then x - T 5 a else x)
    have ha := h a List.mem_cons_self
    have hr := uL_congr (T := T) (s := s) (s' := s') (u := u) L
    by_cases q : s 0 a = nI u
    · rw [if_pos q, if_pos (ha.mpr q)]
      exact hr _ (fun b hb => h b (List.mem_cons_of_mem _ hb))
    · rw [if_neg q, if_neg (fun z => q (ha.mp z))]
      exact hr _ (fun b hb => h b (List.mem_cons_of_mem _ hb))
theorem uL_gT {T s : zMt} {a w : Nat} {rd : Int32} (hs : s 0 a = -1) (hw : w < 2147483648) : ∀ (L : List Nat) (x : Int32), L.Nodup → a ∈ L → uL T (gT T s a w rd) w L x = uL T s w L x - T 5 a
  | [], _, _, h => absurd h List.not_mem_nil
  | b :: L, x, hd, h => by
    obtain ⟨d1, d2⟩ := List.nodup_cons.mp hd
    show uL T (gT T s a w rd) w L (if gT T s a w rd 0 b = nI w then x - T 5 b else x) = uL T s w L (if s 0 b = nI w then x - T 5 b else x) - T 5 a
    by_cases q : b = a
    · subst q
      rw [if_pos gT_0, if_neg (by rw [hs]; exact fun z => nI_ne hw z.symm), uL_congr (s := s) L _ (fun c hc => by
        have : ¬ c = b := fun z => d1 (by rw [← z]; exact hc)
        rw [gT_out (by omega) (by omega)]), uL_sub]
    · have e : gT T s a w rd 0 b = s 0 b := gT_out (by omega) (by omega)
      have hm : a ∈ L := by
        rcases List.mem_cons.mp h with z | z
        · exact absurd z.symm q
        · exact z
      rw [e]
      exact uL_gT hs hw L _ d2 hm
/-- what is left is what the quota has above those who hold a place -/
def cI (T s : zMt) (U : Nat) (L : List Nat) : Prop := ∀ u, u < U → s 2 u = uL T s u L (T 1 u)
theorem cI_gT {T s : zMt} {U a w : Nat} {L : List Nat} {rd : Int32} (hU : U ≤ 5) (hw : w < U) (hd : L.Nodup) (ha : a ∈ L) (hs : s 0 a = -1) (h : cI T s U L) : cI T (gT T s a w rd) U L := fun u hu => by
  by_cases q : u = w
  · subst q
    rw [gT_2, uL_gT hs (by omega) L _ hd ha, h u hu]
  · rw [gT_out (by omega) (by omega), h u hu]
    refine (uL_congr L _ (fun b hb => ?_)).symm
    by_cases z : b = a
    · subst z
      rw [gT_0, hs]
      exact ⟨fun y => absurd (nI_inj (by omega) (by omega) y).symm q, fun y => absurd y.symm (nI_ne (by omega))⟩
    · rw [gT_out (by omega) (by omega)]
theorem cI_f1 {T s : zMt} {U a u : Nat} {L : List Nat} (hU : U ≤ 5) (hu : u < U) (hd : L.Nodup) (ha : a ∈ L) (hs : s 0 a = -1) (h : cI T s U L) : cI T (f1 T 10 u s a) U L := by
  unfold f1
  by_cases q : ¬ a = 10 ∧ T 12 (3 * a) = nI u ∧ T 5 a ≤ s 2 u - T 1 u + T 2 u ∧ T 6 a ≤ s 3 u
  · rw [if_pos q]; exact cI_gT hU hu hd ha hs h
  · rw [if_neg q]; exact h
theorem cI_fC {T : zMt} {n U : Nat} {L : List Nat} (hg : gP T n U) (hd : L.Nodup) (hL : ∀ x, x ∈ L → x < n) : ∀ (r : List Nat) (s : zMt), r.Nodup → (∀ x, x ∈ r → x ∈ L) → (∀ x, x ∈ r → s 0 x = -1) → cI T s U L → cI T (fC T 10 U r s) U L
  | [], _, _, _, _, h => h
  | a :: r, s, hr, hm, hs, h => by
    have hU := hg.2.1
    obtain ⟨d1, d2⟩ := List.nodup_cons.mp hr
    have haL := hm a List.mem_cons_self
    have ha := hL a haL
    obtain ⟨c, c1, c2, c3, c4⟩ := (hg.2.2.2.2.1 a ha).2.2.2
    show cI T (fC T 10 U r (fA T 10 a U s)) U L
    by_cases q : c = 0
    · have e12 : T 12 (3 * a) = -1 := c4 0 (by omega) (by omega)
      rw [fA_none U (fun v hv => by rw [e12]; exact fun z => nI_ne (by omega) z.symm)]
      exact cI_fC hg hd hL r s d2 (fun x hx => hm x (List.mem_cons_of_mem _ hx)) (fun x hx => hs x (List.mem_cons_of_mem _ hx)) h
    · obtain ⟨w, hw, ew⟩ := c3 0 (by omega)
      have ew' : T 12 (3 * a) = nI w := ew
      rw [fA_one ew' (by omega) U (by omega), if_pos hw]
      refine cI_fC hg hd hL r _ d2 (fun x hx => hm x (List.mem_cons_of_mem _ hx)) (fun x hx => ?_) (cI_f1 hU hw hd haL (hs a List.mem_cons_self) h)
      have : ¬ x = a := fun z => d1 (by rw [← z]; exact hx)
      rw [f1_out (by omega) (by omega)]
      exact hs x (List.mem_cons_of_mem _ hx)
theorem cI_s2 {T s : zMt} {n U a : Nat} {L : List Nat} (hg : gP T n U) (ha : a < n) (hd : L.Nodup) (haL : a ∈ L) (hs : s 0 a = -1) (h : cI T s U L) : ∀ (c k : Nat), k + c ≤ (T 11 a).toNatClampNeg → cI T (s2 T s a c k) U L
  | 0, _, _ => h
  | c + 1, k, hk => by
    show cI T (if T 5 a ≤ s 2 (wu T a k) ∧ T 6 a ≤ s 3 (wu T a k) then gT T s a (wu T a k) 2 else s2 T s a c (k + 1)) U L
    by_cases q : T 5 a ≤ s 2 (wu T a k) ∧ T 6 a ≤ s 3 (wu T a k)
    · rw [if_pos q]
      obtain ⟨x, x1, x2, x3, x4⟩ := (hg.2.2.2.2.1 a ha).2.2.2
      rw [x2, nI_clamp (by omega)] at hk
      obtain ⟨w, hw, ew⟩ := x3 k (by omega)
      have g2 := hg.2.1
      have ewu : wu T a k = w := by
        unfold wu
        rw [ew, nI_clamp (by omega)]
      rw [ewu]
      exact cI_gT g2 hw hd haL hs h
    · rw [if_neg q]
      exact cI_s2 hg ha hd haL hs h c (k + 1) (by omega)
theorem cI_fS {T : zMt} {n U : Nat} {L : List Nat} (hg : gP T n U) (hd : L.Nodup) (hL : ∀ x, x ∈ L → x < n) : ∀ (r : List Nat) (s : zMt), (∀ x, x ∈ r → x ∈ L) → cI T s U L → cI T (fS T 10 r s) U L
  | [], _, _, h => h
  | a :: r, s, hm, h => cI_fS hg hd hL r _ (fun x hx => hm x (List.mem_cons_of_mem _ hx)) (by
    unfold f2
    by_cases q : s 0 a = -1 ∧ ¬ a = 10
    · rw [if_pos q]
      exact cI_s2 hg (hL a (hm a List.mem_cons_self)) hd (hm a List.mem_cons_self) q.1 h _ 0 (by omega)
    · rw [if_neg q]; exact h)
theorem cI_rs {T : zMt} {n U : Nat} {l : Nat → Nat} (hg : gP T n U) (hl : ∀ k, k < n → l k < n) (hd : (lp l n).Nodup) : cI T (rs T 10 U n l) U (lp l n) := by
  have hm := lp_mem (l := l) (n := n) n hl
  have hU := hg.2.1
  unfold rs
  refine cI_fS hg hd hm _ _ (fun x hx => hx) (cI_fC hg hd hm _ _ (bk_nodup hd 21 (by omega)) (fun x hx => (bk_mem 21 x hx).1) (fun x _ => rfl) (fun u hu => ?_))
  have : ∀ L : List Nat, uL T (s0 T) u L (T 1 u) = T 1 u := fun L => by
    induction L with
    | nil => rfl
    | cons a L ih =>
      show uL T (s0 T) u L (if s0 T 0 a = nI u then T 1 u - T 5 a else T 1 u) = T 1 u
      have e0 : s0 T 0 a = -1 := rfl
      rw [e0, if_neg (fun z => nI_ne (show u < 2147483648 by omega) z.symm)]
      exact ih
  rw [this]
  rfl
/-- all are in the order -/
theorem cn_le {b : Int32} : ∀ n, cn b n ≤ n
  | 0 => Nat.le_refl 0
  | n + 1 => by
    have := cn_le (b := b) n
    show cn b n + _ ≤ n + 1
    split <;> omega
theorem cn_full {b : Int32} : ∀ n, cn b n = n → ∀ a, a < n → bitAt b a
  | 0, _, a, ha => absurd ha (Nat.not_lt_zero a)
  | n + 1, h, a, ha => by
    have h1 := cn_le (b := b) n
    have h' : cn b n + (if ((b >>> (nI n &&& 31)) &&& 1) = 1 then 1 else 0) = n + 1 := h
    by_cases q : ((b >>> (nI n &&& 31)) &&& 1) = 1
    · rw [if_pos q] at h'
      by_cases z : a = n
      · subst z; exact q
      · exact cn_full n (by omega) a (by omega)
    · rw [if_neg q] at h'
      omega
theorem LOs.sur {t : Nat → Int32} {n : Nat} {l : Nat → Nat} (hn : n ≤ 10) : ∀ (c i : Nat) (x : Int64) (s b : Int32), LOs t n l c i x s b → cn b n + c = n → ∀ a, a < n → ¬ bitAt b a → ∃ k, i ≤ k ∧ k < i + c ∧ l k = a
  | 0, i, _, _, b, _, hc, a, ha, hb => absurd (cn_full n (by omega) a ha) hb
  | c + 1, i, x, s, b, h, hc, a, ha, hb => by
    obtain ⟨h1, h2, -, -, h5⟩ := h
    by_cases q : l i = a
    · exact ⟨i, Nat.le_refl i, by omega, q⟩
    · have hco := cn_or (a := l i) (by omega) h2 n (by omega)
      rw [if_pos h1] at hco
      obtain ⟨k, k1, k2, k3⟩ := h5.sur hn c (i + 1) _ _ _ (by omega) a ha (fun z => by
        rcases (bitK_or (s := b) (k := l i) (h := a) (by omega) (by omega)).mp z with y | y
        · exact hb y
        · exact q y)
      exact ⟨k, by omega, by omega, k3⟩
theorem lp_in {l : Nat → Nat} : ∀ m k, k < m → l k ∈ lp l m
  | 0, k, h => absurd h (Nat.not_lt_zero k)
  | m + 1, k, h => by
    show l k ∈ lp l m ++ [l m]
    by_cases q : k = m
    · subst q
      exact List.mem_append.mpr (Or.inr (List.mem_singleton.mpr rfl))
    · exact List.mem_append.mpr (Or.inl (lp_in m k (by omega)))
theorem oL_bit {T s : zMt} {j : Nat} : ∀ (L : List Nat) (x : Int32), (oL T s L x).toBitVec.getLsbD j = true ↔ x.toBitVec.getLsbD j = true ∨ ∃ a, a ∈ L ∧ ¬ s 0 a = -1 ∧ (T 9 a).toBitVec.getLsbD j = true
  | [], x => ⟨fun h => Or.inl h, fun h => h.elim id (fun ⟨a, ha, _⟩ => absurd ha List.not_mem_nil)⟩
  | b :: L, x => by
    show (oL T s L (if s 0 b = -1 then x else x ||| T 9 b)).toBitVec.getLsbD j = true ↔ _
    rw [oL_bit L]
    by_cases q : s 0 b = -1
    · rw [if_pos q]
      constructor
      · rintro (z | ⟨a, z1, z2, z3⟩)
        · exact Or.inl z
        · exact Or.inr ⟨a, List.mem_cons_of_mem _ z1, z2, z3⟩
      · rintro (z | ⟨a, z1, z2, z3⟩)
        · exact Or.inl z
        · rcases List.mem_cons.mp z1 with y | y
          · subst y; exact absurd q z2
          · exact Or.inr ⟨a, y, z2, z3⟩
    · rw [if_neg q, Int32.toBitVec_or, BitVec.getLsbD_or, Bool.or_eq_true]
      constructor
      · rintro ((z | z) | ⟨a, z1, z2, z3⟩)
        · exact Or.inl z
        · exact Or.inr ⟨b, List.mem_cons_self, q, z⟩
        · exact Or.inr ⟨a, List.mem_cons_of_mem _ z1, z2, z3⟩
      · rintro (z | ⟨a, z1, z2, z3⟩)
        · exact Or.inl (Or.inl z)
        · rcases List.mem_cons.mp z1 with y | y
          · subst y; exact Or.inl (Or.inr z3)
          · exact Or.inr ⟨a, y, z2, z3⟩
theorem wB_bit {T s : zMt} {j : Nat} : ∀ n, (wB T s n).toBitVec.getLsbD j = true ↔ ∃ a, a < n ∧ ¬ s 0 a = -1 ∧ (T 9 a).toBitVec.getLsbD j = true
  | 0 => by
    have e : (0 : Int32).toBitVec.getLsbD j = false := by
      show (0#32).getLsbD j = false
      exact BitVec.getLsbD_zero
    constructor
    · intro h
      have h' : (0 : Int32).toBitVec.getLsbD j = true := h
      rw [e] at h'
      exact nomatch h'
    · rintro ⟨a, ha, _⟩
      exact absurd ha (Nat.not_lt_zero a)
  | n + 1 => by
    show (if s 0 n = -1 then wB T s n else wB T s n ||| T 9 n).toBitVec.getLsbD j = true ↔ _
    by_cases q : s 0 n = -1
    · rw [if_pos q, wB_bit n]
      constructor
      · rintro ⟨a, z1, z2, z3⟩
        exact ⟨a, by omega, z2, z3⟩
      · rintro ⟨a, z1, z2, z3⟩
        by_cases y : a = n
        · subst y; exact absurd q z2
        · exact ⟨a, by omega, z2, z3⟩
    · rw [if_neg q, Int32.toBitVec_or, BitVec.getLsbD_or, Bool.or_eq_true, wB_bit n]
      constructor
      · rintro (⟨a, z1, z2, z3⟩ | z)
        · exact ⟨a, by omega, z2, z3⟩
        · exact ⟨n, by omega, q, z⟩
      · rintro ⟨a, z1, z2, z3⟩
        by_cases y : a = n
        · subst y; exact Or.inr z3
        · exact Or.inl ⟨a, by omega, z2, z3⟩
theorem oL_wB {T s : zMt} {n : Nat} {l : Nat → Nat} (hl : ∀ k, k < n → l k < n) (hsu : ∀ a, a < n → ∃ k, k < n ∧ l k = a) : oL T s (lp l n) 0 = wB T s n := by
  have hm := lp_mem (l := l) (n := n) n hl
  refine Int32.toBitVec_inj.mp (BitVec.eq_of_getLsbD_eq (fun j hj => Bool.eq_iff_iff.mpr ?_))
  rw [oL_bit, wB_bit]
  have e : (0 : Int32).toBitVec.getLsbD j = false := by
    show (0#32).getLsbD j = false
    exact BitVec.getLsbD_zero
  rw [e]
  constructor
  · rintro (z | ⟨a, z1, z2, z3⟩)
    · exact nomatch z
    · exact ⟨a, hm a z1, z2, z3⟩
  · rintro ⟨a, z1, z2, z3⟩
    obtain ⟨k, k1, k2⟩ := hsu a z1
    exact Or.inr ⟨a, by rw [← k2]; exact lp_in n k k1, z2, z3⟩
/-- the law at its check: the order, who has what and in which round are laid -/
def wI (P C n U H : Nat) (T s : zMt) (l : Nat → Nat) (A : zMt) : Prop := wR P C n U H T l A ∧ ∀ a, a < n → A (P + 3) a = s 0 a ∧ A (P + 4) a = s 1 a
/-- what the check leaves -/
def kF (C F : Nat) (A A' : zMt) : Prop := ∀ i j, ¬ (i = C ∧ j = 0) → ¬ (C + 105 ≤ i ∧ i ≤ C + 111) → ¬ (i = F) → A' i j = A i j
theorem kF.rf {C F : Nat} {A : zMt} : kF C F A A := fun _ _ _ _ _ => rfl
theorem kF.tr {C F : Nat} {A A' A2 : zMt} (h : kF C F A A') (g : kF C F A' A2) : kF C F A A2 := fun i j q z y => (g i j q z y).trans (h i j q z y)
theorem kR.kF {C F : Nat} {A A' : zMt} (h : kR C A A') : kF C F A A' := fun i j q z _ => h i j q z
theorem wI.k {P C F n U H : Nat} {T s A A' : zMt} {l : Nat → Nat} (hP : P + 5 ≤ C) (hF : C + 112 ≤ F) (w : wI P C n U H T s l A) (k : kF C F A A') : wI P C n U H T s l A' := by
  obtain ⟨w1, w2⟩ := w
  exact ⟨w1.k (F := F) (Gs := F) hP hF hF (fun i j q1 q2 q3 => k i j q1 q2 (by omega)), fun a ha => ⟨(k _ _ (by omega) (by omega) (by omega)).trans (w2 a ha).1, (k _ _ (by omega) (by omega) (by omega)).trans (w2 a ha).2⟩⟩
/-- the quotas -/
theorem i_25 {P C F n U H : Nat} {T s : zMt} {l : Nat → Nat} {v0 v1 v2 : Int32} (hP : P + 5 ≤ C) (hF : C + 112 ≤ F) : ∀ (d u v : Nat) (A : zMt), v + d = U → d < u → wI P C n U H T s l A → (∀ x, x < v → A F x = T 1 x) → ∃ A', D_L_isAs_25 P C F U u v0 v1 v2 (nI v) A = D_L_isAs_55 P C F U zFu v0 v1 v2 (0 : Int32) A' ∧ (∀ x, x < U → A' F x = T 1 x) ∧ kF C F A A' := by
  intro d
  induction d with
  | zero =>
    intro u v A hv hu w hs
    obtain ⟨u, rfl⟩ : ∃ y, u = y + 1 := ⟨u - 1, by omega⟩
    have hU := w.1.1.1.2.1
    have : v = U := by omega
    subst this
    rw [D_L_isAs_25, w.1.2.2.1, if_pos (by exact (nI_leI (by omega) (by omega)).mpr (Nat.le_refl v))]
    exact ⟨A, rfl, hs, kF.rf⟩
  | succ d ih =>
    intro u v A hv hu w hs
    obtain ⟨u, rfl⟩ : ∃ y, u = y + 1 := ⟨u - 1, by omega⟩
    have hU := w.1.1.1.2.1
    have hvU : v < U := by omega
    have ev : (nI v).toNatClampNeg = v := nI_clamp (by omega)
    have k1 : kF C F A (zu (zu A C 0 0) F v (T 1 v)) := fun i j q1 q2 q3 => (zu_ne (by omega)).trans (zu_ne (by omega))
    rw [D_L_isAs_25, w.1.2.2.1, if_neg (nle (by omega) (by omega) (by omega)), zB_s (un0 w.1.1 hvU), zI_nI hvU (by omega), zLt_eq, ev, nI_add1]
    obtain ⟨A', e1, e2, e3⟩ := ih u (v + 1) (zu (zu A C 0 0) F v (T 1 v)) (by omega) (by omega) (w.k hP hF k1) (fun x hx => by
      by_cases q : x = v
      · subst q; exact zu_eq
      · exact (zu_ne (by omega)).trans ((zu_ne (by omega)).trans (hs x (by omega))))
    exact ⟨A', e1, e2, k1.tr e3⟩
/-- one of the order -/
theorem i_55 {P C F n U H : Nat} {T s : zMt} {l : Nat → Nat} {v0 seed : Int32} (hP : P + 5 ≤ C) (hF : C + 112 ≤ F) (hn : n ≤ 8) (hs : 0 ≤ seed.toInt) (hs2 : seed.toInt ≤ 999999999) (hl : LOs (T 8) n l n 0 (Int32.toInt64 seed) (T 0 2) 0) (es : s = rs T 10 U n l) : ∀ (d u i : Nat) (x4 : Int32) (f : Nat → Int32) (A : zMt), i + d = n → d < u → wI P C n U H T s l A → (∀ x, x < U → A F x = f x) → ∃ A', D_L_isAs_55 P C F U u v0 seed x4 (nI i) A = D_L_isAs_55 P C F U 1 v0 seed (oL T s (lr l d i) x4) (nI n) A' ∧ (∀ x, x < U → A' F x = uL T s x (lr l d i) (f x)) ∧ kF C F A A' := by
  intro d
  induction d with
  | zero =>
    intro u i x4 f A hi hu w hf
    obtain ⟨u, rfl⟩ : ∃ y, u = y + 1 := ⟨u - 1, by omega⟩
    have : i = n := by omega
    subst this
    refine ⟨A, ?_, hf, kF.rf⟩
    show D_L_isAs_55 P C F U (u + 1) v0 seed x4 (nI i) A = D_L_isAs_55 P C F U 1 v0 seed x4 (nI i) A
    have hle : nI i ≤ nI i := (nI_leI (by omega) (by omega)).mpr (Nat.le_refl i)
    rw [D_L_isAs_55, D_L_isAs_55, w.1.2.1, if_pos hle, if_pos hle]
  | succ d ih =>
    intro u i x4 f A hi hu w hf
    obtain ⟨u, rfl⟩ : ∃ y, u = y + 1 := ⟨u - 1, by omega⟩
    have hU := w.1.1.1.2.1
    have hin : i < n := by omega
    have hla := hl.lt n 0 _ _ _ i (by omega) (by omega)
    have ei : (nI i).toNatClampNeg = i := nI_clamp (by omega)
    have ea : (nI (l i)).toNatClampNeg = l i := nI_clamp (by omega)
    have elr : lr l (d + 1) i = l i :: lr l d (i + 1) := rfl
    obtain ⟨A1, o1, o2⟩ := rd_order w.1.1 hs hs2 hl hin
    have w1 := w.k (F := F) hP hF o2.kF
    obtain ⟨A2, d1, d2, d3⟩ := rd_drawn w1.1.1 hs hs2 hl hla
    rw [← es] at d1 d3
    have k2 : kR C A A2 := o2.tr d2
    have w2 := w.k (F := F) hP hF k2.kF
    have g3 := (w2.2 _ hla).1
    rw [D_L_isAs_55, w.1.2.1, if_neg (nle (by omega) (by omega) (by omega)), zI_nI (show i < 8 by omega) (by decide), zB_s o1, ei, w.1.2.2.2 i hin, if_pos (by exact rfl), zB_s d1, zI_nI (show l i < 8 by omega) (by decide), ea, if_pos (show s 0 (l i) = A2 (P + 3) (l i) from g3.symm), zI_nI (show l i < 8 by omega) (by decide), elr]
    show ∃ A', _ = D_L_isAs_55 P C F U 1 v0 seed (oL T s (lr l d (i + 1)) (if s 0 (l i) = -1 then x4 else x4 ||| T 9 (l i))) (nI n) A' ∧ (∀ x, x < U → A' F x = uL T s x (lr l d (i + 1)) (if s 0 (l i) = nI x then f x - T 5 (l i) else f x)) ∧ _
    by_cases q : s 0 (l i) = -1
    · have q0 : ¬ (0 : Int32) ≤ A2 (P + 3) (l i) := by rw [g3, q]; decide
      have est : D_X7_status C A2 = some (5 : Int32) := by
        have : D_X7_status C A2 = some (A2 C 0) := rfl
        rw [this, d3 q]
      rw [if_neg (by exact q0), zB_s est, if_pos rfl, if_pos q]
      unfold D_L_isAs_122
      rw [zI_nI (show l i < 8 by omega) (by decide), ea, if_neg (by exact q0)]
      unfold D_L_isAs_186
      rw [nI_add1]
      obtain ⟨A', e1, e2, e3⟩ := ih u (i + 1) x4 f A2 (by omega) (by omega) w2 (fun x hx => (k2 _ _ (by omega) (by omega)).trans (hf x hx))
      refine ⟨A', e1, fun x hx => ?_, k2.kF.tr e3⟩
      rw [if_neg (by rw [q]; exact fun z => nI_ne (by omega) z.symm)]
      exact e2 x hx
    · have hok := rs_ok (T := T) (n := n) (U := U) (wo := 10) (l := l) w.1.1.1 (fun k hk => hl.lt n 0 _ _ _ k (by omega) (by omega))
      rw [← es] at hok
      obtain ⟨wd, hw, ew⟩ : ∃ wd, wd < U ∧ s 0 (l i) = nI wd := by
        rcases hok _ hla with z | ⟨k, wd, z1, z2, z3, z4⟩
        · exact absurd z q
        · exact ⟨wd, z2, z4⟩
      have ewc : (nI wd).toNatClampNeg = wd := nI_clamp (by omega)
      have q0 : (0 : Int32) ≤ A2 (P + 3) (l i) := by
        rw [g3, ew]
        exact (nI_leI (a := 0) (b := wd) (by omega) (by omega)).mpr (by omega)
      obtain ⟨A3, r1, r2⟩ := rd_round w2.1.1 hs hs2 hl hla (by rw [← es]; exact q)
      rw [← es] at r1
      have k3 : kR C A A3 := k2.tr r2
      have w3 := w.k (F := F) hP hF k3.kF
      have k4 : kR C A (zu A3 C 0 0) := k3.tr kR.s
      have w4 := w.k (F := F) hP hF k4.kF
      have g4 : zu A3 C 0 0 (P + 3) (l i) = nI wd := ((w4.2 _ hla).1).trans ew
      have k6 : kF C F A (zu (zu (zu A3 C 0 0) C 0 0) F wd (zu A3 C 0 0 F wd - T 5 (l i))) := (k4.tr kR.s).kF.tr (fun i j q1 q2 q3 => zu_ne (by omega))
      rw [if_pos (by exact q0), if_neg q]
      unfold D_L_isAs_122
      rw [zI_nI (show l i < 8 by omega) (by decide), ea, if_pos (by exact q0), zB_s r1, zI_nI (show l i < 8 by omega) (by decide), if_pos (show s 1 (l i) = A3 (P + 4) (l i) from ((w3.2 _ hla).2).symm), zB_s (ap5 w3.1.1 hla), zI_nI (show l i < 8 by omega) (by decide)]
      show ∃ A', zI (zu A3 C 0 0 (P + 3) (l i)) U (zB (D_X7_applicant C (nI (l i)) (0 : Int32) (zu A3 C 0 0)) fun e_181 => zI (zu A3 C 0 0 (P + 3) (l i)) U (zLt (zu e_181.2 F (zu A3 C 0 0 (P + 3) (l i)).toNatClampNeg ((zu A3 C 0 0 F (zu A3 C 0 0 (P + 3) (l i)).toNatClampNeg) - e_181.1)) fun M_185 => D_L_isAs_186 P C F U (D_L_isAs_55 P C F U u) v0 seed (x4 ||| T 9 (l i)) (nI i) M_185)) = _ ∧ _
      rw [g4, zI_nI hw (by omega), zB_s (ap0 w4.1.1 hla), zI_nI hw (by omega), zLt_eq, ewc]
      unfold D_L_isAs_186
      rw [nI_add1]
      obtain ⟨A', e1, e2, e3⟩ := ih u (i + 1) (x4 ||| T 9 (l i)) (fun x => if s 0 (l i) = nI x then f x - T 5 (l i) else f x) (zu (zu (zu A3 C 0 0) C 0 0) F wd (zu A3 C 0 0 F wd - T 5 (l i))) (by omega) (by omega) (w.k hP hF k6) (fun x hx => by
        show _ = if s 0 (l i) = nI x then f x - T 5 (l i) else f x
        by_cases z : x = wd
        · subst z
          rw [zu_eq, if_pos ew, k4 _ _ (by omega) (by omega), hf x hx]
        · rw [zu_ne (by omega), if_neg (by rw [ew]; exact fun y => z (nI_inj (by omega) (by omega) y).symm), zu_ne (by omega), k4 _ _ (by omega) (by omega), hf x hx])
      exact ⟨A', e1, e2, k6.tr e3⟩
/-- what is left, unit by unit -/
theorem i_207 {P C F n U H : Nat} {T s : zMt} {l : Nat → Nat} {v0 seed : Int32} (hP : P + 5 ≤ C) (hF : C + 112 ≤ F) (hs : 0 ≤ seed.toInt) (hs2 : seed.toInt ≤ 999999999) (hl : LOs (T 8) n l n 0 (Int32.toInt64 seed) (T 0 2) 0) (es : s = rs T 10 U n l) : ∀ (d u v : Nat) (A : zMt), v + d = U → d < u → wI P C n U H T s l A → (∀ x, x < U → A F x = s 2 x) → ∃ A', D_L_isAs_207 P C F U u v0 seed (nI v) A = D_L_isAs_243 P C F U zFu v0 seed (0 : Int32) A' ∧ kR C A A' := by
  intro d
  induction d with
  | zero =>
    intro u v A hv hu w hf
    obtain ⟨u, rfl⟩ : ∃ y, u = y + 1 := ⟨u - 1, by omega⟩
    have hU := w.1.1.1.2.1
    rw [D_L_isAs_207, w.1.2.2.1, if_pos (by exact (nI_leI (by omega) (by omega)).mpr (by omega))]
    exact ⟨A, rfl, kR.rf⟩
  | succ d ih =>
    intro u v A hv hu w hf
    obtain ⟨u, rfl⟩ : ∃ y, u = y + 1 := ⟨u - 1, by omega⟩
    have hU := w.1.1.1.2.1
    have hvU : v < U := by omega
    have ev : (nI v).toNatClampNeg = v := nI_clamp (by omega)
    obtain ⟨A1, l1, l2⟩ := rd_left w.1.1 hs hs2 hl hvU
    rw [← es] at l1
    have hf1 : ∀ x, x < U → A1 F x = s 2 x := fun x hx => (l2 _ _ (by omega) (by omega)).trans (hf x hx)
    rw [D_L_isAs_207, w.1.2.2.1, if_neg (nle (by omega) (by omega) (by omega)), zB_s l1, zI_nI hvU (by omega), ev, if_pos (show s 2 v = A1 F v from (hf1 v hvU).symm), nI_add1]
    obtain ⟨A', e1, e2⟩ := ih u (v + 1) A1 (by omega) (by omega) (w.k (F := F) hP hF l2.kF) hf1
    exact ⟨A', e1, l2.tr e2⟩
/-- POINTS behind, hunter by hunter -/
theorem i_341 {P C F n U H h : Nat} {T s A : zMt} {l : Nat → Nat} {seed v0 y : Int32} {k243 : Int32 → Int32 → Int32 → zMt → Option (Int32 × zMt)} (hs : 0 ≤ seed.toInt) (hs2 : seed.toInt ≤ 999999999) (hl : LOs (T 8) n l n 0 (Int32.toInt64 seed) (T 0 2) 0) (es : s = rs T 10 U n l) (w : cS C A T n U H) (hh : h < H) (hy : y = bh T s (aOf T h) (A (C + 19) h)) : ∃ A', D_L_isAs_341 P C F U k243 v0 seed (nI h) y A = k243 v0 seed (nI (h + 1)) A' ∧ kR C A A' := by
  obtain ⟨A1, b1, b2⟩ := rd_behind w hs hs2 hl hh
  rw [← es] at b1
  unfold D_L_isAs_341
  rw [zB_s b1, if_pos (by exact hy.symm), nI_add1]
  exact ⟨A1, rfl, b2⟩
theorem i_243 {P C F n U H : Nat} {T s : zMt} {l : Nat → Nat} {seed : Int32} (hP : P + 5 ≤ C) (hF : C + 112 ≤ F) (hn : n ≤ 8) (hs : 0 ≤ seed.toInt) (hs2 : seed.toInt ≤ 999999999) (hl : LOs (T 8) n l n 0 (Int32.toInt64 seed) (T 0 2) 0) (es : s = rs T 10 U n l) : ∀ (d u h : Nat) (A : zMt), h + d = H → d < u → wI P C n U H T s l A → ∃ A', D_L_isAs_243 P C F U u (nI H) seed (nI h) A = some (1, A') ∧ kR C A A' := by
  intro d
  induction d with
  | zero =>
    intro u h A hh hu w
    obtain ⟨u, rfl⟩ : ∃ y, u = y + 1 := ⟨u - 1, by omega⟩
    have hH := w.1.1.2.2.1
    rw [D_L_isAs_243, if_pos (by exact (nI_leI (by omega) (by omega)).mpr (by omega))]
    exact ⟨A, rfl, kR.rf⟩
  | succ d ih =>
    intro u h A hh hu w
    obtain ⟨u, rfl⟩ : ∃ y, u = y + 1 := ⟨u - 1, by omega⟩
    have hH := w.1.1.2.2.1
    have hhH : h < H := by omega
    have hU := w.1.1.1.2.1
    obtain ⟨ha, -, -⟩ := w.1.1.2.1 h hhH
    have k1 : kR C A (zu A C 0 0) := kR.s
    have k2 : kR C A (zu (zu A C 0 0) C 0 0) := k1.tr kR.s
    have k3 : kR C A (zu (zu (zu A C 0 0) C 0 0) C 0 0) := k2.tr kR.s
    have w1 := w.k (F := F) hP hF k1.kF
    have w2 := w.k (F := F) hP hF k2.kF
    have w3 := w.k (F := F) hP hF k3.kF
    have ea : (nI (aOf T h)).toNatClampNeg = aOf T h := nI_clamp (by omega)
    have hp1 : zu A C 0 0 (C + 19) h = A (C + 19) h := k1 _ _ (by omega) (by omega)
    have hp3 : zu (zu (zu A C 0 0) C 0 0) C 0 0 (C + 19) h = A (C + 19) h := k3 _ _ (by omega) (by omega)
    obtain ⟨p, -, p2, p3⟩ := w.1.1.2.2.2.2.2.2.2 h hhH
    obtain ⟨c, c1, c2, c3, c4⟩ := (w.1.1.1.2.2.2.2.1 (aOf T h) ha).2.2.2
    have hok := rs_ok (T := T) (n := n) (U := U) (wo := 10) (l := l) w.1.1.1 (fun k hk => hl.lt n 0 _ _ _ k (by omega) (by omega))
    rw [← es] at hok
    have e3' : D_X7_hunter C (nI h) (3 : Int32) A = some (nI (aOf T h), zu A C 0 0) := rd_hun3 w.1.1 hhH
    have e0' : D_X7_hunter C (nI h) (0 : Int32) (zu A C 0 0) = some (zu A C 0 0 (C + 19) h, zu (zu A C 0 0) C 0 0) := rd_hun0 w1.1.1 hhH
    have g3 := (w3.2 _ ha).1
    have fin : ∀ (y : Int32) (A1 : zMt), kR C A A1 → y = bh T s (aOf T h) (A (C + 19) h) → ∃ A', D_L_isAs_341 P C F U (D_L_isAs_243 P C F U u) (nI H) seed (nI h) y A1 = some (1, A') ∧ kR C A A' := fun y A1 kk hy => by
      have wk := w.k (F := F) hP hF kk.kF
      obtain ⟨A2, e1, e2⟩ := i_341 (P := P) (F := F) (v0 := nI H) (k243 := D_L_isAs_243 P C F U u) hs hs2 hl es wk.1.1 hhH (y := y) (by rw [hy, kk _ _ (by omega) (by omega)])
      obtain ⟨A', g1, g2⟩ := ih u (h + 1) A2 (by omega) (by omega) (w.k (F := F) hP hF (kk.tr e2).kF)
      exact ⟨A', e1.trans g1, (kk.tr e2).tr g2⟩
    rw [D_L_isAs_243, if_neg (nle (by omega) (by omega) (by omega)), zB_s e3', zB_s e0', zB_s (ap4 w2.1.1 ha)]
    have e11 : ∀ q : c = 0, T 11 (aOf T h) = 0 := fun q => by rw [c2, q]; decide
    by_cases q : c = 0
    · have hm1 : s 0 (aOf T h) = -1 := by
        rcases hok _ ha with z | ⟨k, wd, z1, -⟩
        · exact z
        · rw [c2, nI_clamp (by omega)] at z1
          omega
      rw [if_pos (show T 11 (aOf T h) ≤ 0 by rw [e11 q]; decide)]
      unfold D_L_isAs_282
      rw [zI_nI (show aOf T h < 8 by omega) (by decide), ea, if_neg (show ¬ (0 : Int32) ≤ zu (zu (zu A C 0 0) C 0 0) C 0 0 (P + 3) (aOf T h) by rw [g3, hm1]; decide), if_pos rfl]
      unfold D_L_isAs_313
      refine fin _ _ k3 ?_
      unfold bh
      rw [if_pos (e11 q)]
      exact hp1
    · have h11 : ¬ T 11 (aOf T h) = 0 := fun z => by
        rw [c2] at z
        exact q (nI_inj (a := c) (b := 0) (by omega) (by omega) z)
      rw [if_neg (show ¬ T 11 (aOf T h) ≤ 0 by rw [c2]; exact nle (a := c) (b := 0) (by omega) (by omega) (by omega))]
      unfold D_L_isAs_282
      rw [zI_nI (show aOf T h < 8 by omega) (by decide), ea]
      by_cases z : s 0 (aOf T h) = -1
      · rw [if_neg (show ¬ (0 : Int32) ≤ zu (zu (zu A C 0 0) C 0 0) C 0 0 (P + 3) (aOf T h) by rw [g3, z]; decide), if_neg (show ¬ (1 : Int32) = 0 by decide)]
        have ebh : bh T s (aOf T h) (A (C + 19) h) = if (20 : Int32) < A (C + 19) h + 1 then 20 else A (C + 19) h + 1 := by
          unfold bh
          rw [if_neg h11, if_pos z]
        have hp1' : zu A C 0 0 (C + 19) h = nI p := hp1.trans p3
        by_cases y : 20 ≤ p
        · rw [if_pos (show (20 : Int32) ≤ zu A C 0 0 (C + 19) h by rw [hp1']; exact (nI_leI (a := 20) (b := p) (by omega) (by omega)).mpr y)]
          unfold D_L_isAs_313
          refine fin _ _ k3 ?_
          have : p = 20 := by omega
          subst this
          rw [ebh, p3, hp1']
          show nI 20 = if (20 : Int32) < nI 20 + 1 then 20 else nI 20 + 1
          decide
        · rw [if_neg (show ¬ (20 : Int32) ≤ zu A C 0 0 (C + 19) h by rw [hp1']; exact fun x => y ((nI_leI (a := 20) (b := p) (by omega) (by omega)).mp x))]
          refine fin _ _ k3 ?_
          rw [ebh, p3, if_neg (by rw [nI_add1]; exact fun x => by have := (nI_ltI (a := 20) (b := p + 1) (by omega) (by omega)).mp x; omega)]
          show zu A C 0 0 (C + 19) h + 1 = nI p + 1
          rw [hp1']
      · obtain ⟨wd, hw, ew⟩ : ∃ wd, wd < U ∧ s 0 (aOf T h) = nI wd := by
          rcases hok _ ha with y | ⟨k, wd, z1, z2, z3, z4⟩
          · exact absurd y z
          · exact ⟨wd, z2, z4⟩
        have ebh : bh T s (aOf T h) (A (C + 19) h) = if s 0 (aOf T h) = T 12 (3 * aOf T h) then 0 else A (C + 19) h := by
          unfold bh
          rw [if_neg h11, if_neg z]
        obtain ⟨x, ex⟩ := ch0 w3.1.1 ha
        rw [if_pos (show (0 : Int32) ≤ zu (zu (zu A C 0 0) C 0 0) C 0 0 (P + 3) (aOf T h) by rw [g3, ew]; exact (nI_leI (a := 0) (b := wd) (by omega) (by omega)).mpr (by omega)), zI_nI (show aOf T h < 8 by omega) (by decide), zB_s ex]
        by_cases y : s 0 (aOf T h) = T 12 (3 * aOf T h)
        · rw [if_pos (show zu (zu (zu A C 0 0) C 0 0) C 0 0 (P + 3) (aOf T h) = T 12 (3 * aOf T h) by rw [g3]; exact y)]
          refine fin _ _ (k3.tr kR.s) ?_
          rw [ebh, if_pos y]
        · rw [if_neg (show ¬ zu (zu (zu A C 0 0) C 0 0) C 0 0 (P + 3) (aOf T h) = T 12 (3 * aOf T h) by rw [g3]; exact y)]
          refine fin _ _ (k3.tr kR.s) ?_
          rw [ebh, if_neg y]
          exact hp1
/-- all of it -/
theorem cc_isAs {P C F n U H : Nat} {T A : zMt} {l : Nat → Nat} {seed : Int32} (hP : P + 5 ≤ C) (hF : C + 112 ≤ F) (hn : n ≤ 8) (hs : 0 ≤ seed.toInt) (hs2 : seed.toInt ≤ 999999999) (hl : LOs (T 8) n l n 0 (Int32.toInt64 seed) (T 0 2) 0) (w : wI P C n U H T (rs T 10 U n l) l A) : ∃ A', D_L_isAs P C F U (nI H) seed 0 A = some (1, A') ∧ kF C F A A' := by
  obtain ⟨s, es⟩ : ∃ s, s = rs T 10 U n l := ⟨_, rfl⟩
  rw [← es] at w
  have hU := w.1.1.1.2.1
  have hH := w.1.1.2.2.1
  have hll : ∀ k, k < n → l k < n := fun k hk => hl.lt n 0 _ _ _ k (by omega) (by omega)
  have hd : (lp l n).Nodup := lp_nodup n (fun k k' a b => hl.inj (by omega) n 0 _ _ _ k k' (by omega) a (by omega))
  have hsu : ∀ a, a < n → ∃ k, k < n ∧ l k = a := fun a ha => by
    obtain ⟨k, k1, k2, k3⟩ := hl.sur (by omega) n 0 _ _ _ (by rw [cn_0]; omega) a ha bitAt_0
    exact ⟨k, by omega, k3⟩
  unfold D_L_isAs
  obtain ⟨A1, a1, a2, a3⟩ := i_25 (v0 := nI H) (v1 := seed) (v2 := 0) hP hF U zFu 0 A (by omega) (by unfold zFu; omega) w (fun x hx => absurd hx (Nat.not_lt_zero x))
  have w1 := w.k hP hF a3
  obtain ⟨A2, b1, b2, b3⟩ := i_55 (v0 := nI H) hP hF hn hs hs2 hl es n zFu 0 0 (T 1) A1 (by omega) (by unfold zFu; omega) w1 a2
  have w2 := w1.k hP hF b3
  rw [lp_lr0] at b1 b2
  rw [oL_wB hll hsu] at b1
  obtain ⟨A3, c1, c2⟩ := rd_winners w2.1.1 hs hs2 hl
  rw [← es] at c1
  have w3 := w2.k (F := F) hP hF c2.kF
  have hci := cI_rs (T := T) (U := U) (l := l) w.1.1.1 hll hd
  rw [← es] at hci
  obtain ⟨A4, d1, d2⟩ := i_207 (v0 := nI H) hP hF hs hs2 hl es U zFu 0 A3 (by omega) (by unfold zFu; omega) w3 (fun x hx => (c2 _ _ (by omega) (by omega)).trans ((b2 x hx).trans (hci x hx).symm))
  have w4 := w3.k (F := F) hP hF d2.kF
  obtain ⟨A5, f1', f2'⟩ := i_243 (P := P) (F := F) hP hF hn hs hs2 hl es H zFu 0 A4 (by omega) (by unfold zFu; omega) w4
  refine ⟨A5, ?_, ((((a3.tr b3).tr c2.kF).tr d2.kF)).tr f2'.kF⟩
  refine a1.trans (b1.trans ?_)
  rw [D_L_isAs_55, w2.1.2.1, if_pos (by exact (nI_leI (by omega) (by omega)).mpr (Nat.le_refl n)), zB_s c1, if_pos rfl]
  exact d1.trans f1'

