/-! both readers at one token -/
def wh (t : Nat → Int32) (s k : Nat) (w : Int32) : Prop := (∃ j, j < 8 ∧ w = nI j ∧ say t s k j) ∨ (w = -1 ∧ ∀ j, j < 8 → ¬ say t s k j)
def tW (Q P n : Nat) (t : Nat → Int32) (A : zMt) (NA : zNt) (B : zMt) (NB : zNt) (s k : Nat) : Prop :=
  A Q 6 = 1 ∧ B P 18 = 2 ∧ A Q 5 = nI (s + k) ∧ B P 17 = nI (s + k) ∧ 1 ≤ k ∧ k ≤ 8 ∧ s + k ≤ n ∧ dgs (cdg t s) k ∧ (NA Q 8).toInt = eC 27 (cdg t s) k ∧ (NB P 24).toInt = eC 32 (cdg t s) k ∧ wh t s k (B P 19)
def tN (Q P n : Nat) (A B : zMt) (x : Nat) : Prop := A Q 6 = 2 ∧ B P 18 = 3 ∧ A Q 5 = nI x ∧ B P 17 = nI x ∧ x ≤ n ∧ A Q 9 = B P 20 ∧ 0 ≤ (A Q 9).toInt ∧ (A Q 9).toInt ≤ 999
def tS (Q P n : Nat) (A B : zMt) (x : Nat) : Prop := A Q 6 = 3 ∧ B P 18 = 4 ∧ A Q 5 = nI x ∧ B P 17 = nI x ∧ x ≤ n
def tk (Q P n : Nat) (t : Nat → Int32) (A : zMt) (NA : zNt) (B : zMt) (NB : zNt) : Prop :=
  ∃ s, s ≤ n ∧ A Q 7 = nI s ∧ B P 16 = nI s ∧ ((A Q 6 = 0 ∧ B P 18 = 0) ∨ (A Q 6 = 4 ∧ B P 18 = 1) ∨ (∃ k, tW Q P n t A NA B NB s k) ∨ (∃ x, tN Q P n A B x) ∨ (∃ x, tS Q P n A B x))
def fq (Q : Nat) (A A' : zMt) : Prop := ∀ r j, ¬ (r = Q ∧ (j = 5 ∨ j = 6 ∨ j = 7 ∨ j = 9)) → A' r j = A r j
def fqn (Q : Nat) (N N' : zNt) : Prop := ∀ r j, ¬ (r = Q ∧ j = 8) → N' r j = N r j
def fp (P : Nat) (B B' : zMt) : Prop := ∀ r j, ¬ (r = P ∧ (16 ≤ j ∧ j ≤ 20)) → B' r j = B r j
def fpn (P : Nat) (N N' : zNt) : Prop := ∀ r j, ¬ (r = P ∧ j = 24) → N' r j = N r j
/-- a step that both can make: where they stand next is one place -/
def nx (Q P n : Nat) (A B : zMt) : Prop := ∃ x, x ≤ n ∧ A Q 5 = nI x ∧ B P 17 = nI x
theorem tW.nx {Q P n : Nat} {t : Nat → Int32} {A B : zMt} {NA NB : zNt} {s k : Nat} (h : tW Q P n t A NA B NB s k) : nx Q P n A B := ⟨s + k, h.2.2.2.2.2.2.1, h.2.2.1, h.2.2.2.1⟩
theorem tN.nx {Q P n : Nat} {A B : zMt} {x : Nat} (h : tN Q P n A B x) : nx Q P n A B := ⟨x, h.2.2.2.2.1, h.2.2.1, h.2.2.2.1⟩
theorem tS.nx {Q P n : Nat} {A B : zMt} {x : Nat} (h : tS Q P n A B x) : nx Q P n A B := ⟨x, h.2.2.2.2, h.2.2.1, h.2.2.2.1⟩
theorem s_step {Q P n : Nat} {t : Nat → Int32} {A B : zMt} {NA NB : zNt} (hX : tx Q n t A) (hY : ty P n t B) (hN : nx Q P n A B) : ∃ a, D_X3_step Q A NA = some a ∧ ∃ b, D_X8_next P B NB = some b ∧ b.1 = 1 ∧ fq Q A a.1 ∧ fqn Q NA a.2 ∧ fp P B b.2.1 ∧ fpn P NB b.2.2 ∧ (a.1 Q 9 = A Q 9 ∨ a.1 Q 6 = 2 ∨ a.1 Q 6 = 4) ∧ tk Q P n t a.1 a.2 b.2.1 b.2.2 := by
  obtain ⟨x, hx, h5, h17⟩ := hN
  obtain ⟨a, ea, a1, a2, a3, a4, a5, a6, a7, a8⟩ := c_step (N := NA) hX h5 hx
  obtain ⟨b, eb, b1, b2, b3, b4, b5, b6, b7, b8⟩ := m_step (N := NB) hY h17 hx
  obtain ⟨r1, r2, -, -⟩ := rn_spec (p := isB) (t := t) (n := n) (n - x) x (Nat.le_refl _) hx
  generalize rn isB t n x = s at *
  refine ⟨a, ea, b, eb, b3, a1, a2, b1, b2, a8, s, r2, a3, b4, ?_⟩
  by_cases hlt : s < n
  · by_cases hL : isL (t s) = true
    · obtain ⟨c1, c2⟩ := a5 hlt hL
      obtain ⟨d1, d2⟩ := b6 hlt hL
      by_cases q : rn isL t n s - s ≤ 8
      · obtain ⟨e1, e2, e3⟩ := c1 q
        obtain ⟨g1, g2, g3, g4⟩ := d1 q
        obtain ⟨p1, p2, p3, p4⟩ := rn_spec (p := isL) (t := t) (n := n) (n - s) s (Nat.le_refl _) r2
        have hgo : s + 1 ≤ rn isL t n s := by
          rw [rn_go hlt hL]
          exact (rn_spec (p := isL) (t := t) (n := n) (n - (s + 1)) (s + 1) (Nat.le_refl _) hlt).1
        have hsum : rn isL t n s = s + (rn isL t n s - s) := by omega
        have hall : ∀ i, i < rn isL t n s - s → isL (t (s + i)) = true := fun i hi => p3 (s + i) (by omega) (by omega)
        have hdg := cdg_dgs hall
        have he : (b.2.2 P 24).toInt = eC 32 (cdg t s) (rn isL t n s - s) := by rw [g3]; exact xv_eC q hall
        obtain ⟨w, hw, hwh⟩ := m_among (P := P) (w := 11) (N := b.2.2) (Or.inl rfl) hdg he
        rw [g4] at hw
        cases hw
        refine Or.inr (Or.inr (Or.inl ⟨rn isL t n s - s, e1, g1, by rw [← hsum]; exact e2, by rw [← hsum]; exact g2, by omega, q, by omega, hdg, by rw [e3]; exact wv_eC q hall, he, ?_⟩))
        rcases hwh with ⟨m, hm, h1, h2⟩ | ⟨h1, h2⟩
        · have hm8 : m < 8 := hm
          have e : (wls 11).getD m 0 = m := (show ∀ m, m < 8 → (wls 11).getD m 0 = m by decide) m hm8
          rw [e] at h2
          exact Or.inl ⟨m, hm8, h1, h2⟩
        · refine Or.inr ⟨h1, fun j hj => ?_⟩
          have e : (wls 11).getD j 0 = j := (show ∀ m, m < 8 → (wls 11).getD m 0 = m by decide) j hj
          have := h2 j hj
          rw [e] at this
          exact this
      · exact Or.inr (Or.inl ⟨c2 q, d2 q⟩)
    · have hL : isL (t s) = false := by cases h : isL (t s) with
        | false => rfl
        | true => exact absurd h hL
      by_cases hD : isD (t s) = true
      · obtain ⟨c1, c2⟩ := a6 hlt hL hD
        obtain ⟨d1, d2⟩ := b7 hlt hL hD
        by_cases q : rn isD t n s - s ≤ 3
        · obtain ⟨e1, e2, e3⟩ := c1 q
          obtain ⟨g1, g2, g3⟩ := d1 q
          obtain ⟨p1, p2, p3, p4⟩ := rn_spec (p := isD) (t := t) (n := n) (n - s) s (Nat.le_refl _) r2
          have hv := nv_le (t := t) (s := s) q (fun i hi => p3 (s + i) (by omega) (by omega))
          have hp := p10_le _ q
          refine Or.inr (Or.inr (Or.inr (Or.inl ⟨rn isD t n s, e1, g1, e2, g2, p2, ?_, ?_, ?_⟩)))
          · rw [e3, g3]; exact nv_yv q
          · rw [e3]; exact hv.1
          · rw [e3]; omega
        · exact Or.inr (Or.inl ⟨c2 q, d2 q⟩)
      · have hD : isD (t s) = false := by cases h : isD (t s) with
          | false => rfl
          | true => exact absurd h hD
        obtain ⟨c1, c2⟩ := a7 hlt hL hD
        obtain ⟨d1, d2⟩ := b8 hlt hL hD
        by_cases q : t s = 59
        · exact Or.inr (Or.inr (Or.inr (Or.inr ⟨s + 1, (c1 q).1, (d1 q).1, (c1 q).2, (d1 q).2, by omega⟩)))
        · exact Or.inr (Or.inl ⟨c2 q, d2 q⟩)
  · exact Or.inl ⟨a4 hlt, b5 hlt⟩
/-! what stands at the token -/
theorem nI_inj {a b : Nat} (ha : a < 2147483648) (hb : b < 2147483648) (h : nI a = nI b) : a = b := by
  have := congrArg Int32.toInt h
  rw [nI_toInt ha, nI_toInt hb] at this
  omega
theorem c_saysL {Q n s k j : Nat} {t : Nat → Int32} {A : zMt} (hT : tx Q n t A) (h7 : A Q 7 = nI s) (hsk : s + k ≤ n) (hk : k = zLen.getD j 0) : ∀ (u i : Nat), i ≤ k → k - i < u → (∀ i', i' < i → t (s + i') = zCh j i') → ∃ r, D_X3_says_28 Q j A u (nI i) = some r ∧ ((r = 1 ∧ say t s k j) ∨ (r = 0 ∧ ¬ say t s k j)) := by
  obtain ⟨hn, h4, ht⟩ := hT
  intro u
  induction u with
  | zero => intro i _ h; omega
  | succ u ih =>
    intro i hi hu hp
    rw [D_X3_says_28, ← hk, show Int32.ofNat k = nI k from rfl]
    by_cases hc : k ≤ i
    · rw [if_pos ((nI_leI (by omega) (by omega)).mpr hc)]
      exact ⟨_, rfl, Or.inl ⟨rfl, hk, fun i' h => hp i' (by omega)⟩⟩
    · rw [if_neg (fun q => hc ((nI_leI (by omega) (by omega)).mp q))]
      unfold zI
      have es : A Q 7 + nI i = nI (s + i) := by
        rw [h7]
        apply Int32.toInt_inj.mp
        have e1 : (nI s).toInt = (s : Nat) := nI_toInt (by omega)
        have e2 : (nI i).toInt = (i : Nat) := nI_toInt (by omega)
        have e3 : (nI (s + i)).toInt = (s + i : Nat) := nI_toInt (by omega)
        rw [z_add (by rw [e1, e2]; omega) (by rw [e1, e2]; omega), e1, e2, e3]
        omega
      rw [if_neg (vp_in_nI (by omega) (by omega)), es, zrd_nI (by omega) (by decide), ht (s + i) (by omega), nI_clamp (by omega), nI_add1]
      by_cases q : t (s + i) = zCh j i
      · rw [if_pos q]
        exact ih (i + 1) (by omega) (by omega) (fun i' h => by
          by_cases z : i' = i
          · subst z; exact q
          · exact hp i' (by omega))
      · rw [if_neg q]
        exact ⟨_, rfl, Or.inr ⟨rfl, fun h => q (h.2 i (by omega))⟩⟩
theorem c_says {Q n s k j : Nat} {t : Nat → Int32} {A : zMt} (hT : tx Q n t A) (h6 : A Q 6 = 1) (h7 : A Q 7 = nI s) (h5 : A Q 5 = nI (s + k)) (hsk : s + k ≤ n) (hj : j < 11) : ∃ r, D_X3_says Q j A = some r ∧ ((r = 1 ∧ say t s k j) ∨ (r = 0 ∧ ¬ say t s k j)) := by
  have hl : zLen.getD j 0 ≤ 6 := (show ∀ j, j < 11 → zLen.getD j 0 ≤ 6 by decide) j hj
  have hn := hT.1
  unfold D_X3_says
  rw [if_pos h6, h5, h7, nI_subk (by omega)]
  by_cases q : k = zLen.getD j 0
  · rw [if_pos (by rw [← q]; rfl)]
    exact c_saysL hT h7 hsk q zFu 0 (by omega) (by unfold zFu; omega) (fun i' h => by omega)
  · rw [if_neg (by intro z; exact q (nI_inj (by omega) (by omega) z))]
    exact ⟨_, rfl, Or.inr ⟨rfl, fun h => q h.1⟩⟩
theorem c_says0 {Q j : Nat} {A : zMt} (h6 : ¬ A Q 6 = 1) : D_X3_says Q j A = some 0 := by
  unfold D_X3_says
  rw [if_neg h6]
  rfl
theorem zB_s2 {α β : Type} {o : Option α} {f : α → Option β} {H : α → Prop} {G : β → Prop} (h : ∃ e, o = some e ∧ H e) (k : ∀ e, H e → ∃ r, f e = some r ∧ G r) : ∃ r, zB o f = some r ∧ G r := vB h (fun e _ q => k e q)
theorem c_isName {Q n s k : Nat} {t : Nat → Int32} {A : zMt} (hT : tx Q n t A) (h6 : A Q 6 = 1) (h7 : A Q 7 = nI s) (h5 : A Q 5 = nI (s + k)) (hsk : s + k ≤ n) : ∃ r, D_X3_isName Q A = some r ∧ ((r = 1 ∧ ∀ j, j < 8 → ¬ say t s k j) ∨ (r = 0 ∧ ∃ j, j < 8 ∧ say t s k j)) := by
  unfold D_X3_isName
  rw [if_pos h6]
  have S : ∀ j, j < 11 → ∃ r, D_X3_says Q j A = some r ∧ ((r = 1 ∧ say t s k j) ∨ (r = 0 ∧ ¬ say t s k j)) := fun j hj => c_says hT h6 h7 h5 hsk hj
  have no : ∀ (j : Nat) (r : Int32), j < 8 → ((r = 1 ∧ say t s k j) ∨ (r = 0 ∧ ¬ say t s k j)) → ¬ r = 0 → ∃ r2, D_X3_isName_84 Q A = some r2 ∧ ((r2 = 1 ∧ ∀ j, j < 8 → ¬ say t s k j) ∨ (r2 = 0 ∧ ∃ j, j < 8 ∧ say t s k j)) := fun j r hj q hr => by
    rcases q with ⟨_, q⟩ | ⟨q, _⟩
    · exact ⟨0, rfl, Or.inr ⟨rfl, j, hj, q⟩⟩
    · exact absurd q hr
  have yes : ∀ (j : Nat) (r : Int32), ((r = 1 ∧ say t s k j) ∨ (r = 0 ∧ ¬ say t s k j)) → r = 0 → ¬ say t s k j := fun j r q hr => by
    rcases q with ⟨q, _⟩ | ⟨_, q⟩
    · rw [hr] at q; exact absurd q (by decide)
    · exact q
  refine zB_s2 (S 0 (by decide)) (fun r0 q0 => vIf (fun z0 => ?_) (fun z0 => no 0 r0 (by decide) q0 z0))
  refine zB_s2 (S 1 (by decide)) (fun r1 q1 => vIf (fun z1 => ?_) (fun z1 => no 1 r1 (by decide) q1 z1))
  refine zB_s2 (S 2 (by decide)) (fun r2 q2 => vIf (fun z2 => ?_) (fun z2 => no 2 r2 (by decide) q2 z2))
  refine zB_s2 (S 3 (by decide)) (fun r3 q3 => vIf (fun z3 => ?_) (fun z3 => no 3 r3 (by decide) q3 z3))
  refine zB_s2 (S 4 (by decide)) (fun r4 q4 => vIf (fun z4 => ?_) (fun z4 => no 4 r4 (by decide) q4 z4))
  refine zB_s2 (S 5 (by decide)) (fun r5 q5 => vIf (fun z5 => ?_) (fun z5 => no 5 r5 (by decide) q5 z5))
  refine zB_s2 (S 6 (by decide)) (fun r6 q6 => vIf (fun z6 => ?_) (fun z6 => no 6 r6 (by decide) q6 z6))
  refine zB_s2 (S 7 (by decide)) (fun r7 q7 => vIf (fun z7 => ?_) (fun z7 => no 7 r7 (by decide) q7 z7))
  refine ⟨1, rfl, Or.inl ⟨rfl, fun j hj => ?_⟩⟩
  have hj2 : j = 0 ∨ j = 1 ∨ j = 2 ∨ j = 3 ∨ j = 4 ∨ j = 5 ∨ j = 6 ∨ j = 7 := by omega
  rcases hj2 with rfl | rfl | rfl | rfl | rfl | rfl | rfl | rfl
  · exact yes 0 r0 q0 z0
  · exact yes 1 r1 q1 z1
  · exact yes 2 r2 q2 z2
  · exact yes 3 r3 q3 z3
  · exact yes 4 r4 q4 z4
  · exact yes 5 r5 q5 z5
  · exact yes 6 r6 q6 z6
  · exact yes 7 r7 q7 z7
theorem c_isName0 {Q : Nat} {A : zMt} (h6 : ¬ A Q 6 = 1) : D_X3_isName Q A = some 0 := by
  unfold D_X3_isName
  rw [if_neg h6]
  rfl
/-- both say alike whether a name stands here -/
theorem s_isName {Q P n : Nat} {t : Nat → Int32} {A B : zMt} {NA NB : zNt} (hX : tx Q n t A) (hK : tk Q P n t A NA B NB) : ∃ r, D_X3_isName Q A = some r ∧ D_X8_isName P B = some r ∧ (r = 0 ∨ (r = 1 ∧ ∃ s k, A Q 7 = nI s ∧ B P 16 = nI s ∧ tW Q P n t A NA B NB s k)) := by
  obtain ⟨s, hs, h7, h16, hK⟩ := hK
  have zero : ¬ A Q 6 = 1 → ¬ B P 18 = 2 → ∃ r, D_X3_isName Q A = some r ∧ D_X8_isName P B = some r ∧ (r = 0 ∨ (r = 1 ∧ ∃ s k, A Q 7 = nI s ∧ B P 16 = nI s ∧ tW Q P n t A NA B NB s k)) := fun h1 h2 => by
    refine ⟨0, c_isName0 h1, ?_, Or.inl rfl⟩
    unfold D_X8_isName
    rw [if_neg h2]
    rfl
  rcases hK with ⟨h1, h2⟩ | ⟨h1, h2⟩ | ⟨k, hW⟩ | ⟨x, h1, h2, -⟩ | ⟨x, h1, h2, -⟩
  · exact zero (by rw [h1]; decide) (by rw [h2]; decide)
  · exact zero (by rw [h1]; decide) (by rw [h2]; decide)
  · obtain ⟨w1, w2, w3, w4, w5, w6, w7, w8, w9, w10, w11⟩ := id hW
    obtain ⟨r, e, q⟩ := c_isName hX w1 h7 w3 w7
    refine ⟨r, e, ?_, ?_⟩
    · unfold D_X8_isName
      rw [if_pos w2]
      rcases q with ⟨q1, q2⟩ | ⟨q1, j, q2, q3⟩
      · rcases w11 with ⟨j, u1, u2, u3⟩ | ⟨u1, u2⟩
        · exact absurd u3 (q2 j u1)
        · rw [if_pos u1, q1]; rfl
      · rcases w11 with ⟨j, u1, u2, u3⟩ | ⟨u1, u2⟩
        · rw [if_neg (by rw [u2]; intro z; have := congrArg Int32.toInt z; rw [nI_toInt (by omega), show (-1 : Int32).toInt = -1 by decide] at this; omega), q1]; rfl
        · exact absurd q3 (u2 j q2)
    · rcases q with ⟨q1, q2⟩ | ⟨q1, -⟩
      · exact Or.inr ⟨q1, s, k, h7, h16, hW⟩
      · exact Or.inl q1
  · exact zero (by rw [h1]; decide) (by rw [h2]; decide)
  · exact zero (by rw [h1]; decide) (by rw [h2]; decide)
/-- a fault told by both -/
def FR (Q P : Nat) (A B : zMt) : Prop := A Q 1 = B P 21 ∧ A Q 2 = B P 22
theorem tk.bad {Q P n : Nat} {t : Nat → Int32} {A B : zMt} {NA NB : zNt} (hK : tk Q P n t A NA B NB) : (A Q 6 = 4 ↔ B P 18 = 1) ∧ A Q 7 = B P 16 := by
  obtain ⟨s, hs, h7, h16, hK⟩ := hK
  refine ⟨?_, h7.trans h16.symm⟩
  rcases hK with ⟨h1, h2⟩ | ⟨h1, h2⟩ | ⟨k, h1, h2, -⟩ | ⟨x, h1, h2, -⟩ | ⟨x, h1, h2, -⟩ <;> rw [h1, h2] <;> decide
theorem s_fail {Q P n : Nat} {t : Nat → Int32} {A B : zMt} {NA NB : zNt} {v : Int32} (hK : tk Q P n t A NA B NB) : ∃ a, D_X3_fail Q v A = some a ∧ ∃ b, D_X8_bad P v B = some b ∧ a.1 = 0 ∧ b.1 = 0 ∧ FR Q P a.2 b.2 := by
  obtain ⟨h1, h2⟩ := hK.bad
  have key : ∀ y : Int32, FR Q P (zu (zu A Q 1 y) Q 2 (zu A Q 1 y Q 7)) (zu (zu B P 21 y) P 22 (zu B P 21 y P 16)) := fun y => by
    refine ⟨?_, ?_⟩
    · rw [zu_ne (by omega), zu_eq, zu_ne (by omega), zu_eq]
    · rw [zu_eq, zu_eq, zu_ne (by omega), zu_ne (by omega)]; exact h2
  unfold D_X3_fail D_X8_bad
  by_cases q : A Q 6 = 4
  · rw [if_pos q, if_pos (h1.mp q)]
    exact ⟨_, rfl, _, rfl, rfl, rfl, key 1⟩
  · rw [if_neg q, if_neg (fun z => q (h1.mpr z))]
    exact ⟨_, rfl, _, rfl, rfl, rfl, key v⟩
