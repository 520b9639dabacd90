/-! the choices one by one -/
def aW (Q P : Nat) (A B : zMt) (c base : Nat) (w : Nat → Int32) : Prop := (∀ k, k < 3 → A (Q + 13) k = w k ∧ B (P + 2) (base + k) = w k) ∧ (∀ k, k < 3 → (k < c ↔ ¬ w k = -1))
theorem l_asks150 {Q P n : Nat} {t : Nat → Int32} {A A3 B B3 : zMt} {NA NA3 NB NB3 : zNt} {U H G c base : Nat} {s : Int32} {w : Nat → Int32} (hC : dC Q P A B U H G) (hM : dN Q P t NA NB U H G) (hR : dR Q P A B U H G) (hO : dO Q P A B) (hF : dF Q P A B) (hK : aK Q P A B H G s base) (hc : c ≤ 3)
    (kA3 : kA Q A A3) (kNA3 : kNA Q NA NA3) (kB3 : gB P (fun r j => r = P + 2 ∧ base ≤ j ∧ j < base + 3) B B3) (kNB3 : kNB P NB NB3) (x3 : tx Q n t A3) (y3 : ty P n t B3) (k3 : tk Q P n t A3 NA3 B3 NB3) (hW : aW Q P A3 B3 c base w) : two (D_X3_readAsks_150 Q s A3 NA3) (D_X8_readLine_114 P (1 : Int32) B3 NB3) (LR Q P n t) := by
  have kB3 : ∀ r j, ¬ (r = P ∧ ((16 ≤ j ∧ j ≤ 20) ∨ j = 31)) → ¬ (r = P + 2 ∧ base ≤ j ∧ j < base + 3) → B3 r j = B r j := kB3
  unfold D_X3_readAsks_150
  refine two.bindl (t_end (x1 := 1) x3 y3 k3 (by decide)) (fun a4 b4 h4 => ?_)
  rcases h4 with h4 | ⟨j4, s4, i4, ka4, kna4, kb4, knb4, x4, y4, k4, p4, q4, o4, w4, v4⟩
  · rw [if_pos h4.1]
    exact two.mk (Or.inl ⟨rfl, h4.2.1, h4.2.2⟩)
  rw [if_neg (by rw [j4]; decide)]
  have kA4 : kA Q A a4.2.1 := kA3.tr ka4
  have kNA4 : kNA Q NA a4.2.2 := kNA3.tr kna4
  obtain ⟨hW1, hW2⟩ := hW
  have z0 : zrd 0 (a4.2.1 (Q + 13)) 3 (0 : Int32) = w 0 := by
    rw [show (0 : Int32) = nI 0 by decide, zrd_nI (by omega) (by decide), w4 0]; exact (hW1 0 (by omega)).1
  have z1 : zrd 0 (a4.2.1 (Q + 13)) 3 (1 : Int32) = w 1 := by
    rw [show (1 : Int32) = nI 1 by decide, zrd_nI (by omega) (by decide), w4 1]; exact (hW1 1 (by omega)).1
  have z2 : zrd 0 (a4.2.1 (Q + 13)) 3 (2 : Int32) = w 2 := by
    rw [show (2 : Int32) = nI 2 by decide, zrd_nI (by omega) (by decide), w4 2]; exact (hW1 2 (by omega)).1
  rw [z0, z1, z2]
  have cH : a4.2.1 (Q + 1) 1 = nI H := (kA4 (Q + 1) 1 (by omega) (by omega)).trans hC.2.2.2.2.2.1
  obtain ⟨A', f1, f2, f3⟩ := c_wish (R := Q + 1) (s := s) (A := a4.2.1) hC.2.1 cH hc hW2
  refine two.l f1 (two.mk (Or.inr ⟨rfl, i4, ?_⟩))
  have kF : ∀ r j, ¬ r = Q + 6 → ¬ r = Q + 7 → A' r j = a4.2.1 r j := fun r j h1 h2 => f3 r j (fun z => h1 z.1) (fun z => h2 z.1)
  refine ⟨x4.mono (fun r j h => kF r j (by omega) (by omega)), y4, k4.mono (fun j h => kF Q j (by omega) (by omega)) rfl (fun _ _ => rfl) rfl, Or.inr (Or.inr ?_)⟩
  obtain ⟨d1, d3⟩ := d_asks (A' := A') (B' := b4.2.1) (s := s) (w := w) hC hR hK hc hW2
    (fun r j h1 h2 h3 => (f3 r j (fun z => h3 (Or.inl z)) (fun z => h3 (Or.inr z))).trans (kA4 r j h1 h2)) (fun h h1 h2 => (f2 h h1 h2).1) (fun h k h1 h2 h3 => (f2 h h1 h3).2 k h2)
    (fun r j h1 h2 => (kb4 r j h1).trans (kB3 r j h1 h2)) (fun k hk => (kb4 (P + 2) (base + k) (by omega)).trans (hW1 k hk).2)
  have knb : kNB P NB b4.2.2 := kNB3.tr knb4
  refine ⟨⟨U, H, G, d1, hM.k kNA4 knb, d3⟩, hO.g (fun j h => (kF Q j (by omega) (by omega)).trans (kA4 Q j (by omega) (by omega))) ((kF (Q + 1) 3 (by omega) (by omega)).trans (kA4 (Q + 1) 3 (by omega) (by omega))) ((kb4 P 23 (by omega)).trans (kB3 P 23 (by omega) (by omega))), ?_, ?_, ?_, ?_⟩
  · show A' Q 1 = 0
    rw [kF Q 1 (by omega) (by omega), kA4 Q 1 (by omega) (by omega)]; exact hF.1
  · rw [kb4 P 21 (by omega), kB3 P 21 (by omega) (by omega)]; exact hF.2.1
  · show A' Q 2 = -1
    rw [kF Q 2 (by omega) (by omega), kA4 Q 2 (by omega) (by omega)]; exact hF.2.2.1
  · rw [kb4 P 22 (by omega), kB3 P 22 (by omega) (by omega)]; exact hF.2.2.2
/-- the reference looks whether the unit is among the choices -/
theorem m_187 {P c base : Nat} {v : Int32} {B : zMt} {NB : zNt} {k124 : Int32 → Int32 → zMt → zNt → Option (Int32 × zMt × zNt)} (hb : base + c < 82) : ∀ (u i : Nat), i ≤ c → c - i < u → (∀ i', i' < i → ¬ B (P + 2) (base + i') = v) →
    ((∃ i', i' < c ∧ B (P + 2) (base + i') = v) ∧ D_X8_readAsks_187 P k124 u (nI base) (nI c) v (nI i) B NB = zB (D_X8_bad P (4 : Int32) B) fun e => some (e.1, e.2, NB)) ∨
    ((∀ i', i' < c → ¬ B (P + 2) (base + i') = v) ∧ D_X8_readAsks_187 P k124 u (nI base) (nI c) v (nI i) B NB = zB (D_X8_next P (zu B (P + 2) (base + c) v) NB) fun e => k124 (nI base) (nI (c + 1)) e.2.1 e.2.2) := by
  have add : ∀ x y : Nat, x + y < 82 → nI x + nI y = nI (x + y) := fun x y h => by
    apply Int32.toInt_inj.mp
    have e1 : (nI x).toInt = (x : Nat) := nI_toInt (by omega)
    have e2 : (nI y).toInt = (y : Nat) := nI_toInt (by omega)
    have e3 : (nI (x + y)).toInt = (x + y : Nat) := nI_toInt (by omega)
    rw [z_add (by rw [e1, e2]; omega) (by rw [e1, e2]; omega), e1, e2, e3]
    omega
  intro u
  induction u with
  | zero => intro i _ h; omega
  | succ u ih =>
    intro i hi hu hp
    rw [D_X8_readAsks_187]
    by_cases hc : c ≤ i
    · rw [if_pos ((nI_leI (by omega) (by omega)).mpr hc), add base c hb]
      unfold zI
      rw [if_neg (vp_in_nI hb (by decide)), nI_clamp (by omega), nI_add1]
      exact Or.inr ⟨fun i' h => hp i' (by omega), rfl⟩
    · rw [if_neg (fun q => hc ((nI_leI (by omega) (by omega)).mp q)), add base i (by omega)]
      unfold zI
      rw [if_neg (vp_in_nI (by omega) (by decide)), nI_clamp (by omega)]
      by_cases q : B (P + 2) (base + i) = v
      · rw [if_pos q]
        exact Or.inl ⟨⟨i, by omega, q⟩, rfl⟩
      · rw [if_neg q, nI_add1]
        exact ih (i + 1) (by omega) (by omega) (fun i' h => by
          by_cases z : i' = i
          · subst z; exact q
          · exact hp i' (by omega))
theorem l_asks46 {Q P n : Nat} {t : Nat → Int32} {A B : zMt} {NA NB : zNt} {U H G base : Nat} {s : Int32} (hC : dC Q P A B U H G) (hM : dN Q P t NA NB U H G) (hR : dR Q P A B U H G) (hO : dO Q P A B) (hF : dF Q P A B) (hK : aK Q P A B H G s base) (hb : base < 70 ∧ 20 ≤ base) : ∀ (u c : Nat) (w : Nat → Int32) (A3 : zMt) (NA3 : zNt) (B3 : zMt) (NB3 : zNt), kA Q A A3 → kNA Q NA NA3 → gB P (fun r j => r = P + 2 ∧ base ≤ j ∧ j < base + 3) B B3 → kNB P NB NB3 → tx Q n t A3 → ty P n t B3 → tk Q P n t A3 NA3 B3 NB3 → aW Q P A3 B3 c base w → c ≤ 3 → 3 - c < u → two (D_X3_readAsks_46 Q u s (nI c) A3 NA3) (zB (D_X8_readAsks_124 P u (nI base) (nI c) B3 NB3) fun e => D_X8_readLine_114 P e.1 e.2.1 e.2.2) (LR Q P n t) := by
  intro u
  induction u with
  | zero => intro c w A3 NA3 B3 NB3 _ _ _ _ _ _ _ _ _ h; omega
  | succ u ih =>
    intro c w A3 NA3 B3 NB3 kA3 kNA3 kB3 kNB3 x3 y3 k3 hW hc hu
    have kB3' : ∀ r j, ¬ (r = P ∧ ((16 ≤ j ∧ j ≤ 20) ∨ j = 31)) → ¬ (r = P + 2 ∧ base ≤ j ∧ j < base + 3) → B3 r j = B r j := kB3
    obtain ⟨c1, c2, c3, c4, c5, c6, c7, c8, c9⟩ := id hC
    have hM3 := hM.k kNA3 kNB3
    have hU3 : A3 (Q + 1) 0 = nI U := (kA3 (Q + 1) 0 (by omega) (by omega)).trans c4
    have hU8 : B3 P 28 = nI U := (kB3' P 28 (by omega) (by omega)).trans c5
    obtain ⟨hW1, hW2⟩ := id hW
    obtain ⟨r, er, er8, hr⟩ := s_isName x3 k3
    have fin : 1 ≤ c → two (D_X3_readAsks_150 Q s A3 NA3) (D_X8_readLine_114 P (1 : Int32) B3 NB3) (LR Q P n t) := fun _ => l_asks150 hC hM hR hO hF hK hc kA3 kNA3 kB3 kNB3 x3 y3 k3 hW
    have more : c < 3 → r = 1 → two (D_X3_readAsks_64 Q (D_X3_readAsks_46 Q u) s (nI c) A3 NA3) (zB (D_X8_readAsks_136 P (D_X8_readAsks_124 P u) (nI base) (nI c) B3 NB3) fun e => D_X8_readLine_114 P e.1 e.2.1 e.2.2) (LR Q P n t) := by
      intro hc3 hr1
      obtain ⟨-, s0, k, h7, h16, hT⟩ := hr.resolve_left (by rw [hr1]; decide)
      unfold D_X3_readAsks_64 D_X8_readAsks_136
      refine two.l er ?_
      rw [zB_zB]
      refine two.r er8 ?_
      rw [if_neg (by rw [hr1]; decide), if_neg (by rw [hr1]; decide), if_neg (by intro z; exact absurd (nI_inj (b := 3) (by omega) (by omega) z) (by omega)), zB_zB, hU3, hU8]
      obtain ⟨e, g1, g2, hf⟩ := s_find (Qr := Q + 10) (nQ := 5) (Pr := P + 8) (nP := 5) (c := U) c1 c1 (by omega) (by omega) hT.nm hM3.1
      refine two.l g1 (two.r g2 ?_)
      have bad4 : two (D_X3_readAsks_125 Q A3 NA3) (zB (zB (D_X8_bad P (4 : Int32) B3) fun e => some (e.1, e.2, NB3)) fun e => D_X8_readLine_114 P e.1 e.2.1 e.2.2) (LR Q P n t) := by
        unfold D_X3_readAsks_125
        obtain ⟨a, f1, b, f2, f3⟩ := t_fail (NA := NA3) (NB := NB3) (v := 4) k3
        rw [f1, f2]
        exact t_dn2 (a := a) (b := b) f3
      by_cases he : e = -1
      · rw [if_pos he, if_pos he]
        exact bad4
      · obtain ⟨uu, huu, e2, -⟩ := hf.some he
        subst e2
        rw [if_neg he, if_neg he]
        have z0 : zrd 0 (A3 (Q + 13)) 3 (0 : Int32) = w 0 := by
          rw [show (0 : Int32) = nI 0 by decide, zrd_nI (by omega) (by decide)]; exact (hW1 0 (by omega)).1
        have z1 : zrd 0 (A3 (Q + 13)) 3 (1 : Int32) = w 1 := by
          rw [show (1 : Int32) = nI 1 by decide, zrd_nI (by omega) (by decide)]; exact (hW1 1 (by omega)).1
        rw [z0, z1]
        have m := m_187 (P := P) (c := c) (base := base) (v := nI uu) (B := B3) (NB := NB3) (k124 := D_X8_readAsks_124 P u) (by omega) zFu 0 (by omega) (by unfold zFu; omega) (fun i' h => by omega)
        rw [show nI 0 = (0 : Int32) by decide] at m
        have hno : ∀ k, k < 3 → c ≤ k → ¬ w k = nI uu := fun k hk hck z => by
          have : w k = -1 := Classical.byContradiction (fun q => absurd ((hW2 k hk).mpr q) (by omega))
          exact nI_ne (by omega) (z.symm.trans this)
        by_cases q0 : w 0 = nI uu
        · rw [if_pos q0]
          rcases m with ⟨-, m2⟩ | ⟨m1, -⟩
          · rw [m2]; exact bad4
          · by_cases hc0 : 0 < c
            · exact absurd ((hW1 0 (by omega)).2.trans q0) (m1 0 hc0)
            · exact absurd q0 (hno 0 (by omega) (by omega))
        · rw [if_neg q0]
          by_cases q1 : w 1 = nI uu
          · rw [if_pos q1]
            rcases m with ⟨-, m2⟩ | ⟨m1, -⟩
            · rw [m2]; exact bad4
            · by_cases hc0 : 1 < c
              · exact absurd ((hW1 1 (by omega)).2.trans q1) (m1 1 hc0)
              · exact absurd q1 (hno 1 (by omega) (by omega))
          · rw [if_neg q1]
            rcases m with ⟨⟨i', i1, i2⟩, -⟩ | ⟨-, m2⟩
            · have hi : i' = 0 ∨ i' = 1 := by omega
              rcases hi with rfl | rfl
              · exact absurd ((hW1 0 (by omega)).2.symm.trans i2) q0
              · exact absurd ((hW1 1 (by omega)).2.symm.trans i2) q1
            · rw [m2, zB_zB, zwr_nI hc3 (by decide)]
              refine two.letl ?_
              have kA' : kA Q A3 (zu A3 (Q + 13) c (nI uu)) := fun r j h1 h2 => zu_ne (by omega)
              have kQ : ∀ j, zu A3 (Q + 13) c (nI uu) Q j = A3 Q j := fun j => zu_ne (by omega)
              have kB' : ∀ r j, ¬ (r = P + 2 ∧ j = base + c) → zu B3 (P + 2) (base + c) (nI uu) r j = B3 r j := fun r j h => zu_ne h
              obtain ⟨xx, hx1, hx2, hx3⟩ := hT.nx
              refine two.bind (t_step (A := zu A3 (Q + 13) c (nI uu)) (B := zu B3 (P + 2) (base + c) (nI uu)) (NA := NA3) (NB := NB3) (x3.k kA') (y3.mono (fun r j h => kB' r j (by omega))) ⟨xx, hx1, (kQ 5).trans hx2, (kB' P 17 (by omega)).trans hx3⟩) (fun a4 b4 h4 => ?_)
              obtain ⟨i4, ka4, kna4, kb4, knb4, x4, y4, k4, p4, q4, o4, w4, v4⟩ := h4
              rw [nI_add1]
              refine ih (c + 1) (fun k => if k = c then nI uu else w k) a4.1 a4.2 b4.2.1 b4.2.2 ((kA3.tr kA').tr ka4) (kNA3.tr kna4) (fun r j h1 h2 => (kb4 r j h1).trans ((kB' r j (fun z => h2 ⟨z.1, by omega, by omega⟩)).trans (kB3' r j h1 h2))) (kNB3.tr knb4) x4 y4 k4 ⟨fun k hk => ?_, fun k hk => ?_⟩ (by omega) (by omega)
              · rw [w4 k, kb4 (P + 2) (base + k) (by omega)]
                show zu A3 (Q + 13) c (nI uu) (Q + 13) k = (if k = c then nI uu else w k) ∧ zu B3 (P + 2) (base + c) (nI uu) (P + 2) (base + k) = (if k = c then nI uu else w k)
                by_cases q : k = c
                · subst q
                  rw [if_pos rfl, zu_eq, zu_eq]
                  exact ⟨rfl, rfl⟩
                · rw [if_neg q, zu_ne (by omega), zu_ne (by omega)]
                  exact hW1 k hk
              · show k < c + 1 ↔ ¬ (if k = c then nI uu else w k) = -1
                by_cases q : k = c
                · subst q
                  rw [if_pos rfl]
                  exact ⟨fun _ => nI_ne (by omega), fun _ => by omega⟩
                · rw [if_neg q, ← hW2 k hk]
                  omega
    rw [D_X3_readAsks_46, D_X8_readAsks_124]
    by_cases h3 : 3 ≤ c
    · have hc3 : c = 3 := by omega
      subst hc3
      rw [if_pos (by exact (leL (x := 3) (a := 3) (by decide) (by decide) (by omega)).mpr (by omega)), if_neg (by intro z; exact absurd (nI_inj (b := 0) (by omega) (by omega) z) (by omega)), zB_zB]
      refine two.r er8 ?_
      by_cases hr0 : r = 0
      · rw [if_pos hr0]
        exact fin (by omega)
      · rw [if_neg hr0]
        obtain ⟨-, s0, k, h7, h16, hT⟩ := hr.resolve_left hr0
        unfold D_X8_readAsks_136
        rw [zB_zB]
        refine two.r er8 ?_
        rw [if_neg hr0, if_pos (show nI 3 = (3 : Int32) by decide)]
        have h63 : ¬ A3 Q 6 = 3 := fun z => absurd (hT.1.symm.trans z) (by decide)
        unfold D_X3_readAsks_150 D_X3_endOfLine D_X8_readAsks_149
        rw [if_neg h63]
        obtain ⟨a, f1, b, f2, f3⟩ := t_fail (NA := NA3) (NB := NB3) (v := 2) k3
        rw [f1, f2]
        show two (if a.1 = 0 then some ((0 : Int32), a.2.1, a.2.2) else _) (D_X8_readLine_114 P b.1 b.2.1 b.2.2) _
        rw [if_pos f3.1, f3.2.1]
        exact t_dn (a := a) (b := b) f3
    · rw [if_neg (by intro z; exact h3 ((leL (x := 3) (a := 3) (by decide) (by decide) (by omega)).mp z))]
      by_cases h1 : c < 1
      · have hc0 : c = 0 := by omega
        subst hc0
        rw [if_pos (by exact (ltR (x := 1) (b := 1) (by decide) (by decide) (by omega)).mpr h1), if_pos (show nI 0 = (0 : Int32) by decide)]
        rcases hr with hr0 | ⟨hr1, hh⟩
        · unfold D_X3_readAsks_64 D_X8_readAsks_136
          refine two.l er ?_
          rw [zB_zB]
          refine two.r er8 ?_
          rw [if_pos hr0, if_pos hr0]
          unfold D_X8_readAsks_149
          obtain ⟨a, f1, b, f2, f3⟩ := t_fail (NA := NA3) (NB := NB3) (v := 2) k3
          rw [f1, f2]
          exact t_dn2 (a := a) (b := b) f3
        · exact more (by omega) hr1
      · rw [if_neg (by intro z; exact h1 ((ltR (x := 1) (b := 1) (by decide) (by decide) (by omega)).mp z)), if_neg (show ¬ nI c = (0 : Int32) from fun z => absurd (nI_inj (b := 0) (by omega) (by omega) z) (by omega)), zB_zB]
        refine two.r er8 ?_
        by_cases hr0 : r = 0
        · rw [if_pos hr0]
          show two _ (D_X8_readLine_114 P (1 : Int32) B3 NB3) _
          by_cases h63 : A3 Q 6 = 3
          · rw [if_pos h63]
            exact fin (by omega)
          · rw [if_neg h63]
            unfold D_X3_readAsks_64
            refine two.l er ?_
            rw [if_pos hr0]
            exact l_noEnd k3 h63 (fun _ _ => rfl) rfl
        · have hr1 : r = 1 := (hr.resolve_left hr0).1
          obtain ⟨-, s0, k, h7, h16, hT⟩ := hr.resolve_left hr0
          have h63 : ¬ A3 Q 6 = 3 := fun z => absurd (hT.1.symm.trans z) (by decide)
          rw [if_neg hr0, if_neg h63]
          exact more (by omega) hr1
/-! who asks -/
theorem c_asker55 {Q H g : Nat} {A : zMt} {N : zNt} (hH : H ≤ 10) (h1 : A (Q + 1) 1 = nI H) : ∀ (u i : Nat) (s : Int32), i ≤ H → H - i < u → (∀ h, h < 10 → (bitAt s h ↔ h < i ∧ A (Q + 5) h = nI g ∧ A (Q + 6) h = 0)) → (s = 0 ∨ ∃ h, h < 10 ∧ bitAt s h) → g < 4 → ∃ s', D_X3_asker_55 Q A N u (nI g) s (nI i) = some s' ∧ (∀ h, h < 10 → (bitAt s' h ↔ h < H ∧ A (Q + 5) h = nI g ∧ A (Q + 6) h = 0)) ∧ (s' = 0 ∨ ∃ h, h < 10 ∧ bitAt s' h) := by
  intro u
  induction u with
  | zero => intro i s _ h; omega
  | succ u ih =>
    intro i s hi hu hs hz hg
    rw [D_X3_asker_55, if_neg (nI_ne (by omega)), h1]
    by_cases hc : H ≤ i
    · rw [if_pos ((nI_leI (by omega) (by omega)).mpr hc)]
      have : i = H := by omega
      subst this
      exact ⟨s, rfl, hs, hz⟩
    · rw [if_neg (fun q => hc ((nI_leI (by omega) (by omega)).mp q)), zrd_nI (by omega) (by decide), zrd_nI (by omega) (by decide)]
      have skip : ¬ (A (Q + 5) i = nI g ∧ A (Q + 6) i = 0) → ∃ s', D_X3_asker_110 Q A N (D_X3_asker_55 Q A N u) (nI g) s (nI i) = some s' ∧ (∀ h, h < 10 → (bitAt s' h ↔ h < H ∧ A (Q + 5) h = nI g ∧ A (Q + 6) h = 0)) ∧ (s' = 0 ∨ ∃ h, h < 10 ∧ bitAt s' h) := fun hn => by
        unfold D_X3_asker_110
        rw [nI_add1]
        refine ih (i + 1) s (by omega) (by omega) (fun h hh => (hs h hh).trans ⟨fun z => ⟨by omega, z.2⟩, fun z => ⟨?_, z.2⟩⟩) hz hg
        have : h ≠ i := fun y => hn (y ▸ z.2)
        omega
      by_cases q1 : A (Q + 5) i = nI g
      · rw [if_pos q1]
        by_cases q2 : A (Q + 6) i = 0
        · rw [if_pos q2]
          unfold D_X3_asker_110
          rw [nI_add1]
          refine ih (i + 1) _ (by omega) (by omega) (fun h hh => ?_) (Or.inr ⟨i, by omega, (bitK_or (by omega) (by omega)).mpr (Or.inr rfl)⟩) hg
          rw [bitK_or (by omega) hh, hs h hh]
          constructor
          · rintro (z | z)
            · exact ⟨by omega, z.2⟩
            · subst z; exact ⟨by omega, q1, q2⟩
          · intro z
            by_cases y : h = i
            · exact Or.inr y.symm
            · exact Or.inl ⟨by omega, z.2⟩
        · rw [if_neg q2]
          exact skip (fun z => q2 z.2)
      · rw [if_neg q1]
        exact skip (fun z => q1 z.1)
theorem bitK_ne {s : Int32} {h : Nat} (hb : bitAt s h) : ¬ s = 0 := fun z => by subst z; exact bitAt_0 hb
theorem wsh.z {A B : zMt} {Q P h base : Nat} (w : wsh A B Q P h base) : A (Q + 6) h = 0 ↔ B (P + 2) base = -1 := by
  obtain ⟨c, w1, w2, w3, w4⟩ := w
  have w := w4 0 (by omega)
  rw [Nat.add_zero] at w
  rw [w2]
  constructor
  · intro z
    have hc : c = 0 := nI_inj (by omega) (by omega) (z.trans (by decide))
    exact Classical.byContradiction (fun q => absurd (w.mpr q) (by omega))
  · intro z
    have : ¬ 0 < c := fun q => w.mp q z
    have hc : c = 0 := by omega
    rw [hc]; decide
theorem wsh.e {A B : zMt} {Q P h base : Nat} (w : wsh A B Q P h base) (z : B (P + 2) base = -1) : ∀ k, k < 3 → B (P + 2) (base + k) = -1 := by
  obtain ⟨c, w1, w2, w3, w4⟩ := w
  have w0 := w4 0 (by omega)
  rw [Nat.add_zero] at w0
  have : ¬ 0 < c := fun q => w0.mp q z
  exact fun k hk => Classical.byContradiction (fun q => absurd ((w4 k hk).mpr q) (by omega))
theorem bitK_one {k h : Nat} (hk : k < 10) (hh : h < 10) : bitAt ((1 : Int32) <<< (nI k &&& 31)) h ↔ k = h := bitAt_one k hk h hh
/-- from behind the name: who asks, then the choices -/
theorem l_asks {Q P n : Nat} {t : Nat → Int32} {A B : zMt} {NA NB : zNt} (hX : tx Q n t A) (hY : ty P n t B) (hN : nx Q P n A B) {U H G : Nat} (hC : dC Q P A B U H G) (hM : dN Q P t NA NB U H G) (hR : dR Q P A B U H G) (hO : dO Q P A B) (hF : dF Q P A B) : two (D_X3_readAsks Q A NA) (zB (D_X8_readAsks P B NB) fun e => D_X8_readLine_114 P e.1 e.2.1 e.2.2) (LR Q P n t) := by
  unfold D_X3_readAsks D_X8_readAsks
  rw [zB_zB]
  refine two.bind (t_step hX hY hN) (fun a1 b1 h1 => ?_)
  obtain ⟨i1, ka1, kna1, kb1, knb1, x1, y1, k1, p1, q1, o1, w1, v1⟩ := h1
  obtain ⟨r, er, er8, hr⟩ := s_isName x1 k1
  refine two.l er ?_
  rw [zB_zB]
  refine two.r er8 ?_
  by_cases hr0 : r = 0
  · rw [if_pos hr0, if_pos hr0]
    obtain ⟨a, f1, b, f2, f3⟩ := t_fail (NA := a1.2) (NB := b1.2.2) (v := 2) k1
    rw [f1, f2]
    exact t_dn2 (a := a) (b := b) f3
  rw [if_neg hr0, if_neg hr0]
  obtain ⟨-, s0, k, h7, h16, hT⟩ := hr.resolve_left hr0
  have hC1 := hC.k ka1 kb1
  have hM1 := hM.k kna1 knb1
  have hR1 := hR.k ka1 kb1
  have hO1 := hO.k ka1 kb1
  have hF1 : dF Q P a1.1 b1.2.1 := ⟨(ka1 Q 1 (by omega) (by omega)).trans hF.1, (kb1 P 21 (by omega)).trans hF.2.1, (ka1 Q 2 (by omega) (by omega)).trans hF.2.2.1, (kb1 P 22 (by omega)).trans hF.2.2.2⟩
  obtain ⟨c1, c2, c3, c4, c5, c6, c7, c8, c9⟩ := id hC1
  obtain ⟨r1, r2, r3, r4, r5, r6, r7, r8, r9, -⟩ := id hR1
  obtain ⟨eh, g1, g2, hfh⟩ := s_find (Qr := Q + 11) (nQ := 10) (Pr := P + 9) (nP := 10) (c := H) c2 c2 (by omega) (by omega) hT.nm hM1.2.1
  obtain ⟨ep, g3, g4, hfp⟩ := s_find (Qr := Q + 12) (nQ := 4) (Pr := P + 10) (nP := 4) (c := G) c3 c3 (by omega) (by omega) hT.nm hM1.2.2.1
  rw [zB_zB, c7, c9]
  refine two.r g2 ?_
  rw [zB_zB]
  refine two.r g4 ?_
  unfold D_X3_asker
  rw [c6, c8, zB_s g1]
  -- nobody may ask
  have bad4 : two (zB (some (0 : Int32)) fun e_18 => if e_18 = 0 then zB (D_X3_fail Q (4 : Int32) a1.1) fun e_28 => some (e_28.1, e_28.2, a1.2) else zB (D_X3_step Q a1.1 a1.2) fun e_33 => zLt (zfil e_33.1 (Q + 13) 3 (-1 : Int32)) fun M_41 => D_X3_readAsks_46 Q zFu e_18 (0 : Int32) M_41 e_33.2) (zB (zB (D_X8_bad P (4 : Int32) b1.2.1) fun e => some (e.1, e.2, b1.2.2)) fun e => D_X8_readLine_114 P e.1 e.2.1 e.2.2) (LR Q P n t) := by
    refine two.l rfl ?_
    rw [if_pos rfl]
    obtain ⟨a, f1, b, f2, f3⟩ := t_fail (NA := a1.2) (NB := b1.2.2) (v := 4) k1
    rw [f1, f2]
    exact t_dn2 (a := a) (b := b) f3
  -- somebody asks
  have go : ∀ (s : Int32) (base : Nat), aK Q P a1.1 b1.2.1 H G s base → ¬ s = 0 → base < 70 → 20 ≤ base → two (zB (some s) fun e_18 => if e_18 = 0 then zB (D_X3_fail Q (4 : Int32) a1.1) fun e_28 => some (e_28.1, e_28.2, a1.2) else zB (D_X3_step Q a1.1 a1.2) fun e_33 => zLt (zfil e_33.1 (Q + 13) 3 (-1 : Int32)) fun M_41 => D_X3_readAsks_46 Q zFu e_18 (0 : Int32) M_41 e_33.2) (zB (D_X8_readAsks_99 P (nI base) b1.2.1 b1.2.2) fun e => D_X8_readLine_114 P e.1 e.2.1 e.2.2) (LR Q P n t) := fun s base hK hs0 hb1 hb2 => by
    refine two.l rfl ?_
    rw [if_neg hs0]
    unfold D_X8_readAsks_99
    rw [zB_zI]
    refine two.ir (vp_in_nI (by omega) (by decide)) ?_
    rw [nI_clamp (by omega), if_pos (show b1.2.1 (P + 2) base = -1 from hK.2.2.2 0 (by omega)), zB_zB]
    refine two.bind (t_step x1 y1 hT.nx) (fun a4 b4 h4 => ?_)
    obtain ⟨i4, ka4, kna4, kb4, knb4, x4, y4, k4, p4, q4, o4, w4, v4⟩ := h4
    refine two.letl ?_
    have kf : ∀ r j, ¬ r = Q + 13 → zfil a4.1 (Q + 13) 3 (-1 : Int32) r j = a4.1 r j := fun r j h => congrFun (zfil_row h) j
    have kf13 : ∀ j, j < 3 → zfil a4.1 (Q + 13) 3 (-1 : Int32) (Q + 13) j = -1 := fun j hj => if_pos ⟨rfl, hj⟩
    have kA' : kA Q a4.1 (zfil a4.1 (Q + 13) 3 (-1 : Int32)) := fun r j h1 h2 => kf r j h2
    have t0 := l_asks46 hC1 hM1 hR1 hO1 hF1 hK ⟨hb1, hb2⟩ zFu 0 (fun _ => -1) (zfil a4.1 (Q + 13) 3 (-1 : Int32)) a4.2 b4.2.1 b4.2.2 (ka4.tr kA') kna4 (fun r j h1 h2 => kb4 r j h1) knb4 (x4.k kA') y4 (k4.mono (fun j h => kf Q j (by omega)) rfl (fun _ _ => rfl) rfl) ⟨fun k hk => ⟨kf13 k hk, (kb4 (P + 2) (base + k) (by omega)).trans (hK.2.2.2 k hk)⟩, fun k hk => ⟨fun z => absurd z (by omega), fun z => absurd rfl z⟩⟩ (by omega) (by unfold zFu; omega)
    rw [show nI 0 = (0 : Int32) by decide] at t0
    exact t0
  have noP : ∀ s : Int32, D_X3_asker_55 Q a1.1 a1.2 zFu (-1 : Int32) s (0 : Int32) = some s := fun s => by
    show D_X3_asker_55 Q a1.1 a1.2 (4294967296 + 1) (-1 : Int32) s (0 : Int32) = some s
    rw [D_X3_asker_55, if_pos rfl]
    rfl
  by_cases he : eh = -1
  · -- no hunter of this name
    unfold D_X3_isFree
    rw [if_pos he]
    have e38 : D_X3_isFree_38 Q a1.1 = some 0 := rfl
    rw [zB_s e38, if_pos rfl, zB_s g3]
    by_cases hp : ep = -1
    · rw [if_pos hp, if_pos he, hp, noP]
      exact bad4
    · obtain ⟨g, hg, e2, -⟩ := hfp.some hp
      subst e2
      rw [if_neg hp]
      obtain ⟨s', f1, f2, f3⟩ := c_asker55 (Q := Q) (H := H) (g := g) (A := a1.1) (N := a1.2) c2 c6 zFu 0 0 (by omega) (by unfold zFu; omega) (fun h hh => ⟨fun z => absurd z bitAt_0, fun z => absurd z.1 (by omega)⟩) (Or.inl rfl) (by omega)
      rw [show nI 0 = (0 : Int32) by decide] at f1
      rw [f1]
      obtain ⟨h0, hh0, hm0⟩ := r9 g hg
      have w0 := r6 h0 g (by omega) hg hm0
      have e50 : (50 : Int32) + (3 : Int32) * nI g = nI (50 + 3 * g) := (show ∀ k, k < 4 → (50 : Int32) + (3 : Int32) * nI k = nI (50 + 3 * k) by decide) g (by omega)
      unfold D_X8_readAsks_79
      rw [if_neg hp, e50]
      by_cases hz : b1.2.1 (P + 2) (50 + 3 * g) = -1
      · have hb0 : bitAt s' h0 := (f2 h0 (by omega)).mpr ⟨hh0, hm0, w0.z.mpr hz⟩
        refine go s' (50 + 3 * g) ⟨Or.inr ⟨g, hg, rfl⟩, fun h hh hb => ?_, fun h hh hb => ?_, w0.e hz⟩ (bitK_ne hb0) (by omega) (by omega)
        · obtain ⟨z1, z2, z3⟩ := (f2 h hh).mp hb
          exact ⟨z1, Or.inr ⟨g, hg, z2, rfl⟩⟩
        · rcases hb with ⟨z1, z2⟩ | ⟨g', z1, z2, z3⟩
          · omega
          · have : g' = g := by omega
            subst this
            exact (f2 h (by omega)).mpr ⟨hh, z2, (r6 h g' (by omega) hg z2).z.mpr hz⟩
      · have hs0 : s' = 0 := f3.resolve_right (fun ⟨h, hh, hb⟩ => by
          obtain ⟨z1, z2, z3⟩ := (f2 h hh).mp hb
          exact hz ((r6 h g hh hg z2).z.mp z3))
        rw [hs0]
        unfold D_X8_readAsks_99
        rw [zB_zI]
        refine two.ir (vp_in_nI (by omega) (by decide)) ?_
        rw [nI_clamp (by omega), if_neg hz]
        exact bad4
  · -- a hunter of this name: no party has it
    obtain ⟨h, hh, e2, ew⟩ := hfh.some he
    subst e2
    have hp : ep = -1 := Classical.byContradiction (fun z => by
      obtain ⟨g, hg, -, ew2⟩ := hfp.some z
      exact hM1.2.2.2 h g hh hg (ew.trans ew2.symm))
    rw [if_pos hp, if_neg he]
    have e10 : (10 : Int32) + nI h = nI (10 + h) := (show ∀ k, k < 10 → (10 : Int32) + nI k = nI (10 + k) by decide) h (by omega)
    have e20 : (20 : Int32) + (3 : Int32) * nI h = nI (20 + 3 * h) := (show ∀ k, k < 10 → (20 : Int32) + (3 : Int32) * nI k = nI (20 + 3 * k) by decide) h (by omega)
    rw [e10, zB_zI]
    refine two.ir (vp_in_nI (by omega) (by decide)) ?_
    rw [nI_clamp (by omega)]
    obtain ⟨q1, q2⟩ := s_free hC1 hR1 hh
    have none55 : two (zB (zB (zB (D_X3_isFree_38 Q a1.1) fun e_21 => if e_21 = 0 then zB (D_X3_find (Q + 12) 4 a1.2 (nI G) (a1.2 Q 8)) fun e_46 => D_X3_asker_55 Q a1.1 a1.2 zFu e_46 (0 : Int32) (0 : Int32) else some ((1 : Int32) <<< (nI h &&& 31))) fun e_18 => if e_18 = 0 then zB (D_X3_fail Q (4 : Int32) a1.1) fun e_28 => some (e_28.1, e_28.2, a1.2) else zB (D_X3_step Q a1.1 a1.2) fun e_33 => zLt (zfil e_33.1 (Q + 13) 3 (-1 : Int32)) fun M_41 => D_X3_readAsks_46 Q zFu e_18 (0 : Int32) M_41 e_33.2) some) (zB (zB (D_X8_bad P (4 : Int32) b1.2.1) fun e => some (e.1, e.2, b1.2.2)) fun e => D_X8_readLine_114 P e.1 e.2.1 e.2.2) (LR Q P n t) := by
      have e38 : D_X3_isFree_38 Q a1.1 = some 0 := rfl
      rw [zB_s e38, if_pos rfl, zB_s g3, hp, noP]
      obtain ⟨a, f1, b, f2, f3⟩ := bad4
      rw [f1, f2]
      exact two.mk f3
    have zBs : ∀ {α : Type} (o : Option α), zB o some = o := fun o => by cases o <;> rfl
    rw [zBs] at none55
    unfold D_X3_isFree
    rw [if_neg he, zrd_nI (by omega) (by decide), zrd_nI (by omega) (by decide)]
    by_cases hf : a1.1 (Q + 5) h = -1
    · rw [if_pos hf, if_pos (q1.mp hf)]
      unfold D_X8_readAsks_79
      rw [if_pos hp, e20]
      by_cases hw : a1.1 (Q + 6) h = 0
      · rw [if_pos hw]
        have e39 : D_X3_isFree_39 Q a1.1 (1 : Int32) = some 1 := rfl
        rw [zB_s e39, if_neg (by decide)]
        have hz := (q2 hf).mp hw
        refine go _ (20 + 3 * h) ⟨Or.inl ⟨h, hh, rfl⟩, fun h' hh' hb => ?_, fun h' hh' hb => ?_, (r5 h (by omega) hf).e hz⟩ (bitK_ne ((bitK_one (by omega) (by omega)).mpr rfl)) (by omega) (by omega)
        · have : h = h' := (bitK_one (by omega) hh').mp hb
          subst this
          exact ⟨hh, Or.inl ⟨hf, rfl⟩⟩
        · rcases hb with ⟨z1, z2⟩ | ⟨g', z1, z2, z3⟩
          · have : h' = h := by omega
            subst this
            exact (bitK_one (by omega) (by omega)).mpr rfl
          · omega
      · rw [if_neg hw]
        unfold D_X8_readAsks_99
        rw [zB_zI]
        refine two.ir (vp_in_nI (by omega) (by decide)) ?_
        rw [nI_clamp (by omega), if_neg (fun z => hw ((q2 hf).mpr z))]
        exact none55
    · rw [if_neg hf, if_neg (fun z => hf (q1.mpr z))]
      exact none55
