/-! the line of a party -/
theorem d_party {Q P : Nat} {t : Nat → Int32} {A A' B B' : zMt} {NA NA' NB NB' : zNt} {U H G : Nat} {s : Int32} (hC : dC Q P A B U H G) (hN : dN Q P t NA NB U H G) (hR : dR Q P A B U H G) (hG : G < 4)
    (hs : ∀ h, h < 10 → bitAt s h → h < H ∧ A (Q + 5) h = -1 ∧ A (Q + 6) h = 0) (hx : ∃ h, h < 10 ∧ bitAt s h)
    (a : gA Q (fun r j => (r = Q + 1 ∧ j = 2) ∨ (r = Q + 5 ∧ j < H ∧ bitAt s j)) A A') (a0 : A' (Q + 1) 2 = nI (G + 1)) (a1 : ∀ h, h < H → bitAt s h → A' (Q + 5) h = nI G)
    (na : gN Q 8 10 (fun r j => r = Q + 12 ∧ j = G) NA NA')
    (b : gB P (fun r j => (r = P ∧ j = 30) ∨ (r = P + 2 ∧ ∃ h, h < H ∧ j = 10 + h ∧ bitAt s h)) B B') (b0 : B' P 30 = nI (G + 1)) (b1 : ∀ h, h < H → bitAt s h → B' (P + 2) (10 + h) = nI G)
    (nb : gN P 24 32 (fun r j => r = P + 10 ∧ j = G) NB NB') (hn : nmR t (NA' (Q + 12) G) (NB' (P + 10) G)) (hd : ∀ i, i < H → ¬ NA (Q + 11) i = NA' (Q + 12) G) : dC Q P A' B' U H (G + 1) ∧ dN Q P t NA' NB' U H (G + 1) ∧ dR Q P A' B' U H (G + 1) := by
  have a : ∀ r j, ¬ (r = Q ∧ (j = 5 ∨ j = 6 ∨ j = 7 ∨ j = 9)) → ¬ r = Q + 13 → ¬ ((r = Q + 1 ∧ j = 2) ∨ (r = Q + 5 ∧ j < H ∧ bitAt s j)) → A' r j = A r j := a
  have b : ∀ r j, ¬ (r = P ∧ ((16 ≤ j ∧ j ≤ 20) ∨ j = 31)) → ¬ ((r = P ∧ j = 30) ∨ (r = P + 2 ∧ ∃ h, h < H ∧ j = 10 + h ∧ bitAt s h)) → B' r j = B r j := b
  have na : ∀ r j, ¬ (r = Q ∧ (j = 8 ∨ j = 10)) → ¬ (r = Q + 12 ∧ j = G) → NA' r j = NA r j := na
  have nb : ∀ r j, ¬ (r = P ∧ (j = 24 ∨ j = 32)) → ¬ (r = P + 10 ∧ j = G) → NB' r j = NB r j := nb
  obtain ⟨c1, c2, c3, c4, c5, c6, c7, c8, c9⟩ := hC
  obtain ⟨n1, n2, n3, n4⟩ := hN
  obtain ⟨r1, r2, r3, r4, r5, r6, r7, r8, r9, ⟨s1, s2, s3⟩, ⟨u1, u2, u3, u4, u5⟩⟩ := hR
  have aR : ∀ i j, (1 ≤ i ∧ i ≤ 8 ∧ i ≠ 5) → ¬ (i = 1 ∧ j = 2) → A' (Q + i) j = A (Q + i) j := fun i j hi hj => a (Q + i) j (by omega) (by omega) (by rintro (⟨h1, h2⟩ | ⟨h1, -⟩) <;> omega)
  have aP : ∀ j, ¬ (j < H ∧ bitAt s j) → A' (Q + 5) j = A (Q + 5) j := fun j hj => a (Q + 5) j (by omega) (by omega) (by rintro (⟨h1, h2⟩ | ⟨h1, h2⟩); omega; exact hj h2)
  have bR : ∀ j, (j < 10 ∨ 20 ≤ j) → B' (P + 2) j = B (P + 2) j := fun j hj => b (P + 2) j (by omega) (by rintro (⟨h1, h2⟩ | ⟨h1, h, h2, h3, -⟩) <;> omega)
  have bP : ∀ h, h < 10 → ¬ (h < H ∧ bitAt s h) → B' (P + 2) (10 + h) = B (P + 2) (10 + h) := fun h hh hj => b (P + 2) (10 + h) (by omega) (by
    rintro (⟨h1, h2⟩ | ⟨h1, h', h2, h3, h4⟩)
    · omega
    · have : h' = h := by omega
      subst this
      exact hj ⟨h2, h4⟩)
  have b6 : ∀ j, B' (P + 6) j = B (P + 6) j := fun j => b (P + 6) j (by omega) (by rintro (⟨h1, h2⟩ | ⟨h1, -⟩) <;> omega)
  have bQ : ∀ j, (j = 28 ∨ j = 29) → B' P j = B P j := fun j hj => b P j (by omega) (by rintro (⟨h1, h2⟩ | ⟨h1, -⟩) <;> omega)
  have wk : ∀ h base, wsh A B Q P h base → 20 ≤ base → wsh A' B' Q P h base := fun h base w hb => w.k (aR 6 h (by omega) (by omega)) (fun k hk => aR 7 _ (by omega) (by omega)) (fun k hk => bR _ (by omega))
  refine ⟨⟨c1, c2, by omega, ?_, ?_, ?_, ?_, a0, b0⟩, ⟨fun i hi => ?_, fun i hi => ?_, fun i hi => ?_, fun i j hi hj => ?_⟩, ⟨fun u hu => ?_, fun h hh => ?_, fun h hh => ?_, fun h hh => ?_, fun h hh he => ?_, fun h g hh hg he => ?_, fun g k h1 h2 h3 => ?_, fun h h1 h2 => ?_, fun g hg => ?_, ⟨?_, ?_, ?_⟩, ⟨?_, ?_, fun h hh => ⟨?_, ?_⟩, fun u hu1 hu2 => ?_, fun h hh1 hh2 => ?_⟩⟩⟩
  · rw [aR 1 0 (by omega) (by omega)]; exact c4
  · rw [bQ 28 (by omega)]; exact c5
  · rw [aR 1 1 (by omega) (by omega)]; exact c6
  · rw [bQ 29 (by omega)]; exact c7
  · rw [na (Q + 10) i (by omega) (by omega), nb (P + 8) i (by omega) (by omega)]; exact n1 i hi
  · rw [na (Q + 11) i (by omega) (by omega), nb (P + 9) i (by omega) (by omega)]; exact n2 i hi
  · by_cases q : i = G
    · subst q; exact hn
    · rw [na (Q + 12) i (by omega) (by omega), nb (P + 10) i (by omega) (by omega)]; exact n3 i (by omega)
  · rw [na (Q + 11) i (by omega) (by omega)]
    by_cases q : j = G
    · subst q; exact hd i hi
    · rw [na (Q + 12) j (by omega) (by omega)]; exact n4 i j hi (by omega)
  · rw [aR 2 u (by omega) (by omega), bR (62 + u) (by omega)]; exact r1 u hu
  · rw [aR 3 h (by omega) (by omega), bR h (by omega)]; exact r2 h hh
  · rw [aR 4 h (by omega) (by omega), b6 h]; exact r3 h hh
  · by_cases q : h < H ∧ bitAt s h
    · rw [a1 h q.1 q.2, b1 h q.1 q.2]
      exact ⟨rfl, Or.inr ⟨G, by omega, rfl⟩, Or.inl q.1⟩
    · rw [aP h q, bP h hh q]
      obtain ⟨q1, q2, q3⟩ := r4 h hh
      exact ⟨q1, q2.imp id (fun ⟨g, g1, g2⟩ => ⟨g, by omega, g2⟩), q3⟩
  · by_cases q : h < H ∧ bitAt s h
    · rw [a1 h q.1 q.2] at he
      exact absurd he (nI_ne (by omega))
    · rw [aP h q] at he
      exact wk h _ (r5 h hh he) (by omega)
  · by_cases q : h < H ∧ bitAt s h
    · rw [a1 h q.1 q.2] at he
      have : G = g := nI_inj (by omega) (by omega) he
      subst this
      obtain ⟨-, m2, m3⟩ := hs h hh q.2
      obtain ⟨c, w1, w2, w3, w4⟩ := r5 h hh m2
      have hc : c = 0 := nI_inj (by omega) (by omega) (w2.symm.trans (m3.trans (by decide)))
      subst hc
      have hb : ∀ k, k < 3 → B (P + 2) (20 + 3 * h + k) = -1 := fun k hk => Classical.byContradiction (fun z => absurd ((w4 k hk).mpr z) (by omega))
      refine ⟨0, by omega, (aR 6 h (by omega) (by omega)).trans w2, fun k hk => ?_, fun k hk => ?_⟩
      · rw [aR 7 _ (by omega) (by omega), w3 k hk, hb k hk, bR _ (by omega), r7 G k (by omega) (by omega) hk]
      · rw [bR _ (by omega), r7 G k (by omega) (by omega) hk]
        exact ⟨fun z => absurd z (by omega), fun z => absurd rfl z⟩
    · rw [aP h q] at he
      have hg2 : g < G := by
        rcases (r4 h hh).2.1 with z | ⟨g', z1, z2⟩
        · exact absurd (he.symm.trans z) (nI_ne (by omega))
        · have : g = g' := nI_inj (by omega) (by omega) (he.symm.trans z2)
          omega
      exact wk h _ (r6 h g hh hg2 he) (by omega)
  · rw [bR _ (by omega)]; exact r7 g k (by omega) h2 h3
  · rw [aR 6 h (by omega) (by omega)]; exact r8 h h1 h2
  · by_cases q : g = G
    · subst q
      obtain ⟨h, h1, h2⟩ := hx
      obtain ⟨m1, -, -⟩ := hs h h1 h2
      exact ⟨h, m1, a1 h m1 h2⟩
    · obtain ⟨h, h1, h2⟩ := r9 g (by omega)
      refine ⟨h, h1, ?_⟩
      rw [aP h (fun z => ?_)]
      · exact h2
      · exact absurd (h2.symm.trans (hs h (by omega) z.2).2.1) (nI_ne (by omega))
  · rw [aR 1 3 (by omega) (by omega), bR 67 (by omega)]; exact s1
  · rw [aR 1 4 (by omega) (by omega), bR 68 (by omega)]; exact s2
  · rw [aR 1 5 (by omega) (by omega), bR 69 (by omega)]; exact s3
  · rw [aR 1 6 (by omega) (by omega)]; exact u1
  · rw [bR 71 (by omega)]; exact u2
  · rw [aR 8 h (by omega) (by omega)]; exact (u3 h hh).1
  · rw [bR (72 + h) (by omega)]; exact (u3 h hh).2
  · rw [aR 2 u (by omega) (by omega)]; exact u4 u (by omega) hu2
  · rw [aR 4 h (by omega) (by omega)]; exact u5 h (by omega) hh2
/-- the class tells the party to its hunters -/
theorem c_addParty {R H G : Nat} {s : Int32} (hH : H ≤ 10) : ∀ (u k : Nat) (A : zMt), A R 1 = nI H → A R 2 = nI G → k ≤ H → H - k < u → G < 4 → ∃ A', D_X4_addParty_2 R u s (nI k) A = some A' ∧ A' R 2 = nI (G + 1) ∧ (∀ h, k ≤ h → h < H → bitAt s h → A' (R + 4) h = nI G) ∧ (∀ r j, ¬ (r = R ∧ j = 2) → ¬ (r = R + 4 ∧ k ≤ j ∧ j < H ∧ bitAt s j) → A' r j = A r j) := by
  intro u
  induction u with
  | zero => intro k A _ _ _ h; omega
  | succ u ih =>
    intro k A h1 h2 hk hu hG
    rw [D_X4_addParty_2, h1]
    by_cases hc : H ≤ k
    · rw [if_pos ((nI_leI (by omega) (by omega)).mpr hc)]
      show ∃ A', some (zu A R 2 (A R 2 + 1)) = some A' ∧ _
      rw [h2, nI_add1]
      exact ⟨_, rfl, zu_eq, fun h q1 q2 => by omega, fun r j q _ => zu_ne q⟩
    · rw [if_neg (fun q => hc ((nI_leI (by omega) (by omega)).mp q))]
      by_cases hb : bitAt s k
      · rw [if_pos (show ((s >>> (nI k &&& 31)) &&& (1 : Int32)) = (1 : Int32) from hb), zwr_nI (by omega) (by decide), h2]
        show ∃ A', D_X4_addParty_2 R u s (nI k + 1) (zu A (R + 4) k (nI G)) = some A' ∧ _
        rw [nI_add1]
        obtain ⟨A', e1, e2, e3, e4⟩ := ih (k + 1) (zu A (R + 4) k (nI G)) ((zu_ne (by omega)).trans h1) ((zu_ne (by omega)).trans h2) (by omega) (by omega) hG
        refine ⟨A', e1, e2, fun h q1 q2 q3 => ?_, fun r j q1 q2 => (e4 r j q1 (fun z => q2 ⟨z.1, by omega, z.2.2⟩)).trans (zu_ne (fun z => q2 ⟨z.1, by omega, by omega, z.2 ▸ hb⟩))⟩
        by_cases z : h = k
        · subst z
          exact (e4 (R + 4) h (by omega) (by omega)).trans zu_eq
        · exact e3 h (by omega) q2 q3
      · rw [if_neg (show ¬ ((s >>> (nI k &&& 31)) &&& (1 : Int32)) = (1 : Int32) from hb)]
        show ∃ A', D_X4_addParty_2 R u s (nI k + 1) A = some A' ∧ _
        rw [nI_add1]
        obtain ⟨A', e1, e2, e3, e4⟩ := ih (k + 1) A h1 h2 (by omega) (by omega) hG
        refine ⟨A', e1, e2, fun h q1 q2 q3 => ?_, fun r j q1 q2 => e4 r j q1 (fun z => q2 ⟨z.1, by omega, z.2.2⟩)⟩
        have : h ≠ k := fun z => hb (z ▸ q3)
        exact e3 h (by omega) q2 q3
/-- the reference does -/
theorem m_161 {P H G : Nat} {x : Int64} {s : Int32} {N : zNt} (hH : H ≤ 10) (hG : G < 4) : ∀ (u k : Nat) (B : zMt), B P 29 = nI H → B P 30 = nI G → k ≤ H → H - k < u → ∃ B', D_X8_readParty_161 P u x s (nI k) B N = some ((1 : Int32), B', zu N (P + 10) G x) ∧ B' P 30 = nI (G + 1) ∧ (∀ h, k ≤ h → h < H → bitAt s h → B' (P + 2) (10 + h) = nI G) ∧ (∀ r j, ¬ (r = P ∧ j = 30) → ¬ (r = P + 2 ∧ ∃ h, k ≤ h ∧ h < H ∧ j = 10 + h ∧ bitAt s h) → B' r j = B r j) := by
  intro u
  induction u with
  | zero => intro k B _ _ _ h; omega
  | succ u ih =>
    intro k B h1 h2 hk hu
    rw [D_X8_readParty_161, h1, h2]
    by_cases hc : H ≤ k
    · rw [if_pos ((nI_leI (by omega) (by omega)).mpr hc)]
      unfold zI
      rw [if_neg (vp_in_nI hG (by decide)), nI_clamp (by omega), nI_add1]
      exact ⟨_, rfl, zu_eq, fun h q1 q2 => by omega, fun r j q _ => zu_ne q⟩
    · rw [if_neg (fun q => hc ((nI_leI (by omega) (by omega)).mp q))]
      obtain ⟨e, he, q⟩ := v_X8_has (v0 := s) (v1 := nI k)
      rw [zB_s he]
      by_cases hb : bitAt s k
      · have he0 : ¬ e = 0 := fun z => by
          rcases q.2 with ⟨w, _⟩ | ⟨_, w⟩
          · rw [z] at w; exact absurd w (by decide)
          · exact w hb
        have e10 : (10 : Int32) + nI k = nI (10 + k) := (show ∀ k, k < 10 → (10 : Int32) + nI k = nI (10 + k) by decide) k (by omega)
        rw [if_neg he0, e10]
        unfold zI
        rw [if_neg (vp_in_nI (by omega) (by decide)), nI_clamp (by omega)]
        show ∃ B', D_X8_readParty_161 P u x s (nI k + 1) (zu B (P + 2) (10 + k) (nI G)) N = _ ∧ _
        rw [nI_add1]
        obtain ⟨B', e1, e2, e3, e4⟩ := ih (k + 1) (zu B (P + 2) (10 + k) (nI G)) ((zu_ne (by omega)).trans h1) ((zu_ne (by omega)).trans h2) (by omega) (by omega)
        refine ⟨B', e1, e2, fun h q1 q2 q3 => ?_, fun r j q1 q2 => (e4 r j q1 (fun z => q2 ⟨z.1, by obtain ⟨h, w1, w2, w3, w4⟩ := z.2; exact ⟨h, by omega, w2, w3, w4⟩⟩)).trans (zu_ne (fun z => q2 ⟨z.1, k, Nat.le_refl k, by omega, z.2, hb⟩))⟩
        by_cases z : h = k
        · subst z
          exact (e4 (P + 2) (10 + h) (by omega) (by rintro ⟨-, h', w1, w2, w3, -⟩; omega)).trans zu_eq
        · exact e3 h (by omega) q2 q3
      · have he0 : e = 0 := by
          rcases q.2 with ⟨_, w⟩ | ⟨w, _⟩
          · exact absurd w hb
          · exact w
        rw [if_pos he0]
        show ∃ B', D_X8_readParty_161 P u x s (nI k + 1) B N = _ ∧ _
        rw [nI_add1]
        obtain ⟨B', e1, e2, e3, e4⟩ := ih (k + 1) B h1 h2 (by omega) (by omega)
        refine ⟨B', e1, e2, fun h q1 q2 q3 => ?_, fun r j q1 q2 => e4 r j q1 (fun z => q2 ⟨z.1, by obtain ⟨h, w1, w2, w3, w4⟩ := z.2; exact ⟨h, by omega, w2, w3, w4⟩⟩)⟩
        have : h ≠ k := fun z => hb (z ▸ q3)
        exact e3 h (by omega) q2 q3
/-- what is kept through the line -/
def pK (Q P n : Nat) (t : Nat → Int32) (A0 A : zMt) (NA0 NA : zNt) (B0 B : zMt) (NB0 NB : zNt) : Prop := kA Q A0 A ∧ kNA Q NA0 NA ∧ kB P B0 B ∧ kNB P NB0 NB ∧ tx Q n t A ∧ ty P n t B ∧ tk Q P n t A NA B NB
def dF (Q P : Nat) (A B : zMt) : Prop := A Q 1 = 0 ∧ B P 21 = 0 ∧ A Q 2 = -1 ∧ B P 22 = -1
/-- the end of a party's line -/
theorem l_party106 {Q P n : Nat} {t : Nat → Int32} {A A3 B B3 : zMt} {NA NA3 NB NB3 : zNt} {U H G : Nat} {s : Int32} {x : Int64} (hC : dC Q P A B U H G) (hM : dN Q P t NA NB U H G) (hR : dR Q P A B U H G) (hO : dO Q P A B) (hF : dF Q P A B) (hG : G < 4)
    (hs : ∀ h, h < 10 → bitAt s h → h < H ∧ A (Q + 5) h = -1 ∧ A (Q + 6) h = 0) (hx : ∃ h, h < 10 ∧ bitAt s h)
    (hK : pK Q P n t A A3 NA NA3 B B3 NB NB3) (hnm : nmR t (NA3 Q 10) x) (hd : ∀ i, i < H → ¬ NA (Q + 11) i = NA3 Q 10) : two (D_X3_readParty_106 Q s A3 NA3) (zB (D_X8_readParty_161 P zFu x s (0 : Int32) B3 NB3) fun e => D_X8_readLine_114 P e.1 e.2.1 e.2.2) (LR Q P n t) := by
  obtain ⟨kA3, kNA3, kB3, kNB3, x3, y3, k3⟩ := hK
  obtain ⟨c1, c2, c3, c4, c5, c6, c7, c8, c9⟩ := id hC
  obtain ⟨B', e1, e2, e3, e4⟩ := m_161 (P := P) (x := x) (s := s) (N := NB3) c2 hG zFu 0 B3 ((kB3 P 29 (by omega)).trans c7) ((kB3 P 30 (by omega)).trans c9) (by omega) (by unfold zFu; omega)
  rw [show nI 0 = (0 : Int32) by decide] at e1
  refine two.r e1 ?_
  show two _ (D_X8_readLine_114 P (1 : Int32) B' (zu NB3 (P + 10) G x)) _
  have kM : ∀ r j, ¬ (r = P ∧ j = 30) → ¬ r = P + 2 → B' r j = B3 r j := fun r j h1 h2 => e4 r j h1 (fun z => h2 z.1)
  unfold D_X3_readParty_106
  refine two.bindl (t_end (x1 := 1) x3 (y3.mono (fun r j h => kM r j (by omega) (by omega))) (k3.mono (fun _ _ => rfl) rfl (fun j h => kM P j (by omega) (by omega)) (zu_ne (by omega))) (by decide)) (fun a4 b4 h4 => ?_)
  rcases h4 with h4 | ⟨j4, s4, i4, ka4, kna4, kb4, knb4, x4, y4, k4, p4, q4, o4, w4, v4⟩
  · rw [if_pos h4.1]
    exact two.mk (Or.inl ⟨rfl, h4.2.1, h4.2.2⟩)
  rw [if_neg (by rw [j4]; decide)]
  refine two.letl ?_
  have kA4 : kA Q A a4.2.1 := kA3.tr ka4
  have kNA4 : kNA Q NA a4.2.2 := kNA3.tr kna4
  have cG : a4.2.1 (Q + 1) 2 = nI G := (kA4 (Q + 1) 2 (by omega) (by omega)).trans c8
  have cH : a4.2.1 (Q + 1) 1 = nI H := (kA4 (Q + 1) 1 (by omega) (by omega)).trans c6
  rw [cG, zwr_nI hG (by decide)]
  obtain ⟨A', f1, f2, f3, f4⟩ := c_addParty (R := Q + 1) (s := s) c2 zFu 0 a4.2.1 cH cG (by omega) (by unfold zFu; omega) hG
  rw [show nI 0 = (0 : Int32) by decide] at f1
  refine two.l (show D_X4_addParty (Q + 1) s a4.2.1 = some A' from f1) (two.mk (Or.inr ⟨rfl, i4, ?_⟩))
  have kF : ∀ r j, ¬ (r = Q + 1 ∧ j = 2) → ¬ r = Q + 5 → A' r j = a4.2.1 r j := fun r j h1 h2 => f4 r j h1 (fun z => h2 z.1)
  have kFn : ∀ r j, ¬ (r = Q + 12 ∧ j = G) → zu a4.2.2 (Q + 12) G (a4.2.2 Q 10) r j = a4.2.2 r j := fun r j h => zu_ne (by omega)
  refine ⟨x4.mono (fun r j h => kF r j (by omega) (by omega)), y4, k4.mono (fun j h => kF Q j (by omega) (by omega)) (kFn Q 8 (by omega)) (fun _ _ => rfl) rfl, Or.inr (Or.inr ?_)⟩
  obtain ⟨d1, d2, d3⟩ := d_party (A' := A') (NA' := zu a4.2.2 (Q + 12) G (a4.2.2 Q 10)) (B' := b4.2.1) (NB' := b4.2.2) (s := s) hC hM hR hG hs hx
    (fun r j h1 h2 h3 => (f4 r j (fun z => h3 (Or.inl z)) (fun z => h3 (Or.inr ⟨z.1, z.2.2⟩))).trans (kA4 r j h1 h2)) f2 (fun h h1 h2 => f3 h (Nat.zero_le h) h1 h2)
    (fun r j h1 h2 => (kFn r j h2).trans (kNA4 r j h1))
    (fun r j h1 h2 => (kb4 r j h1).trans ((e4 r j (fun z => h2 (Or.inl z)) (fun z => h2 (Or.inr ⟨z.1, by obtain ⟨h, w1, w2, w3, w4⟩ := z.2; exact ⟨h, w2, w3, w4⟩⟩))).trans (kB3 r j h1)))
    ((kb4 P 30 (by omega)).trans e2)
    (fun h h1 h2 => (kb4 (P + 2) (10 + h) (by omega)).trans (e3 h (Nat.zero_le h) h1 h2))
    (fun r j h1 h2 => (knb4 r j h1).trans ((zu_ne h2).trans (kNB3 r j h1)))
    (by rw [zu_eq, knb4 (P + 10) G (by omega), zu_eq, p4]; exact hnm)
    (fun i hi => by rw [zu_eq, p4]; exact hd i hi)
  refine ⟨⟨U, H, G + 1, d1, d2, d3⟩, hO.g (fun j h => (kF Q j (by omega) (by omega)).trans (kA4 Q j (by omega) (by omega))) ((kF (Q + 1) 3 (by omega) (by omega)).trans (kA4 (Q + 1) 3 (by omega) (by omega))) ((kb4 P 23 (by omega)).trans ((kM P 23 (by omega) (by omega)).trans (kB3 P 23 (by omega)))), ?_, ?_, ?_, ?_⟩
  · show A' Q 1 = 0
    rw [kF Q 1 (by omega) (by omega), kA4 Q 1 (by omega) (by omega)]; exact hF.1
  · rw [kb4 P 21 (by omega), kM P 21 (by omega) (by omega), kB3 P 21 (by omega)]; exact hF.2.1
  · show A' Q 2 = -1
    rw [kF Q 2 (by omega) (by omega), kA4 Q 2 (by omega) (by omega)]; exact hF.2.2.1
  · rw [kb4 P 22 (by omega), kM P 22 (by omega) (by omega), kB3 P 22 (by omega)]; exact hF.2.2.2
/-- where no name stands and no end of the line either -/
theorem l_noEnd {Q P n : Nat} {t : Nat → Int32} {A B B' : zMt} {NA NB NB' : zNt} (k3 : tk Q P n t A NA B NB) (h6 : ¬ A Q 6 = 3) (kb : ∀ j, (16 ≤ j ∧ j ≤ 20) → B' P j = B P j) (nb : NB' P 24 = NB P 24) : two (zB (D_X3_fail Q (2 : Int32) A) fun e => some (e.1, e.2, NA)) (D_X8_readLine_114 P (1 : Int32) B' NB') (LR Q P n t) := by
  have k3' : tk Q P n t A NA B' NB' := k3.mono (fun _ _ => rfl) rfl kb nb
  unfold D_X8_readLine_114
  rw [if_neg (by decide), if_neg (fun z => h6 (k3'.sgn.1.mpr z))]
  exact (t_fail (NA := NA) (NB := NB') k3').imp (fun _ _ h => Or.inl h)
theorem bitK_or {s : Int32} {k h : Nat} (hk : k < 10) (hh : h < 10) : bitAt (s ||| ((1 : Int32) <<< (nI k &&& 31))) h ↔ bitAt s h ∨ k = h := by
  rw [bitAt_or hh]
  exact or_congr Iff.rfl (bitAt_one k hk h hh)
/-- is the hunter free: both say alike -/
theorem s_free {Q P : Nat} {A B : zMt} {U H G h : Nat} (hC : dC Q P A B U H G) (hR : dR Q P A B U H G) (hh : h < H) : (A (Q + 5) h = -1 ↔ B (P + 2) (10 + h) = -1) ∧ (A (Q + 5) h = -1 → (A (Q + 6) h = 0 ↔ B (P + 2) (20 + 3 * h) = -1)) := by
  obtain ⟨c1, c2, -⟩ := hC
  obtain ⟨r1, r2, r3, r4, r5, -⟩ := hR
  refine ⟨by rw [(r4 h (by omega)).1], fun he => ?_⟩
  obtain ⟨c, w1, w2, w3, w4⟩ := r5 h (by omega) he
  have w := w4 0 (by omega)
  rw [Nat.add_zero] at w
  rw [w2]
  constructor
  · intro z
    have hc : c = 0 := nI_inj (by omega) (by omega) (z.trans (by decide))
    exact Classical.byContradiction (fun q => absurd (w.mpr q) (by omega))
  · intro z
    have : ¬ 0 < c := fun q => w.mp q z
    have hc : c = 0 := by omega
    rw [hc]; decide
theorem l_party17 {Q P n : Nat} {t : Nat → Int32} {A B : zMt} {NA NB : zNt} {U H G : Nat} {x : Int64} {w : Int64} (hC : dC Q P A B U H G) (hM : dN Q P t NA NB U H G) (hR : dR Q P A B U H G) (hO : dO Q P A B) (hF : dF Q P A B) (hG : G < 4) (hnm : nmR t w x) (hd : ∀ i, i < H → ¬ NA (Q + 11) i = w) : ∀ (u c : Nat) (s : Int32) (A3 : zMt) (NA3 : zNt) (B3 : zMt) (NB3 : zNt), pK Q P n t A A3 NA NA3 B B3 NB NB3 → NA3 Q 10 = w → c ≤ 4 → 4 - c < u → (∀ h, h < 10 → bitAt s h → h < H ∧ A (Q + 5) h = -1 ∧ A (Q + 6) h = 0) → (c = 0 ∨ ∃ h, h < 10 ∧ bitAt s h) → two (D_X3_readParty_17 Q u s (nI c) A3 NA3) (zB (D_X8_readParty_40 P u x s (nI c) B3 NB3) fun e => D_X8_readLine_114 P e.1 e.2.1 e.2.2) (LR Q P n t) := by
  intro u
  induction u with
  | zero => intro c s A3 NA3 B3 NB3 _ _ _ h; omega
  | succ u ih =>
    intro c s A3 NA3 B3 NB3 hK hw hc hu hs hx
    obtain ⟨kA3, kNA3, kB3, kNB3, x3, y3, k3⟩ := id hK
    have hC3 := hC.k kA3 kB3
    have hM3 := hM.k kNA3 kNB3
    have hR3 := hR.k kA3 kB3
    obtain ⟨c1, c2, c3, c4, c5, c6, c7, c8, c9⟩ := id hC3
    obtain ⟨r, er, er8, hr⟩ := s_isName x3 k3
    -- the end
    have fin : ∀ hx : ∃ h, h < 10 ∧ bitAt s h, two (D_X3_readParty_106 Q s A3 NA3) (zB (D_X8_readParty_161 P zFu x s (0 : Int32) B3 NB3) fun e => D_X8_readLine_114 P e.1 e.2.1 e.2.2) (LR Q P n t) := fun hx => l_party106 hC hM hR hO hF hG hs hx hK (by rw [hw]; exact hnm) (fun i hi => by rw [hw]; exact hd i hi)
    -- one mate more
    have more : c < 4 → r = 1 → two (D_X3_readParty_35 Q (D_X3_readParty_17 Q u) s (nI c) A3 NA3) (zB (D_X8_readParty_53 P (D_X8_readParty_40 P u) x s (nI c) B3 NB3) fun e => D_X8_readLine_114 P e.1 e.2.1 e.2.2) (LR Q P n t) := by
      intro hc4 hr1
      obtain ⟨-, s0, k, h7, h16, hW⟩ := hr.resolve_left (by rw [hr1]; decide)
      unfold D_X3_readParty_35 D_X8_readParty_53
      refine two.l er ?_
      rw [zB_zB]
      refine two.r er8 ?_
      rw [if_neg (by rw [hr1]; decide), if_neg (by rw [hr1]; decide), if_neg (by intro z; exact absurd (nI_inj (b := 4) (by omega) (by omega) z) (by omega)), zB_zB, c6, c7]
      obtain ⟨e, g1, g2, hf⟩ := s_find (Qr := Q + 11) (nQ := 10) (Pr := P + 9) (nP := 10) (c := H) c2 c2 (by omega) (by omega) hW.nm hM3.2.1
      refine two.l g1 (two.r g2 ?_)
      have bad4 : two (D_X3_readParty_84 Q A3 NA3) (zB (D_X8_readParty_134 P B3 NB3) fun e => D_X8_readLine_114 P e.1 e.2.1 e.2.2) (LR Q P n t) := by
        unfold D_X3_readParty_84 D_X8_readParty_134
        obtain ⟨a, f1, b, f2, f3⟩ := t_fail (NA := NA3) (NB := NB3) (v := 4) k3
        rw [f1, f2]
        exact t_dn2 (a := a) (b := b) f3
      by_cases he : e = -1
      · rw [if_pos he]
        unfold D_X3_isFree
        rw [if_pos he]
        exact bad4
      · obtain ⟨h, hh, e2, -⟩ := hf.some he
        subst e2
        rw [if_neg he]
        unfold D_X3_isFree
        rw [if_neg he, zrd_nI (by omega) (by decide), zrd_nI (by omega) (by decide), zB_zI]
        have e10 : (10 : Int32) + nI h = nI (10 + h) := (show ∀ k, k < 10 → (10 : Int32) + nI k = nI (10 + k) by decide) h (by omega)
        have e20 : (20 : Int32) + (3 : Int32) * nI h = nI (20 + 3 * h) := (show ∀ k, k < 10 → (20 : Int32) + (3 : Int32) * nI k = nI (20 + 3 * k) by decide) h (by omega)
        rw [e10, e20]
        refine two.ir (vp_in_nI (by omega) (by decide)) ?_
        rw [nI_clamp (by omega)]
        obtain ⟨q1, q2⟩ := s_free hC3 hR3 hh
        by_cases hp : A3 (Q + 5) h = -1
        · rw [if_pos hp, if_pos (q1.mp hp), zB_zI]
          refine two.ir (vp_in_nI (by omega) (by decide)) ?_
          rw [nI_clamp (by omega)]
          by_cases hwc : A3 (Q + 6) h = 0
          · rw [if_pos hwc, if_pos ((q2 hp).mp hwc), zB_zB]
            refine two.l (e := 1) rfl ?_
            rw [if_neg (by decide)]
            obtain ⟨e3, he3, hq3⟩ := v_X8_has (v0 := s) (v1 := nI h)
            refine two.r he3 ?_
            by_cases hb : bitAt s h
            · have e30 : ¬ e3 = 0 := fun z => by
                rcases hq3.2 with ⟨w, _⟩ | ⟨_, w⟩
                · rw [z] at w; exact absurd w (by decide)
                · exact w hb
              rw [if_pos (show ((s >>> (nI h &&& 31)) &&& (1 : Int32)) = (1 : Int32) from hb), if_neg e30]
              exact bad4
            · have e30 : e3 = 0 := by
                rcases hq3.2 with ⟨_, w⟩ | ⟨w, _⟩
                · exact absurd w hb
                · exact w
              rw [if_neg (show ¬ ((s >>> (nI h &&& 31)) &&& (1 : Int32)) = (1 : Int32) from hb), if_pos e30, zB_zB]
              refine two.bind (t_step x3 y3 hW.nx) (fun a4 b4 h4 => ?_)
              obtain ⟨i4, ka4, kna4, kb4, knb4, x4, y4, k4, p4, q4, o4, w4, v4⟩ := h4
              rw [nI_add1]
              refine ih (c + 1) _ a4.1 a4.2 b4.2.1 b4.2.2 ⟨kA3.tr ka4, kNA3.tr kna4, kB3.tr kb4, kNB3.tr knb4, x4, y4, k4⟩ (p4.trans hw) (by omega) (by omega) ?_ (Or.inr ⟨h, by omega, (bitK_or (by omega) (by omega)).mpr (Or.inr rfl)⟩)
              intro h' hh' hb'
              rcases (bitK_or (by omega) hh').mp hb' with z | z
              · exact hs h' hh' z
              · subst z
                exact ⟨hh, (kA3 (Q + 5) h (by omega) (by omega)).symm.trans hp, (kA3 (Q + 6) h (by omega) (by omega)).symm.trans hwc⟩
          · rw [if_neg hwc, if_neg (fun z => hwc ((q2 hp).mpr z))]
            exact bad4
        · rw [if_neg hp, if_neg (fun z => hp (q1.mpr z))]
          exact bad4
    rw [D_X3_readParty_17, D_X8_readParty_40]
    by_cases h4 : 4 ≤ c
    · have hc4 : c = 4 := by omega
      subst hc4
      have hx' := hx.resolve_left (by omega)
      rw [if_pos (by exact (leL (x := 4) (a := 4) (by decide) (by decide) (by omega)).mpr (by omega)), if_neg (by intro z; exact absurd ((ltR (x := 2) (b := 2) (by decide) (by decide) (by omega)).mp z) (by omega)), zB_zB]
      refine two.r er8 ?_
      by_cases hr0 : r = 0
      · rw [if_pos hr0]
        exact fin hx'
      · rw [if_neg hr0]
        obtain ⟨-, s0, k, h7, h16, hW⟩ := hr.resolve_left hr0
        unfold D_X8_readParty_53
        rw [zB_zB]
        refine two.r er8 ?_
        rw [if_neg hr0, if_pos (show nI 4 = (4 : Int32) by decide)]
        have h63 : ¬ A3 Q 6 = 3 := fun z => absurd (hW.1.symm.trans z) (by decide)
        unfold D_X3_readParty_106 D_X3_endOfLine D_X8_readParty_66
        rw [if_neg h63]
        obtain ⟨a, f1, b, f2, f3⟩ := t_fail (NA := NA3) (NB := NB3) (v := 2) k3
        rw [f1, f2]
        show two (if a.1 = 0 then some ((0 : Int32), a.2.1, a.2.2) else _) (D_X8_readLine_114 P b.1 b.2.1 b.2.2) _
        rw [if_pos f3.1, f3.2.1]
        exact t_dn (a := a) (b := b) f3
    · rw [if_neg (by intro z; exact h4 ((leL (x := 4) (a := 4) (by decide) (by decide) (by omega)).mp z))]
      by_cases h2 : c < 2
      · have hlt : nI c < (2 : Int32) := (ltR (x := 2) (b := 2) (by decide) (by decide) (by omega)).mpr h2
        rw [if_pos hlt, if_pos hlt]
        rcases hr with hr0 | ⟨hr1, hh⟩
        · unfold D_X3_readParty_35 D_X8_readParty_53
          refine two.l er ?_
          rw [zB_zB]
          refine two.r er8 ?_
          rw [if_pos hr0, if_pos hr0]
          unfold D_X8_readParty_66
          obtain ⟨a, f1, b, f2, f3⟩ := t_fail (NA := NA3) (NB := NB3) (v := 2) k3
          rw [f1, f2]
          exact t_dn2 (a := a) (b := b) f3
        · exact more (by omega) hr1
      · have hx' := hx.resolve_left (by omega)
        have hge : ¬ nI c < (2 : Int32) := fun z => h2 ((ltR (x := 2) (b := 2) (by decide) (by decide) (by omega)).mp z)
        rw [if_neg hge, if_neg hge, zB_zB]
        refine two.r er8 ?_
        by_cases hr0 : r = 0
        · rw [if_pos hr0]
          by_cases h63 : A3 Q 6 = 3
          · rw [if_pos h63]
            exact fin hx'
          · rw [if_neg h63]
            unfold D_X3_readParty_35
            refine two.l er ?_
            rw [if_pos hr0]
            obtain ⟨B', e1, e2, e3, e4⟩ := m_161 (P := P) (x := x) (s := s) (N := NB3) c2 hG zFu 0 B3 c7 c9 (by omega) (by unfold zFu; omega)
            rw [show nI 0 = (0 : Int32) by decide] at e1
            refine two.r e1 ?_
            exact l_noEnd k3 h63 (fun j hj => e4 P j (by omega) (by omega)) (zu_ne (by omega))
        · have hr1 : r = 1 := (hr.resolve_left hr0).1
          obtain ⟨-, s0, k, h7, h16, hW⟩ := hr.resolve_left hr0
          have h63 : ¬ A3 Q 6 = 3 := fun z => absurd (hW.1.symm.trans z) (by decide)
          rw [if_neg hr0, if_neg h63]
          exact more (by omega) hr1
theorem l_party {Q P n : Nat} {t : Nat → Int32} {A B : zMt} {NA NB : zNt} (hX : tx Q n t A) (hY : ty P n t B) (hN : nx Q P n A B) {U H G : Nat} (hC : dC Q P A B U H G) (hM : dN Q P t NA NB U H G) (hR : dR Q P A B U H G) (hO : dO Q P A B) (hF : dF Q P A B) (hG : G < 4) : two (D_X3_readParty Q A NA) (zB (D_X8_readParty P B NB) fun e => D_X8_readLine_114 P e.1 e.2.1 e.2.2) (LR Q P n t) := by
  have hc5 : B P 30 = nI G := hC.2.2.2.2.2.2.2.2
  unfold D_X3_readParty D_X8_readParty
  rw [if_neg (by rw [hc5]; exact fun z => absurd (nI_inj (b := 4) (by omega) (by omega) z) (by omega)), zB_zB]
  refine two.bind (t_step hX hY hN) (fun a1 b1 h1 => ?_)
  obtain ⟨i1, ka1, kna1, kb1, knb1, x1, y1, k1, p1, q1, o1, w1, v1⟩ := h1
  rw [if_neg (by rw [i1]; decide), zB_zB]
  have hC1 := hC.k ka1 kb1
  have hM1 := hM.k kna1 knb1
  refine two.bind (t_newName x1 y1 k1 hC1 hM1) (fun a2 b2 h2 => ?_)
  rcases h2 with h2 | ⟨j2, NA', NB', kna', knb', hnm, f1, f2, f3, i2, ka2, kna2, kb2, knb2, x2, y2, k2, p2, q2, o2, w2, v2⟩
  · rw [if_pos h2.1, if_pos h2.2.1]
    exact t_dn (a := a2) (b := b2) h2
  rw [if_neg (by rw [j2]; decide), if_neg (by rw [i2]; decide)]
  exact l_party17 (w := a2.2.2 Q 10) hC hM hR hO hF hG (by rw [p2, q2]; exact hnm) (fun i hi z => f2 i hi (by rw [kna1 (Q + 11) i (by omega), z, p2])) zFu 0 0 a2.2.1 a2.2.2 b2.2.1 b2.2.2 ⟨ka1.tr ka2, (kna1.tr kna').tr kna2, kb1.tr kb2, (knb1.tr knb').tr knb2, x2, y2, k2⟩ rfl (by omega) (by unfold zFu; omega) (fun h _ hb => absurd hb bitAt_0) (Or.inl rfl)
