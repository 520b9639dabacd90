/-! the line of a hunter -/
theorem d_hunter {Q P : Nat} {t : Nat → Int32} {A A' B B' : zMt} {NA NA' NB NB' : zNt} {U H G : Nat} {v g : Int32} (hg : g = 0 ∨ g = 1) (hC : dC Q P A B U H G) (hN : dN Q P t NA NB U H G) (hR : dR Q P A B U H G) (hH : H < 10)
    (a : gA Q (fun r j => (r = Q + 1 ∧ j = 1) ∨ (r = Q + 3 ∧ j = H) ∨ (r = Q + 4 ∧ j = H)) A A') (a0 : A' (Q + 1) 1 = nI (H + 1)) (a1 : A' (Q + 3) H = v) (a2 : A' (Q + 4) H = g)
    (na : gN Q 8 10 (fun r j => r = Q + 11 ∧ j = H) NA NA')
    (b : gB P (fun r j => (r = P ∧ j = 29) ∨ (r = P + 2 ∧ j = H) ∨ (r = P + 6 ∧ j = H)) B B') (b0 : B' P 29 = nI (H + 1)) (b1 : B' (P + 2) H = v) (b2 : B' (P + 6) H = g)
    (nb : gN P 24 32 (fun r j => r = P + 9 ∧ j = H) NB NB') (hn : nmR t (NA' (Q + 11) H) (NB' (P + 9) H)) (hd : ∀ i, i < G → ¬ NA (Q + 12) i = NA' (Q + 11) H) : dC Q P A' B' U (H + 1) G ∧ dN Q P t NA' NB' U (H + 1) G ∧ dR Q P A' B' U (H + 1) G := by
  have a : ∀ r j, ¬ (r = Q ∧ (j = 5 ∨ j = 6 ∨ j = 7 ∨ j = 9)) → ¬ r = Q + 13 → ¬ ((r = Q + 1 ∧ j = 1) ∨ (r = Q + 3 ∧ j = H) ∨ (r = Q + 4 ∧ j = H)) → A' r j = A r j := a
  have b : ∀ r j, ¬ (r = P ∧ ((16 ≤ j ∧ j ≤ 20) ∨ j = 31)) → ¬ ((r = P ∧ j = 29) ∨ (r = P + 2 ∧ j = H) ∨ (r = P + 6 ∧ j = H)) → B' r j = B r j := b
  have na : ∀ r j, ¬ (r = Q ∧ (j = 8 ∨ j = 10)) → ¬ (r = Q + 11 ∧ j = H) → NA' r j = NA r j := na
  have nb : ∀ r j, ¬ (r = P ∧ (j = 24 ∨ j = 32)) → ¬ (r = P + 9 ∧ j = H) → NB' r j = NB r j := nb
  obtain ⟨c1, c2, c3, c4, c5, c6, c7, c8, c9⟩ := hC
  obtain ⟨n1, n2, n3, n4⟩ := hN
  obtain ⟨r1, r2, r3, r4, r5, r6, r7, r8, r9, ⟨s1, s2, s3⟩, ⟨u1, u2, u3, u4, u5⟩⟩ := hR
  refine ⟨⟨c1, by omega, c3, ?_, ?_, a0, b0, ?_, ?_⟩, ⟨fun i hi => ?_, fun i hi => ?_, fun i hi => ?_, fun i j hi hj => ?_⟩, ⟨fun u hu => ?_, fun h hh => ?_, fun h hh => ?_, fun h hh => ?_, fun h hh he => ?_, fun h g hh hg he => ?_, fun g k h1 h2 h3 => ?_, fun h h1 h2 => ?_, fun g hg => ?_, ⟨?_, ?_, ?_⟩, ⟨?_, ?_, fun h hh => ⟨?_, ?_⟩, fun u hu1 hu2 => ?_, fun h hh1 hh2 => ?_⟩⟩⟩
  · rw [a (Q + 1) 0 (by omega) (by omega) (by omega)]; exact c4
  · rw [b P 28 (by omega) (by omega)]; exact c5
  · rw [a (Q + 1) 2 (by omega) (by omega) (by omega)]; exact c8
  · rw [b P 30 (by omega) (by omega)]; exact c9
  · rw [na (Q + 10) i (by omega) (by omega), nb (P + 8) i (by omega) (by omega)]; exact n1 i hi
  · by_cases q : i = H
    · subst q; exact hn
    · rw [na (Q + 11) i (by omega) (by omega), nb (P + 9) i (by omega) (by omega)]; exact n2 i (by omega)
  · rw [na (Q + 12) i (by omega) (by omega), nb (P + 10) i (by omega) (by omega)]; exact n3 i hi
  · rw [na (Q + 12) j (by omega) (by omega)]
    by_cases q : i = H
    · subst q; exact fun z => hd j hj z.symm
    · rw [na (Q + 11) i (by omega) (by omega)]; exact n4 i j (by omega) hj
  · rw [a (Q + 2) u (by omega) (by omega) (by omega), b (P + 2) (62 + u) (by omega) (by omega)]; exact r1 u hu
  · by_cases q : h = H
    · subst q; rw [a1, b1]
    · rw [a (Q + 3) h (by omega) (by omega) (by omega), b (P + 2) h (by omega) (by omega)]; exact r2 h hh
  · by_cases q : h = H
    · subst q; rw [a2, b2]; exact ⟨rfl, hg⟩
    · rw [a (Q + 4) h (by omega) (by omega) (by omega), b (P + 6) h (by omega) (by omega)]; exact r3 h (by omega)
  · rw [a (Q + 5) h (by omega) (by omega) (by omega), b (P + 2) (10 + h) (by omega) (by omega)]
    obtain ⟨q1, q2, q3⟩ := r4 h hh
    exact ⟨q1, q2, q3.imp (fun z => by omega) id⟩
  · rw [a (Q + 5) h (by omega) (by omega) (by omega)] at he
    exact (r5 h hh he).k (a (Q + 6) h (by omega) (by omega) (by omega)) (fun k hk => a (Q + 7) _ (by omega) (by omega) (by omega)) (fun k hk => b (P + 2) _ (by omega) (by omega))
  · rw [a (Q + 5) h (by omega) (by omega) (by omega)] at he
    exact (r6 h g hh hg he).k (a (Q + 6) h (by omega) (by omega) (by omega)) (fun k hk => a (Q + 7) _ (by omega) (by omega) (by omega)) (fun k hk => b (P + 2) _ (by omega) (by omega))
  · rw [b (P + 2) (50 + 3 * g + k) (by omega) (by omega)]; exact r7 g k h1 h2 h3
  · rw [a (Q + 6) h (by omega) (by omega) (by omega)]; exact r8 h h1 (by omega)
  · obtain ⟨h, h1, h2⟩ := r9 g hg
    exact ⟨h, by omega, by rw [a (Q + 5) h (by omega) (by omega) (by omega)]; exact h2⟩
  · rw [a (Q + 1) 3 (by omega) (by omega) (by omega), b (P + 2) 67 (by omega) (by omega)]; exact s1
  · rw [a (Q + 1) 4 (by omega) (by omega) (by omega), b (P + 2) 68 (by omega) (by omega)]; exact s2
  · rw [a (Q + 1) 5 (by omega) (by omega) (by omega), b (P + 2) 69 (by omega) (by omega)]; exact s3
  · rw [a (Q + 1) 6 (by omega) (by omega) (by omega)]; exact u1
  · rw [b (P + 2) 71 (by omega) (by omega)]; exact u2
  · rw [a (Q + 8) h (by omega) (by omega) (by omega)]; exact (u3 h hh).1
  · rw [b (P + 2) (72 + h) (by omega) (by omega)]; exact (u3 h hh).2
  · rw [a (Q + 2) u (by omega) (by omega) (by omega)]; exact u4 u (by omega) hu2
  · rw [a (Q + 4) h (by omega) (by omega) (by omega)]; exact u5 h (by omega) hh2
/-- the end of a hunter's line -/
theorem l_hunter39 {Q P n : Nat} {t : Nat → Int32} {A A3 B B3 : zMt} {NA NA3 NB NB3 : zNt} {U H G : Nat} {v g : Int32} (hC : dC Q P A B U H G) (hM : dN Q P t NA NB U H G) (hR : dR Q P A B U H G) (hO : dO Q P A B) (hF : A Q 1 = 0 ∧ B P 21 = 0 ∧ A Q 2 = -1 ∧ B P 22 = -1) (hH : H < 10)
    (x3 : tx Q n t A3) (y3 : ty P n t B3) (k3 : tk Q P n t A3 NA3 B3 NB3) (kA3 : kA Q A A3) (kNA3 : kNA Q NA NA3)
    (kB3 : gB P (fun r j => (r = P + 2 ∧ j = H) ∨ (r = P + 6 ∧ j = H)) B B3) (kNB3 : gN P 24 32 (fun r j => r = P + 9 ∧ j = H) NB NB3)
    (e9 : A3 Q 6 = 3 → A3 Q 9 = v) (b1 : B3 (P + 2) H = v) (b2 : B3 (P + 6) H = g) (hg : g = 0 ∨ g = 1) (hnm : nmR t (NA3 Q 10) (NB3 (P + 9) H)) (hd : ∀ i, i < G → ¬ NA (Q + 12) i = NA3 Q 10) : two (D_X3_readHunter_39 Q g A3 NA3) (D_X8_readLine_114 P (1 : Int32) (zu B3 P 29 (nI (H + 1))) NB3) (LR Q P n t) := by
  have kB3 : ∀ r j, ¬ (r = P ∧ ((16 ≤ j ∧ j ≤ 20) ∨ j = 31)) → ¬ ((r = P + 2 ∧ j = H) ∨ (r = P + 6 ∧ j = H)) → B3 r j = B r j := kB3
  have kNB3 : ∀ r j, ¬ (r = P ∧ (j = 24 ∨ j = 32)) → ¬ (r = P + 9 ∧ j = H) → NB3 r j = NB r j := kNB3
  have kM : ∀ r j, ¬ (r = P ∧ j = 29) → zu B3 P 29 (nI (H + 1)) r j = B3 r j := fun r j h => zu_ne h
  unfold D_X3_readHunter_39
  refine two.bindl (t_end (x1 := 1) x3 (y3.mono (fun r j h => kM r j (by omega))) (k3.mono (fun _ _ => rfl) rfl (fun j h => kM P j (by omega)) rfl) (by decide)) (fun a4 b4 h4 => ?_)
  rcases h4 with h4 | ⟨j4, s4, i4, ka4, kna4, kb4, knb4, x4, y4, k4, p4, q4, o4, w4, v4⟩
  · rw [if_pos h4.1]
    exact two.mk (Or.inl ⟨rfl, h4.2.1, h4.2.2⟩)
  rw [if_neg (by rw [j4]; decide)]
  refine two.letl ?_
  have cU4 : a4.2.1 (Q + 1) 1 = nI H := (ka4 (Q + 1) 1 (by omega) (by omega)).trans ((kA3 (Q + 1) 1 (by omega) (by omega)).trans hC.2.2.2.2.2.1)
  rw [cU4, zwr_nI hH (by decide)]
  have eadd : D_X4_addHunter (Q + 1) (a4.2.1 Q 9) g a4.2.1 = some (zu (zu (zu a4.2.1 (Q + 3) H (a4.2.1 Q 9)) (Q + 4) H g) (Q + 1) 1 (nI (H + 1))) := by
    have fin : ∀ y : Int32, D_X4_addHunter_29 (Q + 1) (zu a4.2.1 (Q + 3) H (a4.2.1 Q 9) (Q + 1) 1) y (zu a4.2.1 (Q + 3) H (a4.2.1 Q 9)) = some (zu (zu (zu a4.2.1 (Q + 3) H (a4.2.1 Q 9)) (Q + 4) H y) (Q + 1) 1 (nI (H + 1))) := fun y => by
      have e1 : zu a4.2.1 (Q + 3) H (a4.2.1 Q 9) (Q + 1) 1 = nI H := (zu_ne (by omega)).trans cU4
      unfold D_X4_addHunter_29
      rw [e1, zwr_nI hH (by decide)]
      show some (zu (zu (zu a4.2.1 (Q + 3) H (a4.2.1 Q 9)) (Q + 1 + 3) H y) (Q + 1) 1 (zu (zu a4.2.1 (Q + 3) H (a4.2.1 Q 9)) (Q + 1 + 3) H y (Q + 1) 1 + 1)) = _
      rw [show zu (zu a4.2.1 (Q + 3) H (a4.2.1 Q 9)) (Q + 1 + 3) H y (Q + 1) 1 = nI H from (zu_ne (by omega)).trans e1, nI_add1]
    unfold D_X4_addHunter
    rw [cU4, zwr_nI hH (by decide)]
    rcases hg with rfl | rfl
    · exact fin 0
    · exact fin 1
  refine two.l eadd (two.mk (Or.inr ⟨rfl, i4, ?_⟩))
  have kF : ∀ r j, ¬ ((r = Q + 1 ∧ j = 1) ∨ (r = Q + 3 ∧ j = H) ∨ (r = Q + 4 ∧ j = H)) → zu (zu (zu a4.2.1 (Q + 3) H (a4.2.1 Q 9)) (Q + 4) H g) (Q + 1) 1 (nI (H + 1)) r j = a4.2.1 r j := fun r j h => (zu_ne (by omega)).trans ((zu_ne (by omega)).trans (zu_ne (by omega)))
  have kFn : ∀ r j, ¬ (r = Q + 11 ∧ j = H) → zu a4.2.2 (Q + 11) H (a4.2.2 Q 10) r j = a4.2.2 r j := fun r j h => zu_ne (by omega)
  refine ⟨x4.mono (fun r j h => kF r j (by omega)), y4, k4.mono (fun j h => kF Q j (by omega)) (kFn Q 8 (by omega)) (fun _ _ => rfl) rfl, ?_⟩
  show zu (zu (zu a4.2.1 (Q + 3) H (a4.2.1 Q 9)) (Q + 4) H g) (Q + 1) 1 (nI (H + 1)) Q 6 = 2 ∨ zu (zu (zu a4.2.1 (Q + 3) H (a4.2.1 Q 9)) (Q + 4) H g) (Q + 1) 1 (nI (H + 1)) Q 6 = 4 ∨ _
  rw [kF Q 6 (by omega)]
  rcases v4 with v4 | v4 | v4
  · refine Or.inr (Or.inr ?_)
    have ev : a4.2.1 Q 9 = v := v4.trans (e9 s4)
    have kA4 : kA Q A a4.2.1 := kA3.tr ka4
    have kNA4 : kNA Q NA a4.2.2 := kNA3.tr kna4
    obtain ⟨d1, d2, d3⟩ := d_hunter (A' := zu (zu (zu a4.2.1 (Q + 3) H (a4.2.1 Q 9)) (Q + 4) H g) (Q + 1) 1 (nI (H + 1))) (NA' := zu a4.2.2 (Q + 11) H (a4.2.2 Q 10)) (B' := b4.2.1) (NB' := b4.2.2) (v := a4.2.1 Q 9) (g := g) hg hC hM hR hH
      (fun r j h1 h2 h3 => (kF r j h3).trans (kA4 r j h1 h2)) zu_eq ((zu_ne (by omega)).trans ((zu_ne (by omega)).trans zu_eq)) ((zu_ne (by omega)).trans zu_eq)
      (fun r j h1 h2 => (kFn r j h2).trans (kNA4 r j h1))
      (fun r j h1 h2 => (kb4 r j h1).trans ((kM r j (fun z => h2 (Or.inl z))).trans (kB3 r j h1 (fun z => h2 (Or.inr z)))))
      ((kb4 P 29 (by omega)).trans zu_eq)
      ((kb4 (P + 2) H (by omega)).trans ((kM (P + 2) H (by omega)).trans (b1.trans ev.symm)))
      ((kb4 (P + 6) H (by omega)).trans ((kM (P + 6) H (by omega)).trans b2))
      (fun r j h1 h2 => (knb4 r j h1).trans (kNB3 r j h1 h2))
      (by rw [zu_eq, knb4 (P + 9) H (by omega), p4]; exact hnm)
      (fun i hi => by rw [zu_eq, p4]; exact hd i hi)
    refine ⟨⟨U, H + 1, G, d1, d2, d3⟩, hO.g (fun j h => (kF Q j (by omega)).trans (kA4 Q j (by omega) (by omega))) ((kF (Q + 1) 3 (by omega)).trans (kA4 (Q + 1) 3 (by omega) (by omega))) ((kb4 P 23 (by omega)).trans ((kM P 23 (by omega)).trans (kB3 P 23 (by omega) (by omega)))), ?_, ?_, ?_, ?_⟩
    · exact (kF Q 1 (by omega)).trans ((kA4 Q 1 (by omega) (by omega)).trans hF.1)
    · rw [kb4 P 21 (by omega), kM P 21 (by omega), kB3 P 21 (by omega) (by omega)]; exact hF.2.1
    · exact (kF Q 2 (by omega)).trans ((kA4 Q 2 (by omega) (by omega)).trans hF.2.2.1)
    · rw [kb4 P 22 (by omega), kM P 22 (by omega), kB3 P 22 (by omega) (by omega)]; exact hF.2.2.2
  · exact Or.inl v4
  · exact Or.inr (Or.inl v4)
theorem l_hunter {Q P n : Nat} {t : Nat → Int32} {A B : zMt} {NA NB : zNt} (hX : tx Q n t A) (hY : ty P n t B) (hN : nx Q P n A B) {U H G : Nat} (hC : dC Q P A B U H G) (hM : dN Q P t NA NB U H G) (hR : dR Q P A B U H G) (hO : dO Q P A B) (hF : A Q 1 = 0 ∧ B P 21 = 0 ∧ A Q 2 = -1 ∧ B P 22 = -1) (hH : H < 10) : two (D_X3_readHunter Q A NA) (zB (D_X8_readHunter P B NB) fun e => D_X8_readLine_114 P e.1 e.2.1 e.2.2) (LR Q P n t) := by
  have hc5 : B P 29 = nI H := hC.2.2.2.2.2.2.1
  unfold D_X3_readHunter D_X8_readHunter
  rw [if_neg (by rw [hc5]; exact fun z => absurd (nI_inj (b := 10) (by omega) (by omega) z) (by omega)), zB_zB]
  refine two.bind (t_step hX hY hN) (fun a1 b1 h1 => ?_)
  obtain ⟨i1, ka1, kna1, kb1, knb1, x1, y1, k1, p1, q1, o1, w1, v1⟩ := h1
  rw [if_neg (by rw [i1]; decide), zB_zB]
  have hC1 := hC.k ka1 kb1
  have hM1 := hM.k kna1 knb1
  refine two.bind (t_newName x1 y1 k1 hC1 hM1) (fun a2 b2 h2 => ?_)
  rcases h2 with h2 | ⟨j2, NA', NB', kna', knb', hnm, f1, f2, f3, i2, ka2, kna2, kb2, knb2, x2, y2, k2, p2, q2, o2, w2, v2⟩
  · rw [if_pos h2.1, if_pos h2.2.1]
    exact t_dn (a := a2) (b := b2) h2
  rw [if_neg (by rw [j2]; decide), if_neg (by rw [i2]; decide), zB_zB]
  refine two.bind (t_number x2 y2 k2 (by decide)) (fun a3 b3 h3 => ?_)
  rcases h3 with h3 | ⟨j3, B', kb', e31, g0, g1, e9, i3, ka3, kna3, kb3, knb3, x3, y3, k3, p3, q3, o3, w3, v3⟩
  · rw [if_pos h3.1, if_pos h3.2.1]
    exact t_dn (a := a3) (b := b3) h3
  rw [if_neg (by rw [j3]; decide), if_neg (by rw [i3]; decide), zB_zI]
  have kA3 : kA Q A a3.2.1 := (ka1.tr ka2).tr ka3
  have kB3 : kB P B b3.2.1 := ((kb1.tr kb2).tr kb').tr kb3
  have kNA3 : kNA Q NA a3.2.2 := ((kna1.tr kna').tr kna2).tr kna3
  have kNB3 : kNB P NB b3.2.2 := ((knb1.tr knb').tr knb2).tr knb3
  have c29 : b3.2.1 P 29 = nI H := (kB3 P 29 (by omega)).trans hc5
  have e0 : (0 : Int32) + nI H = nI H := (show ∀ k, k < 10 → (0 : Int32) + nI k = nI k by decide) H hH
  rw [c29]
  refine two.ir (vp_in_nI hH (by decide)) ?_
  rw [zB_zLt]
  refine two.letr ?_
  rw [zB_zI, e0]
  refine two.ir (vp_in_nI (by omega) (by decide)) ?_
  rw [zB_zLt]
  refine two.letr ?_
  rw [nI_clamp (by omega)]
  have kM : ∀ r j, ¬ (r = P + 2 ∧ j = H) → zu b3.2.1 (P + 2) H (b3.2.1 P 31) r j = b3.2.1 r j := fun r j h => zu_ne h
  have kMn : ∀ r j, ¬ (r = P + 9 ∧ j = H) → zu b3.2.2 (P + 9) H (b3.2.2 P 32) r j = b3.2.2 r j := fun r j h => zu_ne (by omega)
  have eM : zu b3.2.1 (P + 2) H (b3.2.1 P 31) (P + 2) H = a2.2.1 Q 9 := zu_eq.trans (o3.trans (e31.trans e9.symm))
  have eN : zu b3.2.2 (P + 9) H (b3.2.2 P 32) (P + 9) H = NB' P 32 := zu_eq.trans (q3.trans q2)
  have c29' : zu b3.2.1 (P + 2) H (b3.2.1 P 31) P 29 = nI H := (kM P 29 (by omega)).trans c29
  have hnm3 : nmR t (a3.2.2 Q 10) (NB' P 32) := by rw [p3, p2]; exact hnm
  have hd3 : ∀ i, i < G → ¬ NA (Q + 12) i = a3.2.2 Q 10 := fun i hi z => f3 i hi (by rw [kna1 (Q + 12) i (by omega), z, p3, p2])
  generalize hM3 : zu b3.2.1 (P + 2) H (b3.2.1 P 31) = M3 at *
  generalize hN3 : zu b3.2.2 (P + 9) H (b3.2.2 P 32) = N3 at *
  have kM : ∀ r j, ¬ (r = P + 2 ∧ j = H) → M3 r j = b3.2.1 r j := kM
  have kMn : ∀ r j, ¬ (r = P + 9 ∧ j = H) → N3 r j = b3.2.2 r j := kMn
  have y3' : ty P n t M3 := y3.mono (fun r j h => kM r j (by omega))
  have k3' : tk Q P n t a3.2.1 a3.2.2 M3 N3 := k3.mono (fun _ _ => rfl) rfl (fun j h => kM P j (by omega)) (kMn P 24 (by omega))
  have gNB : gN P 24 32 (fun r j => r = P + 9 ∧ j = H) NB N3 := fun r j h1 h2 => (kMn r j h2).trans (kNB3 r j h1)
  have plain : two (D_X3_readHunter_39 Q 0 a3.2.1 a3.2.2) (zB (D_X8_readHunter_97 P (M3 P 29) M3 N3) fun e => D_X8_readLine_114 P e.1 e.2.1 e.2.2) (LR Q P n t) := by
    unfold D_X8_readHunter_97 D_X8_readHunter_98
    rw [c29', zB_zI]
    refine two.ir (vp_in_nI hH (by decide)) ?_
    rw [zB_zLt]
    refine two.letr ?_
    rw [zB_zI, nI_clamp (by omega), show zu M3 (P + 6) H (0 : Int32) P 29 = nI H from (zu_ne (by omega)).trans c29']
    refine two.ir (vp_in_nI hH (by decide)) ?_
    rw [nI_clamp (by omega), if_pos zu_eq]
    unfold D_X8_readHunter_116
    rw [show zu M3 (P + 6) H (0 : Int32) P 29 = nI H from (zu_ne (by omega)).trans c29', nI_add1]
    show two _ (D_X8_readLine_114 P (1 : Int32) (zu (zu M3 (P + 6) H (0 : Int32)) P 29 (nI (H + 1))) N3) _
    have kM6 : ∀ r j, ¬ (r = P + 6 ∧ j = H) → zu M3 (P + 6) H (0 : Int32) r j = M3 r j := fun r j h => zu_ne h
    refine l_hunter39 (v := a2.2.1 Q 9) hC hM hR hO hF hH x3 (y3'.mono (fun r j h => kM6 r j (by omega))) (k3'.mono (fun _ _ => rfl) rfl (fun j h => kM6 P j (by omega)) rfl) kA3 kNA3 (fun r j h1 h2 => (kM6 r j (fun z => h2 (Or.inr z))).trans ((kM r j (fun z => h2 (Or.inl z))).trans (kB3 r j h1))) gNB ?_ ((kM6 (P + 2) H (by omega)).trans eM) zu_eq (Or.inl rfl) (by rw [eN]; exact hnm3) hd3
    intro s
    rcases v3 with v3 | v3 | v3
    · exact v3
    · exact absurd (s.symm.trans v3) (by decide)
    · exact absurd (s.symm.trans v3) (by decide)
  obtain ⟨w61, w62⟩ := k3'.wrd
  by_cases q6 : a3.2.1 Q 6 = 1
  · rw [if_pos (w61.mp q6)]
    obtain ⟨s, k, h7, hW⟩ := w62 q6
    obtain ⟨u1, u2, u3, u4, u5, u6, u7, u8, u9, u10, u11⟩ := id hW
    obtain ⟨r, er, hr⟩ := c_says (j := 2) x3 u1 h7 u3 u7 (by decide)
    refine two.l er ?_
    have hwi : M3 P 19 = (2 : Int32) ↔ say t s k 2 := by rw [show (2 : Int32) = nI 2 by decide]; exact u11.iff (by decide)
    by_cases qs : say t s k 2
    · have hr1 : r = 1 := by
        rcases hr with ⟨z, _⟩ | ⟨_, z⟩
        · exact z
        · exact absurd qs z
      rw [if_neg (by rw [hr1]; decide), if_pos (hwi.mpr qs), hr1]
      unfold D_X8_readHunter_98
      rw [c29', zB_zI]
      refine two.ir (vp_in_nI hH (by decide)) ?_
      rw [zB_zLt]
      refine two.letr ?_
      rw [zB_zI, nI_clamp (by omega), show zu M3 (P + 6) H (1 : Int32) P 29 = nI H from (zu_ne (by omega)).trans c29']
      refine two.ir (vp_in_nI hH (by decide)) ?_
      rw [nI_clamp (by omega), if_neg (by rw [zu_eq]; decide), zB_zB]
      have kM6 : ∀ r j, ¬ (r = P + 6 ∧ j = H) → zu M3 (P + 6) H (1 : Int32) r j = M3 r j := fun r j h => zu_ne h
      obtain ⟨xx, hx1, hx2, hx3⟩ := hW.nx
      refine two.bind (t_step (NA := a3.2.2) (NB := N3) x3 (y3'.mono (fun r j h => kM6 r j (by omega))) ⟨xx, hx1, hx2, (kM6 P 17 (by omega)).trans hx3⟩) (fun a5 b5 h5 => ?_)
      obtain ⟨i5, ka5, kna5, kb5, knb5, x5, y5, k5, p5, q5, o5, w5, v5⟩ := h5
      have c295 : b5.2.1 P 29 = nI H := (kb5 P 29 (by omega)).trans ((kM6 P 29 (by omega)).trans c29')
      unfold D_X8_readHunter_116
      rw [c295, nI_add1]
      show two _ (D_X8_readLine_114 P (1 : Int32) (zu b5.2.1 P 29 (nI (H + 1))) b5.2.2) _
      refine l_hunter39 (v := a2.2.1 Q 9) hC hM hR hO hF hH x5 y5 k5 (kA3.tr ka5) (kNA3.tr kna5) (fun r j h1 h2 => (kb5 r j h1).trans ((kM6 r j (fun z => h2 (Or.inr z))).trans ((kM r j (fun z => h2 (Or.inl z))).trans (kB3 r j h1)))) (fun r j h1 h2 => (knb5 r j h1).trans (gNB r j h1 h2)) ?_ ((kb5 (P + 2) H (by omega)).trans ((kM6 (P + 2) H (by omega)).trans eM)) ((kb5 (P + 6) H (by omega)).trans zu_eq) (Or.inr rfl) (by rw [knb5 (P + 9) H (by omega), eN, p5]; exact hnm3) (fun i hi => by rw [p5]; exact hd3 i hi)
      intro s6
      have e3 : a3.2.1 Q 9 = a2.2.1 Q 9 := by
        rcases v3 with v3 | v3 | v3
        · exact v3
        · exact absurd (q6.symm.trans v3) (by decide)
        · exact absurd (q6.symm.trans v3) (by decide)
      rcases v5 with v5 | v5 | v5
      · exact v5.trans e3
      · exact absurd (s6.symm.trans v5) (by decide)
      · exact absurd (s6.symm.trans v5) (by decide)
    · have hr0 : r = 0 := by
        rcases hr with ⟨_, z⟩ | ⟨z, _⟩
        · exact absurd z qs
        · exact z
      rw [if_pos hr0, if_neg (fun z => qs (hwi.mp z)), hr0]
      exact plain
  · rw [if_neg (fun z => q6 (w61.mpr z))]
    refine two.l (c_says0 q6) ?_
    rw [if_pos rfl]
    exact plain
