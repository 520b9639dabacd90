/-! the lines that come once -/
theorem say_uni : ∀ j, j < 11 → ∀ j', j' < 11 → zLen.getD j 0 = zLen.getD j' 0 → (∀ i, i < zLen.getD j 0 → zCh j i = zCh j' i) → j = j' := by decide +kernel
theorem say.uni {t : Nat → Int32} {s k j j' : Nat} (h : say t s k j) (h' : say t s k j') (hj : j < 11) (hj' : j' < 11) : j = j' :=
  say_uni j hj j' hj' (h.1.symm.trans h'.1) (fun i hi => (h.2 i (by rw [h.1]; exact hi)).symm.trans (h'.2 i (by rw [h.1]; exact hi)))
theorem d_once {Q P : Nat} {A A' B B' : zMt} {U H G i : Nat} {v : Int32} (hC : dC Q P A B U H G) (hR : dR Q P A B U H G) (hi : 3 ≤ i ∧ i ≤ 5)
    (a : gA Q (fun r j => (r = Q + 1 ∧ j = i) ∨ (r = Q ∧ 11 ≤ j ∧ j ≤ 13)) A A') (a1 : A' (Q + 1) i = v) (b : gB P (fun r j => (r = P + 2 ∧ j = 64 + i) ∨ (r = P ∧ j = 23)) B B') (b1 : B' (P + 2) (64 + i) = v) : dC Q P A' B' U H G ∧ dR Q P A' B' U H G := by
  have a : ∀ r j, ¬ (r = Q ∧ (j = 5 ∨ j = 6 ∨ j = 7 ∨ j = 9)) → ¬ r = Q + 13 → ¬ ((r = Q + 1 ∧ j = i) ∨ (r = Q ∧ 11 ≤ j ∧ j ≤ 13)) → A' r j = A r j := a
  have b : ∀ r j, ¬ (r = P ∧ ((16 ≤ j ∧ j ≤ 20) ∨ j = 31)) → ¬ ((r = P + 2 ∧ j = 64 + i) ∨ (r = P ∧ j = 23)) → B' r j = B r j := b
  obtain ⟨c1, c2, c3, c4, c5, c6, c7, c8, c9⟩ := hC
  obtain ⟨r1, r2, r3, r4, r5, r6, r7, r8, r9, ⟨s1, s2, s3⟩, ⟨u1, u2, u3, u4, u5⟩⟩ := hR
  have aR : ∀ x j, (2 ≤ x ∧ x ≤ 8) → A' (Q + x) j = A (Q + x) j := fun x j hx => a (Q + x) j (by omega) (by omega) (by omega)
  have a0 : ∀ j, j ≠ i → A' (Q + 1) j = A (Q + 1) j := fun j hj => a (Q + 1) j (by omega) (by omega) (by omega)
  have bR : ∀ j, j ≠ 64 + i → B' (P + 2) j = B (P + 2) j := fun j hj => b (P + 2) j (by omega) (by omega)
  have bQ : ∀ j, (28 ≤ j ∧ j ≤ 30) → B' P j = B P j := fun j hj => b P j (by omega) (by omega)
  have b6 : ∀ j, B' (P + 6) j = B (P + 6) j := fun j => b (P + 6) j (by omega) (by omega)
  have wk : ∀ h base, wsh A B Q P h base → base < 60 → wsh A' B' Q P h base := fun h base w hb => w.k (aR 6 h (by omega)) (fun k hk => aR 7 _ (by omega)) (fun k hk => bR _ (by omega))
  refine ⟨⟨c1, c2, c3, ?_, ?_, ?_, ?_, ?_, ?_⟩, ⟨fun u hu => ?_, fun h hh => ?_, fun h hh => ?_, fun h hh => ?_, fun h hh he => ?_, fun h g hh hg he => ?_, fun g k h1 h2 h3 => ?_, fun h h1 h2 => ?_, fun g hg => ?_, ⟨?_, ?_, ?_⟩, ⟨?_, ?_, fun h hh => ⟨?_, ?_⟩, fun u hu1 hu2 => ?_, fun h hh1 hh2 => ?_⟩⟩⟩
  · rw [a0 0 (by omega)]; exact c4
  · rw [bQ 28 (by omega)]; exact c5
  · rw [a0 1 (by omega)]; exact c6
  · rw [bQ 29 (by omega)]; exact c7
  · rw [a0 2 (by omega)]; exact c8
  · rw [bQ 30 (by omega)]; exact c9
  · rw [aR 2 u (by omega), bR (62 + u) (by omega)]; exact r1 u hu
  · rw [aR 3 h (by omega), bR h (by omega)]; exact r2 h hh
  · rw [aR 4 h (by omega), b6 h]; exact r3 h hh
  · rw [aR 5 h (by omega), bR (10 + h) (by omega)]; exact r4 h hh
  · rw [aR 5 h (by omega)] at he
    exact wk h _ (r5 h hh he) (by omega)
  · rw [aR 5 h (by omega)] at he
    exact wk h _ (r6 h g hh hg he) (by omega)
  · rw [bR _ (by omega)]; exact r7 g k h1 h2 h3
  · rw [aR 6 h (by omega)]; exact r8 h h1 h2
  · obtain ⟨h, h1, h2⟩ := r9 g hg
    exact ⟨h, h1, by rw [aR 5 h (by omega)]; exact h2⟩
  · by_cases q : i = 3
    · subst q; rw [a1]; exact b1.symm
    · rw [a0 3 (by omega), bR 67 (by omega)]; exact s1
  · by_cases q : i = 4
    · subst q; rw [a1]; exact b1.symm
    · rw [a0 4 (by omega), bR 68 (by omega)]; exact s2
  · by_cases q : i = 5
    · subst q; rw [a1]; exact b1.symm
    · rw [a0 5 (by omega), bR 69 (by omega)]; exact s3
  · rw [a0 6 (by omega)]; exact u1
  · rw [bR 71 (by omega)]; exact u2
  · rw [aR 8 h (by omega)]; exact (u3 h hh).1
  · rw [bR (72 + h) (by omega)]; exact (u3 h hh).2
  · rw [aR 2 u (by omega)]; exact u4 u (by omega) hu2
  · rw [aR 4 h (by omega)]; exact u5 h (by omega) hh2
/-- the end of a line that comes once -/
theorem l_onceEnd {Q P n : Nat} {t : Nat → Int32} {A A3 B B3 : zMt} {NA NA3 NB NB3 : zNt} {U H G i : Nat} {v : Int32} (hC : dC Q P A B U H G) (hM : dN Q P t NA NB U H G) (hR : dR Q P A B U H G) (hO : dO Q P A B) (hF : dF Q P A B) (hi : 3 ≤ i ∧ i ≤ 5)
    (kA3 : gA Q (fun r j => (r = Q + 1 ∧ j = i) ∨ (r = Q ∧ j = 8 + i)) A A3) (h11 : A3 Q (8 + i) = 1) (kNA3 : kNA Q NA NA3) (kB3 : gB P (fun r j => (r = P + 2 ∧ j = 64 + i) ∨ (r = P ∧ j = 23)) B B3) (h23 : B3 P 23 = (B P 23 ||| ((1 : Int32) <<< (nI (2 + i) &&& 31)))) (kNB3 : kNB P NB NB3) (x3 : tx Q n t A3) (y3 : ty P n t B3) (k3 : tk Q P n t A3 NA3 B3 NB3)
    (a1 : A3 Q 6 = 3 → A3 (Q + 1) i = v) (b1 : B3 (P + 2) (64 + i) = v) : two (zB (D_X3_endOfLine Q A3 NA3) fun e => some (e.1, e.2.1, e.2.2)) (D_X8_readLine_114 P (1 : Int32) B3 NB3) (LR Q P n t) := by
  have kA3 : ∀ r j, ¬ (r = Q ∧ (j = 5 ∨ j = 6 ∨ j = 7 ∨ j = 9)) → ¬ r = Q + 13 → ¬ ((r = Q + 1 ∧ j = i) ∨ (r = Q ∧ j = 8 + i)) → A3 r j = A r j := kA3
  have kB3 : ∀ r j, ¬ (r = P ∧ ((16 ≤ j ∧ j ≤ 20) ∨ j = 31)) → ¬ ((r = P + 2 ∧ j = 64 + i) ∨ (r = P ∧ j = 23)) → B3 r j = B r j := kB3
  refine two.bindl (t_end (x1 := 1) x3 y3 k3 (by decide)) (fun a4 b4 h4 => ?_)
  rcases h4 with h4 | ⟨j4, s4, i4, ka4, kna4, kb4, knb4, x4, y4, k4, p4, q4, o4, w4, v4⟩
  · exact two.mk (Or.inl h4)
  refine two.mk (Or.inr ⟨j4, i4, x4, y4, k4, Or.inr (Or.inr ?_)⟩)
  obtain ⟨d1, d3⟩ := d_once (A' := a4.2.1) (B' := b4.2.1) (v := v) hC hR hi
    (fun r j h1 h2 h3 => (ka4 r j h1 h2).trans (kA3 r j h1 h2 (fun z => h3 (by omega)))) ((ka4 (Q + 1) i (by omega) (by omega)).trans (a1 s4))
    (fun r j h1 h2 => (kb4 r j h1).trans (kB3 r j h1 h2)) ((kb4 (P + 2) (64 + i) (by omega)).trans b1)
  have e23 : b4.2.1 P 23 = (B P 23 ||| ((1 : Int32) <<< (nI (2 + i) &&& 31))) := (kb4 P 23 (by omega)).trans h23
  have eA : ∀ j, (11 ≤ j ∧ j ≤ 13) → j ≠ 8 + i → a4.2.1 Q j = A Q j := fun j hj hne => (ka4 Q j (by omega) (by omega)).trans (kA3 Q j (by omega) (by omega) (by omega))
  have eI : a4.2.1 Q (8 + i) = 1 := (ka4 Q (8 + i) (by omega) (by omega)).trans h11
  have eF : ∀ j, j ≤ 2 → a4.2.1 Q j = A Q j := fun j hj => (ka4 Q j (by omega) (by omega)).trans (kA3 Q j (by omega) (by omega) (by omega))
  have eG : ∀ j, (j = 21 ∨ j = 22) → b4.2.1 P j = B P j := fun j hj => (kb4 P j (by omega)).trans (kB3 P j (by omega) (by omega))
  have bit : ∀ j, (5 ≤ j ∧ j ≤ 7) → (a4.2.1 Q (6 + j) = 0 ↔ ¬ bitAt (b4.2.1 P 23) j) := fun j hj => by
    rw [e23, bitK_or (by omega) (by omega)]
    by_cases q : j = 2 + i
    · subst q
      rw [show 6 + (2 + i) = 8 + i by omega, eI]
      exact ⟨fun z => absurd z (by decide), fun z => absurd (Or.inr rfl) z⟩
    · rw [eA (6 + j) (by omega) (by omega)]
      have hj3 : j = 5 ∨ j = 6 ∨ j = 7 := by omega
      have old : A Q (6 + j) = 0 ↔ ¬ bitAt (B P 23) j := by
        rcases hj3 with rfl | rfl | rfl
        · exact hO.1
        · exact hO.2.1
        · exact hO.2.2.1
      rw [old]
      exact ⟨fun z y => y.elim z (fun w => q w.symm), fun z y => z (Or.inl y)⟩
  refine ⟨⟨U, H, G, d1, hM.k (kNA3.tr kna4) (kNB3.tr knb4), d3⟩, ⟨bit 5 (by omega), bit 6 (by omega), bit 7 (by omega), fun z => ?_⟩, (eF 1 (by omega)).trans hF.1, (eG 21 (by omega)).trans hF.2.1, (eF 2 (by omega)).trans hF.2.2.1, (eG 22 (by omega)).trans hF.2.2.2⟩
  by_cases q : i = 3
  · subst q
    exact absurd (eI.symm.trans z) (by decide)
  · rw [ka4 (Q + 1) 3 (by omega) (by omega), kA3 (Q + 1) 3 (by omega) (by omega) (by omega)]
    exact hO.2.2.2 ((eA 11 (by omega) (by omega)).symm.trans z)
theorem has0 {b : Int32} {k : Nat} (h : ¬ bitAt b k) : D_X8_has b (nI k) = some 0 := by
  obtain ⟨e, he, q⟩ := v_X8_has (v0 := b) (v1 := nI k)
  rcases q.2 with ⟨_, w⟩ | ⟨w, _⟩
  · exact absurd w h
  · rw [he, w]
theorem has1 {b : Int32} {k : Nat} (h : bitAt b k) : D_X8_has b (nI k) = some 1 := by
  obtain ⟨e, he, q⟩ := v_X8_has (v0 := b) (v1 := nI k)
  rcases q.2 with ⟨w, _⟩ | ⟨_, w⟩
  · rw [he, w]
  · exact absurd h w
theorem l_prefer {Q P n : Nat} {t : Nat → Int32} {A B : zMt} {NA NB : zNt} (hX : tx Q n t A) (hY : ty P n t B) (hN : nx Q P n A B) {U H G : Nat} (hC : dC Q P A B U H G) (hM : dN Q P t NA NB U H G) (hR : dR Q P A B U H G) (hO : dO Q P A B) (hF : dF Q P A B) (h1 : A Q 12 = 0) : two (D_X3_readPrefer Q A NA) (zB (D_X8_readOnce P (nI 6) B NB) fun e => D_X8_readLine_114 P e.1 e.2.1 e.2.2) (LR Q P n t) := by
  have hb : ¬ bitAt (B P 23) 6 := hO.2.1.mp h1
  unfold D_X3_readPrefer D_X8_readOnce
  rw [zB_zB]
  refine two.r (has0 hb) ?_
  rw [if_pos rfl, zB_zLt]
  refine two.letr ?_
  rw [zB_zB]
  have kB1 : ∀ r j, ¬ (r = P ∧ j = 23) → zu B P 23 (B P 23 ||| ((1 : Int32) <<< (nI 6 &&& 31))) r j = B r j := fun r j h => zu_ne h
  obtain ⟨xx, hx1, hx2, hx3⟩ := hN
  refine two.bind (t_step (NA := NA) (NB := NB) hX (hY.mono (fun r j h => kB1 r j (by omega))) ⟨xx, hx1, hx2, (kB1 P 17 (by omega)).trans hx3⟩) (fun a1 b1 h1 => ?_)
  obtain ⟨i1, ka1, kna1, kb1, knb1, x1, y1, k1, p1, q1, o1, w1, v1⟩ := h1
  rw [if_neg (show ¬ nI 6 = (5 : Int32) by decide), zB_zB]
  refine two.bind (t_number x1 y1 k1 (by decide)) (fun a3 b3 h3 => ?_)
  rcases h3 with h3 | ⟨j3, B', kb', e31, g0, g1, e9, i3, ka3, kna3, kb3, knb3, x3, y3, k3, p3, q3, o3, w3, v3⟩
  · rw [if_pos h3.1, if_pos h3.2.1]
    exact t_dn (a := a3) (b := b3) h3
  rw [if_neg (by rw [j3]; decide), if_neg (by rw [i3]; decide)]
  refine two.letl (two.letl ?_)
  have kb3' : kB P b1.2.1 b3.2.1 := kb'.tr kb3
  have kF : ∀ r j, ¬ ((r = Q + 1 ∧ j = 4) ∨ (r = Q ∧ j = 12)) → zu (zu a3.2.1 Q 12 (1 : Int32)) (Q + 1) 4 (zu a3.2.1 Q 12 (1 : Int32) Q 9) r j = a3.2.1 r j := fun r j h => (zu_ne (by omega)).trans (zu_ne (by omega))
  have kG : ∀ r j, ¬ (r = P + 2 ∧ j = 68) → zu b3.2.1 (P + 2) 68 (b3.2.1 P 31) r j = b3.2.1 r j := fun r j h => zu_ne h
  have m111 : (if nI 6 = (6 : Int32) then D_X8_readOnce_111 P (68 : Int32) b3.2.1 b3.2.2 else D_X8_readOnce_111 P (69 : Int32) b3.2.1 b3.2.2) = some ((1 : Int32), zu b3.2.1 (P + 2) 68 (b3.2.1 P 31), b3.2.2) := by
    rw [if_pos (show nI 6 = (6 : Int32) by decide)]
    unfold D_X8_readOnce_111 zI
    rw [if_neg (by decide)]
    rfl
  refine two.r m111 ?_
  refine l_onceEnd (i := 4) (v := a1.1 Q 9) hC hM hR hO hF (by omega) (fun r j h1 h2 h3 => (kF r j h3).trans ((ka3 r j h1 h2).trans (ka1 r j h1 h2))) ((zu_ne (by omega)).trans zu_eq) (kna1.tr kna3) (fun r j h1 h2 => (kG r j (fun z => h2 (Or.inl z))).trans ((kb3' r j h1).trans ((kb1 r j h1).trans (kB1 r j (fun z => h2 (Or.inr z)))))) ((kG P 23 (by omega)).trans ((kb3' P 23 (by omega)).trans ((kb1 P 23 (by omega)).trans zu_eq))) (knb1.tr knb3) (x3.mono (fun r j h => kF r j (by omega))) (y3.mono (fun r j h => kG r j (by omega))) (k3.mono (fun j h => kF Q j (by omega)) rfl (fun j h => kG P j (by omega)) rfl) (fun s6 => ?_) (zu_eq.trans (o3.trans (e31.trans e9.symm)))
  have s6' : a3.2.1 Q 6 = 3 := (kF Q 6 (by omega)).symm.trans s6
  rw [zu_eq, zu_ne (by omega)]
  rcases v3 with v3 | v3 | v3
  · exact v3
  · exact absurd (s6'.symm.trans v3) (by decide)
  · exact absurd (s6'.symm.trans v3) (by decide)
theorem l_guests {Q P n : Nat} {t : Nat → Int32} {A B : zMt} {NA NB : zNt} (hX : tx Q n t A) (hY : ty P n t B) (hN : nx Q P n A B) {U H G : Nat} (hC : dC Q P A B U H G) (hM : dN Q P t NA NB U H G) (hR : dR Q P A B U H G) (hO : dO Q P A B) (hF : dF Q P A B) (h1 : A Q 13 = 0) : two (D_X3_readGuests Q A NA) (zB (D_X8_readOnce P (nI 7) B NB) fun e => D_X8_readLine_114 P e.1 e.2.1 e.2.2) (LR Q P n t) := by
  have hb : ¬ bitAt (B P 23) 7 := hO.2.2.1.mp h1
  unfold D_X3_readGuests D_X8_readOnce
  rw [zB_zB]
  refine two.r (has0 hb) ?_
  rw [if_pos rfl, zB_zLt]
  refine two.letr ?_
  rw [zB_zB]
  have kB1 : ∀ r j, ¬ (r = P ∧ j = 23) → zu B P 23 (B P 23 ||| ((1 : Int32) <<< (nI 7 &&& 31))) r j = B r j := fun r j h => zu_ne h
  obtain ⟨xx, hx1, hx2, hx3⟩ := hN
  refine two.bind (t_step (NA := NA) (NB := NB) hX (hY.mono (fun r j h => kB1 r j (by omega))) ⟨xx, hx1, hx2, (kB1 P 17 (by omega)).trans hx3⟩) (fun a1 b1 h1 => ?_)
  obtain ⟨i1, ka1, kna1, kb1, knb1, x1, y1, k1, p1, q1, o1, w1, v1⟩ := h1
  rw [if_neg (show ¬ nI 7 = (5 : Int32) by decide), zB_zB]
  refine two.bind (t_number x1 y1 k1 (by decide)) (fun a3 b3 h3 => ?_)
  rcases h3 with h3 | ⟨j3, B', kb', e31, g0, g1, e9, i3, ka3, kna3, kb3, knb3, x3, y3, k3, p3, q3, o3, w3, v3⟩
  · rw [if_pos h3.1, if_pos h3.2.1]
    exact t_dn (a := a3) (b := b3) h3
  rw [if_neg (by rw [j3]; decide), if_neg (by rw [i3]; decide)]
  refine two.letl (two.letl ?_)
  have kb3' : kB P b1.2.1 b3.2.1 := kb'.tr kb3
  have kF : ∀ r j, ¬ ((r = Q + 1 ∧ j = 5) ∨ (r = Q ∧ j = 13)) → zu (zu a3.2.1 Q 13 (1 : Int32)) (Q + 1) 5 (zu a3.2.1 Q 13 (1 : Int32) Q 9) r j = a3.2.1 r j := fun r j h => (zu_ne (by omega)).trans (zu_ne (by omega))
  have kG : ∀ r j, ¬ (r = P + 2 ∧ j = 69) → zu b3.2.1 (P + 2) 69 (b3.2.1 P 31) r j = b3.2.1 r j := fun r j h => zu_ne h
  have m111 : (if nI 7 = (6 : Int32) then D_X8_readOnce_111 P (68 : Int32) b3.2.1 b3.2.2 else D_X8_readOnce_111 P (69 : Int32) b3.2.1 b3.2.2) = some ((1 : Int32), zu b3.2.1 (P + 2) 69 (b3.2.1 P 31), b3.2.2) := by
    rw [if_neg (show ¬ nI 7 = (6 : Int32) by decide)]
    unfold D_X8_readOnce_111 zI
    rw [if_neg (by decide)]
    rfl
  refine two.r m111 ?_
  refine l_onceEnd (i := 5) (v := a1.1 Q 9) hC hM hR hO hF (by omega) (fun r j h1 h2 h3 => (kF r j h3).trans ((ka3 r j h1 h2).trans (ka1 r j h1 h2))) ((zu_ne (by omega)).trans zu_eq) (kna1.tr kna3) (fun r j h1 h2 => (kG r j (fun z => h2 (Or.inl z))).trans ((kb3' r j h1).trans ((kb1 r j h1).trans (kB1 r j (fun z => h2 (Or.inr z)))))) ((kG P 23 (by omega)).trans ((kb3' P 23 (by omega)).trans ((kb1 P 23 (by omega)).trans zu_eq))) (knb1.tr knb3) (x3.mono (fun r j h => kF r j (by omega))) (y3.mono (fun r j h => kG r j (by omega))) (k3.mono (fun j h => kF Q j (by omega)) rfl (fun j h => kG P j (by omega)) rfl) (fun s6 => ?_) (zu_eq.trans (o3.trans (e31.trans e9.symm)))
  have s6' : a3.2.1 Q 6 = 3 := (kF Q 6 (by omega)).symm.trans s6
  rw [zu_eq, zu_ne (by omega)]
  rcases v3 with v3 | v3 | v3
  · exact v3
  · exact absurd (s6'.symm.trans v3) (by decide)
  · exact absurd (s6'.symm.trans v3) (by decide)
theorem l_law59 {Q P n : Nat} {t : Nat → Int32} {A A3 B B3 : zMt} {NA NA3 NB NB3 : zNt} {U H G : Nat} {v : Int32} (hC : dC Q P A B U H G) (hM : dN Q P t NA NB U H G) (hR : dR Q P A B U H G) (hO : dO Q P A B) (hF : dF Q P A B)
    (kA3 : gA Q (fun r j => r = Q + 1 ∧ j = 3) A A3) (kNA3 : kNA Q NA NA3) (kB3 : gB P (fun r j => r = P ∧ j = 23) B B3) (h23 : B3 P 23 = (B P 23 ||| ((1 : Int32) <<< (nI 5 &&& 31)))) (kNB3 : kNB P NB NB3) (x3 : tx Q n t A3) (y3 : ty P n t B3) (hN : nx Q P n A3 B3) (a1 : A3 (Q + 1) 3 = v) (hv : ¬ v = -1) : two (D_X3_readLaw_59 Q A3 NA3) (zB (D_X8_readOnce_57 P v B3 NB3) fun e => D_X8_readLine_114 P e.1 e.2.1 e.2.2) (LR Q P n t) := by
  have kA3 : ∀ r j, ¬ (r = Q ∧ (j = 5 ∨ j = 6 ∨ j = 7 ∨ j = 9)) → ¬ r = Q + 13 → ¬ (r = Q + 1 ∧ j = 3) → A3 r j = A r j := kA3
  have kB3 : ∀ r j, ¬ (r = P ∧ ((16 ≤ j ∧ j ≤ 20) ∨ j = 31)) → ¬ (r = P ∧ j = 23) → B3 r j = B r j := kB3
  unfold D_X3_readLaw_59 D_X8_readOnce_57
  rw [if_neg hv, zB_zI]
  refine two.letl (two.ir (by unfold vp_in; decide) ?_)
  rw [zB_zLt]
  refine two.letr ?_
  rw [zB_zB, show (67 : Int32).toNatClampNeg = 67 by decide]
  have kF : ∀ r j, ¬ (r = Q ∧ j = 11) → zu A3 Q 11 (1 : Int32) r j = A3 r j := fun r j h => zu_ne h
  have kG : ∀ r j, ¬ (r = P + 2 ∧ j = 67) → zu B3 (P + 2) 67 v r j = B3 r j := fun r j h => zu_ne h
  obtain ⟨xx, hx1, hx2, hx3⟩ := hN
  refine two.bind (t_step (NA := NA3) (NB := NB3) (x3.mono (fun r j h => kF r j (by omega))) (y3.mono (fun r j h => kG r j (by omega))) ⟨xx, hx1, (kF Q 5 (by omega)).trans hx2, (kG P 17 (by omega)).trans hx3⟩) (fun a5 b5 h5 => ?_)
  obtain ⟨i5, ka5, kna5, kb5, knb5, x5, y5, k5, p5, q5, o5, w5, v5⟩ := h5
  rw [show (b5.1, b5.2.1, b5.2.2) = ((1 : Int32), b5.2.1, b5.2.2) by rw [i5]]
  exact l_onceEnd (i := 3) (v := v) hC hM hR hO hF (by omega) (fun r j h1 h2 h3 => (ka5 r j h1 h2).trans ((kF r j (fun z => h3 (Or.inr z))).trans (kA3 r j h1 h2 (fun z => h3 (Or.inl z))))) ((ka5 Q 11 (by omega) (by omega)).trans zu_eq) (kNA3.tr kna5) (fun r j h1 h2 => (kb5 r j h1).trans ((kG r j (fun z => h2 (Or.inl z))).trans (kB3 r j h1 (fun z => h2 (Or.inr z))))) ((kb5 P 23 (by omega)).trans ((kG P 23 (by omega)).trans h23)) (kNB3.tr knb5) x5 y5 k5 (fun _ => (ka5 (Q + 1) 3 (by omega) (by omega)).trans ((kF (Q + 1) 3 (by omega)).trans a1)) ((kb5 (P + 2) 67 (by omega)).trans zu_eq)
theorem l_law {Q P n : Nat} {t : Nat → Int32} {A B : zMt} {NA NB : zNt} (hX : tx Q n t A) (hY : ty P n t B) (hN : nx Q P n A B) {U H G : Nat} (hC : dC Q P A B U H G) (hM : dN Q P t NA NB U H G) (hR : dR Q P A B U H G) (hO : dO Q P A B) (hF : dF Q P A B) (h1 : A Q 11 = 0) : two (D_X3_readLaw Q A NA) (zB (D_X8_readOnce P (nI 5) B NB) fun e => D_X8_readLine_114 P e.1 e.2.1 e.2.2) (LR Q P n t) := by
  have hb : ¬ bitAt (B P 23) 5 := hO.1.mp h1
  have hl0 := hO.2.2.2 h1
  unfold D_X3_readLaw D_X8_readOnce
  rw [zB_zB]
  refine two.r (has0 hb) ?_
  rw [if_pos rfl, zB_zLt]
  refine two.letr ?_
  rw [zB_zB]
  have kB1 : ∀ r j, ¬ (r = P ∧ j = 23) → zu B P 23 (B P 23 ||| ((1 : Int32) <<< (nI 5 &&& 31))) r j = B r j := fun r j h => zu_ne h
  obtain ⟨xx, hx1, hx2, hx3⟩ := hN
  refine two.bind (t_step (NA := NA) (NB := NB) hX (hY.mono (fun r j h => kB1 r j (by omega))) ⟨xx, hx1, hx2, (kB1 P 17 (by omega)).trans hx3⟩) (fun a1 b1 h1 => ?_)
  obtain ⟨i1, ka1, kna1, kb1, knb1, x1, y1, k1, p1, q1, o1, w1, v1⟩ := h1
  rw [if_pos (show nI 5 = (5 : Int32) by decide)]
  have gB1 : gB P (fun r j => r = P ∧ j = 23) B b1.2.1 := fun r j h1 h2 => (kb1 r j h1).trans (kB1 r j h2)
  have e23 : b1.2.1 P 23 = (B P 23 ||| ((1 : Int32) <<< (nI 5 &&& 31))) := (kb1 P 23 (by omega)).trans zu_eq
  have bad : two (zB (D_X3_fail Q (2 : Int32) a1.1) fun e => some (e.1, e.2, a1.2)) (zB (D_X8_readOnce_57 P (-1 : Int32) b1.2.1 b1.2.2) fun e => D_X8_readLine_114 P e.1 e.2.1 e.2.2) (LR Q P n t) := by
    unfold D_X8_readOnce_57
    rw [if_pos rfl]
    obtain ⟨a, f1, b, f2, f3⟩ := t_fail (NA := a1.2) (NB := b1.2.2) (v := 2) k1
    rw [f1, f2]
    exact t_dn2 (a := a) (b := b) f3
  obtain ⟨w61, w62⟩ := k1.wrd
  by_cases q6 : a1.1 Q 6 = 1
  · obtain ⟨s, k, h7, hW⟩ := w62 q6
    obtain ⟨u1, u2, u3, u4, u5, u6, u7, u8, u9, u10, u11⟩ := id hW
    obtain ⟨r, hr, hm⟩ := m_among (P := P) (w := 12) (N := b1.2.2) (Or.inr rfl) u8 u10
    rw [if_pos u2, zB_zB]
    refine two.r hr ?_
    obtain ⟨r8, e8, g8⟩ := c_says (j := 8) x1 u1 h7 u3 u7 (by decide)
    obtain ⟨r9, e9, g9⟩ := c_says (j := 9) x1 u1 h7 u3 u7 (by decide)
    obtain ⟨r10, e10, g10⟩ := c_says (j := 10) x1 u1 h7 u3 u7 (by decide)
    have is : ∀ (j m : Nat), j < 11 → m < 3 → (wls 12).getD m 0 = j → say t s k j → r = nI m := fun j m hj hm3 hw hs => by
      rcases hm with ⟨m', m1, m2, m3⟩ | ⟨m1, m2⟩
      · have hm' : m' < 3 := m1
        have : (wls 12).getD m' 0 = j := say.uni m3 hs ((show ∀ m, m < 3 → (wls 12).getD m 0 < 11 by decide) m' hm') hj
        have : m' = m := (show ∀ a, a < 3 → ∀ b, b < 3 → (wls 12).getD a 0 = (wls 12).getD b 0 → a = b by decide) m' hm' m hm3 (this.trans hw.symm)
        rw [m2, this]
      · exact absurd hs (by rw [← hw]; exact m2 m hm3)
    have kk : ∀ (v : Int32) (r' j : Nat), ¬ (r' = Q + 1 ∧ j = 3) → zu a1.1 (Q + 1) 3 v r' j = a1.1 r' j := fun v r' j h => zu_ne h
    obtain ⟨yy, hy1, hy2, hy3⟩ := hW.nx
    have set : ∀ v : Int32, ¬ v = -1 → two (D_X3_readLaw_59 Q (zu a1.1 (Q + 1) 3 v) a1.2) (zB (D_X8_readOnce_57 P v b1.2.1 b1.2.2) fun e => D_X8_readLine_114 P e.1 e.2.1 e.2.2) (LR Q P n t) := fun v hv =>
      l_law59 hC hM hR hO hF (fun r' j h1 h2 h3 => (kk v r' j h3).trans (ka1 r' j h1 h2)) kna1 gB1 e23 knb1 (x1.mono (fun r' j h => kk v r' j (by omega))) y1 ⟨yy, hy1, (kk v Q 5 (by omega)).trans hy2, hy3⟩ zu_eq hv
    refine two.l e8 ?_
    by_cases q8 : r8 = 0
    · have n8 : ¬ say t s k 8 := by
        rcases g8 with ⟨z, _⟩ | ⟨_, z⟩
        · exact absurd (z.symm.trans q8) (by decide)
        · exact z
      rw [if_pos q8]
      refine two.l e9 ?_
      by_cases q9 : r9 = 0
      · have n9 : ¬ say t s k 9 := by
          rcases g9 with ⟨z, _⟩ | ⟨_, z⟩
          · exact absurd (z.symm.trans q9) (by decide)
          · exact z
        rw [if_pos q9]
        refine two.l e10 ?_
        by_cases q10 : r10 = 0
        · have n10 : ¬ say t s k 10 := by
            rcases g10 with ⟨z, _⟩ | ⟨_, z⟩
            · exact absurd (z.symm.trans q10) (by decide)
            · exact z
          rw [if_pos q10]
          have hr1 : r = -1 := by
            rcases hm with ⟨m, m1, m2, m3⟩ | ⟨m1, m2⟩
            · have hm3 : m = 0 ∨ m = 1 ∨ m = 2 := by have : m < 3 := m1; omega
              rcases hm3 with rfl | rfl | rfl
              · exact absurd m3 n10
              · exact absurd m3 n8
              · exact absurd m3 n9
            · exact m1
          rw [hr1]
          exact bad
        · have y10 : say t s k 10 := by
            rcases g10 with ⟨_, z⟩ | ⟨z, _⟩
            · exact z
            · exact absurd z q10
          rw [if_neg q10, is 10 0 (by decide) (by decide) (by decide) y10]
          exact l_law59 hC hM hR hO hF (fun r' j h1 h2 h3 => ka1 r' j h1 h2) kna1 gB1 e23 knb1 x1 y1 ⟨yy, hy1, hy2, hy3⟩ ((ka1 (Q + 1) 3 (by omega) (by omega)).trans (hl0.trans (by decide))) (by decide)
      · have y9 : say t s k 9 := by
          rcases g9 with ⟨_, z⟩ | ⟨z, _⟩
          · exact z
          · exact absurd z q9
        rw [if_neg q9, is 9 2 (by decide) (by decide) (by decide) y9]
        exact two.letl (set (2 : Int32) (by decide))
    · have y8 : say t s k 8 := by
        rcases g8 with ⟨_, z⟩ | ⟨z, _⟩
        · exact z
        · exact absurd z q8
      rw [if_neg q8, is 8 1 (by decide) (by decide) (by decide) y8]
      exact two.letl (set (1 : Int32) (by decide))
  · rw [if_neg (fun z => q6 (w61.mpr z))]
    refine two.l (c_says0 q6) ?_
    rw [if_pos rfl]
    refine two.l (c_says0 q6) ?_
    rw [if_pos rfl]
    refine two.l (c_says0 q6) ?_
    rw [if_pos rfl]
    exact bad
