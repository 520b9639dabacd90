/-! LINES -/
theorem zB_zB {α β γ : Type} {o : Option α} {f : α → Option β} {g : β → Option γ} : zB (zB o f) g = zB o (fun e => zB (f e) g) := by cases o <;> rfl
theorem zB_if {α β : Type} {c : Prop} [Decidable c] {X Y : Option α} {g : α → Option β} : zB (if c then X else Y) g = if c then zB X g else zB Y g := by
  by_cases h : c
  · rw [if_pos h, if_pos h]
  · rw [if_neg h, if_neg h]
theorem zB_zI {α β : Type} {i : Int32} {n : Nat} {o : Option α} {g : α → Option β} : zB (zI i n o) g = zI i n (zB o g) := by
  unfold zI
  by_cases h : i < 0 ∨ n ≤ i.toNatClampNeg
  · rw [if_pos h, if_pos h]
    rfl
  · rw [if_neg h, if_neg h]
theorem zB_zLt {α β γ : Type} {a : α} {f : α → Option β} {g : β → Option γ} : zB (zLt a f) g = zLt a (fun x => zB (f x) g) := rfl
theorem two.letr {α β γ : Type} {X : Option α} {a : γ} {f : γ → Option β} {R : α → β → Prop} (h : two X (f a) R) : two X (zLt a f) R := h
theorem two.letl {α β γ : Type} {Y : Option β} {a : γ} {f : γ → Option α} {R : α → β → Prop} (h : two (f a) Y R) : two (zLt a f) Y R := h
theorem two.bindl {α β γ : Type} {X : Option α} {Y : Option β} {f : α → Option γ} {R : α → β → Prop} {R' : γ → β → Prop} (h : two X Y R) (k : ∀ a b, R a b → two (f a) (some b) R') : two (zB X f) Y R' := by
  obtain ⟨a, h1, b, h2, h3⟩ := h
  rw [h1, h2]
  exact k a b h3
def LR (Q P n : Nat) (t : Nat → Int32) (a b : Int32 × zMt × zNt) : Prop := FL Q P a b ∨ (a.1 = 1 ∧ b.1 = 1 ∧ RLn Q P n t a.2.1 a.2.2 b.2.1 b.2.2)
theorem t_dn {Q P n : Nat} {t : Nat → Int32} {a b : Int32 × zMt × zNt} (h : FL Q P a b) : two (some ((0 : Int32), a.2.1, a.2.2)) (D_X8_readLine_114 P (0 : Int32) b.2.1 b.2.2) (LR Q P n t) := by
  unfold D_X8_readLine_114
  rw [if_pos rfl]
  exact two.mk (Or.inl ⟨rfl, rfl, h.2.2⟩)
theorem t_dn2 {Q P n : Nat} {t : Nat → Int32} {a b : Int32 × zMt × zNt} (h : FL Q P a b) : two (some a) (D_X8_readLine_114 P b.1 b.2.1 b.2.2) (LR Q P n t) := by
  unfold D_X8_readLine_114
  rw [if_pos h.2.1]
  exact two.mk (Or.inl ⟨h.1, rfl, h.2.2⟩)
theorem tk.mono {Q P n : Nat} {t : Nat → Int32} {A A' B B' : zMt} {NA NA' NB NB' : zNt} (h : tk Q P n t A NA B NB) (a : ∀ j, (j = 5 ∨ j = 6 ∨ j = 7 ∨ j = 9) → A' Q j = A Q j) (na : NA' Q 8 = NA Q 8) (b : ∀ j, (16 ≤ j ∧ j ≤ 20) → B' P j = B P j) (nb : NB' P 24 = NB P 24) : tk Q P n t A' NA' B' NB' := by
  unfold tk tW tN tS
  rw [a 5 (by omega), a 6 (by omega), a 7 (by omega), a 9 (by omega), na, b 16 (by omega), b 17 (by omega), b 18 (by omega), b 19 (by omega), b 20 (by omega), nb]
  exact h
/-- from the head of a line to its end, but for what the line itself adds -/
def gA (Q : Nat) (X : Nat → Nat → Prop) (A A' : zMt) : Prop := ∀ r j, ¬ (r = Q ∧ (j = 5 ∨ j = 6 ∨ j = 7 ∨ j = 9)) → ¬ r = Q + 13 → ¬ X r j → A' r j = A r j
def gB (P : Nat) (X : Nat → Nat → Prop) (B B' : zMt) : Prop := ∀ r j, ¬ (r = P ∧ ((16 ≤ j ∧ j ≤ 20) ∨ j = 31)) → ¬ X r j → B' r j = B r j
def gN (Q i k : Nat) (X : Nat → Nat → Prop) (N N' : zNt) : Prop := ∀ r j, ¬ (r = Q ∧ (j = i ∨ j = k)) → ¬ X r j → N' r j = N r j
theorem d_unit {Q P : Nat} {t : Nat → Int32} {A A' B B' : zMt} {NA NA' NB NB' : zNt} {U H G : Nat} {v : Int32} (hC : dC Q P A B U H G) (hN : dN Q P t NA NB U H G) (hR : dR Q P A B U H G) (hU : U < 5)
    (a : gA Q (fun r j => (r = Q + 1 ∧ j = 0) ∨ (r = Q + 2 ∧ j = U)) A A') (a0 : A' (Q + 1) 0 = nI (U + 1)) (a1 : A' (Q + 2) U = v)
    (na : gN Q 8 10 (fun r j => r = Q + 10 ∧ j = U) NA NA')
    (b : gB P (fun r j => (r = P ∧ j = 28) ∨ (r = P + 2 ∧ j = 62 + U)) B B') (b0 : B' P 28 = nI (U + 1)) (b1 : B' (P + 2) (62 + U) = v)
    (nb : gN P 24 32 (fun r j => r = P + 8 ∧ j = U) NB NB') (hn : nmR t (NA' (Q + 10) U) (NB' (P + 8) U)) : dC Q P A' B' (U + 1) H G ∧ dN Q P t NA' NB' (U + 1) H G ∧ dR Q P A' B' (U + 1) H G := by
  have a : ∀ r j, ¬ (r = Q ∧ (j = 5 ∨ j = 6 ∨ j = 7 ∨ j = 9)) → ¬ r = Q + 13 → ¬ ((r = Q + 1 ∧ j = 0) ∨ (r = Q + 2 ∧ j = U)) → A' r j = A r j := a
  have b : ∀ r j, ¬ (r = P ∧ ((16 ≤ j ∧ j ≤ 20) ∨ j = 31)) → ¬ ((r = P ∧ j = 28) ∨ (r = P + 2 ∧ j = 62 + U)) → B' r j = B r j := b
  have na : ∀ r j, ¬ (r = Q ∧ (j = 8 ∨ j = 10)) → ¬ (r = Q + 10 ∧ j = U) → NA' r j = NA r j := na
  have nb : ∀ r j, ¬ (r = P ∧ (j = 24 ∨ j = 32)) → ¬ (r = P + 8 ∧ j = U) → NB' r j = NB r j := nb
  obtain ⟨c1, c2, c3, c4, c5, c6, c7, c8, c9⟩ := hC
  obtain ⟨n1, n2, n3, n4⟩ := hN
  obtain ⟨r1, r2, r3, r4, r5, r6, r7, r8, r9, ⟨s1, s2, s3⟩, ⟨u1, u2, u3, u4, u5⟩⟩ := hR
  refine ⟨⟨by omega, c2, c3, a0, b0, ?_, ?_, ?_, ?_⟩, ⟨fun i hi => ?_, fun i hi => ?_, fun i hi => ?_, fun i j hi hj => ?_⟩, ⟨fun u hu => ?_, fun h hh => ?_, fun h hh => ?_, fun h hh => ?_, fun h hh he => ?_, fun h g hh hg he => ?_, fun g k h1 h2 h3 => ?_, fun h h1 h2 => ?_, fun g hg => ?_, ⟨?_, ?_, ?_⟩, ⟨?_, ?_, fun h hh => ⟨?_, ?_⟩, fun u hu1 hu2 => ?_, fun h hh1 hh2 => ?_⟩⟩⟩
  · rw [a (Q + 1) 1 (by omega) (by omega) (by omega)]; exact c6
  · rw [b P 29 (by omega) (by omega)]; exact c7
  · rw [a (Q + 1) 2 (by omega) (by omega) (by omega)]; exact c8
  · rw [b P 30 (by omega) (by omega)]; exact c9
  · by_cases q : i = U
    · subst q; exact hn
    · rw [na (Q + 10) i (by omega) (by omega), nb (P + 8) i (by omega) (by omega)]; exact n1 i (by omega)
  · rw [na (Q + 11) i (by omega) (by omega), nb (P + 9) i (by omega) (by omega)]; exact n2 i hi
  · rw [na (Q + 12) i (by omega) (by omega), nb (P + 10) i (by omega) (by omega)]; exact n3 i hi
  · rw [na (Q + 11) i (by omega) (by omega), na (Q + 12) j (by omega) (by omega)]; exact n4 i j hi hj
  · by_cases q : u = U
    · subst q; rw [a1, b1]
    · rw [a (Q + 2) u (by omega) (by omega) (by omega), b (P + 2) (62 + u) (by omega) (by omega)]; exact r1 u hu
  · rw [a (Q + 3) h (by omega) (by omega) (by omega), b (P + 2) h (by omega) (by omega)]; exact r2 h hh
  · rw [a (Q + 4) h (by omega) (by omega) (by omega), b (P + 6) h (by omega) (by omega)]; exact r3 h hh
  · rw [a (Q + 5) h (by omega) (by omega) (by omega), b (P + 2) (10 + h) (by omega) (by omega)]; exact r4 h hh
  · rw [a (Q + 5) h (by omega) (by omega) (by omega)] at he
    exact (r5 h hh he).k (a (Q + 6) h (by omega) (by omega) (by omega)) (fun k hk => a (Q + 7) _ (by omega) (by omega) (by omega)) (fun k hk => b (P + 2) _ (by omega) (by omega))
  · rw [a (Q + 5) h (by omega) (by omega) (by omega)] at he
    exact (r6 h g hh hg he).k (a (Q + 6) h (by omega) (by omega) (by omega)) (fun k hk => a (Q + 7) _ (by omega) (by omega) (by omega)) (fun k hk => b (P + 2) _ (by omega) (by omega))
  · rw [b (P + 2) (50 + 3 * g + k) (by omega) (by omega)]; exact r7 g k h1 h2 h3
  · rw [a (Q + 6) h (by omega) (by omega) (by omega)]; exact r8 h h1 h2
  · obtain ⟨h, h1, h2⟩ := r9 g hg
    exact ⟨h, h1, by rw [a (Q + 5) h (by omega) (by omega) (by omega)]; exact h2⟩
  · rw [a (Q + 1) 3 (by omega) (by omega) (by omega), b (P + 2) 67 (by omega) (by omega)]; exact s1
  · rw [a (Q + 1) 4 (by omega) (by omega) (by omega), b (P + 2) 68 (by omega) (by omega)]; exact s2
  · rw [a (Q + 1) 5 (by omega) (by omega) (by omega), b (P + 2) 69 (by omega) (by omega)]; exact s3
  · rw [a (Q + 1) 6 (by omega) (by omega) (by omega)]; exact u1
  · rw [b (P + 2) 71 (by omega) (by omega)]; exact u2
  · rw [a (Q + 8) h (by omega) (by omega) (by omega)]; exact (u3 h hh).1
  · rw [b (P + 2) (72 + h) (by omega) (by omega)]; exact (u3 h hh).2
  · rw [a (Q + 2) u (by omega) (by omega) (by omega)]; exact u4 u (by omega) hu2
  · rw [a (Q + 4) h (by omega) (by omega) (by omega)]; exact u5 h (by omega) hh2
/-- what comes once, and no fault yet, where these stay -/
theorem dO.g {Q P : Nat} {A A' B B' : zMt} (h : dO Q P A B) (a : ∀ j, (j = 11 ∨ j = 12 ∨ j = 13) → A' Q j = A Q j) (a3 : A' (Q + 1) 3 = A (Q + 1) 3) (b : B' P 23 = B P 23) : dO Q P A' B' := by
  unfold dO
  rw [a 11 (by omega), a 12 (by omega), a 13 (by omega), a3, b]
  exact h
theorem l_unit {Q P n : Nat} {t : Nat → Int32} {A B : zMt} {NA NB : zNt} (hX : tx Q n t A) (hY : ty P n t B) (hN : nx Q P n A B) {U H G : Nat} (hC : dC Q P A B U H G) (hM : dN Q P t NA NB U H G) (hR : dR Q P A B U H G) (hO : dO Q P A B) (hF : A Q 1 = 0 ∧ B P 21 = 0 ∧ A Q 2 = -1 ∧ B P 22 = -1) (hU : U < 5) : two (D_X3_readUnit Q A NA) (zB (D_X8_readUnit P B NB) fun e => D_X8_readLine_114 P e.1 e.2.1 e.2.2) (LR Q P n t) := by
  have hc5 : B P 28 = nI U := hC.2.2.2.2.1
  unfold D_X3_readUnit D_X8_readUnit
  rw [if_neg (by rw [hc5]; exact fun z => absurd (nI_inj (b := 5) (by omega) (by omega) z) (by omega)), zB_zB]
  refine two.bind (t_step hX hY hN) (fun a1 b1 h1 => ?_)
  obtain ⟨i1, ka1, kna1, kb1, knb1, x1, y1, k1, p1, q1, o1, w1, v1⟩ := h1
  rw [if_neg (by rw [i1]; decide), zB_zB]
  have hC1 := hC.k ka1 kb1
  have hM1 := hM.k kna1 knb1
  refine two.bind (t_newName x1 y1 k1 hC1 hM1) (fun a2 b2 h2 => ?_)
  rcases h2 with h2 | ⟨j2, NA', NB', kna', knb', hnm, f1, f2, f3, i2, ka2, kna2, kb2, knb2, x2, y2, k2, p2, q2, o2, w2, v2⟩
  · rw [if_pos h2.1, if_pos h2.2.1]
    exact t_dn (a := a2) (b := b2) h2
  rw [if_neg (by rw [j2]; decide), if_neg (by rw [i2]; decide), zB_zB]
  refine two.bind (t_number x2 y2 k2 (by decide)) (fun a3 b3 h3 => ?_)
  rcases h3 with h3 | ⟨j3, B', kb', e31, g0, g1, e9, i3, ka3, kna3, kb3, knb3, x3, y3, k3, p3, q3, o3, w3, v3⟩
  · rw [if_pos h3.1, if_pos h3.2.1]
    exact t_dn (a := a3) (b := b3) h3
  rw [if_neg (by rw [j3]; decide), if_neg (by rw [i3]; decide), zB_zI]
  have kA3 : kA Q A a3.2.1 := (ka1.tr ka2).tr ka3
  have kB3 : kB P B b3.2.1 := ((kb1.tr kb2).tr kb').tr kb3
  have kNA3 : kNA Q NA a3.2.2 := ((kna1.tr kna').tr kna2).tr kna3
  have kNB3 : kNB P NB b3.2.2 := ((knb1.tr knb').tr knb2).tr knb3
  have c28 : b3.2.1 P 28 = nI U := (kB3 P 28 (by omega)).trans hc5
  have cU : a3.2.1 (Q + 1) 0 = nI U := (kA3 (Q + 1) 0 (by omega) (by omega)).trans hC.2.2.2.1
  have e62 : (62 : Int32) + nI U = nI (62 + U) := (show ∀ k, k < 5 → (62 : Int32) + nI k = nI (62 + k) by decide) U hU
  rw [c28]
  refine two.ir (vp_in_nI hU (by decide)) ?_
  rw [zB_zLt]
  refine two.letr ?_
  rw [zB_zI, e62]
  refine two.ir (vp_in_nI (by omega) (by decide)) ?_
  rw [zB_zLt]
  refine two.letr ?_
  rw [zB_zLt]
  refine two.letr ?_
  rw [nI_clamp (by omega), nI_clamp (by omega)]
  have c28' : zu b3.2.1 (P + 2) (62 + U) (b3.2.1 P 31) P 28 = nI U := (zu_ne (by omega)).trans c28
  rw [c28', nI_add1]
  show two _ (D_X8_readLine_114 P (1 : Int32) (zu (zu b3.2.1 (P + 2) (62 + U) (b3.2.1 P 31)) P 28 (nI (U + 1))) (zu b3.2.2 (P + 8) U (b3.2.2 P 32))) _
  have kM : ∀ r j, ¬ ((r = P + 2 ∧ j = 62 + U) ∨ (r = P ∧ j = 28)) → zu (zu b3.2.1 (P + 2) (62 + U) (b3.2.1 P 31)) P 28 (nI (U + 1)) r j = b3.2.1 r j := fun r j h => (zu_ne (by omega)).trans (zu_ne (by omega))
  have kMn : ∀ r j, ¬ (r = P + 8 ∧ j = U) → zu b3.2.2 (P + 8) U (b3.2.2 P 32) r j = b3.2.2 r j := fun r j h => zu_ne (by omega)
  refine two.bindl (t_end (x1 := 1) x3 (y3.mono (fun r j h => kM r j (by omega))) (k3.mono (fun _ _ => rfl) rfl (fun j h => kM P j (by omega)) (kMn P 24 (by omega))) (by decide)) (fun a4 b4 h4 => ?_)
  rcases h4 with h4 | ⟨j4, s4, i4, ka4, kna4, kb4, knb4, x4, y4, k4, p4, q4, o4, w4, v4⟩
  · rw [if_pos h4.1]
    exact two.mk (Or.inl ⟨rfl, h4.2.1, h4.2.2⟩)
  rw [if_neg (by rw [j4]; decide)]
  refine two.letl ?_
  have cU4 : a4.2.1 (Q + 1) 0 = nI U := (ka4 (Q + 1) 0 (by omega) (by omega)).trans cU
  rw [cU4, zwr_nI hU (by decide)]
  have eadd : D_X4_addUnit (Q + 1) (a4.2.1 Q 9) a4.2.1 = some (zu (zu a4.2.1 (Q + 2) U (a4.2.1 Q 9)) (Q + 1) 0 (nI (U + 1))) := by
    unfold D_X4_addUnit
    rw [cU4, zwr_nI hU (by decide)]
    show some (zu (zu a4.2.1 (Q + 1 + 1) U (a4.2.1 Q 9)) (Q + 1) 0 (zu a4.2.1 (Q + 1 + 1) U (a4.2.1 Q 9) (Q + 1) 0 + 1)) = _
    rw [show zu a4.2.1 (Q + 1 + 1) U (a4.2.1 Q 9) (Q + 1) 0 = nI U from (zu_ne (by omega)).trans cU4, nI_add1]
  refine two.l eadd (two.mk (Or.inr ⟨rfl, i4, ?_⟩))
  have kF : ∀ r j, ¬ ((r = Q + 1 ∧ j = 0) ∨ (r = Q + 2 ∧ j = U)) → zu (zu a4.2.1 (Q + 2) U (a4.2.1 Q 9)) (Q + 1) 0 (nI (U + 1)) r j = a4.2.1 r j := fun r j h => (zu_ne (by omega)).trans (zu_ne (by omega))
  have kFn : ∀ r j, ¬ (r = Q + 10 ∧ j = U) → zu a4.2.2 (Q + 10) U (a4.2.2 Q 10) r j = a4.2.2 r j := fun r j h => zu_ne (by omega)
  refine ⟨x4.mono (fun r j h => kF r j (by omega)), y4, k4.mono (fun j h => kF Q j (by omega)) (kFn Q 8 (by omega)) (fun _ _ => rfl) rfl, ?_⟩
  show zu (zu a4.2.1 (Q + 2) U (a4.2.1 Q 9)) (Q + 1) 0 (nI (U + 1)) Q 6 = 2 ∨ zu (zu a4.2.1 (Q + 2) U (a4.2.1 Q 9)) (Q + 1) 0 (nI (U + 1)) Q 6 = 4 ∨ _
  rw [kF Q 6 (by omega)]
  rcases v4 with v4 | v4 | v4
  · refine Or.inr (Or.inr ?_)
    have v3' : a3.2.1 Q 9 = a2.2.1 Q 9 := by
      rcases v3 with v3 | v3 | v3
      · exact v3
      · exact absurd (s4.symm.trans v3) (by decide)
      · exact absurd (s4.symm.trans v3) (by decide)
    have ev : a4.2.1 Q 9 = b3.2.1 P 31 := v4.trans (v3'.trans (e9.trans (e31.symm.trans o3.symm)))
    have kA4 : kA Q A a4.2.1 := kA3.tr ka4
    have kNA4 : kNA Q NA a4.2.2 := kNA3.tr kna4
    obtain ⟨d1, d2, d3⟩ := d_unit (A' := zu (zu a4.2.1 (Q + 2) U (a4.2.1 Q 9)) (Q + 1) 0 (nI (U + 1))) (NA' := zu a4.2.2 (Q + 10) U (a4.2.2 Q 10)) (B' := b4.2.1) (NB' := b4.2.2) (v := a4.2.1 Q 9) hC hM hR hU
      (fun r j h1 h2 h3 => (kF r j h3).trans (kA4 r j h1 h2)) zu_eq ((zu_ne (by omega)).trans zu_eq)
      (fun r j h1 h2 => (kFn r j h2).trans (kNA4 r j h1))
      (fun r j h1 h2 => (kb4 r j h1).trans ((kM r j (fun z => h2 (z.symm))).trans (kB3 r j h1)))
      ((kb4 P 28 (by omega)).trans zu_eq)
      ((kb4 (P + 2) (62 + U) (by omega)).trans ((zu_ne (by omega)).trans (zu_eq.trans ev.symm)))
      (fun r j h1 h2 => (knb4 r j h1).trans ((kMn r j h2).trans (kNB3 r j h1)))
      (by rw [zu_eq, knb4 (P + 8) U (by omega), zu_eq, p4, p3, p2, q3, q2]; exact hnm)
    refine ⟨⟨U + 1, H, G, d1, d2, d3⟩, hO.g (fun j h => (kF Q j (by omega)).trans (kA4 Q j (by omega) (by omega))) ((kF (Q + 1) 3 (by omega)).trans (kA4 (Q + 1) 3 (by omega) (by omega))) ((kb4 P 23 (by omega)).trans ((kM P 23 (by omega)).trans (kB3 P 23 (by omega)))), ?_, ?_, ?_, ?_⟩
    · exact (kF Q 1 (by omega)).trans ((kA4 Q 1 (by omega) (by omega)).trans hF.1)
    · rw [kb4 P 21 (by omega), kM P 21 (by omega), kB3 P 21 (by omega)]; exact hF.2.1
    · exact (kF Q 2 (by omega)).trans ((kA4 Q 2 (by omega) (by omega)).trans hF.2.2.1)
    · rw [kb4 P 22 (by omega), kM P 22 (by omega), kB3 P 22 (by omega)]; exact hF.2.2.2
  · exact Or.inl v4
  · exact Or.inr (Or.inl v4)
