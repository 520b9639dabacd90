/-! two readings side by side -/
def two {α β : Type} (X : Option α) (Y : Option β) (R : α → β → Prop) : Prop := ∃ a, X = some a ∧ ∃ b, Y = some b ∧ R a b
theorem two.mk {α β : Type} {a : α} {b : β} {R : α → β → Prop} (h : R a b) : two (some a) (some b) R := ⟨a, rfl, b, rfl, h⟩
theorem two.imp {α β : Type} {X : Option α} {Y : Option β} {R R' : α → β → Prop} (h : two X Y R) (k : ∀ a b, R a b → R' a b) : two X Y R' := by
  obtain ⟨a, h1, b, h2, h3⟩ := h
  exact ⟨a, h1, b, h2, k a b h3⟩
theorem two.bind {α β γ δ : Type} {X : Option α} {Y : Option β} {f : α → Option γ} {g : β → Option δ} {R : α → β → Prop} {R' : γ → δ → Prop} (h : two X Y R) (k : ∀ a b, R a b → two (f a) (g b) R') : two (zB X f) (zB Y g) R' := by
  obtain ⟨a, h1, b, h2, h3⟩ := h
  rw [h1, h2]
  exact k a b h3
theorem two.l {α β γ : Type} {X : Option α} {e : α} {Y : Option β} {f : α → Option γ} {R : γ → β → Prop} (h : X = some e) (k : two (f e) Y R) : two (zB X f) Y R := by rw [h]; exact k
theorem two.r {α β γ : Type} {X : Option α} {e : γ} {Y : Option γ} {f : γ → Option β} {R : α → β → Prop} (h : Y = some e) (k : two X (f e) R) : two X (zB Y f) R := by rw [h]; exact k
theorem two.ite {α β : Type} {X X' : Option α} {Y Y' : Option β} {R : α → β → Prop} {c d : Prop} [Decidable c] [Decidable d] (h : c ↔ d) (h1 : c → two X Y R) (h2 : ¬ c → two X' Y' R) : two (if c then X else X') (if d then Y else Y') R := by
  by_cases q : c
  · rw [if_pos q, if_pos (h.mp q)]; exact h1 q
  · rw [if_neg q, if_neg (fun z => q (h.mpr z))]; exact h2 q
theorem two.il {α β : Type} {i : Int32} {n : Nat} {X : Option α} {Y : Option β} {R : α → β → Prop} (hi : vp_in i n) (h : two X Y R) : two (zI i n X) Y R := by
  unfold zI
  rw [if_neg hi]
  exact h
theorem two.ir {α β : Type} {i : Int32} {n : Nat} {X : Option α} {Y : Option β} {R : α → β → Prop} (hi : vp_in i n) (h : two X Y R) : two X (zI i n Y) R := by
  unfold zI
  rw [if_neg hi]
  exact h
theorem nI_ne {k : Nat} (h : k < 2147483648) : ¬ nI k = -1 := fun z => by
  have := congrArg Int32.toInt z
  rw [nI_toInt h, show (-1 : Int32).toInt = -1 by decide] at this
  omega
theorem cFind.none {Qr c : Nat} {N : zNt} {w : Int64} {r : Int32} (h : cFind Qr N c w r) (hc : c < 1000) (e : r = -1) : ∀ i, i < c → ¬ N Qr i = w := by
  rcases h with ⟨_, h⟩ | ⟨i, h1, h2, _⟩
  · exact h
  · exact absurd (h2.symm.trans e) (nI_ne (by omega))
theorem cFind.some {Qr c : Nat} {N : zNt} {w : Int64} {r : Int32} (h : cFind Qr N c w r) (e : ¬ r = -1) : ∃ i, i < c ∧ r = nI i ∧ N Qr i = w := by
  rcases h with ⟨h, _⟩ | h
  · exact absurd h e
  · exact h
/-- both fail alike -/
def FL (Q P : Nat) (a b : Int32 × zMt × zNt) : Prop := a.1 = 0 ∧ b.1 = 0 ∧ FR Q P a.2.1 b.2.1
theorem t_fail {Q P n : Nat} {t : Nat → Int32} {A B : zMt} {NA NB : zNt} {v : Int32} (hK : tk Q P n t A NA B NB) : two (zB (D_X3_fail Q v A) fun e => some (e.1, e.2, NA)) (zB (D_X8_bad P v B) fun e => some (e.1, e.2, NB)) (FL Q P) := by
  obtain ⟨a, h1, b, h2, h3, h4, h5⟩ := s_fail (v := v) hK
  rw [h1, h2]
  exact two.mk ⟨h3, h4, h5⟩
theorem t_failO {Q P n : Nat} {t : Nat → Int32} {A B : zMt} {NA NB : zNt} {v : Int32} {R : Int32 × zMt × zNt → Int32 × zMt × zNt → Prop} (hK : tk Q P n t A NA B NB) : two (zB (D_X3_fail Q v A) fun e => some (e.1, e.2, NA)) (zB (D_X8_bad P v B) fun e => some (e.1, e.2, NB)) (fun a b => FL Q P a b ∨ R a b) := (t_fail hK).imp (fun _ _ h => Or.inl h)
theorem t_step {Q P n : Nat} {t : Nat → Int32} {A B : zMt} {NA NB : zNt} (hX : tx Q n t A) (hY : ty P n t B) (hN : nx Q P n A B) : two (D_X3_step Q A NA) (D_X8_next P B NB) (stp Q P n t A NA B NB) := r_step hX hY hN
/-! what kind of token -/
theorem tk.num {Q P n : Nat} {t : Nat → Int32} {A B : zMt} {NA NB : zNt} (hK : tk Q P n t A NA B NB) : (A Q 6 = 2 ↔ B P 18 = 3) ∧ (A Q 6 = 2 → ∃ x, tN Q P n A B x) := by
  obtain ⟨s, hs, h7, h16, hK⟩ := hK
  rcases hK with ⟨h1, h2⟩ | ⟨h1, h2⟩ | ⟨k, h1, h2, -⟩ | ⟨x, hx⟩ | ⟨x, h1, h2, -⟩
  · rw [h1, h2]; exact ⟨by decide, fun z => absurd z (by decide)⟩
  · rw [h1, h2]; exact ⟨by decide, fun z => absurd z (by decide)⟩
  · rw [h1, h2]; exact ⟨by decide, fun z => absurd z (by decide)⟩
  · refine ⟨?_, fun _ => ⟨x, hx⟩⟩
    rw [hx.1, hx.2.1]; decide
  · rw [h1, h2]; exact ⟨by decide, fun z => absurd z (by decide)⟩
theorem tk.sgn {Q P n : Nat} {t : Nat → Int32} {A B : zMt} {NA NB : zNt} (hK : tk Q P n t A NA B NB) : (A Q 6 = 3 ↔ B P 18 = 4) ∧ (A Q 6 = 3 → ∃ x, tS Q P n A B x) := by
  obtain ⟨s, hs, h7, h16, hK⟩ := hK
  rcases hK with ⟨h1, h2⟩ | ⟨h1, h2⟩ | ⟨k, h1, h2, -⟩ | ⟨x, h1, h2, -⟩ | ⟨x, hx⟩
  · rw [h1, h2]; exact ⟨by decide, fun z => absurd z (by decide)⟩
  · rw [h1, h2]; exact ⟨by decide, fun z => absurd z (by decide)⟩
  · rw [h1, h2]; exact ⟨by decide, fun z => absurd z (by decide)⟩
  · rw [h1, h2]; exact ⟨by decide, fun z => absurd z (by decide)⟩
  · refine ⟨?_, fun _ => ⟨x, hx⟩⟩
    rw [hx.1, hx.2.1]; decide
theorem tk.wrd {Q P n : Nat} {t : Nat → Int32} {A B : zMt} {NA NB : zNt} (hK : tk Q P n t A NA B NB) : (A Q 6 = 1 ↔ B P 18 = 2) ∧ (A Q 6 = 1 → ∃ s k, A Q 7 = nI s ∧ tW Q P n t A NA B NB s k) := by
  obtain ⟨s, hs, h7, h16, hK⟩ := hK
  rcases hK with ⟨h1, h2⟩ | ⟨h1, h2⟩ | ⟨k, hx⟩ | ⟨x, h1, h2, -⟩ | ⟨x, h1, h2, -⟩
  · rw [h1, h2]; exact ⟨by decide, fun z => absurd z (by decide)⟩
  · rw [h1, h2]; exact ⟨by decide, fun z => absurd z (by decide)⟩
  · refine ⟨?_, fun _ => ⟨s, k, h7, hx⟩⟩
    rw [hx.1, hx.2.1]; decide
  · rw [h1, h2]; exact ⟨by decide, fun z => absurd z (by decide)⟩
  · rw [h1, h2]; exact ⟨by decide, fun z => absurd z (by decide)⟩
theorem say_one : ∀ j, j < 8 → ∀ j', j' < 8 → zLen.getD j 0 = zLen.getD j' 0 → (∀ i, i < zLen.getD j 0 → zCh j i = zCh j' i) → j = j' := by decide +kernel
theorem wh.iff {t : Nat → Int32} {s k j : Nat} {w : Int32} (h : wh t s k w) (hj : j < 8) : w = nI j ↔ say t s k j := by
  rcases h with ⟨m, h1, h2, h3⟩ | ⟨h1, h2⟩
  · constructor
    · intro e
      have : m = j := nI_inj (by omega) (by omega) (h2.symm.trans e)
      subst this
      exact h3
    · intro h4
      have : m = j := say_one m h1 j hj (h3.1.symm.trans h4.1) (fun i hi => (h3.2 i (by rw [h3.1]; exact hi)).symm.trans (h4.2 i (by rw [h3.1]; exact hi)))
      rw [h2, this]
  · constructor
    · intro e
      exact absurd (e.symm.trans h1) (nI_ne (by omega))
    · intro h4
      exact absurd h4 (h2 j hj)
/-! parts of lines -/
theorem t_number {Q P n : Nat} {t : Nat → Int32} {A B : zMt} {NA NB : zNt} {m : Int32} (hX : tx Q n t A) (hY : ty P n t B) (hK : tk Q P n t A NA B NB) (hm : 0 ≤ m.toInt) : two (D_X3_numberUpTo Q m A NA) (D_X8_number P 0 m B NB) (fun a b => FL Q P a b ∨ (a.1 = 1 ∧ ∃ B', kB P B B' ∧ B' P 31 = B P 20 ∧ 0 ≤ (B P 20).toInt ∧ (B P 20).toInt ≤ m.toInt ∧ A Q 9 = B P 20 ∧ stp Q P n t A NA B' NB (a.2.1, a.2.2) b)) := by
  unfold D_X3_numberUpTo D_X8_number
  refine two.ite hK.num.1 (fun h2 => ?_) (fun _ => t_failO hK)
  obtain ⟨x, hx⟩ := hK.num.2 h2
  obtain ⟨-, -, -, -, -, e9, g0, g9⟩ := id hx
  have o0 : (0 : Int32).toInt = 0 := by decide
  obtain ⟨r, hr, q1, q2⟩ := v_X8_isFrom (v0 := Int32.toInt64 (B P 20)) (v1 := Int32.toInt64 0) (v2 := Int32.toInt64 m)
  rw [Int32.toInt_toInt64, Int32.toInt_toInt64, Int32.toInt_toInt64, o0] at q2
  refine two.r hr ?_
  by_cases hle : A Q 9 ≤ m
  · have hle2 := Int32.le_iff_toInt_le.mp hle
    have hr1 : ¬ r = 0 := fun z => by
      rcases q2 with ⟨w, _⟩ | ⟨_, w⟩
      · rw [z, o0] at w; omega
      · rw [e9] at g0 hle2; omega
    rw [if_pos hle, if_neg hr1]
    have kB' : kB P B (zu B P 31 (B P 20)) := fun r j h => zu_ne (by omega)
    obtain ⟨x', hx1, hx2, hx3⟩ := hx.nx
    refine two.bind (t_step (A := A) (B := zu B P 31 (B P 20)) (NA := NA) (NB := NB) hX (hY.k kB') ⟨x', hx1, hx2, (zu_ne (by omega)).trans hx3⟩) (fun a b h => two.mk (Or.inr ⟨rfl, zu B P 31 (B P 20), kB', zu_eq, by rw [← e9]; exact g0, by rw [← e9]; exact hle2, e9, h⟩))
  · have hr0 : r = 0 := by
      rcases q2 with ⟨_, _, w⟩ | ⟨w, _⟩
      · rw [← e9] at w; exact absurd (Int32.le_iff_toInt_le.mpr w) hle
      · exact Int32.toInt_inj.mp (w.trans o0.symm)
    rw [if_neg hle, if_pos hr0]
    exact t_failO hK
theorem t_end {Q P n : Nat} {t : Nat → Int32} {A B : zMt} {NA NB : zNt} {x1 : Int32} (hX : tx Q n t A) (hY : ty P n t B) (hK : tk Q P n t A NA B NB) (hx1 : ¬ x1 = 0) : two (D_X3_endOfLine Q A NA) (D_X8_readLine_114 P x1 B NB) (fun a b => FL Q P a b ∨ (a.1 = 1 ∧ A Q 6 = 3 ∧ stp Q P n t A NA B NB (a.2.1, a.2.2) b)) := by
  unfold D_X3_endOfLine D_X8_readLine_114
  rw [if_neg hx1]
  refine two.ite hK.sgn.1 (fun h2 => ?_) (fun _ => t_failO hK)
  obtain ⟨x, hx⟩ := hK.sgn.2 h2
  exact two.bind (t_step (NA := NA) (NB := NB) hX hY hx.nx) (fun a b h => two.mk (Or.inr ⟨rfl, h2, h⟩))
theorem s_taken {Q P : Nat} {t : Nat → Int32} {A B : zMt} {NA NB : zNt} {U H G : Nat} {w : Int64} (hC : dC Q P A B U H G) (hN : dN Q P t NA NB U H G) (hw : nmR t w (NB P 24)) : ∃ r, D_X3_isTaken Q A NA w = some r ∧ D_X8_isTaken P B NB = some r ∧ (r = 0 → (∀ i, i < U → ¬ NA (Q + 10) i = w) ∧ (∀ i, i < H → ¬ NA (Q + 11) i = w) ∧ (∀ i, i < G → ¬ NA (Q + 12) i = w)) := by
  obtain ⟨c1, c2, c3, c4, c5, c6, c7, c8, c9⟩ := hC
  obtain ⟨n1, n2, n3, n4⟩ := hN
  obtain ⟨r1, e1, f1, k1⟩ := s_find (Qr := Q + 10) (nQ := 5) (Pr := P + 8) (nP := 5) (c := U) c1 c1 (by omega) (by omega) hw n1
  obtain ⟨r2, e2, f2, k2⟩ := s_find (Qr := Q + 11) (nQ := 10) (Pr := P + 9) (nP := 10) (c := H) c2 c2 (by omega) (by omega) hw n2
  obtain ⟨r3, e3, f3, k3⟩ := s_find (Qr := Q + 12) (nQ := 4) (Pr := P + 10) (nP := 4) (c := G) c3 c3 (by omega) (by omega) hw n3
  unfold D_X3_isTaken D_X8_isTaken
  rw [c4, c5, c6, c7, c8, c9, zB_s e1, zB_s f1]
  by_cases q1 : r1 = -1
  · rw [if_pos q1, if_pos q1, zB_s e2, zB_s f2]
    by_cases q2 : r2 = -1
    · rw [if_pos q2, if_pos q2, zB_s e3, zB_s f3]
      by_cases q3 : r3 = -1
      · rw [if_pos q3, if_pos q3]
        exact ⟨0, rfl, rfl, fun _ => ⟨k1.none (by omega) q1, k2.none (by omega) q2, k3.none (by omega) q3⟩⟩
      · rw [if_neg q3, if_neg q3]
        exact ⟨1, rfl, rfl, fun z => absurd z (by decide)⟩
    · rw [if_neg q2, if_neg q2]
      exact ⟨1, rfl, rfl, fun z => absurd z (by decide)⟩
  · rw [if_neg q1, if_neg q1]
    exact ⟨1, rfl, rfl, fun z => absurd z (by decide)⟩
theorem t_newName {Q P n : Nat} {t : Nat → Int32} {A B : zMt} {NA NB : zNt} {U H G : Nat} (hX : tx Q n t A) (hY : ty P n t B) (hK : tk Q P n t A NA B NB) (hC : dC Q P A B U H G) (hN : dN Q P t NA NB U H G) : two (D_X3_readNewName Q A NA) (D_X8_newName P B NB) (fun a b => FL Q P a b ∨ (a.1 = 1 ∧ ∃ NA' NB', kNA Q NA NA' ∧ kNB P NB NB' ∧ nmR t (NA' Q 10) (NB' P 32) ∧ (∀ i, i < U → ¬ NA (Q + 10) i = NA' Q 10) ∧ (∀ i, i < H → ¬ NA (Q + 11) i = NA' Q 10) ∧ (∀ i, i < G → ¬ NA (Q + 12) i = NA' Q 10) ∧ stp Q P n t A NA' B NB' (a.2.1, a.2.2) b)) := by
  unfold D_X3_readNewName D_X8_newName
  obtain ⟨r, e1, e2, hr⟩ := s_isName hX hK
  refine two.l e1 (two.r e2 ?_)
  by_cases h0 : r = 0
  · rw [if_pos h0, if_pos h0]
    exact t_failO hK
  · rw [if_neg h0, if_neg h0]
    obtain ⟨-, s, k, h7, h16, hW⟩ := hr.resolve_left h0
    obtain ⟨r2, g1, g2, hr2⟩ := s_taken hC hN hW.nm
    refine two.l g1 (two.r g2 ?_)
    by_cases h2 : r2 = 0
    · rw [if_pos h2, if_pos h2]
      obtain ⟨k1, k2, k3⟩ := hr2 h2
      have ka : kNA Q NA (zu NA Q 10 (NA Q 8)) := fun r j h => zu_ne (by omega)
      have kb : kNB P NB (zu NB P 32 (NB P 24)) := fun r j h => zu_ne (by omega)
      have hnm := hW.nm
      refine two.bind (t_step (A := A) (B := B) (NA := zu NA Q 10 (NA Q 8)) (NB := zu NB P 32 (NB P 24)) hX hY hW.nx) (fun a b h => two.mk (Or.inr ⟨rfl, _, _, ka, kb, ?_, ?_, ?_, ?_, h⟩))
      · rw [zu_eq, zu_eq]; exact hnm
      · rw [zu_eq]; exact k1
      · rw [zu_eq]; exact k2
      · rw [zu_eq]; exact k3
    · rw [if_neg h2, if_neg h2]
      exact t_failO hK
