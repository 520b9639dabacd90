/-! draw, both sides -/
theorem rM.k {P n U : Nat} {B B' s : zMt} (h : rM P B s n U) (k : ∀ i j, P + 19 ≤ i → i ≤ P + 22 → B' i j = B i j) : rM P B' s n U :=
  ⟨fun a ha => by rw [k _ _ (by omega) (by omega), k _ _ (by omega) (by omega)]; exact h.1 a ha, fun v hv => by rw [k _ _ (by omega) (by omega), k _ _ (by omega) (by omega)]; exact h.2 v hv⟩
theorem rC.k {S n U : Nat} {A A' s : zMt} (h : rC S A s n U) (k : ∀ i j, S + 2 ≤ i → i ≤ S + 5 → A' i j = A i j) : rC S A' s n U :=
  ⟨fun a ha => by rw [k _ _ (by omega) (by omega), k _ _ (by omega) (by omega)]; exact h.1 a ha, fun v hv => by rw [k _ _ (by omega) (by omega), k _ _ (by omega) (by omega)]; exact h.2 v hv⟩
theorem nI_72h : ∀ h, h < 10 → (72 : Int32) + nI h = nI (72 + h) := by decide
theorem mm_dr24 {P n U H : Nat} {T s : zMt} {N : zNt} (hg : gP T n U) (hh : gH T n H) (hH : H ≤ 10) : ∀ (f k : Nat) (B : zMt), k ≤ H → H - k < f → B P 8 = nI H → mP P B T n U → rM P B s n U → ∃ B', D_X8_draw_24 P f (nI k) B N = some (tg T s n, B', N) ∧ (∀ h, k ≤ h → h < H → B' (P + 1) (72 + h) = s 0 (aOf T h)) ∧ B' (P + 1) 71 = B (P + 1) 71 + 1 ∧ (∀ i j, ¬ (i = P ∧ (j = 6 ∨ j = 12)) → ¬ (i = P + 1 ∧ (j = 71 ∨ (72 + k ≤ j ∧ j < 72 + H))) → B' i j = B i j) := by
  intro f
  induction f with
  | zero => intro k B _ h; omega
  | succ f ih =>
    intro k B hk hu h8 hm hs
    rw [D_X8_draw_24, h8]
    by_cases hc : H ≤ k
    · rw [if_pos (by exact (nI_leI (by omega) (by omega)).mpr hc)]
      unfold zI
      rw [if_neg (by decide), if_neg (by decide), show (71 : Int32).toNatClampNeg = 71 by decide, zLt_eq]
      have kk : ∀ i j, ¬ (i = P + 1 ∧ j = 71) → zu B (P + 1) 71 (B (P + 1) 71 + 1) i j = B i j := fun i j h => zu_ne h
      have et := mm_tags (P := P) (B := zu B (P + 1) 71 (B (P + 1) 71 + 1)) hg.1 (hm.m hg.2.1 (kk _ _ (by omega)) (kk _ _ (by omega)) (fun j _ _ => kk _ _ (by omega)) (fun i j _ _ => kk _ _ (by omega))) (hs.k (fun i j _ _ => kk _ _ (by omega)))
      rw [zB_s et]
      refine ⟨zu (zu (zu B (P + 1) 71 (B (P + 1) 71 + 1)) P 6 (0 : Int32)) P 12 (0 : Int32), rfl, fun h h1 h2 => by omega, ?_, fun i j h1 h2 => ?_⟩
      · rw [zu_ne (by omega), zu_ne (by omega), zu_eq]
      · rw [zu_ne (by omega), zu_ne (by omega), zu_ne (by omega)]
    · rw [if_neg (by intro z; exact hc ((nI_leI (by omega) (by omega)).mp z)), zB_s (mm_unitNow hg.1 hm hs hh hH (show k < H by omega)), nI_72h k (by omega)]
      unfold zI
      rw [if_neg (vp_in_nI (show 72 + k < 82 by omega) (by decide)), nI_clamp (by omega), zLt_eq, nI_add1]
      have kk : ∀ i j, ¬ (i = P + 1 ∧ j = 72 + k) → zu B (P + 1) (72 + k) (s 0 (aOf T k)) i j = B i j := fun i j h => zu_ne h
      obtain ⟨B', f1, f2, f3, f4⟩ := ih (k + 1) (zu B (P + 1) (72 + k) (s 0 (aOf T k))) (by omega) (by omega) ((kk _ _ (by omega)).trans h8) (hm.m hg.2.1 (kk _ _ (by omega)) (kk _ _ (by omega)) (fun j _ _ => kk _ _ (by omega)) (fun i j _ _ => kk _ _ (by omega))) (hs.k (fun i j _ _ => kk _ _ (by omega)))
      refine ⟨B', f1, fun h h1 h2 => ?_, f3.trans (by rw [kk _ _ (by omega)]), fun i j h1 h2 => (f4 i j h1 (by omega)).trans (kk _ _ (by omega))⟩
      by_cases q : h = k
      · subst q
        rw [f4 _ _ (by omega) (by omega), zu_eq]
      · exact f2 h (by omega) h2
/-- a year has gone by in the list -/
theorem gR.year {R : Nat} {A A' : zMt} {r r' g : Nat → Int32} {U H G : Nat} (w : gR R A r g U H G) (a2 : ∀ h, h < H → A' (R + 2) h = r' h) (a7 : ∀ h, h < H → A' (R + 7) h = r' (72 + h)) (a6 : A' R 6 = r' 71) (ak : ∀ i j, R ≤ i → i < R + 8 → ¬ (i = R + 2 ∧ j < H) → ¬ (i = R + 7 ∧ j < H) → ¬ (i = R ∧ j = 6) → A' i j = A i j) (bk : ∀ j, j < 82 → ¬ j < H → ¬ (72 ≤ j ∧ j < 72 + H) → ¬ j = 71 → r' j = r j) : gR R A' r' g U H G := by
  obtain ⟨⟨c1, c2, c3, c4, c5, c6, c7⟩, r1, r2, r3, r4, r5, r6, r9, ⟨s1, s2, s3, s4⟩, u3, u4, u5⟩ := w
  have k0 : ∀ j, ¬ j = 6 → A' R j = A R j := fun j h => ak _ _ (by omega) (by omega) (by omega) (by omega) (by omega)
  have kk : ∀ i j, R ≤ i → i < R + 8 → ¬ i = R → ¬ i = R + 2 → ¬ i = R + 7 → A' i j = A i j := fun i j h1 h2 h3 h4 h5 => ak _ _ h1 h2 (by omega) (by omega) (by omega)
  have bb : ∀ j, 10 ≤ j → j < 71 → r' j = r j := fun j h1 h2 => bk j (by omega) (by omega) (by omega) (by omega)
  have ws : ∀ h base, 20 ≤ base → base ≤ 59 → wsR R A r h base → wsR R A' r' h base := fun h base h2 h3 q => q.k (kk _ _ (by omega) (by omega) (by omega) (by omega) (by omega)) (fun y _ => kk _ _ (by omega) (by omega) (by omega) (by omega) (by omega)) (fun y _ => bb _ (by omega) (by omega))
  refine ⟨⟨c1, c2, c3, (k0 _ (by omega)).trans c4, (k0 _ (by omega)).trans c5, (k0 _ (by omega)).trans c6, (bb _ (by omega) (by omega)).trans c7⟩, fun u hu => ?_, fun h hh => ?_, fun h hh => ?_, fun h hh => ?_, fun h hh he => ?_, fun h p hh hp he => ?_, fun p hp => ?_, ⟨?_, ?_, ?_, a6⟩, fun h hh => ?_, fun u hu1 hu2 => ?_, fun h hh1 hh2 => ?_⟩
  · rw [kk _ _ (by omega) (by omega) (by omega) (by omega) (by omega), bb _ (by omega) (by omega)]; exact r1 u hu
  · by_cases q : h < H
    · exact a2 h q
    · rw [ak _ _ (by omega) (by omega) (by omega) (by omega) (by omega), bk _ (by omega) q (by omega) (by omega)]; exact r2 h hh
  · rw [kk _ _ (by omega) (by omega) (by omega) (by omega) (by omega)]; exact r3 h hh
  · rw [kk _ _ (by omega) (by omega) (by omega) (by omega) (by omega), bb _ (by omega) (by omega)]; exact r4 h hh
  · rw [kk _ _ (by omega) (by omega) (by omega) (by omega) (by omega)] at he
    exact ws h _ (by omega) (by omega) (r5 h hh he)
  · rw [kk _ _ (by omega) (by omega) (by omega) (by omega) (by omega)] at he
    exact ws h _ (by omega) (by omega) (r6 h p hh hp he)
  · obtain ⟨h, h1, h2⟩ := r9 p hp
    exact ⟨h, h1, (kk _ _ (by omega) (by omega) (by omega) (by omega) (by omega)).trans h2⟩
  · rw [k0 _ (by omega), bb _ (by omega) (by omega)]; exact s1
  · rw [k0 _ (by omega), bb _ (by omega) (by omega)]; exact s2
  · rw [k0 _ (by omega), bb _ (by omega) (by omega)]; exact s3
  · by_cases q : h < H
    · exact a7 h q
    · rw [ak _ _ (by omega) (by omega) (by omega) (by omega) (by omega), bk _ (by omega) (by omega) (by omega) (by omega)]; exact u3 h hh
  · rw [kk _ _ (by omega) (by omega) (by omega) (by omega) (by omega)]; exact u4 u hu1 hu2
  · rw [kk _ _ (by omega) (by omega) (by omega) (by omega) (by omega)]; exact u5 h hh1 hh2
theorem two.nt {α : Type} {X : Option α} {Y : Option (Int32 × zMt)} {R : α → Int32 × zMt → Prop} {N : zNt} (h : two X (zB Y fun e => some (e.1, e.2)) R) : two X (zB Y fun e => some (e.1, e.2, N)) (fun a b => R a (b.1, b.2.1)) := by
  obtain ⟨a, h1, b, h2, h3⟩ := h
  cases Y with
  | none => cases h2
  | some e =>
    cases h2
    exact ⟨a, h1, _, rfl, h3⟩
theorem t_draw {C P : Nat} {A B : zMt} {N : zNt} {v0 : Int32} (w0 : eqE C P A B) (hJ : jJ P B) : two (D_X7_draw C v0 A) (D_X8_draw P v0 B N) (fun a b => acR C P A a (b.1, b.2.1)) := by
  obtain ⟨r, g, U, H, G, K, w⟩ := id w0
  obtain ⟨w1, w2, w3, w4, w5, w6, w7, w8, w9⟩ := id w
  have c1 := w6.1.1
  have c2 := w6.1.2.1
  rcases t_isS (v := v0) with ⟨e1, e2, hs, hs2⟩ | ⟨e1, e2⟩
  · have hL : gR (C + 17) A (B (P + 1)) g U H G := w6.m (fun _ _ _ _ => rfl) (fun j hj => w1 j hj) (fun _ _ => rfl)
    obtain ⟨A1, ea, B1, eb, K1, p1, k1, k2⟩ := t_keep hL w9
    have w' : eqS C P A1 B1 r g U H G K1 := ⟨fun j hj => (k2 _ _ (by omega) (by omega)).trans (w1 j hj), fun h hh => (k2 _ _ (by omega) (by omega)).trans (w2 h hh), (k2 _ _ (by omega) (by omega)).trans w3, (k2 _ _ (by omega) (by omega)).trans w4, w5, w6.m (fun i j _ _ => k1 i j (by omega)) (fun _ _ => rfl) (fun _ _ => rfl), w7.k (fun i j _ _ => k1 i j (by omega)), w8.k (fun i j _ _ => k1 i j (by omega)), p1⟩
    obtain ⟨n, B2, hn, l1, l2, l3, l4, l5⟩ := t_laid w'
    obtain ⟨A2, ea2, r2, er2, ⟨l, hl, hC, hM, hpt⟩, hm2, k3, k4, k5⟩ := t_year (Q := C + 91) (S := C + 104) (A := A1) (N := N) (seed := v0) l2 l3 c2 (fun _ _ _ => rfl) (Or.inr (by omega)) l1 l4 ((l5 _ _ (by omega) (by omega)).trans w'.2.2.2.1) hs
    have kT : ∀ i j, i < 13 → A2 (C + 91 + i) j = tP (C + 91) A1 i j := fun i j hi => k3 _ _ (by omega)
    obtain ⟨A3, f1, f2, f3⟩ := cc_live (Q := C + 91) (S := C + 104) (R := C + 17) l2 l3 c2 (by omega) (by omega) zFu 0 A2 (by omega) (by unfold zFu; omega) ((k3 _ _ (by omega)).trans ((k1 _ _ (by omega)).trans w6.1.2.2.2.2.1)) kT hC
    rw [show nI 0 = (0 : Int32) by decide] at f1
    have f1' : D_X4_live (C + 17) (C + 91) (C + 104) A2 = some A3 := f1
    have kA : ∀ i j, ¬ (i = C + 17 ∧ j = 6) → zu A3 (C + 17) 6 (A3 (C + 17) 6 + (1 : Int32)) i j = A3 i j := fun i j h => zu_ne h
    have et := cc_tags (Q := C + 91) (S := C + 104) (A := zu A3 (C + 17) 6 (A3 (C + 17) 6 + (1 : Int32))) (T := tP (C + 91) A1) l2 (fun i j hi => (kA _ _ (by omega)).trans ((f3 _ _ (by omega)).trans (kT i j hi))) (hC.k (fun i j _ _ => (kA _ _ (by omega)).trans (f3 _ _ (by omega))))
    have k8 : r2.1 P 8 = nI H := (k4 _ _ (by omega) (by omega) (by omega)).trans ((l5 _ _ (by omega) (by omega)).trans w'.2.2.2.1)
    obtain ⟨B4, m1, m2, m3, m4⟩ := mm_dr24 (P := P) (N := r2.2) l2 l3 c2 zFu 0 r2.1 (by omega) (by unfold zFu; omega) k8 hm2 hM
    rw [show nI 0 = (0 : Int32) by decide] at m1
    have em : D_X8_draw P v0 B N = some (tg (tP (C + 91) A1) (rs (tP (C + 91) A1) 10 U n l) n, B4, r2.2) := by
      unfold D_X8_draw
      rw [zB_s e2, if_neg n10, zB_s eb, zB_s er2]
      exact m1
    obtain ⟨rb, ev, kb, -, -, jSv, -⟩ := v_X8_draw (P := P) (v0 := v0) (M0 := B) (N0 := N) hJ.1 hJ.2.1 hJ.2.2.1 hJ.2.2.2.1 hJ.2.2.2.2
    rw [em] at ev
    cases ev
    have kB : ∀ i j, ¬ (i = P ∧ (j = 6 ∨ j = 12 ∨ j = 9 ∨ j = 33)) → ¬ (P + 11 ≤ i ∧ i ≤ P + 30) → ¬ i = P + 4 → ¬ (i = P + 1 ∧ (j < H ∨ j = 71 ∨ (72 ≤ j ∧ j < 72 + H))) → B4 i j = B i j := fun i j h1 h2 h3 h4 => (m4 i j (by omega) (by omega)).trans ((k4 i j (by omega) (by omega) (by omega)).trans ((l5 i j (by omega) (by omega)).trans (k2 i j (by omega) (by omega))))
    have h7 : B4 P 7 = nI U := (kB _ _ (by omega) (by omega) (by omega) (by omega)).trans w3
    have h8 : B4 P 8 = nI H := (kB _ _ (by omega) (by omega) (by omega) (by omega)).trans w4
    have eB2 : ∀ j, j < 82 → B2 (P + 1) j = r j := fun j hj => (l5 _ _ (by omega) (by omega)).trans (w'.1 j hj)
    have gA : gR (C + 17) (zu A3 (C + 17) 6 (A3 (C + 17) 6 + (1 : Int32))) (B4 (P + 1)) g U H G := by
      have eA : ∀ i j, C + 17 ≤ i → i < C + 25 → A2 i j = A i j := fun i j h1 h2 => (k3 _ _ (by omega)).trans (k1 _ _ (by omega))
      refine w6.year (fun h hh => ?_) (fun h hh => ?_) ?_ (fun i j h1 h2 h3 h4 h5 => (kA _ _ h5).trans ((f3 _ _ (by omega)).trans (eA _ _ (by omega) (by omega)))) (fun j h1 h2 h3 h4 => ?_)
      · rw [kA _ _ (by omega), (f2 h (by omega) hh).1, eA _ _ (by omega) (by omega), w6.2.2.1 h (by omega), m4 _ _ (by omega) (by omega), hpt h hh, eB2 h (by omega)]
      · rw [kA _ _ (by omega), (f2 h (by omega) hh).2, m2 h (by omega) hh]
      · rw [zu_eq, f3 _ _ (by omega), eA _ _ (by omega) (by omega), m3, k4 _ _ (by omega) (by omega) (by omega), eB2 71 (by omega)]
        rw [w6.2.2.2.2.2.2.2.2.1.2.2.2]
      · exact (kB _ _ (by omega) (by omega) (by omega) (by omega)).trans (w1 j h1)
    have pA : pst (C + 25) P (zu A3 (C + 17) 6 (A3 (C + 17) 6 + (1 : Int32))) B4 g U H K1 := p1.k (fun i j _ _ => (kA _ _ (by omega)).trans ((f3 _ _ (by omega)).trans (k3 _ _ (by omega)))) (fun i j _ => (m4 i j (by omega) (by omega)).trans ((k4 i j (by omega) (by omega) (by omega)).trans (l5 i j (by omega) (by omega))))
    obtain ⟨A5, d1, d2, d3, d4⟩ := t_done (v := tg (tP (C + 91) A1) (rs (tP (C + 91) A1) 10 U n l) n) h7 h8 (jSv.row h7 h8 c1 c2) (fun h hh => (kB _ _ (by omega) (by omega) (by omega) (by omega)).trans (w2 h hh)) gA pA
    rw [em]
    unfold D_X7_draw
    rw [zB_s e1, if_neg n10, zB_s ea, zB_s ea2, zB_s f1', zLt_eq, zB_s et]
    exact two.l d1 (two.mk ⟨rfl, ⟨_, _, _, _, _, _, d2⟩, Or.inl d3⟩)
  · unfold D_X7_draw D_X8_draw
    rw [zB_s e1, zB_s e2, if_pos rfl, if_pos rfl]
    exact (t_ref0 w0).nt
