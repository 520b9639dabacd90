/-! LOAD: both read the tape alike -/
/-- what the reference's load answers behind its reading -/
theorem w_164v {P : Nat} {N : zNt} : ∀ (u k : Nat) (M : zMt), k ≤ 10 → 10 - k < u → ∃ r, D_X8_load_164 P u (nI k) M N = some r ∧ r.1 = M P 29 ∧ r.2.1 P 13 = M P 13 ∧ r.2.1 P 14 = M P 14 := by
  intro u
  induction u with
  | zero => intro k M _ h; omega
  | succ u ih =>
    intro k M hk hu
    rw [D_X8_load_164]
    by_cases hc : 10 ≤ k
    · rw [if_pos (by exact (leL (x := 10) (a := 10) (by decide) (by decide) (by omega)).mpr hc)]
      refine ⟨_, rfl, ?_, ?_, ?_⟩
      · show zu (zu (zu M P 7 (M P 28)) P 8 (zu M P 7 (M P 28) P 29)) P 9 (0 : Int32) P 8 = _
        rw [zu_ne (by omega), zu_eq, zu_ne (by omega)]
      · show zu (zu (zu (zu (zu M P 7 (M P 28)) P 8 (zu M P 7 (M P 28) P 29)) P 9 (0 : Int32)) P 6 (0 : Int32)) P 12 (0 : Int32) P 13 = _
        rw [zu_ne (by omega), zu_ne (by omega), zu_ne (by omega), zu_ne (by omega), zu_ne (by omega)]
      · show zu (zu (zu (zu (zu M P 7 (M P 28)) P 8 (zu M P 7 (M P 28) P 29)) P 9 (0 : Int32)) P 6 (0 : Int32)) P 12 (0 : Int32) P 14 = _
        rw [zu_ne (by omega), zu_ne (by omega), zu_ne (by omega), zu_ne (by omega), zu_ne (by omega)]
    · rw [if_neg (by intro q; exact hc ((leL (x := 10) (a := 10) (by decide) (by decide) (by omega)).mp q))]
      have T : ∀ y : Int32, ∃ r, D_X8_load_197 P (D_X8_load_164 P u) (nI k) (nI k) y M N = some r ∧ r.1 = M P 29 ∧ r.2.1 P 13 = M P 13 ∧ r.2.1 P 14 = M P 14 := fun y => by
        unfold D_X8_load_197
        refine vI (vp_in_nI (by omega) (by decide)) ?_
        show ∃ r, D_X8_load_164 P u (nI k + 1) (zu M (P + 5) (nI k).toNatClampNeg y) N = some r ∧ _
        rw [nI_add1]
        obtain ⟨r, h1, h2, h3, h4⟩ := ih (k + 1) (zu M (P + 5) (nI k).toNatClampNeg y) (by omega) (by omega)
        exact ⟨r, h1, h2.trans (zu_ne (by omega)), h3.trans (zu_ne (by omega)), h4.trans (zu_ne (by omega))⟩
      refine vIf (fun _ => T 0) (fun _ => vI (vp_in_nI (by omega) (by decide)) (vIf (fun _ => T 0) (fun _ => T 1)))
theorem w_138v {P : Nat} {N : zNt} : ∀ (u k : Nat) (M : zMt), k ≤ 82 → 82 - k < u → ∃ r, D_X8_load_138 P u (nI k) M N = some r ∧ r.1 = M P 29 ∧ r.2.1 P 13 = M P 13 ∧ r.2.1 P 14 = M P 14 := by
  intro u
  induction u with
  | zero => intro k M _ h; omega
  | succ u ih =>
    intro k M hk hu
    rw [D_X8_load_138]
    by_cases hc : 82 ≤ k
    · rw [if_pos (by exact (leL (x := 82) (a := 82) (by decide) (by decide) (by omega)).mpr hc)]
      obtain ⟨r, h1, h2⟩ := w_164v (P := P) (N := N) zFu 0 M (by omega) (by unfold zFu; omega)
      exact ⟨r, h1, h2⟩
    · rw [if_neg (by intro q; exact hc ((leL (x := 82) (a := 82) (by decide) (by decide) (by omega)).mp q))]
      refine vI (vp_in_nI (by omega) (by decide)) (vI (vp_in_nI (by omega) (by decide)) ?_)
      show ∃ r, D_X8_load_138 P u (nI k + 1) (zu M (P + 1) (nI k).toNatClampNeg (M (P + 2) (nI k).toNatClampNeg)) N = some r ∧ _
      rw [nI_add1]
      obtain ⟨r, h1, h2, h3, h4⟩ := ih (k + 1) (zu M (P + 1) (nI k).toNatClampNeg (M (P + 2) (nI k).toNatClampNeg)) (by omega) (by omega)
      exact ⟨r, h1, h2.trans (zu_ne (by omega)), h3.trans (zu_ne (by omega)), h4.trans (zu_ne (by omega))⟩
theorem zLt_eq {α β : Type} {a : α} {f : α → Option β} : zLt a f = f a := rfl
theorem w_98v {P : Nat} {M : zMt} {N : zNt} {x2 : Int32} : ∃ r, D_X8_load_98 P x2 M N = some r ∧ (x2 = 0 → r.1 = -1) ∧ (¬ x2 = 0 → r.1 = M P 29) ∧ r.2.1 P 13 = M P 21 ∧ r.2.1 P 14 = M P 22 := by
  unfold D_X8_load_98
  show ∃ r, (if x2 = 0 then zB (D_X8_refuse P (9 : Int32) (zu (zu M P 13 (M P 21)) P 14 (zu M P 13 (M P 21) P 22))) fun e_121 => some (e_121.1, e_121.2, N) else zI (70 : Int32) 82 <| zLt (zu (zu (zu M P 13 (M P 21)) P 14 (zu M P 13 (M P 21) P 22)) (P + 2) (70 : Int32).toNatClampNeg (zu (zu M P 13 (M P 21)) P 14 (zu M P 13 (M P 21) P 22) P 30)) fun M_135 => D_X8_load_138 P zFu (0 : Int32) M_135 N) = some r ∧ _
  generalize hM : zu (zu M P 13 (M P 21)) P 14 (zu M P 13 (M P 21) P 22) = M1
  have h13 : M1 P 13 = M P 21 := by rw [← hM, zu_ne (by omega), zu_eq]
  have h14 : M1 P 14 = M P 22 := by rw [← hM, zu_eq, zu_ne (by omega)]
  have h29 : M1 P 29 = M P 29 := by rw [← hM, zu_ne (by omega), zu_ne (by omega)]
  by_cases hx : x2 = 0
  · rw [if_pos hx]
    refine ⟨_, rfl, fun _ => rfl, fun z => absurd hx z, ?_, ?_⟩
    · show zu (zu M1 P 6 (0 : Int32)) P 12 (9 : Int32) P 13 = _
      rw [zu_ne (by omega), zu_ne (by omega), h13]
    · show zu (zu M1 P 6 (0 : Int32)) P 12 (9 : Int32) P 14 = _
      rw [zu_ne (by omega), zu_ne (by omega), h14]
  · rw [if_neg hx]
    unfold zI
    rw [if_neg (by decide)]
    obtain ⟨r, h1, h2, h3, h4⟩ := w_138v (P := P) (N := N) zFu 0 (zu M1 (P + 2) (70 : Int32).toNatClampNeg (M1 P 30)) (by omega) (by unfold zFu; omega)
    rw [show nI 0 = (0 : Int32) by decide] at h1
    rw [zLt_eq]
    exact ⟨r, h1, fun z => absurd z hx, fun _ => h2.trans ((zu_ne (by omega)).trans h29), h3.trans ((zu_ne (by omega)).trans h13), h4.trans ((zu_ne (by omega)).trans h14)⟩
theorem tk.endd {Q P n : Nat} {t : Nat → Int32} {A B : zMt} {NA NB : zNt} (hK : tk Q P n t A NA B NB) : A Q 6 = 0 ↔ B P 18 = 0 := by
  obtain ⟨s, hs, h7, h16, hK⟩ := hK
  rcases hK with ⟨h1, h2⟩ | ⟨h1, h2⟩ | ⟨k, h1, h2, -⟩ | ⟨x, h1, h2, -⟩ | ⟨x, h1, h2, -⟩ <;> rw [h1, h2] <;> decide
/-- line by line -/
theorem t_lines {Q P n T nT : Nat} {t : Nat → Int32} : ∀ (u l : Nat) (A : zMt) (NA : zNt) (B : zMt) (NB : zNt), tx Q n t A → ty P n t B → tk Q P n t A NA B NB → (A Q 6 = 2 ∨ A Q 6 = 4 ∨ dD Q P t A NA B NB) → jX P B → jY P B → jZ P B → (B P 18 = 0 ∨ (l : Int) < (B P 17).toInt) → ((B P 18 = 0 ∧ 1 ≤ u) ∨ (B P 15).toInt - (B P 17).toInt + 2 ≤ u) → l ≤ 700 →
    ∃ a, D_X3_read_62 Q T nT u (nI l) A NA = some a ∧ ∃ x2 B' NB', D_X8_load_79 P u (1 : Int32) B NB = D_X8_load_98 P x2 B' NB' ∧ FR Q P a.2.1 B' ∧ ((a.1 = 0 ∧ x2 = 0) ∨ (a.1 = 1 ∧ x2 = 1 ∧ dD Q P t a.2.1 a.2.2 B' NB')) := by
  intro u
  induction u with
  | zero =>
    intro l A NA B NB _ _ _ _ hx _ _ _ h _
    obtain ⟨-, -, -, g4⟩ := hx
    omega
  | succ u ih =>
    intro l A NA B NB hX hY hK hD jx jy jz hl hu hl7
    obtain ⟨g1, g2, g3, g4⟩ := id jx
    rw [D_X3_read_62, D_X8_load_79, if_neg (show ¬ (1 : Int32) = 0 by decide)]
    have o0 : (0 : Int32).toInt = 0 := by decide
    have o1 : (1 : Int32).toInt = 1 := by decide
    by_cases h0 : B P 18 = 0
    · have a0 : A Q 6 = 0 := hK.endd.mpr h0
      have hD' : dD Q P t A NA B NB := by
        rcases hD with z | z | z
        · exact absurd (a0.symm.trans z) (by decide)
        · exact absurd (a0.symm.trans z) (by decide)
        · exact z
      have hFR : FR Q P A B := ⟨hD'.2.2.1.trans hD'.2.2.2.1.symm, hD'.2.2.2.2.1.trans hD'.2.2.2.2.2.symm⟩
      rw [if_pos h0]
      by_cases h7 : 700 ≤ l
      · rw [if_pos (by exact (leL (x := 700) (a := 700) (by decide) (by decide) (by omega)).mpr h7)]
        exact ⟨_, rfl, 1, B, NB, rfl, hFR, Or.inr ⟨rfl, rfl, hD'⟩⟩
      · rw [if_neg (by intro z; exact h7 ((leL (x := 700) (a := 700) (by decide) (by decide) (by omega)).mp z)), if_pos a0]
        exact ⟨_, rfl, 1, B, NB, rfl, hFR, Or.inr ⟨rfl, rfl, hD'⟩⟩
    · have a0 : ¬ A Q 6 = 0 := fun z => h0 (hK.endd.mp z)
      have hl' := hl.resolve_left h0
      have hu' := hu.resolve_left (fun z => h0 z.1)
      rw [if_neg h0, if_neg (by intro z; exact absurd ((leL (x := 700) (a := 700) (by decide) (by decide) (by omega)).mp z) (by omega)), if_neg a0]
      obtain ⟨a, ea, b, eb, hL⟩ := l_line hX hY hK hD
      obtain ⟨b', eb', kb1, kb2, hb01, jx', jy', jz', hle, hgr⟩ := v_X8_readLine (M0 := B) (N0 := NB) jx jy jz
      rw [eb] at eb'
      cases eb'
      rw [zB_s ea, zB_s eb]
      have e15 : b.2.1 P 15 = B P 15 := kb1 P 15 (by unfold WM_X8_readLine; omega)
      rcases hL with ⟨l1, l2, l3⟩ | ⟨l1, l2, y1, y2, y3, y4⟩
      · rw [if_pos l1, l2]
        obtain ⟨v, rfl⟩ : ∃ v, u = v + 1 := ⟨u - 1, by omega⟩
        refine ⟨_, rfl, 0, b.2.1, b.2.2, ?_, l3, Or.inl ⟨rfl, rfl⟩⟩
        rw [D_X8_load_79, if_pos rfl]
      · rw [if_neg (by rw [l1]; decide), l2, nI_add1]
        have hgr' : b.2.1 P 18 = 0 ∨ (B P 17).toInt < (b.2.1 P 17).toInt := by
          rcases hgr with z | z | z
          · rw [l2, o1] at z; omega
          · exact Or.inl (Int32.toInt_inj.mp (z.trans o0.symm))
          · exact Or.inr z
        exact ih (l + 1) a.2.1 a.2.2 b.2.1 b.2.2 y1 y2 y3 y4 jx' jy' jz' (hgr'.imp id (fun z => by omega)) (by
          rcases hgr' with z | z
          · exact Or.inl ⟨z, by omega⟩
          · rw [e15]; exact Or.inr (by omega)) (by omega)
/-- what the law's two objects hold of the tape -/
def tpe (C P : Nat) (A B : zMt) : Prop := ∃ m, m ≤ 700 ∧ A C 1 = nI m ∧ B P 11 = nI m ∧ ∀ k, k < m → A (C + 1) k = B (P + 7) k ∧ 0 ≤ (A (C + 1) k).toInt
theorem zcpy_in {M : zMt} {R k n : Nat} {g : Nat → Int32} (h : k < n) : zcpy M R n g R k = g k := if_pos ⟨rfl, h⟩
theorem zcpy_ne {M : zMt} {R r j n : Nat} {g : Nat → Int32} (h : ¬ r = R) : zcpy M R n g r j = M r j := if_neg (fun z => h z.1)
theorem zfil_in {M : zMt} {R k n : Nat} {v : Int32} (h : k < n) : zfil M R n v R k = v := if_pos ⟨rfl, h⟩
theorem zfil_ne {M : zMt} {R r j n : Nat} {v : Int32} (h : ¬ r = R) : zfil M R n v r j = M r j := if_neg (fun z => h z.1)
/-- an empty register -/
theorem c_clear9 {R : Nat} {A : zMt} : ∃ A', D_X4_clear R A = some A' ∧ (∀ r j, (r < R ∨ R + 8 ≤ r) → A' r j = A r j) ∧ A' R 0 = 0 ∧ A' R 1 = 0 ∧ A' R 2 = 0 ∧ A' R 3 = 0 ∧ A' R 4 = 0 ∧ A' R 5 = 100 ∧ A' R 6 = 0 ∧ (∀ j, j < 5 → A' (R + 1) j = 0) ∧ (∀ j, j < 10 → A' (R + 2) j = 0) ∧ (∀ j, j < 10 → A' (R + 3) j = 0) ∧ (∀ j, j < 10 → A' (R + 4) j = -1) ∧ (∀ j, j < 10 → A' (R + 5) j = 0) ∧ (∀ j, j < 30 → A' (R + 6) j = -1) ∧ (∀ j, j < 10 → A' (R + 7) j = -1) := by
  refine ⟨_, rfl, fun r j h => ?_, ?_, ?_, ?_, ?_, ?_, ?_, ?_, fun j hj => ?_, fun j hj => ?_, fun j hj => ?_, fun j hj => ?_, fun j hj => ?_, fun j hj => ?_, fun j hj => ?_⟩
  · rw [zfil_ne (by omega), zfil_ne (by omega), zfil_ne (by omega), zfil_ne (by omega), zfil_ne (by omega), zfil_ne (by omega), zfil_ne (by omega), zu_ne (by omega), zu_ne (by omega), zu_ne (by omega), zu_ne (by omega), zu_ne (by omega), zu_ne (by omega), zu_ne (by omega)]
  · rw [zfil_ne (by omega), zfil_ne (by omega), zfil_ne (by omega), zfil_ne (by omega), zfil_ne (by omega), zfil_ne (by omega), zfil_ne (by omega), zu_ne (by omega), zu_ne (by omega), zu_ne (by omega), zu_ne (by omega), zu_ne (by omega), zu_ne (by omega), zu_eq]
  · rw [zfil_ne (by omega), zfil_ne (by omega), zfil_ne (by omega), zfil_ne (by omega), zfil_ne (by omega), zfil_ne (by omega), zfil_ne (by omega), zu_ne (by omega), zu_ne (by omega), zu_ne (by omega), zu_ne (by omega), zu_ne (by omega), zu_eq]
  · rw [zfil_ne (by omega), zfil_ne (by omega), zfil_ne (by omega), zfil_ne (by omega), zfil_ne (by omega), zfil_ne (by omega), zfil_ne (by omega), zu_ne (by omega), zu_ne (by omega), zu_ne (by omega), zu_ne (by omega), zu_eq]
  · rw [zfil_ne (by omega), zfil_ne (by omega), zfil_ne (by omega), zfil_ne (by omega), zfil_ne (by omega), zfil_ne (by omega), zfil_ne (by omega), zu_ne (by omega), zu_ne (by omega), zu_ne (by omega), zu_eq]
  · rw [zfil_ne (by omega), zfil_ne (by omega), zfil_ne (by omega), zfil_ne (by omega), zfil_ne (by omega), zfil_ne (by omega), zfil_ne (by omega), zu_ne (by omega), zu_ne (by omega), zu_eq]
  · rw [zfil_ne (by omega), zfil_ne (by omega), zfil_ne (by omega), zfil_ne (by omega), zfil_ne (by omega), zfil_ne (by omega), zfil_ne (by omega), zu_ne (by omega), zu_eq]
  · rw [zfil_ne (by omega), zfil_ne (by omega), zfil_ne (by omega), zfil_ne (by omega), zfil_ne (by omega), zfil_ne (by omega), zfil_ne (by omega), zu_eq]
  · rw [zfil_ne (by omega), zfil_ne (by omega), zfil_ne (by omega), zfil_ne (by omega), zfil_ne (by omega), zfil_ne (by omega), zfil_in hj]
  · rw [zfil_ne (by omega), zfil_ne (by omega), zfil_ne (by omega), zfil_ne (by omega), zfil_ne (by omega), zfil_in hj]
  · rw [zfil_ne (by omega), zfil_ne (by omega), zfil_ne (by omega), zfil_ne (by omega), zfil_in hj]
  · rw [zfil_ne (by omega), zfil_ne (by omega), zfil_ne (by omega), zfil_in hj]
  · rw [zfil_ne (by omega), zfil_ne (by omega), zfil_in hj]
  · rw [zfil_ne (by omega), zfil_in hj]
  · rw [zfil_in hj]
/-- both begin with nothing read -/
theorem d_empty {Q P : Nat} {t : Nat → Int32} {A B : zMt} {NA NB : zNt}
    (a0 : A (Q + 1) 0 = 0) (a1 : A (Q + 1) 1 = 0) (a2 : A (Q + 1) 2 = 0) (a3 : A (Q + 1) 3 = 0) (a4 : A (Q + 1) 4 = 0) (a5 : A (Q + 1) 5 = 100) (a6 : A (Q + 1) 6 = 0) (r1 : ∀ j, j < 5 → A (Q + 2) j = 0) (r2 : ∀ j, j < 10 → A (Q + 3) j = 0) (r3 : ∀ j, j < 10 → A (Q + 4) j = 0) (r4 : ∀ j, j < 10 → A (Q + 5) j = -1) (r5 : ∀ j, j < 10 → A (Q + 6) j = 0) (r6 : ∀ j, j < 30 → A (Q + 7) j = -1) (r7 : ∀ j, j < 10 → A (Q + 8) j = -1)
    (f : A Q 1 = 0 ∧ A Q 2 = -1 ∧ A Q 11 = 0 ∧ A Q 12 = 0 ∧ A Q 13 = 0)
    (b1 : ∀ j, (j < 10 ∨ (62 ≤ j ∧ j < 69) ∨ j = 70 ∨ j = 71) → B (P + 2) j = 0) (b2 : ∀ j, 10 ≤ j → j < 62 → B (P + 2) j = -1) (b3 : B (P + 2) 69 = 100) (b4 : ∀ j, 72 ≤ j → j < 82 → B (P + 2) j = -1) (g : B P 28 = 0 ∧ B P 29 = 0 ∧ B P 30 = 0 ∧ B P 21 = 0 ∧ B P 22 = -1 ∧ B P 23 = 0) : dD Q P t A NA B NB := by
  obtain ⟨f1, f2, f3, f4, f5⟩ := f
  obtain ⟨g1, g2, g3, g4, g5, g6⟩ := g
  have n0 : (0 : Int32) = nI 0 := by decide
  have ws : ∀ h base, h < 10 → 20 ≤ base → base + 3 ≤ 62 → wsh A B Q P h base := fun h base h1 h2 h3 => ⟨0, by omega, (r5 h h1).trans n0, fun k hk => by rw [r6 _ (by omega), b2 _ (by omega) (by omega)], fun k hk => ⟨fun z => absurd z (by omega), fun z => absurd (b2 _ (by omega) (by omega)) z⟩⟩
  refine ⟨⟨0, 0, 0, ⟨by omega, by omega, by omega, a0.trans n0, g1.trans n0, a1.trans n0, g2.trans n0, a2.trans n0, g3.trans n0⟩, ⟨fun i hi => by omega, fun i hi => by omega, fun i hi => by omega, fun i j hi => by omega⟩, ⟨fun u hu => ?_, fun h hh => ?_, fun h hh => by omega, fun h hh => ?_, fun h hh he => ws h _ hh (by omega) (by omega), fun h g hh hg => by omega, fun g k h1 h2 h3 => b2 _ (by omega) (by omega), fun h h1 h2 => r5 h h1, fun g hg => by omega, ⟨?_, ?_, ?_⟩, ⟨a6, b1 71 (by omega), fun h hh => ⟨r7 h hh, b4 _ (by omega) (by omega)⟩, fun u _ hu => r1 u hu, fun h _ hh => r3 h hh⟩⟩⟩, ⟨?_, ?_, ?_, fun _ => a3⟩, f1, g4, f2, g5⟩
  · rw [r1 u hu, b1 _ (by omega)]
  · rw [r2 h hh, b1 _ (by omega)]
  · rw [r4 h hh, b2 _ (by omega) (by omega)]
    exact ⟨rfl, Or.inl rfl, Or.inr rfl⟩
  · rw [a3, b1 67 (by omega)]
  · rw [a4, b1 68 (by omega)]
  · rw [a5, b3]
  · rw [f3, g6]; exact ⟨fun _ => bitAt_0, fun _ => rfl⟩
  · rw [f4, g6]; exact ⟨fun _ => bitAt_0, fun _ => rfl⟩
  · rw [f5, g6]; exact ⟨fun _ => bitAt_0, fun _ => rfl⟩
/-- the rest of an empty row -/
theorem w_beg39 {Q : Nat} : ∀ (u k : Nat) (M : zMt), k ≤ 10 → 10 - k < u → ∃ r, D_X8_begins_39 Q 82 u (nI k) M = some r ∧ (∀ j, k ≤ j → j < 10 → r Q (72 + j) = -1) ∧ (∀ j, j < k → r Q (72 + j) = M Q (72 + j)) := by
  intro u
  induction u with
  | zero => intro k M _ h; omega
  | succ u ih =>
    intro k M hk hu
    rw [D_X8_begins_39]
    refine vIf (fun hc => ?_) (fun hc => ?_)
    · have hk2 : 10 ≤ k := (nI_leI (a := 10) (b := k) (by decide) (by omega)).mp hc
      refine vI (by unfold vp_in; decide) ?_
      exact ⟨_, rfl, fun j h1 h2 => by omega, fun j h => zu_ne (by rw [show (69 : Int32).toNatClampNeg = 69 by decide]; omega)⟩
    · have hlt : k < 10 := Nat.lt_of_not_le (fun q => hc ((nI_leI (a := 10) (b := k) (by decide) (by omega)).mpr q))
      have e : (72 : Int32) + nI k = nI (72 + k) := (show ∀ k, k < 10 → (72 : Int32) + nI k = nI (72 + k) by decide) k hlt
      rw [e]
      refine vI (vp_in_nI (by omega) (by decide)) ?_
      rw [nI_clamp (by omega), nI_1]
      obtain ⟨r, h1, h2, h3⟩ := ih (k + 1) (zu M Q (72 + k) (-1)) (by omega) (by omega)
      refine ⟨r, h1, fun j h4 h5 => ?_, fun j h4 => (h3 j (by omega)).trans (zu_ne (by omega))⟩
      by_cases q : j = k
      · subst q
        exact (h3 j (by omega)).trans zu_eq
      · exact h2 j (by omega) h5
theorem w_beg21 {Q : Nat} : ∀ (u k : Nat) (M : zMt), k ≤ 62 → 62 - k < u → ∃ r, D_X8_begins_21 Q 82 u (nI k) M = some r ∧ (∀ j, j < 10 → r Q (72 + j) = -1) := by
  intro u
  induction u with
  | zero => intro k M _ h; omega
  | succ u ih =>
    intro k M hk hu
    rw [D_X8_begins_21]
    refine vIf (fun hc => ?_) (fun hc => ?_)
    · obtain ⟨r, h1, h2, -⟩ := w_beg39 (Q := Q) zFu 0 M (by omega) (by unfold zFu; omega)
      exact ⟨r, h1, fun j h => h2 j (Nat.zero_le j) h⟩
    · have hlt : k < 62 := Nat.lt_of_not_le (fun q => hc ((nI_leI (a := 62) (b := k) (by decide) (by omega)).mpr q))
      refine vI (vp_in_nI (by omega) (by decide)) ?_
      rw [nI_clamp (by omega), nI_1]
      exact ih (k + 1) _ (by omega) (by omega)
theorem w_beg2 {Q : Nat} : ∀ (u k : Nat) (M : zMt), k ≤ 82 → 82 - k < u → ∃ r, D_X8_begins_2 Q 82 u (nI k) M = some r ∧ (∀ j, j < 10 → r Q (72 + j) = -1) := by
  intro u
  induction u with
  | zero => intro k M _ h; omega
  | succ u ih =>
    intro k M hk hu
    rw [D_X8_begins_2]
    refine vIf (fun hc => ?_) (fun hc => ?_)
    · exact w_beg21 (Q := Q) zFu 10 M (by omega) (by unfold zFu; omega)
    · have hlt : k < 82 := Nat.lt_of_not_le (fun q => hc ((nI_leI (a := 82) (b := k) (by decide) (by omega)).mpr q))
      refine vI (vp_in_nI (by omega) (by decide)) ?_
      rw [nI_clamp (by omega), nI_1]
      exact ih (k + 1) _ (by omega) (by omega)
theorem w_beg {Q : Nat} {M0 : zMt} : ∃ r, D_X8_begins Q 82 M0 = some r ∧ (∀ j, j < 10 → r Q (72 + j) = -1) := w_beg2 (Q := Q) zFu 0 M0 (by omega) (by unfold zFu; omega)
