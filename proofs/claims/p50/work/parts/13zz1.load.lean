/-! LOAD: both lay the list that is read alike -/
/-- line by line -/
theorem t_linesF {Q P n T nT : Nat} {t : Nat → Int32} : ∀ (u l : Nat) (A : zMt) (NA : zNt) (B : zMt) (NB : zNt), tx Q n t A → ty P n t B → tk Q P n t A NA B NB → (A Q 6 = 2 ∨ A Q 6 = 4 ∨ dD Q P t A NA B NB) → jX P B → jY P B → jZ P B → (B P 18 = 0 ∨ (l : Int) < (B P 17).toInt) → ((B P 18 = 0 ∧ 1 ≤ u) ∨ (B P 15).toInt - (B P 17).toInt + 2 ≤ u) → l ≤ 700 →
    ∃ a, D_X3_read_62 Q T nT u (nI l) A NA = some a ∧ ∃ x2 B' NB', D_X8_load_79 P u (1 : Int32) B NB = D_X8_load_98 P x2 B' NB' ∧ (∀ i j, ¬ WM_X8_readLine P i j → B' i j = B i j) ∧ FR Q P a.2.1 B' ∧ ((a.1 = 0 ∧ x2 = 0) ∨ (a.1 = 1 ∧ x2 = 1 ∧ dD Q P t a.2.1 a.2.2 B' NB')) := by
  intro u
  induction u with
  | zero =>
    intro l A NA B NB _ _ _ _ hx _ _ _ h _
    obtain ⟨-, -, -, g4⟩ := hx
    omega
  | succ u ih =>
    intro l A NA B NB hX hY hK hD jx jy jz hl hu hl7
    obtain ⟨g1, g2, g3, g4⟩ := id jx
    rw [D_X3_read_62, D_X8_load_79, if_neg (show ¬ (1 : Int32) = 0 by decide)]
    have o0 : (0 : Int32).toInt = 0 := by decide
    have o1 : (1 : Int32).toInt = 1 := by decide
    by_cases h0 : B P 18 = 0
    · have a0 : A Q 6 = 0 := hK.endd.mpr h0
      have hD' : dD Q P t A NA B NB := by
        rcases hD with z | z | z
        · exact absurd (a0.symm.trans z) (by decide)
        · exact absurd (a0.symm.trans z) (by decide)
        · exact z
      have hFR : FR Q P A B := ⟨hD'.2.2.1.trans hD'.2.2.2.1.symm, hD'.2.2.2.2.1.trans hD'.2.2.2.2.2.symm⟩
      rw [if_pos h0]
      by_cases h7 : 700 ≤ l
      · rw [if_pos (by exact (leL (x := 700) (a := 700) (by decide) (by decide) (by omega)).mpr h7)]
        exact ⟨_, rfl, 1, B, NB, rfl, fun _ _ _ => rfl, hFR, Or.inr ⟨rfl, rfl, hD'⟩⟩
      · rw [if_neg (by intro z; exact h7 ((leL (x := 700) (a := 700) (by decide) (by decide) (by omega)).mp z)), if_pos a0]
        exact ⟨_, rfl, 1, B, NB, rfl, fun _ _ _ => rfl, hFR, Or.inr ⟨rfl, rfl, hD'⟩⟩
    · have a0 : ¬ A Q 6 = 0 := fun z => h0 (hK.endd.mp z)
      have hl' := hl.resolve_left h0
      have hu' := hu.resolve_left (fun z => h0 z.1)
      rw [if_neg h0, if_neg (by intro z; exact absurd ((leL (x := 700) (a := 700) (by decide) (by decide) (by omega)).mp z) (by omega)), if_neg a0]
      obtain ⟨a, ea, b, eb, hL⟩ := l_line hX hY hK hD
      obtain ⟨b', eb', kb1, kb2, hb01, jx', jy', jz', hle, hgr⟩ := v_X8_readLine (M0 := B) (N0 := NB) jx jy jz
      rw [eb] at eb'
      cases eb'
      rw [zB_s ea, zB_s eb]
      have e15 : b.2.1 P 15 = B P 15 := kb1 P 15 (by unfold WM_X8_readLine; omega)
      rcases hL with ⟨l1, l2, l3⟩ | ⟨l1, l2, y1, y2, y3, y4⟩
      · rw [if_pos l1, l2]
        obtain ⟨v, rfl⟩ : ∃ v, u = v + 1 := ⟨u - 1, by omega⟩
        refine ⟨_, rfl, 0, b.2.1, b.2.2, ?_, kb1, l3, Or.inl ⟨rfl, rfl⟩⟩
        rw [D_X8_load_79, if_pos rfl]
      · rw [if_neg (by rw [l1]; decide), l2, nI_add1]
        have hgr' : b.2.1 P 18 = 0 ∨ (B P 17).toInt < (b.2.1 P 17).toInt := by
          rcases hgr with z | z | z
          · rw [l2, o1] at z; omega
          · exact Or.inl (Int32.toInt_inj.mp (z.trans o0.symm))
          · exact Or.inr z
        obtain ⟨a2, ea2, x2, B2, NB2, em2, kF, rest⟩ := ih (l + 1) a.2.1 a.2.2 b.2.1 b.2.2 y1 y2 y3 y4 jx' jy' jz' (hgr'.imp id (fun z => by omega)) (by
          rcases hgr' with z | z
          · exact Or.inl ⟨z, by omega⟩
          · rw [e15]; exact Or.inr (by omega)) (by omega)
        exact ⟨a2, ea2, x2, B2, NB2, em2, fun i j h => (kF i j h).trans (kb1 i j h), rest⟩
theorem mm_164 {P Hn : Nat} {N : zNt} (hHn : Hn ≤ 10) : ∀ (u k : Nat) (M : zMt), M P 29 = nI Hn → k ≤ 10 → 10 - k < u → ∃ r, D_X8_load_164 P u (nI k) M N = some r ∧ (∀ h, k ≤ h → h < 10 → r.2.1 (P + 5) h = if h < Hn ∧ ¬ M (P + 6) h = 0 then 1 else 0) ∧ r.2.1 P 7 = M P 28 ∧ r.2.1 P 8 = M P 29 ∧ r.2.1 P 9 = 0 ∧ (∀ i j, ¬ (i = P + 5 ∧ k ≤ j) → ¬ (i = P ∧ (j = 6 ∨ j = 7 ∨ j = 8 ∨ j = 9 ∨ j = 12)) → r.2.1 i j = M i j) := by
  intro u
  induction u with
  | zero => intro k M _ _ h; omega
  | succ u ih =>
    intro k M h29 hk hu
    rw [D_X8_load_164]
    by_cases hc : 10 ≤ k
    · rw [if_pos (by exact (leL (x := 10) (a := 10) (by decide) (by decide) (by omega)).mpr hc)]
      refine ⟨_, rfl, fun h h1 h2 => by omega, ?_, ?_, ?_, fun i j h1 h2 => ?_⟩
      · show zu (zu (zu (zu (zu M P 7 (M P 28)) P 8 (zu M P 7 (M P 28) P 29)) P 9 (0 : Int32)) P 6 (0 : Int32)) P 12 (0 : Int32) P 7 = _
        rw [zu_ne (by omega), zu_ne (by omega), zu_ne (by omega), zu_ne (by omega), zu_eq]
      · show zu (zu (zu (zu (zu M P 7 (M P 28)) P 8 (zu M P 7 (M P 28) P 29)) P 9 (0 : Int32)) P 6 (0 : Int32)) P 12 (0 : Int32) P 8 = _
        rw [zu_ne (by omega), zu_ne (by omega), zu_ne (by omega), zu_eq, zu_ne (by omega)]
      · show zu (zu (zu (zu (zu M P 7 (M P 28)) P 8 (zu M P 7 (M P 28) P 29)) P 9 (0 : Int32)) P 6 (0 : Int32)) P 12 (0 : Int32) P 9 = _
        rw [zu_ne (by omega), zu_ne (by omega), zu_eq]
      · show zu (zu (zu (zu (zu M P 7 (M P 28)) P 8 (zu M P 7 (M P 28) P 29)) P 9 (0 : Int32)) P 6 (0 : Int32)) P 12 (0 : Int32) i j = _
        rw [zu_ne (by omega), zu_ne (by omega), zu_ne (by omega), zu_ne (by omega), zu_ne (by omega)]
    · rw [if_neg (by intro q; exact hc ((leL (x := 10) (a := 10) (by decide) (by decide) (by omega)).mp q))]
      have T : ∀ y : Int32, y = (if k < Hn ∧ ¬ M (P + 6) k = 0 then 1 else 0) → ∃ r, D_X8_load_197 P (D_X8_load_164 P u) (nI k) (nI k) y M N = some r ∧ (∀ h, k ≤ h → h < 10 → r.2.1 (P + 5) h = if h < Hn ∧ ¬ M (P + 6) h = 0 then 1 else 0) ∧ r.2.1 P 7 = M P 28 ∧ r.2.1 P 8 = M P 29 ∧ r.2.1 P 9 = 0 ∧ (∀ i j, ¬ (i = P + 5 ∧ k ≤ j) → ¬ (i = P ∧ (j = 6 ∨ j = 7 ∨ j = 8 ∨ j = 9 ∨ j = 12)) → r.2.1 i j = M i j) := fun y hy => by
        unfold D_X8_load_197 zI
        rw [if_neg (vp_in_nI (show k < 10 by omega) (by decide)), nI_clamp (by omega), zLt_eq, nI_add1]
        obtain ⟨r, f1, f2, f3, f4, f5, f6⟩ := ih (k + 1) (zu M (P + 5) k y) ((zu_ne (by omega)).trans h29) (by omega) (by omega)
        refine ⟨r, f1, fun h h1 h2 => ?_, f3.trans (zu_ne (by omega)), f4.trans (zu_ne (by omega)), f5, fun i j h1 h2 => (f6 i j (by omega) h2).trans (zu_ne (by omega))⟩
        by_cases q : h = k
        · subst q
          rw [f6 _ _ (by omega) (by omega), zu_eq, hy]
        · rw [f2 h (by omega) h2, zu_ne (by omega)]
      by_cases q : Hn ≤ k
      · rw [if_pos (by rw [h29]; exact (nI_leI (by omega) (by omega)).mpr q)]
        exact T 0 (by rw [if_neg (by omega)])
      · rw [if_neg (by rw [h29]; intro z; exact q ((nI_leI (by omega) (by omega)).mp z))]
        unfold zI
        rw [if_neg (vp_in_nI (show k < 10 by omega) (by decide)), nI_clamp (by omega)]
        by_cases q2 : M (P + 6) k = 0
        · rw [if_pos q2]
          exact T 0 (by rw [if_neg (fun z => z.2 q2)])
        · rw [if_neg q2]
          exact T 1 (by rw [if_pos ⟨by omega, q2⟩])
theorem mm_138 {P : Nat} {N : zNt} : ∀ (u k : Nat) (M : zMt), k ≤ 82 → 82 - k < u → ∃ M', D_X8_load_138 P u (nI k) M N = D_X8_load_164 P zFu (0 : Int32) M' N ∧ (∀ j, k ≤ j → j < 82 → M' (P + 1) j = M (P + 2) j) ∧ (∀ i j, ¬ (i = P + 1 ∧ k ≤ j) → M' i j = M i j) := by
  intro u
  induction u with
  | zero => intro k M _ h; omega
  | succ u ih =>
    intro k M hk hu
    rw [D_X8_load_138]
    by_cases hc : 82 ≤ k
    · rw [if_pos (by exact (leL (x := 82) (a := 82) (by decide) (by decide) (by omega)).mpr hc)]
      exact ⟨M, rfl, fun h h1 h2 => by omega, fun _ _ _ => rfl⟩
    · rw [if_neg (by intro q; exact hc ((leL (x := 82) (a := 82) (by decide) (by decide) (by omega)).mp q))]
      unfold zI
      rw [if_neg (vp_in_nI (show k < 82 by omega) (by decide)), if_neg (vp_in_nI (show k < 82 by omega) (by decide)), nI_clamp (by omega), zLt_eq, nI_add1]
      obtain ⟨M', f1, f2, f3⟩ := ih (k + 1) (zu M (P + 1) k (M (P + 2) k)) (by omega) (by omega)
      refine ⟨M', f1, fun j h1 h2 => ?_, fun i j h => (f3 i j (by omega)).trans (zu_ne (by omega))⟩
      by_cases q : j = k
      · subst q
        rw [f3 _ _ (by omega), zu_eq]
      · rw [f2 j (by omega) h2, zu_ne (by omega)]
theorem mm_98f {P : Nat} {M : zMt} {N : zNt} {x2 : Int32} (h : x2 = 0) {r : Int32 × zMt × zNt} (e : D_X8_load_98 P x2 M N = some r) : ∀ i j, ¬ (i = P ∧ (j = 6 ∨ j = 12 ∨ j = 13 ∨ j = 14)) → r.2.1 i j = M i j := by
  have e2 : D_X8_load_98 P x2 M N = some ((-1 : Int32), zu (zu (zu (zu M P 13 (M P 21)) P 14 (zu M P 13 (M P 21) P 22)) P 6 (0 : Int32)) P 12 (9 : Int32), N) := by
    unfold D_X8_load_98
    rw [zLt_eq, zLt_eq, if_pos h]
    rfl
  rw [e2] at e
  cases e
  exact fun i j h => (zu_ne (by omega)).trans ((zu_ne (by omega)).trans ((zu_ne (by omega)).trans (zu_ne (by omega))))
theorem mm_98s {P Hn : Nat} {M : zMt} {N : zNt} {x2 : Int32} (h : ¬ x2 = 0) (hHn : Hn ≤ 10) (h29 : M P 29 = nI Hn) {r : Int32 × zMt × zNt} (e : D_X8_load_98 P x2 M N = some r) : (∀ j, j < 82 → ¬ j = 70 → r.2.1 (P + 1) j = M (P + 2) j) ∧ r.2.1 (P + 1) 70 = M P 30 ∧ (∀ h, h < 10 → r.2.1 (P + 5) h = if h < Hn ∧ ¬ M (P + 6) h = 0 then 1 else 0) ∧ r.2.1 P 7 = M P 28 ∧ r.2.1 P 8 = M P 29 ∧ r.2.1 P 9 = 0 := by
  unfold D_X8_load_98 at e
  rw [zLt_eq, zLt_eq, if_neg h] at e
  unfold zI at e
  rw [if_neg (by decide), zLt_eq, show (70 : Int32).toNatClampNeg = 70 by decide] at e
  obtain ⟨M', f1, f2, f3⟩ := mm_138 (P := P) (N := N) zFu 0 (zu (zu (zu M P 13 (M P 21)) P 14 (zu M P 13 (M P 21) P 22)) (P + 2) 70 (zu (zu M P 13 (M P 21)) P 14 (zu M P 13 (M P 21) P 22) P 30)) (by omega) (by unfold zFu; omega)
  rw [show nI 0 = (0 : Int32) by decide] at f1
  rw [f1] at e
  have kk : ∀ i j, ¬ (i = P ∧ (j = 13 ∨ j = 14)) → ¬ (i = P + 2 ∧ j = 70) → zu (zu (zu M P 13 (M P 21)) P 14 (zu M P 13 (M P 21) P 22)) (P + 2) 70 (zu (zu M P 13 (M P 21)) P 14 (zu M P 13 (M P 21) P 22) P 30) i j = M i j := fun i j h1 h2 => (zu_ne (by omega)).trans ((zu_ne (by omega)).trans (zu_ne (by omega)))
  obtain ⟨r', g1, g2, g3, g4, g5, g6⟩ := mm_164 (P := P) (N := N) hHn zFu 0 M' ((f3 _ _ (by omega)).trans ((kk _ _ (by omega) (by omega)).trans h29)) (by omega) (by unfold zFu; omega)
  rw [show nI 0 = (0 : Int32) by decide] at g1
  rw [g1] at e
  cases e
  refine ⟨fun j h1 h2 => ?_, ?_, fun y hy => ?_, ?_, ?_, g5⟩
  · rw [g6 _ _ (by omega) (by omega), f2 j (by omega) h1, kk _ _ (by omega) (by omega)]
  · rw [g6 _ _ (by omega) (by omega), f2 70 (by omega) (by omega), zu_eq, zu_ne (by omega), zu_ne (by omega)]
  · rw [g2 y (by omega) hy, f3 _ _ (by omega), kk _ _ (by omega) (by omega)]
  · rw [g3, f3 _ _ (by omega), kk _ _ (by omega) (by omega)]
  · rw [g4, f3 _ _ (by omega), kk _ _ (by omega) (by omega)]
def ldR (C P : Nat) (A : zMt) (a b : Int32 × zMt × zNt) : Prop := a.1 = b.1 ∧ flt C P a.2.1 b.2.1 ∧ eqE C P a.2.1 b.2.1 ∧ (a.2.1 C 3 = 0 ∨ ∀ i j, ((i = C ∧ j = 3) ∨ C + 17 ≤ i) → a.2.1 i j = A i j)
theorem t_loadI {C P : Nat} {v0 : Int32} {A B : zMt} {NA NB : zNt} (hT : tpe C P A B) (hJ : jJ P B) (hf : flt C P A B) (w0 : eqE C P A B) : ∃ a, D_X7_load C v0 A NA = some a ∧ ∃ b, D_X8_load P v0 B NB = some b ∧ (jJ P b.2.1 → ldR C P A a b) := by
  obtain ⟨m, hm, h1, h11, hk⟩ := hT
  have o0 : (0 : Int32).toInt = 0 := by decide
  have o1 : (1 : Int32).toInt = 1 := by decide
  have o0l : (0 : Int64).toInt = 0 := by decide
  have n0 : (0 : Int32) = nI 0 := by decide
  obtain ⟨r, hr, qr1, qr2⟩ := v_X8_isFrom (v0 := Int32.toInt64 v0) (v1 := (0 : Int64)) (v2 := Int32.toInt64 (B P 11))
  rw [Int32.toInt_toInt64, Int32.toInt_toInt64, o0l, h11, nI_toInt (by omega)] at qr2
  unfold D_X7_load D_X8_load
  rw [zB_s hr, h1]
  have refu : ∃ a, D_X7_load_12 C A NA = some a ∧ ∃ b, (zB (D_X8_refuse P (1 : Int32) B) fun e_16 => some (e_16.1, e_16.2, NB)) = some b ∧ (jJ P b.2.1 → ldR C P A a b) := by
    refine ⟨_, rfl, _, rfl, fun _ => ⟨rfl, ⟨?_, ?_⟩, w0.k (fun i j _ _ => ?_) (fun i j _ => ?_), Or.inr (fun i j _ => ?_)⟩⟩
    · show zu A C 0 (1 : Int32) (C + 3) 1 = zu (zu B P 6 (0 : Int32)) P 12 (1 : Int32) P 13
      rw [zu_ne (by omega), zu_ne (by omega), zu_ne (by omega)]
      exact hf.1
    · show zu A C 0 (1 : Int32) (C + 3) 2 = zu (zu B P 6 (0 : Int32)) P 12 (1 : Int32) P 14
      rw [zu_ne (by omega), zu_ne (by omega), zu_ne (by omega)]
      exact hf.2
    · show zu A C 0 (1 : Int32) i j = A i j
      exact zu_ne (by omega)
    · show zu (zu B P 6 (0 : Int32)) P 12 (1 : Int32) i j = B i j
      rw [zu_ne (by omega), zu_ne (by omega)]
    · show zu A C 0 (1 : Int32) i j = A i j
      exact zu_ne (by omega)
  by_cases hneg : v0 < 0
  · have := Int32.lt_iff_toInt_lt.mp hneg
    have hr0 : r = 0 := by
      rcases qr2 with ⟨_, w, _⟩ | ⟨w, _⟩
      · rw [o0] at this; omega
      · exact Int32.toInt_inj.mp (w.trans o0.symm)
    rw [if_pos hneg, if_pos hr0]
    exact refu
  have hge := Int32.le_iff_toInt_le.mp (Int32.not_lt.mp hneg)
  rw [o0] at hge
  rw [if_neg hneg]
  by_cases hle : ¬ v0 ≤ nI m
  · have hgt := Int32.lt_iff_toInt_lt.mp (Int32.not_le.mp hle)
    rw [nI_toInt (by omega)] at hgt
    have hr0 : r = 0 := by
      rcases qr2 with ⟨_, _, w⟩ | ⟨w, _⟩
      · omega
      · exact Int32.toInt_inj.mp (w.trans o0.symm)
    rw [if_neg hle, if_pos hr0]
    exact refu
  have hle : v0 ≤ nI m := Classical.byContradiction hle
  have hle2 := Int32.le_iff_toInt_le.mp hle
  rw [nI_toInt (by omega)] at hle2
  have hr1 : ¬ r = 0 := fun z => by
    rcases qr2 with ⟨w, _⟩ | ⟨_, w⟩
    · rw [z, o0] at w; omega
    · omega
  rw [if_pos hle, if_neg hr1]
  have hnI : v0 = nI v0.toInt.toNat := z_toN hge
  have hnn : (v0.toInt.toNat : Int) = v0.toInt := by omega
  generalize v0.toInt.toNat = n at hnI hnn
  have hnm : n ≤ m := by omega
  obtain ⟨A1, ec, tx1, f5, f1, f2, f11, f12, f13, c0, c1, c2, c3, c4, c5, c6, d1, d2, d3, d4, d5, d6, d7⟩ := c_readB (Q := C + 3) (T := C + 1) (n := n) (A := A) (NA := NA) hnI (by omega) (by omega)
  rw [ld9_let]
  obtain ⟨B1, eb, b1, b2, b3, b4⟩ := w_X8_begins (Q := P + 2) (M0 := ld9 P v0 B)
  obtain ⟨B1', eb', b5⟩ := w_beg (Q := P + 2) (M0 := ld9 P v0 B)
  rw [eb] at eb'
  cases eb'
  rw [zB_s eb]
  have g : ∀ a j, ¬ ((a = P + 2 ∧ j < 82) ∨ (a = P ∧ (j = 15 ∨ j = 11 ∨ j = 17 ∨ j = 21 ∨ j = 22 ∨ j = 23 ∨ j = 28 ∨ j = 29 ∨ j = 30))) → B1 a j = B a j := fun a j h => (b1 a j (by omega)).trans (ld9_ne (by omega))
  have g15 : B1 P 15 = v0 := (b1 P 15 (by omega)).trans ld9_15
  have g17 : B1 P 17 = 0 := (b1 P 17 (by omega)).trans ld9_17
  have g28 : B1 P 28 = 0 := (b1 P 28 (by omega)).trans ld9_28
  have g29 : B1 P 29 = 0 := (b1 P 29 (by omega)).trans ld9_29
  have g30 : B1 P 30 = 0 := (b1 P 30 (by omega)).trans ld9_30
  have g21 : B1 P 21 = 0 := (b1 P 21 (by omega)).trans ld9_21
  have g22 : B1 P 22 = -1 := (b1 P 22 (by omega)).trans ld9_22
  have g23 : B1 P 23 = 0 := (b1 P 23 (by omega)).trans ld9_23
  have ty1 : ty P n (A (C + 1)) B1 := ⟨by omega, g15.trans hnI, fun k hk' => ⟨(g (P + 7) k (by omega)).trans (hk k (by omega)).1.symm, (hk k (by omega)).2⟩⟩
  have jx : jX P B1 := by unfold jX; rw [g15, g17, o0]; omega
  have jy : jY P B1 := by unfold jY; rw [g28, g29, g30, o0]; omega
  have jz : jZ P B1 := jZ.empty b2 b3 b4 g28 g29 g30
  have hD1 : dD (C + 3) P (A (C + 1)) A1 NA B1 NB := d_empty c0 c1 c2 c3 c4 c5 c6 d1 d2 d3 d4 d5 d6 d7 ⟨f1, f2, f11, f12, f13⟩ b2 b3 b4 (fun j hj1 hj2 => by
    have := b5 (j - 72) (by omega)
    rw [show 72 + (j - 72) = j by omega] at this
    exact this) ⟨g28, g29, g30, g21, g22, g23⟩
  obtain ⟨a1, e1, b6, e2, i1, ka1, kna1, kb1, knb1, x1, y1, k1, p1, q1, o1', w1, v1⟩ := t_step (NA := NA) (NB := NB) tx1 ty1 ⟨0, by omega, f5.trans n0, g17.trans n0⟩
  have hD2 := hD1.k ka1 kna1 kb1 knb1
  obtain ⟨b7, e3, kk1, kk2, -, jx', -, hle', hgr'⟩ := v_X8_next (M0 := B1) (N0 := NB) jx
  rw [e2] at e3
  cases e3
  rw [zB_s e2]
  have jy' : jY P b6.2.1 := jy.mono (fun a j h => kb1 a j (by omega))
  have jz' : jZ P b6.2.1 := jz.mono (fun a j h => kb1 a j (by omega))
  obtain ⟨z1, z2, z3, z4⟩ := id jx'
  have h18 : b6.2.1 P 18 = 0 ∨ ((0 : Nat) : Int) < (b6.2.1 P 17).toInt := by
    rcases hgr' with z | z
    · exact Or.inl (Int32.toInt_inj.mp (z.trans o0.symm))
    · rw [g17, o0] at z; exact Or.inr z
  obtain ⟨a, ea, x2, B2, NB2, em, kF, hFR, hcase⟩ := t_linesF (T := C + 1) (nT := 700) zFu 0 a1.1 a1.2 b6.2.1 b6.2.2 x1 y1 k1 (Or.inr (Or.inr hD2)) jx' jy' jz' h18 (Or.inr (by unfold zFu; omega)) (by omega)
  rw [show nI 0 = (0 : Int32) by decide] at ea
  obtain ⟨a', ea', ka, -, -⟩ := v_X3_read (Q := C + 3) (A := C + 1) (nA := 700) (v0 := v0) (M0 := A) (N0 := NA)
  have ea2 := ec.trans ((zB_s e1).trans ea)
  rw [ea2] at ea'
  cases ea'
  have kA : ∀ i j, (i < C + 3 ∨ C + 17 ≤ i) → a.2.1 i j = A i j := fun i j h => ka i j (by unfold WM_X3_read; omega)
  have kB : ∀ i j, ((i = P ∧ (j = 7 ∨ j = 8 ∨ j = 9)) ∨ i = P + 1 ∨ i = P + 4 ∨ i = P + 5) → B2 i j = B i j := fun i j h => (kF i j (by unfold WM_X8_readLine; omega)).trans ((kb1 i j (by omega)).trans (g i j (by omega)))
  rw [zB_s ea2, em]
  obtain ⟨rb, e98, w3, w4, w5, w6⟩ := w_98v (P := P) (M := B2) (N := NB2) (x2 := x2)
  rw [e98]
  show ∃ a9, (if a.1 = 0 then zB (D_X7_refuse C (9 : Int32) (zu a.2.1 C 1 (0 : Int32))) fun e_43 => some (e_43.1, e_43.2, a.2.2) else zB (D_X4_take (C + 17) (C + 4) (zu a.2.1 C 1 (0 : Int32))) fun e_58 => zB (D_X1_forget (C + 25) e_58) fun e_65 => zB (D_X7_changed C (e_65 (C + 17) 1) e_65) fun e_76 => some (e_76.1, e_76.2, a.2.2)) = some a9 ∧ _
  rcases hcase with ⟨y1, y2⟩ | ⟨y1, y2, y3⟩
  · rw [if_pos y1]
    have k9 := mm_98f y2 e98
    refine ⟨_, rfl, rb, rfl, fun _ => ⟨(w3 y2).symm, ⟨?_, ?_⟩, w0.k (fun i j _ _ => ?_) (fun i j _ => ?_), Or.inr (fun i j _ => ?_)⟩⟩
    · show zu (zu a.2.1 C 1 (0 : Int32)) C 0 (9 : Int32) (C + 3) 1 = rb.2.1 P 13
      rw [zu_ne (by omega), zu_ne (by omega), w5]
      exact hFR.1
    · show zu (zu a.2.1 C 1 (0 : Int32)) C 0 (9 : Int32) (C + 3) 2 = rb.2.1 P 14
      rw [zu_ne (by omega), zu_ne (by omega), w6]
      exact hFR.2
    · show zu (zu a.2.1 C 1 (0 : Int32)) C 0 (9 : Int32) i j = A i j
      rw [zu_ne (by omega), zu_ne (by omega), kA i j (by omega)]
    · rw [k9 i j (by omega), kB i j (by omega)]
    · show zu (zu a.2.1 C 1 (0 : Int32)) C 0 (9 : Int32) i j = A i j
      rw [zu_ne (by omega), zu_ne (by omega), kA i j (by omega)]
  · rw [if_neg (by rw [y1]; decide)]
    obtain ⟨U, H, G, hC, -, hR⟩ := y3.1
    obtain ⟨d1, d2, d3, d4, d5, d6, d7, d8, d9⟩ := id hC
    obtain ⟨s1, s2, s3, s4, s5, s6⟩ := mm_98s (by rw [y2]; decide) d2 d7 e98
    have hg : ∀ h, h < H → rb.2.1 (P + 5) h = B2 (P + 6) h := fun h hh => by
      obtain ⟨z1, z2⟩ := hR.2.2.1 h hh
      rw [s3 h (by omega)]
      rw [z1] at z2
      rcases z2 with z | z
      · rw [if_neg (fun q => q.2 z), z]
      · rw [if_pos ⟨hh, by rw [z]; decide⟩, z]
    have gD : gR (C + 3 + 1) a.2.1 (rb.2.1 (P + 1)) (rb.2.1 (P + 5)) U H G := gR.ofD (B' := B2) hC hR s1 (s2.trans d9) hg
    have gD2 : gR (C + 4) (zu a.2.1 C 1 (0 : Int32)) (rb.2.1 (P + 1)) (rb.2.1 (P + 5)) U H G := gD.m (fun i j _ _ => zu_ne (by omega)) (fun _ _ => rfl) (fun _ _ => rfl)
    obtain ⟨A3, et, gT, kt⟩ := gD2.take (R := C + 17) (Or.inr (by omega))
    rw [zB_s et]
    have ef : D_X1_forget (C + 25) A3 = some (zu A3 (C + 25) 0 (0 : Int32)) := rfl
    rw [zB_s ef]
    have gF : gR (C + 17) (zu A3 (C + 25) 0 (0 : Int32)) (rb.2.1 (P + 1)) (rb.2.1 (P + 5)) U H G := gT.m (fun i j _ _ => zu_ne (by omega)) (fun _ _ => rfl) (fun _ _ => rfl)
    have hH : zu A3 (C + 25) 0 (0 : Int32) (C + 17) 1 = rb.1 := by
      rw [gF.1.2.2.2.2.1, w4 (by rw [y2]; decide), d7]
    have e7 : rb.2.1 P 7 = nI U := s4.trans d5
    have e8 : rb.2.1 P 8 = nI H := s5.trans d7
    by_cases hjb : jJ P rb.2.1
    · have hp : pst (C + 25) P (zu A3 (C + 25) 0 (0 : Int32)) rb.2.1 (rb.2.1 (P + 5)) U H 0 := by
        obtain ⟨r0, g0, U0, H0, G0, K0, w⟩ := w0
        obtain ⟨-, -, -, nw, hn, a1, -⟩ := w.2.2.2.2.2.2.2.2
        refine ⟨by omega, zu_eq, s6, nw, hn, ?_, fun k hk => absurd hk (Nat.not_lt_zero k)⟩
        rw [zu_ne (by omega), kt _ _ (by omega), zu_ne (by omega), kA _ _ (by omega)]
        exact a1
      obtain ⟨A5, c1, c2, c3, c4⟩ := t_done (C := C) (v := zu A3 (C + 25) 0 (0 : Int32) (C + 17) 1) e7 e8 (hjb.2.1.row e7 e8 d1 d2) (fun _ _ => rfl) gF hp
      rw [zB_s c1]
      have kall : ∀ j, A5 (C + 3) j = a.2.1 (C + 3) j := fun j => by
        rw [c4 _ _ (by omega) (by omega), zu_ne (by omega), kt _ _ (by omega), zu_ne (by omega)]
      refine ⟨_, rfl, rb, rfl, fun _ => ⟨hH, ⟨?_, ?_⟩, ⟨_, _, _, _, _, _, c2⟩, Or.inl c3⟩⟩
      · show A5 (C + 3) 1 = rb.2.1 P 13
        rw [kall 1, w5]
        exact hFR.1
      · show A5 (C + 3) 2 = rb.2.1 P 14
        rw [kall 2, w6]
        exact hFR.2
    · obtain ⟨A4, eg, kg⟩ := v_X7_changed (P := C) (v0 := zu A3 (C + 25) 0 (0 : Int32) (C + 17) 1) (M0 := zu A3 (C + 25) 0 (0 : Int32))
      rw [zB_s eg]
      exact ⟨_, rfl, rb, rfl, fun z => absurd z hjb⟩
theorem t_loadE {C P : Nat} {v0 : Int32} {A B : zMt} {NA NB : zNt} (hT : tpe C P A B) (hJ : jJ P B) (hf : flt C P A B) (w0 : eqE C P A B) : two (D_X7_load C v0 A NA) (D_X8_load P v0 B NB) (ldR C P A) := by
  obtain ⟨a, ea, b, eb, h⟩ := t_loadI (NA := NA) (NB := NB) (v0 := v0) hT hJ hf w0
  obtain ⟨b', eb', -, -, hJ2, -⟩ := v_X8_load (P := P) (M0 := B) (N0 := NB) (v0 := v0) hJ.1 hJ.2.1 hJ.2.2.1 hJ.2.2.2.1 hJ.2.2.2.2
  rw [eb] at eb'
  cases eb'
  exact ⟨a, ea, b, eb, h hJ2⟩
