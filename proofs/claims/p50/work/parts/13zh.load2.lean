theorem ld9_21 {P : Nat} {v : Int32} {M : zMt} : ld9 P v M P 21 = 0 := by
  unfold ld9
  rw [zu_ne (by omega), zu_ne (by omega), zu_ne (by omega), zu_ne (by omega), zu_ne (by omega), zu_eq]
theorem ld9_22 {P : Nat} {v : Int32} {M : zMt} : ld9 P v M P 22 = -1 := by
  unfold ld9
  rw [zu_ne (by omega), zu_ne (by omega), zu_ne (by omega), zu_ne (by omega), zu_eq]
theorem ld9_23 {P : Nat} {v : Int32} {M : zMt} : ld9 P v M P 23 = 0 := by
  unfold ld9
  rw [zu_ne (by omega), zu_ne (by omega), zu_ne (by omega), zu_eq]
theorem c_take1 {R S : Nat} {A : zMt} (h : ¬ S = R) : ∃ A', D_X4_take R S A = some A' ∧ A' R 1 = A S 1 := by
  refine ⟨_, rfl, ?_⟩
  rw [zcpy_ne (by omega), zcpy_ne (by omega), zcpy_ne (by omega), zcpy_ne (by omega), zcpy_ne (by omega), zcpy_ne (by omega), zcpy_ne (by omega), zu_ne (by omega), zu_ne (by omega), zu_ne (by omega), zu_ne (by omega), zu_ne (by omega), zu_eq, zu_ne (by omega)]
/-- the class's reading begins -/
theorem c_readB {Q T n : Nat} {A : zMt} {NA : zNt} {v : Int32} (hv : v = nI n) (hn : n ≤ 700) (hT : T < Q ∨ Q + 14 ≤ T) : ∃ A', D_X3_read Q T 700 v A NA = (zB (D_X3_step Q A' NA) fun e => D_X3_read_62 Q T 700 zFu (0 : Int32) e.1 e.2) ∧ tx Q n (A T) A' ∧ A' Q 5 = 0 ∧ A' Q 1 = 0 ∧ A' Q 2 = -1 ∧ A' Q 11 = 0 ∧ A' Q 12 = 0 ∧ A' Q 13 = 0 ∧
    A' (Q + 1) 0 = 0 ∧ A' (Q + 1) 1 = 0 ∧ A' (Q + 1) 2 = 0 ∧ A' (Q + 1) 3 = 0 ∧ A' (Q + 1) 4 = 0 ∧ A' (Q + 1) 5 = 100 ∧ A' (Q + 1) 6 = 0 ∧ (∀ j, j < 5 → A' (Q + 2) j = 0) ∧ (∀ j, j < 10 → A' (Q + 3) j = 0) ∧ (∀ j, j < 10 → A' (Q + 4) j = 0) ∧ (∀ j, j < 10 → A' (Q + 5) j = -1) ∧ (∀ j, j < 10 → A' (Q + 6) j = 0) ∧ (∀ j, j < 30 → A' (Q + 7) j = -1) ∧ (∀ j, j < 10 → A' (Q + 8) j = -1) := by
  have ev : (if (700 : Int32) < v then (700 : Int32) else v) = nI n := by
    rw [hv]
    by_cases q : (700 : Int32) < nI n
    · exact absurd ((ltL (x := 700) (a := 700) (by decide) (by decide) (by omega)).mp q) (by omega)
    · rw [if_neg q]
  unfold D_X3_read
  rw [ev]
  show ∃ A', (zB (D_X4_clear (Q + 1) (zu (zu (zu (zu (zu (zcpy A (Q + 9) 700 (fun j => zrd 0 (A T) 700 (nI j))) Q 4 (nI n)) Q 5 (0 : Int32)) Q 11 (0 : Int32)) Q 12 (0 : Int32)) Q 13 (0 : Int32))) fun e_43 => zB (D_X3_step Q (zu (zu e_43 Q 1 (0 : Int32)) Q 2 (-1 : Int32)) NA) fun e_57 => D_X3_read_62 Q T 700 zFu (0 : Int32) e_57.1 e_57.2) = _ ∧ _
  obtain ⟨A1, e1, k1, c0, c1, c2, c3, c4, c5, c6, d1, d2, d3, d4, d5, d6, d7⟩ := c_clear9 (R := Q + 1) (A := zu (zu (zu (zu (zu (zcpy A (Q + 9) 700 (fun j => zrd 0 (A T) 700 (nI j))) Q 4 (nI n)) Q 5 (0 : Int32)) Q 11 (0 : Int32)) Q 12 (0 : Int32)) Q 13 (0 : Int32))
  rw [zB_s e1]
  have kS : ∀ r j, ¬ (r = Q ∧ (j = 1 ∨ j = 2)) → zu (zu A1 Q 1 (0 : Int32)) Q 2 (-1 : Int32) r j = A1 r j := fun r j h => (zu_ne (by omega)).trans (zu_ne (by omega))
  have kR : ∀ i j, (1 ≤ i ∧ i ≤ 8) → zu (zu A1 Q 1 (0 : Int32)) Q 2 (-1 : Int32) (Q + i) j = A1 (Q + i) j := fun i j hi => kS _ _ (by omega)
  have e4 : A1 Q 4 = nI n := (k1 Q 4 (by omega)).trans ((zu_ne (by omega)).trans ((zu_ne (by omega)).trans ((zu_ne (by omega)).trans ((zu_ne (by omega)).trans zu_eq))))
  have e5 : A1 Q 5 = 0 := (k1 Q 5 (by omega)).trans ((zu_ne (by omega)).trans ((zu_ne (by omega)).trans ((zu_ne (by omega)).trans zu_eq)))
  have e11 : A1 Q 11 = 0 := (k1 Q 11 (by omega)).trans ((zu_ne (by omega)).trans ((zu_ne (by omega)).trans zu_eq))
  have e12 : A1 Q 12 = 0 := (k1 Q 12 (by omega)).trans ((zu_ne (by omega)).trans zu_eq)
  have e13 : A1 Q 13 = 0 := (k1 Q 13 (by omega)).trans zu_eq
  have e9 : ∀ k, k < n → A1 (Q + 9) k = A T k := fun k hk => by
    rw [k1 (Q + 9) k (by omega), zu_ne (by omega), zu_ne (by omega), zu_ne (by omega), zu_ne (by omega), zu_ne (by omega), zcpy_in (by omega), zrd_nI (by omega) (by decide)]
  refine ⟨zu (zu A1 Q 1 (0 : Int32)) Q 2 (-1 : Int32), rfl, ⟨hn, (kS Q 4 (by omega)).trans e4, fun k hk => (kS (Q + 9) k (by omega)).trans (e9 k hk)⟩, (kS Q 5 (by omega)).trans e5, (zu_ne (by omega)).trans zu_eq, zu_eq, (kS Q 11 (by omega)).trans e11, (kS Q 12 (by omega)).trans e12, (kS Q 13 (by omega)).trans e13, (kR 1 0 (by omega)).trans c0, (kR 1 1 (by omega)).trans c1, (kR 1 2 (by omega)).trans c2, (kR 1 3 (by omega)).trans c3, (kR 1 4 (by omega)).trans c4, (kR 1 5 (by omega)).trans c5, (kR 1 6 (by omega)).trans c6, fun j hj => (kR 2 j (by omega)).trans (d1 j hj), fun j hj => (kR 3 j (by omega)).trans (d2 j hj), fun j hj => (kR 4 j (by omega)).trans (d3 j hj), fun j hj => (kR 5 j (by omega)).trans (d4 j hj), fun j hj => (kR 6 j (by omega)).trans (d5 j hj), fun j hj => (kR 7 j (by omega)).trans (d6 j hj), fun j hj => (kR 8 j (by omega)).trans (d7 j hj)⟩
/-- what of a fault both would tell -/
def flt (C P : Nat) (A B : zMt) : Prop := A (C + 3) 1 = B P 13 ∧ A (C + 3) 2 = B P 14
theorem t_load {C P : Nat} {v0 : Int32} {A B : zMt} {NA NB : zNt} (hT : tpe C P A B) (hJ : jJ P B) (hf : flt C P A B) : ∃ a, D_X7_load C v0 A NA = some a ∧ ∃ b, D_X8_load P v0 B NB = some b ∧ a.1 = b.1 ∧ flt C P a.2.1 b.2.1 := by
  obtain ⟨m, hm, h1, h11, hk⟩ := hT
  have o0 : (0 : Int32).toInt = 0 := by decide
  have o1 : (1 : Int32).toInt = 1 := by decide
  have o0l : (0 : Int64).toInt = 0 := by decide
  have n0 : (0 : Int32) = nI 0 := by decide
  obtain ⟨r, hr, qr1, qr2⟩ := v_X8_isFrom (v0 := Int32.toInt64 v0) (v1 := (0 : Int64)) (v2 := Int32.toInt64 (B P 11))
  rw [Int32.toInt_toInt64, Int32.toInt_toInt64, o0l, h11, nI_toInt (by omega)] at qr2
  unfold D_X7_load D_X8_load
  rw [zB_s hr, h1]
  have refu : ∃ a, D_X7_load_12 C A NA = some a ∧ ∃ b, (zB (D_X8_refuse P (1 : Int32) B) fun e_16 => some (e_16.1, e_16.2, NB)) = some b ∧ a.1 = b.1 ∧ flt C P a.2.1 b.2.1 := by
    refine ⟨_, rfl, _, rfl, rfl, ?_, ?_⟩
    · show zu A C 0 (1 : Int32) (C + 3) 1 = zu (zu B P 6 (0 : Int32)) P 12 (1 : Int32) P 13
      rw [zu_ne (by omega), zu_ne (by omega), zu_ne (by omega)]
      exact hf.1
    · show zu A C 0 (1 : Int32) (C + 3) 2 = zu (zu B P 6 (0 : Int32)) P 12 (1 : Int32) P 14
      rw [zu_ne (by omega), zu_ne (by omega), zu_ne (by omega)]
      exact hf.2
  by_cases hneg : v0 < 0
  · have := Int32.lt_iff_toInt_lt.mp hneg
    have hr0 : r = 0 := by
      rcases qr2 with ⟨_, w, _⟩ | ⟨w, _⟩
      · rw [o0] at this; omega
      · exact Int32.toInt_inj.mp (w.trans o0.symm)
    rw [if_pos hneg, if_pos hr0]
    exact refu
  have hge := Int32.le_iff_toInt_le.mp (Int32.not_lt.mp hneg)
  rw [o0] at hge
  rw [if_neg hneg]
  by_cases hle : ¬ v0 ≤ nI m
  · have hgt := Int32.lt_iff_toInt_lt.mp (Int32.not_le.mp hle)
    rw [nI_toInt (by omega)] at hgt
    have hr0 : r = 0 := by
      rcases qr2 with ⟨_, _, w⟩ | ⟨w, _⟩
      · omega
      · exact Int32.toInt_inj.mp (w.trans o0.symm)
    rw [if_neg hle, if_pos hr0]
    exact refu
  have hle : v0 ≤ nI m := Classical.byContradiction hle
  have hle2 := Int32.le_iff_toInt_le.mp hle
  rw [nI_toInt (by omega)] at hle2
  have hr1 : ¬ r = 0 := fun z => by
    rcases qr2 with ⟨w, _⟩ | ⟨_, w⟩
    · rw [z, o0] at w; omega
    · omega
  rw [if_pos hle, if_neg hr1]
  have hnI : v0 = nI v0.toInt.toNat := z_toN hge
  have hnn : (v0.toInt.toNat : Int) = v0.toInt := by omega
  generalize v0.toInt.toNat = n at hnI hnn
  have hnm : n ≤ m := by omega
  obtain ⟨A1, ec, tx1, f5, f1, f2, f11, f12, f13, c0, c1, c2, c3, c4, c5, c6, d1, d2, d3, d4, d5, d6, d7⟩ := c_readB (Q := C + 3) (T := C + 1) (n := n) (A := A) (NA := NA) hnI (by omega) (by omega)
  rw [ld9_let]
  obtain ⟨B1, eb, b1, b2, b3, b4⟩ := w_X8_begins (Q := P + 2) (M0 := ld9 P v0 B)
  obtain ⟨B1', eb', b5⟩ := w_beg (Q := P + 2) (M0 := ld9 P v0 B)
  rw [eb] at eb'
  cases eb'
  rw [zB_s eb]
  have g : ∀ a j, ¬ ((a = P + 2 ∧ j < 82) ∨ (a = P ∧ (j = 15 ∨ j = 11 ∨ j = 17 ∨ j = 21 ∨ j = 22 ∨ j = 23 ∨ j = 28 ∨ j = 29 ∨ j = 30))) → B1 a j = B a j := fun a j h => (b1 a j (by omega)).trans (ld9_ne (by omega))
  have g15 : B1 P 15 = v0 := (b1 P 15 (by omega)).trans ld9_15
  have g17 : B1 P 17 = 0 := (b1 P 17 (by omega)).trans ld9_17
  have g28 : B1 P 28 = 0 := (b1 P 28 (by omega)).trans ld9_28
  have g29 : B1 P 29 = 0 := (b1 P 29 (by omega)).trans ld9_29
  have g30 : B1 P 30 = 0 := (b1 P 30 (by omega)).trans ld9_30
  have g21 : B1 P 21 = 0 := (b1 P 21 (by omega)).trans ld9_21
  have g22 : B1 P 22 = -1 := (b1 P 22 (by omega)).trans ld9_22
  have g23 : B1 P 23 = 0 := (b1 P 23 (by omega)).trans ld9_23
  have ty1 : ty P n (A (C + 1)) B1 := ⟨by omega, g15.trans hnI, fun k hk' => ⟨(g (P + 7) k (by omega)).trans (hk k (by omega)).1.symm, (hk k (by omega)).2⟩⟩
  have jx : jX P B1 := by unfold jX; rw [g15, g17, o0]; omega
  have jy : jY P B1 := by unfold jY; rw [g28, g29, g30, o0]; omega
  have jz : jZ P B1 := jZ.empty b2 b3 b4 g28 g29 g30
  have hD1 : dD (C + 3) P (A (C + 1)) A1 NA B1 NB := d_empty c0 c1 c2 c3 c4 c5 c6 d1 d2 d3 d4 d5 d6 d7 ⟨f1, f2, f11, f12, f13⟩ b2 b3 b4 (fun j hj1 hj2 => by
    have := b5 (j - 72) (by omega)
    rw [show 72 + (j - 72) = j by omega] at this
    exact this) ⟨g28, g29, g30, g21, g22, g23⟩
  obtain ⟨a1, e1, b6, e2, i1, ka1, kna1, kb1, knb1, x1, y1, k1, p1, q1, o1', w1, v1⟩ := t_step (NA := NA) (NB := NB) tx1 ty1 ⟨0, by omega, f5.trans n0, g17.trans n0⟩
  have hD2 := hD1.k ka1 kna1 kb1 knb1
  obtain ⟨b7, e3, kk1, kk2, -, jx', -, hle', hgr'⟩ := v_X8_next (M0 := B1) (N0 := NB) jx
  rw [e2] at e3
  cases e3
  rw [zB_s e2]
  have jy' : jY P b6.2.1 := jy.mono (fun a j h => kb1 a j (by omega))
  have jz' : jZ P b6.2.1 := jz.mono (fun a j h => kb1 a j (by omega))
  obtain ⟨z1, z2, z3, z4⟩ := id jx'
  have h18 : b6.2.1 P 18 = 0 ∨ ((0 : Nat) : Int) < (b6.2.1 P 17).toInt := by
    rcases hgr' with z | z
    · exact Or.inl (Int32.toInt_inj.mp (z.trans o0.symm))
    · rw [g17, o0] at z; exact Or.inr z
  obtain ⟨a, ea, x2, B2, NB2, em, hFR, hcase⟩ := t_lines (T := C + 1) (nT := 700) zFu 0 a1.1 a1.2 b6.2.1 b6.2.2 x1 y1 k1 (Or.inr (Or.inr hD2)) jx' jy' jz' h18 (Or.inr (by unfold zFu; omega)) (by omega)
  rw [show nI 0 = (0 : Int32) by decide] at ea
  rw [zB_s (ec.trans ((zB_s e1).trans ea)), em]
  obtain ⟨rb, e98, w3, w4, w5, w6⟩ := w_98v (P := P) (M := B2) (N := NB2) (x2 := x2)
  rw [e98]
  show ∃ a9, (if a.1 = 0 then zB (D_X7_refuse C (9 : Int32) (zu a.2.1 C 1 (0 : Int32))) fun e_43 => some (e_43.1, e_43.2, a.2.2) else zB (D_X4_take (C + 17) (C + 4) (zu a.2.1 C 1 (0 : Int32))) fun e_58 => zB (D_X1_forget (C + 25) e_58) fun e_65 => zB (D_X7_changed C (e_65 (C + 17) 1) e_65) fun e_76 => some (e_76.1, e_76.2, a.2.2)) = some a9 ∧ _
  rcases hcase with ⟨y1, y2⟩ | ⟨y1, y2, y3⟩
  · rw [if_pos y1]
    refine ⟨_, rfl, rb, rfl, (w3 y2).symm, ?_, ?_⟩
    · show zu (zu a.2.1 C 1 (0 : Int32)) C 0 (9 : Int32) (C + 3) 1 = rb.2.1 P 13
      rw [zu_ne (by omega), zu_ne (by omega), w5]
      exact hFR.1
    · show zu (zu a.2.1 C 1 (0 : Int32)) C 0 (9 : Int32) (C + 3) 2 = rb.2.1 P 14
      rw [zu_ne (by omega), zu_ne (by omega), w6]
      exact hFR.2
  · rw [if_neg (by rw [y1]; decide)]
    obtain ⟨A3, et, et1⟩ := c_take1 (R := C + 17) (S := C + 4) (A := zu a.2.1 C 1 (0 : Int32)) (by omega)
    obtain ⟨A3', et', kt⟩ := v_X4_take (Q := C + 17) (A := C + 4) (M0 := zu a.2.1 C 1 (0 : Int32))
    rw [et] at et'
    cases et'
    rw [zB_s et]
    have ef : D_X1_forget (C + 25) A3 = some (zu A3 (C + 25) 0 (0 : Int32)) := rfl
    rw [zB_s ef]
    obtain ⟨A4, eg, kg⟩ := v_X2_gather (Q := C + 91) (A := C + 17) (M0 := zu A3 (C + 25) 0 (0 : Int32))
    have hH : zu A3 (C + 25) 0 (0 : Int32) (C + 17) 1 = rb.1 := by
      obtain ⟨U, H, G, hC, -, -⟩ := y3.1
      rw [zu_ne (by omega), et1, zu_ne (by omega), w4 (by rw [y2]; decide)]
      exact hC.2.2.2.2.2.1.trans hC.2.2.2.2.2.2.1.symm
    have ech : D_X7_changed C (zu A3 (C + 25) 0 (0 : Int32) (C + 17) 1) (zu A3 (C + 25) 0 (0 : Int32)) = some (zu A3 (C + 25) 0 (0 : Int32) (C + 17) 1, zu (zu A4 C 3 (0 : Int32)) C 0 (0 : Int32)) := by
      unfold D_X7_changed
      rw [zB_s eg]
      rfl
    rw [zB_s ech]
    have kall : ∀ j, zu (zu A4 C 3 (0 : Int32)) C 0 (0 : Int32) (C + 3) j = a.2.1 (C + 3) j := fun j => by
      rw [zu_ne (by omega), zu_ne (by omega), kg (C + 3) j (by unfold WM_X2_gather; omega), zu_ne (by omega), kt (C + 3) j (by unfold WM_X4_take; omega), zu_ne (by omega)]
    refine ⟨_, rfl, rb, rfl, hH, ?_, ?_⟩
    · show zu (zu A4 C 3 (0 : Int32)) C 0 (0 : Int32) (C + 3) 1 = rb.2.1 P 13
      rw [kall 1, w5]
      exact hFR.1
    · show zu (zu A4 C 3 (0 : Int32)) C 0 (0 : Int32) (C + 3) 2 = rb.2.1 P 14
      rw [kall 2, w6]
      exact hFR.2
