/-! the line of what somebody asks for -/
def bOf (A : zMt) (Q G h base : Nat) : Prop := (A (Q + 5) h = -1 ∧ base = 20 + 3 * h) ∨ ∃ g, g < G ∧ A (Q + 5) h = nI g ∧ base = 50 + 3 * g
/-- who asks: the hunters as bits, the place of their choices -/
def aK (Q P : Nat) (A B : zMt) (H G : Nat) (s : Int32) (base : Nat) : Prop :=
  ((∃ h, h < H ∧ base = 20 + 3 * h) ∨ ∃ g, g < G ∧ base = 50 + 3 * g) ∧
  (∀ h, h < 10 → bitAt s h → h < H ∧ bOf A Q G h base) ∧ (∀ h, h < H → bOf A Q G h base → bitAt s h) ∧ (∀ k, k < 3 → B (P + 2) (base + k) = -1)
theorem d_asks {Q P : Nat} {A A' B B' : zMt} {U H G c base : Nat} {s : Int32} {w : Nat → Int32} (hC : dC Q P A B U H G) (hR : dR Q P A B U H G) (hK : aK Q P A B H G s base) (hc : c ≤ 3) (hw : ∀ k, k < 3 → (k < c ↔ ¬ w k = -1))
    (a : gA Q (fun r j => (r = Q + 6 ∧ j < H ∧ bitAt s j) ∨ (r = Q + 7 ∧ ∃ h k, h < H ∧ k < 3 ∧ j = 3 * h + k ∧ bitAt s h)) A A') (a1 : ∀ h, h < H → bitAt s h → A' (Q + 6) h = nI c) (a2 : ∀ h k, h < H → k < 3 → bitAt s h → A' (Q + 7) (3 * h + k) = w k)
    (b : gB P (fun r j => r = P + 2 ∧ base ≤ j ∧ j < base + 3) B B') (b1 : ∀ k, k < 3 → B' (P + 2) (base + k) = w k) : dC Q P A' B' U H G ∧ dR Q P A' B' U H G := by
  have a : ∀ r j, ¬ (r = Q ∧ (j = 5 ∨ j = 6 ∨ j = 7 ∨ j = 9)) → ¬ r = Q + 13 → ¬ ((r = Q + 6 ∧ j < H ∧ bitAt s j) ∨ (r = Q + 7 ∧ ∃ h k, h < H ∧ k < 3 ∧ j = 3 * h + k ∧ bitAt s h)) → A' r j = A r j := a
  have b : ∀ r j, ¬ (r = P ∧ ((16 ≤ j ∧ j ≤ 20) ∨ j = 31)) → ¬ (r = P + 2 ∧ base ≤ j ∧ j < base + 3) → B' r j = B r j := b
  obtain ⟨k1, k2, k3, k4⟩ := hK
  obtain ⟨c1, c2, c3, c4, c5, c6, c7, c8, c9⟩ := hC
  obtain ⟨r1, r2, r3, r4, r5, r6, r7, r8, r9, ⟨s1, s2, s3⟩, ⟨u1, u2, u3, u4, u5⟩⟩ := hR
  have aR : ∀ i j, (1 ≤ i ∧ i ≤ 8 ∧ i ≠ 6 ∧ i ≠ 7) → A' (Q + i) j = A (Q + i) j := fun i j hi => a (Q + i) j (by omega) (by omega) (by rintro (⟨h1, -⟩ | ⟨h1, -⟩) <;> omega)
  have bR : ∀ j, (j < 20 ∨ 62 ≤ j) → B' (P + 2) j = B (P + 2) j := fun j hj => b (P + 2) j (by omega) (by
    rcases k1 with ⟨h, z1, z2⟩ | ⟨g, z1, z2⟩ <;> omega)
  have bQ : ∀ j, (28 ≤ j ∧ j ≤ 30) → B' P j = B P j := fun j hj => b P j (by omega) (by omega)
  have b6 : ∀ j, B' (P + 6) j = B (P + 6) j := fun j => b (P + 6) j (by omega) (by omega)
  have key : ∀ h base', h < 10 → ((A (Q + 5) h = -1 ∧ base' = 20 + 3 * h) ∨ ∃ g, g < G ∧ A (Q + 5) h = nI g ∧ base' = 50 + 3 * g) → wsh A B Q P h base' → wsh A' B' Q P h base' := fun h base' hh hb w0 => by
    by_cases q : bitAt s h
    · obtain ⟨q1, q2⟩ := k2 h hh q
      have e : base' = base := by
        rcases hb with ⟨z1, z2⟩ | ⟨g, z1, z2, z3⟩
        · rcases q2 with ⟨y1, y2⟩ | ⟨g', y1, y2, y3⟩
          · omega
          · exact absurd (y2.symm.trans z1) (nI_ne (by omega))
        · rcases q2 with ⟨y1, y2⟩ | ⟨g', y1, y2, y3⟩
          · exact absurd (z2.symm.trans y1) (nI_ne (by omega))
          · have : g = g' := nI_inj (by omega) (by omega) (z2.symm.trans y2)
            omega
      subst e
      exact ⟨c, hc, a1 h q1 q, fun k hk => by rw [a2 h k q1 hk q, b1 k hk], fun k hk => by rw [b1 k hk]; exact hw k hk⟩
    · have hne : base' + 3 ≤ base ∨ base + 3 ≤ base' := by
        have hn : ¬ base' = base := fun z => by
          subst z
          by_cases hH : h < H
          · exact q (k3 h hH hb)
          · rcases hb with ⟨z1, z2⟩ | ⟨g, z1, z2, z3⟩
            · rcases k1 with ⟨h', y1, y2⟩ | ⟨g, y1, y2⟩ <;> omega
            · rcases (r4 h hh).2.2 with y | y
              · omega
              · exact absurd (z2.symm.trans y) (nI_ne (by omega))
        rcases k1 with ⟨h', y1, y2⟩ | ⟨g, y1, y2⟩ <;> rcases hb with ⟨z1, z2⟩ | ⟨g', z1, z2, z3⟩ <;> omega
      refine w0.k (a (Q + 6) h (by omega) (by omega) ?_) (fun k hk => a (Q + 7) _ (by omega) (by omega) ?_) (fun k hk => b (P + 2) _ (by omega) (by omega))
      · rintro (⟨-, -, z⟩ | ⟨z, -⟩)
        · exact q z
        · omega
      · rintro (⟨z, -⟩ | ⟨-, h', k', y1, y2, y3, y4⟩)
        · omega
        · have : h' = h := by omega
          exact q (this ▸ y4)
  refine ⟨⟨c1, c2, c3, ?_, ?_, ?_, ?_, ?_, ?_⟩, ⟨fun u hu => ?_, fun h hh => ?_, fun h hh => ?_, fun h hh => ?_, fun h hh he => ?_, fun h g hh hg he => ?_, fun g k h1 h2 h3 => ?_, fun h h1 h2 => ?_, fun g hg => ?_, ⟨?_, ?_, ?_⟩, ⟨?_, ?_, fun h hh => ⟨?_, ?_⟩, fun u hu1 hu2 => ?_, fun h hh1 hh2 => ?_⟩⟩⟩
  · rw [aR 1 0 (by omega)]; exact c4
  · rw [bQ 28 (by omega)]; exact c5
  · rw [aR 1 1 (by omega)]; exact c6
  · rw [bQ 29 (by omega)]; exact c7
  · rw [aR 1 2 (by omega)]; exact c8
  · rw [bQ 30 (by omega)]; exact c9
  · rw [aR 2 u (by omega), bR (62 + u) (by omega)]; exact r1 u hu
  · rw [aR 3 h (by omega), bR h (by omega)]; exact r2 h hh
  · rw [aR 4 h (by omega), b6 h]; exact r3 h hh
  · rw [aR 5 h (by omega), bR (10 + h) (by omega)]; exact r4 h hh
  · rw [aR 5 h (by omega)] at he
    exact key h _ hh (Or.inl ⟨he, rfl⟩) (r5 h hh he)
  · rw [aR 5 h (by omega)] at he
    exact key h _ hh (Or.inr ⟨g, hg, he, rfl⟩) (r6 h g hh hg he)
  · rw [b (P + 2) (50 + 3 * g + k) (by omega) (by rcases k1 with ⟨h', y1, y2⟩ | ⟨g', y1, y2⟩ <;> omega)]; exact r7 g k h1 h2 h3
  · rw [a (Q + 6) h (by omega) (by omega) (by rintro (⟨-, z, -⟩ | ⟨z, -⟩) <;> omega)]; exact r8 h h1 h2
  · obtain ⟨h, h1, h2⟩ := r9 g hg
    exact ⟨h, h1, by rw [aR 5 h (by omega)]; exact h2⟩
  · rw [aR 1 3 (by omega), bR 67 (by omega)]; exact s1
  · rw [aR 1 4 (by omega), bR 68 (by omega)]; exact s2
  · rw [aR 1 5 (by omega), bR 69 (by omega)]; exact s3
  · rw [aR 1 6 (by omega)]; exact u1
  · rw [bR 71 (by omega)]; exact u2
  · rw [aR 8 h (by omega)]; exact (u3 h hh).1
  · rw [bR (72 + h) (by omega)]; exact (u3 h hh).2
  · rw [aR 2 u (by omega)]; exact u4 u (by omega) hu2
  · rw [aR 4 h (by omega)]; exact u5 h (by omega) hh2
/-- the class writes the choices down -/
theorem c_wish38 {R H : Nat} {s x2 x3 x4 x5 : Int32} (hH : H ≤ 10) : ∀ (u h0 : Nat) (A : zMt), A R 1 = nI H → h0 ≤ H → H - h0 < u → ∃ A', D_X4_wishFor_38 R u s x2 x3 x4 x5 (nI h0) A = some A' ∧ (∀ h, h0 ≤ h → h < H → bitAt s h → A' (R + 5) h = x5 ∧ A' (R + 6) (3 * h) = x2 ∧ A' (R + 6) (3 * h + 1) = x3 ∧ A' (R + 6) (3 * h + 2) = x4) ∧ (∀ r j, ¬ (r = R + 5 ∧ j < H ∧ bitAt s j) → ¬ (r = R + 6 ∧ ∃ h k, h < H ∧ k < 3 ∧ j = 3 * h + k ∧ bitAt s h) → A' r j = A r j) ∧ (∀ j, j < h0 → A' (R + 5) j = A (R + 5) j) ∧ (∀ j, j < 3 * h0 → A' (R + 6) j = A (R + 6) j) := by
  intro u
  induction u with
  | zero => intro h0 A _ _ h; omega
  | succ u ih =>
    intro h0 A h1 hk hu
    rw [D_X4_wishFor_38, h1]
    by_cases hc : H ≤ h0
    · rw [if_pos ((nI_leI (by omega) (by omega)).mpr hc)]
      exact ⟨A, rfl, fun h q1 q2 => by omega, fun _ _ _ _ => rfl, fun _ _ => rfl, fun _ _ => rfl⟩
    · rw [if_neg (fun q => hc ((nI_leI (by omega) (by omega)).mp q))]
      by_cases hb : bitAt s h0
      · have e3 : nI h0 * (3 : Int32) = nI (3 * h0) := (show ∀ k, k < 10 → nI k * (3 : Int32) = nI (3 * k) by decide) h0 (by omega)
        have e4 : nI (3 * h0) + (1 : Int32) = nI (3 * h0 + 1) := nI_add1
        have e5 : nI (3 * h0) + (2 : Int32) = nI (3 * h0 + 2) := (show ∀ k, k < 10 → nI (3 * k) + (2 : Int32) = nI (3 * k + 2) by decide) h0 (by omega)
        rw [if_pos (show ((s >>> (nI h0 &&& 31)) &&& (1 : Int32)) = (1 : Int32) from hb), e3, e4, e5, zwr_nI (by omega) (by decide)]
        show ∃ A', (zLt (zwr (zu A (R + 5) h0 x5) (R + 6) 30 (nI (3 * h0)) x2) fun M_77 => zLt (zwr M_77 (R + 6) 30 (nI (3 * h0 + 1)) x3) fun M_91 => zLt (zwr M_91 (R + 6) 30 (nI (3 * h0 + 2)) x4) fun M_106 => D_X4_wishFor_38 R u s x2 x3 x4 x5 (nI h0 + 1) M_106) = some A' ∧ _
        rw [zwr_nI (by omega) (by decide)]
        show ∃ A', (zLt (zwr (zu (zu A (R + 5) h0 x5) (R + 6) (3 * h0) x2) (R + 6) 30 (nI (3 * h0 + 1)) x3) fun M_91 => zLt (zwr M_91 (R + 6) 30 (nI (3 * h0 + 2)) x4) fun M_106 => D_X4_wishFor_38 R u s x2 x3 x4 x5 (nI h0 + 1) M_106) = some A' ∧ _
        rw [zwr_nI (by omega) (by decide)]
        show ∃ A', (zLt (zwr (zu (zu (zu A (R + 5) h0 x5) (R + 6) (3 * h0) x2) (R + 6) (3 * h0 + 1) x3) (R + 6) 30 (nI (3 * h0 + 2)) x4) fun M_106 => D_X4_wishFor_38 R u s x2 x3 x4 x5 (nI h0 + 1) M_106) = some A' ∧ _
        rw [zwr_nI (by omega) (by decide), nI_add1]
        generalize hA2 : zu (zu (zu (zu A (R + 5) h0 x5) (R + 6) (3 * h0) x2) (R + 6) (3 * h0 + 1) x3) (R + 6) (3 * h0 + 2) x4 = A2
        have g0 : ∀ r j, ¬ (r = R + 5 ∧ j = h0) → ¬ (r = R + 6 ∧ 3 * h0 ≤ j ∧ j < 3 * h0 + 3) → A2 r j = A r j := fun r j q1 q2 => by
          rw [← hA2, zu_ne (by omega), zu_ne (by omega), zu_ne (by omega), zu_ne (by omega)]
        have g1 : A2 (R + 5) h0 = x5 := by rw [← hA2, zu_ne (by omega), zu_ne (by omega), zu_ne (by omega), zu_eq]
        have g2 : A2 (R + 6) (3 * h0) = x2 := by rw [← hA2, zu_ne (by omega), zu_ne (by omega), zu_eq]
        have g3 : A2 (R + 6) (3 * h0 + 1) = x3 := by rw [← hA2, zu_ne (by omega), zu_eq]
        have g4 : A2 (R + 6) (3 * h0 + 2) = x4 := by rw [← hA2, zu_eq]
        show ∃ A', D_X4_wishFor_38 R u s x2 x3 x4 x5 (nI (h0 + 1)) A2 = some A' ∧ _
        obtain ⟨A', f1, f2, f3, f4, f5⟩ := ih (h0 + 1) A2 ((g0 R 1 (by omega) (by omega)).trans h1) (by omega) (by omega)
        refine ⟨A', f1, fun h q1 q2 q3 => ?_, fun r j q1 q2 => ?_, fun j q => ?_, fun j q => ?_⟩
        · by_cases z : h = h0
          · subst z
            rw [f4 h (by omega), f5 (3 * h) (by omega), f5 (3 * h + 1) (by omega), f5 (3 * h + 2) (by omega)]
            exact ⟨g1, g2, g3, g4⟩
          · exact f2 h (by omega) q2 q3
        · refine (f3 r j q1 q2).trans (g0 r j (fun z => q1 ⟨z.1, by omega, z.2 ▸ hb⟩) (fun z => q2 ⟨z.1, h0, j - 3 * h0, by omega, by omega, by omega, hb⟩))
        · exact (f4 j (by omega)).trans (g0 (R + 5) j (by omega) (by omega))
        · exact (f5 j (by omega)).trans (g0 (R + 6) j (by omega) (by omega))
      · rw [if_neg (show ¬ ((s >>> (nI h0 &&& 31)) &&& (1 : Int32)) = (1 : Int32) from hb)]
        show ∃ A', D_X4_wishFor_38 R u s x2 x3 x4 x5 (nI h0 + 1) A = some A' ∧ _
        rw [nI_add1]
        obtain ⟨A', f1, f2, f3, f4, f5⟩ := ih (h0 + 1) A h1 (by omega) (by omega)
        refine ⟨A', f1, fun h q1 q2 q3 => ?_, f3, fun j q => f4 j (by omega), fun j q => f5 j (by omega)⟩
        have : h ≠ h0 := fun z => hb (z ▸ q3)
        exact f2 h (by omega) q2 q3
theorem c_wish {R H c : Nat} {s : Int32} {w : Nat → Int32} {A : zMt} (hH : H ≤ 10) (h1 : A R 1 = nI H) (hc : c ≤ 3) (hw : ∀ k, k < 3 → (k < c ↔ ¬ w k = -1)) : ∃ A', D_X4_wishFor R s (w 0) (w 1) (w 2) A = some A' ∧ (∀ h, h < H → bitAt s h → A' (R + 5) h = nI c ∧ ∀ k, k < 3 → A' (R + 6) (3 * h + k) = w k) ∧ (∀ r j, ¬ (r = R + 5 ∧ j < H ∧ bitAt s j) → ¬ (r = R + 6 ∧ ∃ h k, h < H ∧ k < 3 ∧ j = 3 * h + k ∧ bitAt s h) → A' r j = A r j) := by
  have main : ∀ y : Int32, y = nI c → ∃ A', D_X4_wishFor_38 R zFu s (w 0) (w 1) (w 2) y (0 : Int32) A = some A' ∧ (∀ h, h < H → bitAt s h → A' (R + 5) h = nI c ∧ ∀ k, k < 3 → A' (R + 6) (3 * h + k) = w k) ∧ (∀ r j, ¬ (r = R + 5 ∧ j < H ∧ bitAt s j) → ¬ (r = R + 6 ∧ ∃ h k, h < H ∧ k < 3 ∧ j = 3 * h + k ∧ bitAt s h) → A' r j = A r j) := fun y hy => by
    obtain ⟨A', f1, f2, f3, -, -⟩ := c_wish38 (R := R) (s := s) (x2 := w 0) (x3 := w 1) (x4 := w 2) (x5 := y) hH zFu 0 A h1 (by omega) (by unfold zFu; omega)
    rw [show nI 0 = (0 : Int32) by decide] at f1
    refine ⟨A', f1, fun h q1 q2 => ?_, f3⟩
    obtain ⟨g1, g2, g3, g4⟩ := f2 h (Nat.zero_le h) q1 q2
    refine ⟨g1.trans hy, fun k hk => ?_⟩
    have : k = 0 ∨ k = 1 ∨ k = 2 := by omega
    rcases this with rfl | rfl | rfl
    · exact g2
    · exact g3
    · exact g4
  have d0 := hw 0 (by omega)
  have d1 := hw 1 (by omega)
  have d2 := hw 2 (by omega)
  unfold D_X4_wishFor D_X4_wishFor_10 D_X4_wishFor_20 D_X4_wishFor_32
  have hcc : c = 0 ∨ c = 1 ∨ c = 2 ∨ c = 3 := by omega
  rcases hcc with rfl | rfl | rfl | rfl
  · have e0 : w 0 = -1 := Classical.byContradiction (fun z => absurd (d0.mpr z) (by omega))
    have e1 : w 1 = -1 := Classical.byContradiction (fun z => absurd (d1.mpr z) (by omega))
    have e2 : w 2 = -1 := Classical.byContradiction (fun z => absurd (d2.mpr z) (by omega))
    rw [if_pos e0, if_pos e1, if_pos e2]
    exact main _ (by decide)
  · have e0 : ¬ w 0 = -1 := d0.mp (by omega)
    have e1 : w 1 = -1 := Classical.byContradiction (fun z => absurd (d1.mpr z) (by omega))
    have e2 : w 2 = -1 := Classical.byContradiction (fun z => absurd (d2.mpr z) (by omega))
    rw [if_neg e0, if_pos e1, if_pos e2]
    exact main _ (by decide)
  · have e0 : ¬ w 0 = -1 := d0.mp (by omega)
    have e1 : ¬ w 1 = -1 := d1.mp (by omega)
    have e2 : w 2 = -1 := Classical.byContradiction (fun z => absurd (d2.mpr z) (by omega))
    rw [if_neg e0, if_neg e1, if_pos e2]
    exact main _ (by decide)
  · have e0 : ¬ w 0 = -1 := d0.mp (by omega)
    have e1 : ¬ w 1 = -1 := d1.mp (by omega)
    have e2 : ¬ w 2 = -1 := d2.mp (by omega)
    rw [if_neg e0, if_neg e1, if_neg e2]
    exact main _ (by decide)
