/-! together, both sides -/
theorem ap_ex5 {r : Nat → Int32} {H G a : Nat} (ha : a < fr r H + G) (hp : ∀ p, p < G → ∃ h, h < H ∧ r (10 + h) = nI p) : ∃ h, memb r H a h := by
  by_cases q : a < fr r H
  · obtain ⟨h, h1, h2, h3⟩ := fr_ex H q
    exact ⟨h, h1, Or.inl ⟨h2, h3⟩⟩
  · obtain ⟨h, h1, h2⟩ := hp (a - fr r H) (by omega)
    exact ⟨h, h1, Or.inr ⟨by omega, h2⟩⟩
theorem t_view5 {Q U H G : Nat} {A : zMt} {r r0 g : Nat → Int32} (hH : H ≤ 10) (hU : U ≤ 5) (hFG : fr r H + G ≤ 10) (hpt : ∀ h : Nat, h < 10 → 0 ≤ (r h).toInt ∧ (r h).toInt ≤ 20) (hp : ∀ p, p < G → ∃ h, h < H ∧ r (10 + h) = nI p) (hw : ∀ a, a < fr r H + G → ∃ base, isBase r H a base ∧ ∀ k, k < 3 → -1 ≤ (r (base + k)).toInt ∧ (r (base + k)).toInt < U) (cu : cU Q A r0 U) (cl : cL Q A r g H G) : gP (tP Q A) (fr r H + G) U := by
  obtain ⟨u1, u2, u3⟩ := cu
  obtain ⟨l1, l2, l3⟩ := cl
  have hT : ∀ a, a < fr r H + G → isN (sT r H a) 1 401 := fun a ha => by
    obtain ⟨h, hm⟩ := ap_ex5 ha hp
    exact sT_rng hm hH hpt
  refine ⟨hFG, hU, l1, u1, fun a ha => ?_, ?_, u3⟩
  · obtain ⟨h, hm⟩ := ap_ex5 ha hp
    obtain ⟨q1, q2, q3, q4, q5, q6, q7, q8⟩ := l3 a ha
    refine ⟨?_, ?_, ?_, ?_⟩
    · show isN (A (Q + 5) a) 1 10
      rw [q4]; exact sN_rng hm hH
    · show isN (A (Q + 7) a) 0 20
      rw [q6]; exact sP_rng hm hH hpt
    · show isN (A (Q + 8) a) 1 401
      rw [q7]; exact hT a ha
    · obtain ⟨base, b1, b2⟩ := hw a ha
      obtain ⟨c, c1, c2, c3, c4⟩ := q3 base b1
      refine ⟨c, c1, c2, fun k hk => ?_, fun k hk hk3 => ?_⟩
      · have h1 := b2 k (by omega)
        have h2 := (c4 k (by omega)).mp hk
        have h3 : ¬ (r (base + k)).toInt = -1 := fun z => h2 (Int32.toInt_inj.mp (by rw [z]; decide))
        obtain ⟨v, v1, v2, v3⟩ := isN.of (x := r (base + k)) (lo := 0) (hi := U - 1) (by show ((0 : Nat) : Int) ≤ _; omega) (by omega)
        exact ⟨v, by omega, (c3 k (by omega)).trans v3⟩
      · show A (Q + 12) (3 * a + k) = -1
        rw [c3 k hk3]
        by_cases z : r (base + k) = -1
        · exact z
        · have := (c4 k hk3).mpr z
          omega
  · show (A Q 2).toInt = St (A (Q + 8)) 0 (fr r H + G)
    rw [l2]
    exact sTs_St _ hFG (fun a ha => ⟨(l3 a ha).2.2.2.2.2.2.1, by rw [(l3 a ha).2.2.2.2.2.2.1]; exact hT a ha⟩)
theorem cJ_sur {a0 a1 n x : Nat} (h : ¬ a0 = a1) (A0 : a0 < n) (A1 : a1 < n) (hx : x + 2 < n) : ∃ k, k < n ∧ ¬ k = a0 ∧ ¬ k = a1 ∧ cJ a0 a1 k = x := by
  have c0 := cJ_c (k := x) h
  have c1 := cJ_c (k := x + 1) h
  have c2 := cJ_c (k := x + 2) h
  by_cases q : x < a0 ∧ x < a1
  · exact ⟨x, by omega, by omega, by omega, by omega⟩
  · by_cases q1 : (x + 1 < a0 ∨ x + 1 < a1)
    · exact ⟨x + 1, by omega, by omega, by omega, by omega⟩
    · exact ⟨x + 2, by omega, by omega, by omega, by omega⟩
theorem nI_m3j : ∀ h, h < 10 → nI h * (3 : Int32) = nI (3 * h) ∧ nI h * (3 : Int32) + 1 = nI (3 * h + 1) ∧ nI h * (3 : Int32) + 2 = nI (3 * h + 2) := by decide
/-- the class joins two -/
theorem cc_join2 {R U H G h0 h1 : Nat} {A : zMt} {r r2 g : Nat → Int32} (w : gR R A r g U H G) (hj : jn r r2 h0 h1 G) (H0 : h0 < H) (H1 : h1 < H) (hne : ¬ h0 = h1) (e0 : r (10 + h0) = -1) (e1 : r (10 + h1) = -1) : ∃ A', D_X4_join R (nI h0) (nI h1) A = some A' ∧ gR5 R A' r2 g H (G + 1) ∧ A' R 0 = nI U ∧ (∀ u, u < 5 → A' (R + 1) u = r (62 + u)) ∧ A' R 4 = r 68 ∧ A' R 5 = r 69 ∧ (∀ i j, (i < R ∨ R + 8 ≤ i) → A' i j = A i j) := by
  obtain ⟨⟨c1, c2, c3, c4, c5, c6, c7⟩, r1, r2', r3, r4, r5, r6, r9, ⟨s1, s2, s3, s4⟩, u3⟩ := w
  obtain ⟨c, w1, w2, w3, w4⟩ := r5 h0 H0 ((r4 h0 (by omega)).1.trans e0)
  have x0 : A (R + 6) (3 * h0) = r (20 + 3 * h0) := w3 0 (by omega)
  have x1 := w3 1 (by omega)
  have x2 := w3 2 (by omega)
  have y0 : 0 < c ↔ ¬ r (20 + 3 * h0) = -1 := w4 0 (by omega)
  have y1 := w4 1 (by omega)
  have y2 := w4 2 (by omega)
  have i1 : r (20 + 3 * h0) = -1 → r (20 + 3 * h0 + 1) = -1 := fun z => by
    refine Classical.byContradiction (fun q => ?_)
    have := y1.mpr q
    exact y0.mp (by omega) z
  have i2 : r (20 + 3 * h0 + 1) = -1 → r (20 + 3 * h0 + 2) = -1 := fun z => by
    refine Classical.byContradiction (fun q => ?_)
    have := y2.mpr q
    exact y1.mp (by omega) z
  obtain ⟨o1, o2, o3, o4⟩ := wct_ok i1 i2
  obtain ⟨A2, f1, f2, f3, f4⟩ := cc_wishFor (Q := R) (H := H) (b := (1 : Int32) <<< (nI h1 &&& 31)) (u := r (20 + 3 * h0)) (v := r (20 + 3 * h0 + 1)) (x := r (20 + 3 * h0 + 2)) (A := A) c2 c5
  have hb1 : ∀ h, h < 10 → (bitAt ((1 : Int32) <<< (nI h1 &&& 31)) h ↔ h1 = h) := fun h hh => bitAt_one h1 (by omega) h hh
  have hb2 : ∀ h, h < 10 → (bitAt (((1 : Int32) <<< (nI h0 &&& 31)) ||| ((1 : Int32) <<< (nI h1 &&& 31))) h ↔ h0 = h ∨ h1 = h) := fun h hh => by
    rw [bitAt_or hh]
    exact or_congr (bitAt_one h0 (by omega) h hh) (bitAt_one h1 (by omega) h hh)
  obtain ⟨A3, g1, g2, g3, g4⟩ := c_addParty5 (R := R) (H := H) (G := G) (s := ((1 : Int32) <<< (nI h0 &&& 31)) ||| ((1 : Int32) <<< (nI h1 &&& 31))) c2 zFu 0 A2 ((f4 _ _ (by omega) (by omega)).trans c5) ((f4 _ _ (by omega) (by omega)).trans c6) (by omega) (by unfold zFu; omega) (by omega)
  rw [show nI 0 = (0 : Int32) by decide] at g1
  have k2 : ∀ i j, ¬ i = R + 5 → ¬ i = R + 6 → A2 i j = A i j := fun i j z1 z2 => f4 i j (by omega) (by omega)
  have k3 : ∀ i j, ¬ (i = R ∧ j = 2) → ¬ i = R + 4 → A3 i j = A2 i j := fun i j z1 z2 => g4 i j z1 (by omega)
  have kk : ∀ i j, ¬ (i = R ∧ j = 2) → ¬ i = R + 4 → ¬ i = R + 5 → ¬ i = R + 6 → A3 i j = A i j := fun i j z1 z2 z3 z4 => (k3 i j z1 z2).trans (k2 i j z3 z4)
  have old5 : ∀ h, h < H → ¬ h = h1 → A3 (R + 5) h = A (R + 5) h := fun h hh z => (k3 _ _ (by omega) (by omega)).trans (f3 h hh (fun y => z ((hb1 h (by omega)).mp y).symm)).1
  have old6 : ∀ h, h < H → ¬ h = h1 → ∀ k, k < 3 → A3 (R + 6) (3 * h + k) = A (R + 6) (3 * h + k) := fun h hh z k hk => (k3 _ _ (by omega) (by omega)).trans ((f3 h hh (fun y => z ((hb1 h (by omega)).mp y).symm)).2 k hk)
  have p4 : ∀ h, h < 10 → A3 (R + 4) h = r2 (10 + h) := fun h hh => by
    by_cases z0 : h = h0
    · rw [z0, hj.1]
      exact g3 h0 (Nat.zero_le _) H0 ((hb2 h0 (by omega)).mpr (Or.inl rfl))
    · by_cases z1 : h = h1
      · rw [z1, hj.2.1]
        exact g3 h1 (Nat.zero_le _) H1 ((hb2 h1 (by omega)).mpr (Or.inr rfl))
      · rw [hj.2.2.2 (10 + h) (by omega) (by omega) (by omega)]
        exact (g4 _ _ (by omega) (fun z => by have := (hb2 h hh).mp z.2.2.2; omega)).trans ((k2 _ _ (by omega) (by omega)).trans (r4 h hh).1)
  refine ⟨A3, ?_, ⟨⟨c2, by omega, (kk _ _ (by omega) (by omega) (by omega) (by omega)).trans c5, g2, ((kk _ _ (by omega) (by omega) (by omega) (by omega)).trans s1).trans (hj.2.2.2 67 (by omega) (by omega) (by omega)).symm⟩, fun h hh => ?_, fun h hh => ?_, p4, fun h hh he => ?_, fun h p hh hp he => ?_, fun p hp => ?_⟩, (kk _ _ (by omega) (by omega) (by omega) (by omega)).trans c4, fun u hu => (kk _ _ (by omega) (by omega) (by omega) (by omega)).trans (r1 u hu), (kk _ _ (by omega) (by omega) (by omega) (by omega)).trans s2, (kk _ _ (by omega) (by omega) (by omega) (by omega)).trans s3, fun i j z => kk i j (by omega) (by omega) (by omega) (by omega)⟩
  · obtain ⟨z1, z2, z3⟩ := nI_m3j h0 (by omega)
    unfold D_X4_join
    rw [z3, z2, z1, zrd_nI (show 3 * h0 < 30 by omega) (by decide), zrd_nI (show 3 * h0 + 1 < 30 by omega) (by decide), zrd_nI (show 3 * h0 + 2 < 30 by omega) (by decide), x0, x1, x2, zB_s f1]
    unfold D_X4_addParty
    rw [zB_s g1]
  · rw [kk _ _ (by omega) (by omega) (by omega) (by omega), r2' h hh, hj.2.2.2 h (by omega) (by omega) (by omega)]
  · rw [kk _ _ (by omega) (by omega) (by omega) (by omega)]
    exact (r3 h hh).1
  · have z0 : ¬ h = h0 := fun z => by rw [z, hj.1] at he; exact nI_ne (by omega) he
    have z1 : ¬ h = h1 := fun z => by rw [z, hj.2.1] at he; exact nI_ne (by omega) he
    have he' : r (10 + h) = -1 := (hj.2.2.2 (10 + h) (by omega) (by omega) (by omega)).symm.trans he
    exact (r5 h hh ((r4 h (by omega)).1.trans he')).k (old5 h hh z1) (old6 h hh z1) (fun k hk => hj.2.2.2 _ (by omega) (by omega) (by omega))
  · by_cases z0 : h = h0
    · have hpG : p = G := by
        rw [z0, hj.1] at he
        exact (nI_inj (by omega) (by omega) he).symm
      rw [z0, hpG]
      exact (r5 h0 H0 ((r4 h0 (by omega)).1.trans e0)).mv (old5 h0 H0 hne) (old6 h0 H0 hne) (fun k hk => hj.2.2.1 k hk)
    · by_cases z1 : h = h1
      · have hpG : p = G := by
          rw [z1, hj.2.1] at he
          exact (nI_inj (by omega) (by omega) he).symm
        obtain ⟨b1, b2, b3, b4⟩ := f2 h1 H1 ((hb1 h1 (by omega)).mpr rfl)
        have hk3 : ∀ k, k < 3 → k = 0 ∨ k = 1 ∨ k = 2 := fun k hk => by omega
        have q0 := hj.2.2.1 0 (by omega)
        have q1 := hj.2.2.1 1 (by omega)
        have q2 := hj.2.2.1 2 (by omega)
        rw [z1, hpG]
        refine ⟨wct (r (20 + 3 * h0)) (r (20 + 3 * h0 + 1)) (r (20 + 3 * h0 + 2)), o1, (k3 _ _ (by omega) (by omega)).trans b1, fun k hk => ?_, fun k hk => ?_⟩
        · rw [k3 _ _ (by omega) (by omega)]
          rcases hk3 k hk with z | z | z <;> subst z
          · exact b2.trans q0.symm
          · exact b3.trans q1.symm
          · exact b4.trans q2.symm
        · rcases hk3 k hk with z | z | z <;> subst z
          · rw [q0]; exact o2
          · rw [q1]; exact o3
          · rw [q2]; exact o4
      · have he' : r (10 + h) = nI p := (hj.2.2.2 (10 + h) (by omega) (by omega) (by omega)).symm.trans he
        have hpG : p < G := by
          obtain ⟨z, y, _⟩ := r4 h (by omega)
          rcases y with y | ⟨p', hp', y⟩
          · exact absurd ((he'.symm.trans z.symm).trans y) (nI_ne (by omega))
          · have := nI_inj (by omega) (by omega) ((he'.symm.trans z.symm).trans y)
            omega
        exact (r6 h p hh hpG ((r4 h (by omega)).1.trans he')).k (old5 h hh z1) (old6 h hh z1) (fun k hk => hj.2.2.2 _ (by omega) (by omega) (by omega))
  · by_cases z : p = G
    · exact ⟨h0, H0, by rw [z]; exact hj.1⟩
    · obtain ⟨h, q1, q2⟩ := r9 p (by omega)
      have hr : r (10 + h) = nI p := (r4 h (by omega)).1.symm.trans q2
      refine ⟨h, q1, ?_⟩
      rw [hj.2.2.2 (10 + h) (fun y => ?_) (fun y => ?_) (by omega)]
      · exact hr
      · have : h = h0 := by omega
        rw [this] at hr
        exact nI_ne (by omega) (hr.symm.trans e0)
      · have : h = h1 := by omega
        rw [this] at hr
        exact nI_ne (by omega) (hr.symm.trans e1)
theorem t_together {C P : Nat} {A B : zMt} {NA NB : zNt} {v0 v1 : Int32} (w0 : eqE C P A B) (_hJ : jJ P B) : two (D_X7_together C v0 v1 A NA) (D_X8_together P v0 v1 B NB) (fun a b => a.1 = b.1) := by
  obtain ⟨r, g, U, H, G, K, w⟩ := w0
  obtain ⟨w1, w2, w3, w4, w5, w6, w7, w8, w9⟩ := id w
  have c1 := w6.1.1
  have c2 := w6.1.2.1
  have c3 := w6.1.2.2.1
  unfold D_X7_together D_X8_together
  rcases t_isH (v := v0) w with ⟨e1, e2, h0, H0, hv⟩ | ⟨e1, e2⟩
  · subst hv
    rw [zB_s e1, zB_s e2, if_neg n10, if_neg n10]
    rcases t_isH (v := v1) w with ⟨e3, e4, h1, H1, hv⟩ | ⟨e3, e4⟩
    · subst hv
      rw [zB_s e3, zB_s e4, if_neg n10, if_neg n10]
      refine two.ite Iff.rfl (fun _ => t_rfs4) (fun hq => ?_)
      have hne : ¬ h0 = h1 := fun z => hq (by rw [z])
      have e21 : ∀ h, h < 10 → A (C + 21) h = B (P + 1) (10 + h) := fun h hh => (w6.2.2.2.2.1 h hh).1.trans (w1 (10 + h) (by omega)).symm
      rw [nI_10h h0 (by omega), nI_10h h1 (by omega), zrd_nI (show h0 < 10 by omega) (by decide), zrd_nI (show h1 < 10 by omega) (by decide), e21 h0 (by omega), e21 h1 (by omega)]
      refine two.ir (vp_in_nI (by omega) (by decide)) ?_
      rw [nI_clamp (by omega)]
      refine two.ite Iff.rfl (fun q0 => ?_) (fun _ => t_rfs4)
      refine two.ir (vp_in_nI (by omega) (by decide)) ?_
      rw [nI_clamp (by omega)]
      refine two.ite Iff.rfl (fun q1 => ?_) (fun _ => t_rfs4)
      obtain ⟨n, B1, hn, l1, l2, l3, l4, l5⟩ := t_laid w
      have e91 : A (C + 91) 1 = nI n := l2.2.2.1
      refine two.r l1 ?_
      rw [e91, l4.1]
      refine two.ite Iff.rfl (fun h8 => ?_) (fun _ => t_rfs4)
      have h8' : n ≤ 8 := by
        have := Int32.le_iff_toInt_le.mp h8
        rw [nI_toInt (by have := l2.1; omega), show (8 : Int32).toInt = 8 by decide] at this
        omega
      have f0 : r (10 + h0) = -1 := (w1 _ (by omega)).symm.trans q0
      have f1 : r (10 + h1) = -1 := (w1 _ (by omega)).symm.trans q1
      obtain ⟨y1, y2, y3, y4, y5⟩ := row_facts w5 w6.1.2.2.2.2.2.2 c3 c2
      obtain ⟨r2, hj⟩ := jn_ex (r := r) (h0 := h0) (h1 := h1) (G := G) (by omega) (by omega)
      have hf := tg_fr hj c3 (by omega) (by omega) hne f0 f1 H c2
      -- the class
      obtain ⟨A1, ea1, g158, k1⟩ := w6.take (R := C + 158) (by omega)
      obtain ⟨A2, ea2, g5, z0, z1, z2, z3, k2⟩ := cc_join2 g158 hj H0 H1 hne f0 f1
      have hp5 := g5.2.2.2.2.2.2
      have ne2 : ∀ a, a < fr r2 H + (G + 1) → ¬ sN r2 H a = 0 := fun a ha => by
        obtain ⟨h, hm⟩ := ap_ex5 ha hp5
        exact sN_ne hm c2
      have e67 : r2 67 = r 67 := hj.2.2.2 67 (by omega) (by omega) (by omega)
      obtain ⟨A3, ea3, cu, cl, k3⟩ := cc_gather5 (Q := C + 166) (r0 := r) g5 c1 z0 z1 z2 z3 (by omega) (by omega) (by rw [e67]; exact y2) ne2
      have hwi : ∀ a, a < fr r2 H + (G + 1) → ∃ base, isBase r2 H a base ∧ ∀ k, k < 3 → -1 ≤ (r2 (base + k)).toInt ∧ (r2 (base + k)).toInt < U := fun a ha => by
        by_cases q : a < fr r2 H
        · obtain ⟨h, x1, x2, x3⟩ := fr_ex H q
          have d0 : ¬ h = h0 := fun z => by rw [z, hj.1] at x2; exact nI_ne (by omega) x2
          have d1 : ¬ h = h1 := fun z => by rw [z, hj.2.1] at x2; exact nI_ne (by omega) x2
          refine ⟨20 + 3 * h, Or.inl ⟨h, x1, x2, x3, rfl⟩, fun k hk => ?_⟩
          rw [hj.2.2.2 _ (by omega) (by omega) (by omega)]
          exact w5.2.2.1 _ (by omega) (by omega)
        · refine ⟨50 + 3 * (a - fr r2 H), Or.inr ⟨by omega, rfl⟩, fun k hk => ?_⟩
          by_cases z : a - fr r2 H = G
          · rw [z, hj.2.2.1 k hk]
            exact w5.2.2.1 _ (by omega) (by omega)
          · rw [hj.2.2.2 _ (by omega) (by omega) (by omega)]
            exact w5.2.2.1 _ (by omega) (by omega)
      have gp := t_view5 (Q := C + 166) (A := A3) (r := r2) (r0 := r) (g := g) c2 c1 (by omega) (fun h hh => by rw [hj.2.2.2 h (by omega) (by omega) (by omega)]; exact w5.1 h hh) hp5 hwi cu cl
      have eN : fr r2 H + (G + 1) = n - 1 := by omega
      rw [eN] at gp
      have h7 : n - 1 ≤ 7 := by omega
      obtain ⟨A4, N4, ea4, i4, k4, -⟩ := cc_reckon (Q := C + 187) (Ap := C + 166) (A := A3) (N := NA) (T := tP (C + 166) A3) gp h7 (Or.inr (by omega)) (fun _ _ _ => rfl)
      have hr4 : ∀ h, h < H → r (10 + h) = -1 ∨ ∃ p, p < G ∧ r (10 + h) = nI p := fun h hh => by
        obtain ⟨x1, x2, _⟩ := w6.2.2.2.2.1 h (by omega)
        rcases x2 with x | ⟨p, x3, x⟩
        · exact Or.inl (x1.symm.trans x)
        · exact Or.inr ⟨p, x3, x1.symm.trans x⟩
      obtain ⟨tj1, tj2⟩ := tg_j hj c3 c2 H0 H1 hr4
      have e170 : A4 (C + 170) h0 = nI (fr r2 H + G) := (k4 _ _ (by omega) (by omega)).trans ((cl.2.2 _ (by omega)).2.2.2.2.2.2.2 h0 ((tj1 h0 H0).mpr (Or.inl rfl)))
      have ea5 := cc_any (a := fr r2 H + G) h7 (by omega) i4
      -- the reference
      have b11 : ∀ k, k < n → B1 (P + 11) k = bv r H k H := fun k hk => (l4.2.2.1 k hk).1.trans (w8.2.2 k (by omega)).1
      have ne0 : ¬ fr r h0 = fr r h1 := fun z => hne (fr_inj f0 f1 z)
      have lt0 := fr_lt H0 f0
      have lt1 := fr_lt H1 f1
      have tt : ∀ h, h < H → r (10 + h) = -1 → ∀ k, k < n → (B1 (P + 11) k = (1 : Int32) <<< (nI h &&& 31) ↔ k = fr r h) := fun h hh eh k hk => by
        have lth := fr_lt hh eh
        rw [b11 k hk]
        constructor
        · intro z
          have q := (bv_b (r := r) (H := H) (a := k) (i := h) (by omega) H c2).mp (by rw [z, bit1 h (by omega) h (by omega)]; exact decide_eq_true rfl)
          exact memb_one q.2 ((memb_free hh eh).mpr rfl) (by omega) (by omega)
        · intro z
          rw [z, bv_free c2 hh eh H (Nat.le_refl H), if_pos hh]
      have hcn := cJ_c (k := n) ne0
      obtain ⟨B2, eb2, m1, m2⟩ := lj_5 (P := P) (n := n) (a0 := fr r h0) (a1 := fr r h1) (h0 := h0) (h1 := h1) (B0 := B1) l2.1 (by omega) (by omega) ne0 (by omega) (by omega) (tt h0 H0 f0) (tt h1 H1 f1) l4.1 zFu 0 B1 (Nat.zero_le n) (by have := l2.1; unfold zFu; omega) (fun k' z => absurd z (Nat.not_lt_zero k')) (fun _ _ _ _ _ => rfl) (fun _ _ _ => rfl)
      rw [show cJ (fr r h0) (fr r h1) 0 = 0 by have := cJ_c (k := 0) ne0; omega, show nI 0 = (0 : Int32) by decide] at eb2
      have ecJ : cJ (fr r h0) (fr r h1) n = fr r2 H + G := by omega
      rw [ecJ] at eb2
      have kz : ∀ i j, ¬ (P + 11 ≤ i ∧ i ≤ P + 13 ∧ j = fr r2 H + G) → ¬ (i = P ∧ j = 33) → zu (zu (zu (zu B2 (P + 11) (fr r2 H + G) (((1 : Int32) <<< (nI h0 &&& 31)) ||| ((1 : Int32) <<< (nI h1 &&& 31)))) (P + 12) (fr r2 H + G) (-1 : Int32)) (P + 13) (fr r2 H + G) (nI (20 + 3 * h0))) P 33 (nI (fr r2 H + G + 1)) i j = B2 i j := fun i j x1 x2 => (zu_ne (by omega)).trans ((zu_ne (by omega)).trans ((zu_ne (by omega)).trans (zu_ne (by omega))))
      have z11 : zu (zu (zu (zu B2 (P + 11) (fr r2 H + G) (((1 : Int32) <<< (nI h0 &&& 31)) ||| ((1 : Int32) <<< (nI h1 &&& 31)))) (P + 12) (fr r2 H + G) (-1 : Int32)) (P + 13) (fr r2 H + G) (nI (20 + 3 * h0))) P 33 (nI (fr r2 H + G + 1)) (P + 11) (fr r2 H + G) = ((1 : Int32) <<< (nI h0 &&& 31)) ||| ((1 : Int32) <<< (nI h1 &&& 31)) := (zu_ne (by omega)).trans ((zu_ne (by omega)).trans ((zu_ne (by omega)).trans zu_eq))
      have z13 : zu (zu (zu (zu B2 (P + 11) (fr r2 H + G) (((1 : Int32) <<< (nI h0 &&& 31)) ||| ((1 : Int32) <<< (nI h1 &&& 31)))) (P + 12) (fr r2 H + G) (-1 : Int32)) (P + 13) (fr r2 H + G) (nI (20 + 3 * h0))) P 33 (nI (fr r2 H + G + 1)) (P + 13) (fr r2 H + G) = nI (20 + 3 * h0) := (zu_ne (by omega)).trans zu_eq
      have z33 : zu (zu (zu (zu B2 (P + 11) (fr r2 H + G) (((1 : Int32) <<< (nI h0 &&& 31)) ||| ((1 : Int32) <<< (nI h1 &&& 31)))) (P + 12) (fr r2 H + G) (-1 : Int32)) (P + 13) (fr r2 H + G) (nI (20 + 3 * h0))) P 33 (nI (fr r2 H + G + 1)) P 33 = nI (fr r2 H + G + 1) := zu_eq
      generalize zu (zu (zu (zu B2 (P + 11) (fr r2 H + G) (((1 : Int32) <<< (nI h0 &&& 31)) ||| ((1 : Int32) <<< (nI h1 &&& 31)))) (P + 12) (fr r2 H + G) (-1 : Int32)) (P + 13) (fr r2 H + G) (nI (20 + 3 * h0))) P 33 (nI (fr r2 H + G + 1)) = Bz at eb2 kz z11 z13 z33
      have row : ∀ i j, ¬ (i = P ∧ j = 33) → ¬ (P + 11 ≤ i ∧ i ≤ P + 17) → Bz i j = B i j := fun i j x1 x2 => (kz i j (by omega) x1).trans ((m2 i j (by omega)).trans (l5 i j x1 x2))
      have each : ∀ a, a < n - 1 → Bz (P + 11) a = bv r2 H a H ∧ ∃ base, 20 ≤ base ∧ base < 62 ∧ Bz (P + 13) a = nI base ∧ ∀ x, x < 3 → r (base + x) = tP (C + 166) A3 12 (3 * a + x) := fun a ha => by
        have hcl := (cl.2.2 a (by omega)).2.2.1
        by_cases z : a = fr r2 H + G
        · rw [z]
          refine ⟨z11.trans tj2.symm, 20 + 3 * h0, by omega, by omega, z13, fun x hx => ?_⟩
          obtain ⟨c, _, _, x3, _⟩ := (cl.2.2 (fr r2 H + G) (by omega)).2.2.1 (50 + 3 * G) (Or.inr ⟨by omega, by omega⟩)
          exact (hj.2.2.1 x hx).symm.trans (x3 x hx).symm
        · obtain ⟨k, x1, x2, x3, x4⟩ := cJ_sur (n := n) (x := a) ne0 (by omega) (by omega) (by omega)
          have nk : ¬ cJ (fr r h0) (fr r h1) k = fr r2 H + G := fun y => z (x4.symm.trans y)
          have p11 : ¬ P + 11 = P := by omega
          have p13 : ¬ P + 13 = P := by omega
          have l13 : P + 11 ≤ P + 13 := by omega
          have kn : k < fr r H + G := by omega
          obtain ⟨t1, base, t2, t3, t4, t5, t6⟩ := tg_m hj c3 c2 H0 H1 hne f0 f1 kn x2 x3
          obtain ⟨base', u1, u2, u3, u4⟩ := t_base w l1 (a := k) kn
          have : base' = base := isBase_u u1 t2
          subst this
          rw [← x4] at hcl ⊢
          refine ⟨?_, base', t4, t5, ?_, fun x hx => ?_⟩
          · rw [kz _ _ (fun y => nk y.2.2) (fun y => p11 y.1), m1 k x1 x2 x3 _ (Nat.le_refl _) l13, b11 k x1]
            exact bv_ext c2 t1
          · rw [kz _ _ (fun y => nk y.2.2) (fun y => p13 y.1), m1 k x1 x2 x3 _ l13 (Nat.le_refl _)]
            exact u4
          · obtain ⟨c, _, _, v3, _⟩ := hcl base' t3
            exact (t6 x hx).symm.trans (v3 x hx).symm
      obtain ⟨B3, eb3, m3, m4⟩ := lj_133 (P := P) (H := H) (T := n - 1) (r := r2) (g := g) (x3 := nI (fr r2 H + G)) c2 (by omega) (fun h hh => (w6.2.2.2.1 h hh).2) (fun a ha => ne2 a (by omega)) zFu 0 Bz ((row _ _ (by omega) (by omega)).trans w4) (fun j hj' => (row _ _ (by omega) (by omega)).trans ((w1 j (by omega)).trans (hj.2.2.2 j (by omega) (by omega) (by omega)).symm)) (fun h hh => (row _ _ (by omega) (by omega)).trans (w2 h (by omega))) (z33.trans (by rw [show fr r2 H + G + 1 = n - 1 by omega])) (fun a ha => (each a ha).1) (Nat.zero_le _) (by have := l2.1; unfold zFu; omega)
      rw [show nI 0 = (0 : Int32) by decide] at eb3
      have eT : ∀ i, ¬ i = 10 → (fun i => if i = 10 then (fun a => B3 (P + 12) a) else tP (C + 166) A3 i) i = tP (C + 166) A3 i := fun i z => if_neg z
      have eT10 : (fun i => if i = 10 then (fun a => B3 (P + 12) a) else tP (C + 166) A3 i) 10 = fun a => B3 (P + 12) a := if_pos rfl
      generalize (fun i => if i = 10 then (fun a => B3 (P + 12) a) else tP (C + 166) A3 i) = T at eT eT10
      have gT' : gP T (n - 1) U := gP_c eT gp
      have hm : mP P B3 T (n - 1) U := by
        refine ⟨(m4 _ _ (by omega)).trans (z33.trans (by rw [show fr r2 H + G + 1 = n - 1 by omega])), (m4 _ _ (by omega)).trans ((row _ _ (by omega) (by omega)).trans w3), fun a ha => ?_, fun u hu => ?_⟩
        · obtain ⟨x1, base, x2, x3, x4, x5⟩ := each a ha
          obtain ⟨v1, v2, v3, v4⟩ := m3 a (Nat.zero_le a) ha
          obtain ⟨u1, u2, u3, u4, u5, u6, u7, u8⟩ := cl.2.2 a (by omega)
          rw [eT 9 (by omega), eT10, eT 5 (by omega), eT 6 (by omega), eT 7 (by omega), eT 8 (by omega), eT 12 (by omega)]
          refine ⟨((m4 _ _ (by omega)).trans x1).trans u1.symm, rfl, v1.trans u4.symm, v2.trans u5.symm, v3.trans u6.symm, v4.trans u7.symm, base, x2, x3, (m4 _ _ (by omega)).trans x4, fun k hk => ?_⟩
          rw [m4 _ _ (by omega), row _ _ (by omega) (by omega), w1 _ (by omega)]
          exact x5 k hk
        · obtain ⟨u1, u2, u3⟩ := cu.2.1 u hu
          rw [eT 1 (by omega), eT 2 (by omega), eT 3 (by omega), m4 _ _ (by omega), m4 _ _ (by omega), m4 _ _ (by omega), row _ _ (by omega) (by omega), row _ _ (by omega) (by omega), row _ _ (by omega) (by omega), w1 _ (by omega), w1 68 (by omega), w1 69 (by omega)]
          exact ⟨u1.symm, u2.symm, u3.symm⟩
      obtain ⟨B4, N5, eb4, i5, m5, -, -⟩ := mm_all (N := NB) gT' h7 hm
      have eb5 := mm_chance (a := fr r2 H + G) gT' h7 (by omega) m5 i5
      have ej : D_X8_laysJoined P (nI h0) (nI h1) B1 = some (nI (fr r2 H + G), B3) := by
        unfold D_X8_laysJoined
        exact eb2.trans eb3
      refine two.l ea1 (two.l ea2 (two.l ea3 (two.l ea4 ?_)))
      dsimp only
      rw [zrd_nI (show h0 < 10 by omega) (by decide), e170]
      refine two.l ea5 (two.r ej (two.r eb4 (two.r eb5 (t_ans4 ?_))))
      have e8 : lvA T (n - 1) = lvA (tP (C + 166) A3) (n - 1) := by
        unfold lvA
        rw [eT 8 (by omega)]
      rw [e8]
      refine lsum_cg _ (fun y _ => ?_)
      rw [rs_c eT]
    · rw [zB_s e3, zB_s e4, if_pos rfl, if_pos rfl]
      exact t_rfs4
  · rw [zB_s e1, zB_s e2, if_pos rfl, if_pos rfl]
    exact t_rfs4
