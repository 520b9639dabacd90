/-! wise and wiseChance, both sides: one unit alone asked for, one behind the other -/
theorem jRow.wi {r r' : Nat → Int32} {U H : Int} {base : Nat} (h : jRow r U H) (hH : H ≤ 10) (hb20 : 20 ≤ base) (hb59 : base ≤ 59) (e : ∀ k, k < 3 → -1 ≤ (r' (base + k)).toInt ∧ (r' (base + k)).toInt < U) (b : ∀ j, j < 82 → ¬ (base ≤ j ∧ j < base + 3) → r' j = r j) : jRow r' U H := by
  obtain ⟨s1, s2, s3, s4, s5, s6⟩ := h
  refine ⟨fun x hx => ?_, fun x hx => ?_, fun y h1 h2 => ?_, fun u hu => ?_, ?_, fun q hq => ?_⟩
  · rw [b x (by omega) (by omega)]; exact s1 x hx
  · rw [b (10 + x) (by omega) (by omega), b 70 (by omega) (by omega)]; exact s2 x hx
  · by_cases z : base ≤ y ∧ y < base + 3
    · have := e (y - base) (by omega)
      rw [show base + (y - base) = y by omega] at this
      exact this
    · rw [b y (by omega) z]; exact s3 y h1 h2
  · rw [b (62 + u) (by omega) (by omega)]; exact s4 u hu
  · rw [b 67 (by omega) (by omega), b 68 (by omega) (by omega), b 69 (by omega) (by omega), b 70 (by omega) (by omega)]; exact s5
  · rw [b 70 (by omega) (by omega)] at hq
    obtain ⟨x, h1, h2⟩ := s6 q hq
    exact ⟨x, h1, by rw [b (10 + x) (by omega) (by omega)]; exact h2⟩
theorem ws_26 {P a u base k v : Nat} {B : zMt} {N : zNt} {x2 : Int32} {k15 : Int32 → Int32 → Int32 → zMt → zNt → Option (Int32 × zMt × zNt)} (ha : a < 10) (hb : base ≤ 59) (hk : k < 3) (h13 : B (P + 13) a = nI base) : D_X8_wisest_26 P k15 (v + 1) (nI a) x2 (nI u) (nI k) B N = D_X8_wisest_26 P k15 v (nI a) x2 (nI u) (nI (k + 1)) (zu B (P + 1) (base + k) (if k = 0 then nI u else -1)) N := by
  rw [D_X8_wisest_26, if_neg (by intro z; have := (leL (x := 3) (a := 3) (by decide) (by decide) (by omega)).mp z; omega)]
  unfold zI
  rw [if_neg (vp_in_nI (show a < 10 by omega) (by decide)), nI_clamp (by omega), h13, nI_addk (by omega)]
  unfold D_X8_wisest_55 zI
  by_cases q : k = 0
  · rw [if_pos ((nI_0i (by omega)).mpr q), if_neg (vp_in_nI (show base + k < 82 by omega) (by decide)), nI_clamp (by omega), zLt_eq, if_pos q, nI_add1]
  · rw [if_neg (fun z => q ((nI_0i (by omega)).mp z)), if_neg (vp_in_nI (show base + k < 82 by omega) (by decide)), nI_clamp (by omega), zLt_eq, if_neg q, nI_add1]
/-- one unit alone: the class's trial, the reference's -/
theorem ws_one {C P U H G n a u base : Nat} {A B : zMt} {NA NB : zNt} {r g r1 : Nat → Int32} {x2 : Int32} {k15 : Int32 → Int32 → Int32 → zMt → zNt → Option (Int32 × zMt × zNt)} (w6 : gR (C + 17) A r g U H G) (w8 : cL (C + 91) A r g H G) (w5 : jRow r U H) (hn : n = fr r H + G) (h7 : n ≤ 7) (ha : a < n) (hu : u < U) (hb : isBase r H a base) (b20 : 20 ≤ base) (b59 : base ≤ 59) (w1 : ∀ j, j < 82 → B (P + 1) j = r1 j) (hr1 : ∀ j, j < 82 → ¬ (base ≤ j ∧ j < base + 3) → r1 j = r j) (w2 : ∀ h, h < 10 → B (P + 5) h = g h) (w3 : B P 7 = nI U) (w4 : B P 8 = nI H) (h13 : B (P + 13) a = nI base) : ∃ (e : Int64) (A' : zMt) (NA' : zNt) (B' : zMt) (NB' : zNt) (r2 : Nat → Int32), D_X7_partsOfOnly C (nI a) (nI u) A NA = some (e, A', NA') ∧ D_X8_wisest_26 P k15 zFu (nI a) x2 (nI u) (0 : Int32) B NB = (if lg_cmp e (NB' P 60) ≤ 0 then D_X8_wisest_90 P k15 (nI a) x2 (nI u) B' NB' else D_X8_wisest_90 P k15 (nI a) (nI u) (nI u) B' (zu NB' P 60 e)) ∧ NB' P 60 = NB P 60 ∧ 0 ≤ e.toInt ∧ (∀ i j, ¬ (C + 158 ≤ i ∧ i < C + 200) → A' i j = A i j) ∧ (∀ j, j < 82 → B' (P + 1) j = r2 j) ∧ (∀ j, j < 82 → ¬ (base ≤ j ∧ j < base + 3) → r2 j = r j) ∧ (∀ h, h < 10 → B' (P + 5) h = g h) ∧ B' P 7 = nI U ∧ B' P 8 = nI H ∧ B' (P + 13) a = nI base := by
  have c1 := w6.1.1
  have c2 := w6.1.2.1
  have c3 := w6.1.2.2.1
  obtain ⟨A3, ea3, g158, k6⟩ := w6.take (R := C + 158) (by omega)
  have ebit : A3 (C + 100) a = bv r H a H := (k6 _ _ (by omega)).trans (w8.2.2 a (by omega)).1
  obtain ⟨A4, ea4, x1, x2', x3⟩ := cc_wishFor (Q := C + 158) (H := H) (b := A3 (C + 100) a) (u := nI u) (v := -1) (x := -1) (A := A3) c2 g158.1.2.2.2.2.1
  have hbit : ∀ h, h < H → (bitAt (A3 (C + 100) a) h ↔ memb r H a h) := fun h hh => by
    rw [ebit, bv_bit H c2 h (by omega)]
    exact ⟨fun z => z.2, fun z => ⟨hh, z⟩⟩
  obtain ⟨o1, o2, o3, o4⟩ := wct_ok (u := nI u) (v := -1) (x := -1) (fun _ => rfl) (fun _ => rfl)
  have rn0 : (fun j => if j = base then nI u else if base ≤ j ∧ j < base + 3 then (-1 : Int32) else r j) base = nI u := if_pos rfl
  have rn : ∀ k, k < 3 → ¬ k = 0 → (fun j => if j = base then nI u else if base ≤ j ∧ j < base + 3 then (-1 : Int32) else r j) (base + k) = -1 := fun k hk h0 => (if_neg (by omega)).trans (if_pos (by omega))
  have ro : ∀ j, ¬ (base ≤ j ∧ j < base + 3) → (fun j => if j = base then nI u else if base ≤ j ∧ j < base + 3 then (-1 : Int32) else r j) j = r j := fun j hj => (if_neg (by omega)).trans (if_neg hj)
  generalize (fun j => if j = base then nI u else if base ≤ j ∧ j < base + 3 then (-1 : Int32) else r j) = r2 at rn0 rn ro
  have g4 : gR (C + 158) A4 r2 g U H G := g158.wish hb b20 (fun h hh hm' => x1 h hh ((hbit h hh).mpr hm')) (fun h hh hm' => x2' h hh (fun z => hm' ((hbit h hh).mp z))) (fun i j _ _ z1 z2 => x3 i j (by omega) (by omega)) rn0 (rn 1 (by omega) (by omega)) (rn 2 (by omega) (by omega)) b59 (fun j hj hj2 => ro j hj2) o1 o2 o3 o4
  have j2 : jRow r2 U H := w5.wi (by omega) b20 b59 (fun k hk => by
    by_cases z : k = 0
    · subst z
      rw [Nat.add_zero, rn0, nI_toInt (by omega)]
      omega
    · rw [rn k hk z, show (-1 : Int32).toInt = -1 by decide]
      omega) (fun j _ hj2 => ro j hj2)
  have f2 : fr r2 H = fr r H := fr_cg2 H (fun x hx => ro _ (by omega))
  -- the reference writes its three choices
  have kz : ∀ i j, ¬ (i = P + 1 ∧ base ≤ j ∧ j < base + 3) → zu (zu (zu B (P + 1) (base + 0) (nI u)) (P + 1) (base + 1) (-1)) (P + 1) (base + 2) (-1) i j = B i j := fun i j h => (zu_ne (by omega)).trans ((zu_ne (by omega)).trans (zu_ne (by omega)))
  have z0 : zu (zu (zu B (P + 1) (base + 0) (nI u)) (P + 1) (base + 1) (-1)) (P + 1) (base + 2) (-1) (P + 1) base = nI u := (zu_ne (by omega)).trans ((zu_ne (by omega)).trans zu_eq)
  have z1 : zu (zu (zu B (P + 1) (base + 0) (nI u)) (P + 1) (base + 1) (-1)) (P + 1) (base + 2) (-1) (P + 1) (base + 1) = -1 := (zu_ne (by omega)).trans zu_eq
  have z2 : zu (zu (zu B (P + 1) (base + 0) (nI u)) (P + 1) (base + 1) (-1)) (P + 1) (base + 2) (-1) (P + 1) (base + 2) = -1 := zu_eq
  have e26 : D_X8_wisest_26 P k15 zFu (nI a) x2 (nI u) (0 : Int32) B NB = D_X8_wisest_26 P k15 (4294967293 + 1) (nI a) x2 (nI u) (nI 3) (zu (zu (zu B (P + 1) (base + 0) (nI u)) (P + 1) (base + 1) (-1)) (P + 1) (base + 2) (-1)) NB := by
    have t0 := ws_26 (P := P) (a := a) (u := u) (base := base) (k := 0) (v := 4294967293 + 1 + 1 + 1) (B := B) (N := NB) (x2 := x2) (k15 := k15) (by omega) b59 (by omega) h13
    have t1 := ws_26 (P := P) (a := a) (u := u) (base := base) (k := 1) (v := 4294967293 + 1 + 1) (B := zu B (P + 1) (base + 0) (nI u)) (N := NB) (x2 := x2) (k15 := k15) (by omega) b59 (by omega) ((zu_ne (by omega)).trans h13)
    have t2 := ws_26 (P := P) (a := a) (u := u) (base := base) (k := 2) (v := 4294967293 + 1) (B := zu (zu B (P + 1) (base + 0) (nI u)) (P + 1) (base + 1) (-1)) (N := NB) (x2 := x2) (k15 := k15) (by omega) b59 (by omega) ((zu_ne (by omega)).trans ((zu_ne (by omega)).trans h13))
    rw [if_pos rfl] at t0
    rw [if_neg (by omega)] at t1 t2
    rw [show nI 0 = (0 : Int32) by decide] at t0
    exact t0.trans (t1.trans t2)
  generalize zu (zu (zu B (P + 1) (base + 0) (nI u)) (P + 1) (base + 1) (-1)) (P + 1) (base + 2) (-1) = Bz at kz z0 z1 z2 e26
  have hz : ∀ j, j < 82 → Bz (P + 1) j = r2 j := fun j hj => by
    by_cases q0 : j = base
    · subst q0; rw [z0, rn0]
    · by_cases q1 : j = base + 1
      · subst q1; rw [z1, rn 1 (by omega) (by omega)]
      · by_cases q2 : j = base + 2
        · subst q2; rw [z2, rn 2 (by omega) (by omega)]
        · rw [kz _ _ (by omega), w1 j hj, hr1 j hj (by omega), ro j (by omega)]
  obtain ⟨A1, A2, N2, T, B2, NB2, e1, e2, e3, l1, l2, l3, l4, l5, l6, l7, l8, l9, l10, l11, l12⟩ := t_tri (n := n) (NA := NA) (NB := NB) (B := Bz) g4 hz (fun x hx => (kz _ _ (by omega)).trans (w2 x hx)) ((kz _ _ (by omega)).trans w3) ((kz _ _ (by omega)).trans w4) j2 (by rw [f2]; exact hn) h7
  have ec := mm_chance l1 h7 ha l7 l6
  have ea := cc_any h7 ha l5
  have hnn := any_rng (a := a) l1
  obtain ⟨base', hb', h13'⟩ := l12 a ha
  have : base' = base := isBase_u (isBase_cg (fun x hx => ro _ (by omega)) hb') hb
  subst this
  refine ⟨_, A2, N2, B2, NB2, r2, ?_, ?_, l11 _ _ (by omega) (by omega), hnn, fun i j h => (l8 i j (by omega)).trans ((x3 i j (by omega) (by omega)).trans (k6 i j (by omega))), fun j hj => (l9 _ _ (by omega) (by omega) (by omega)).trans (hz j hj), fun j _ hj => ro j hj, fun x hx => (l9 _ _ (by omega) (by omega) (by omega)).trans ((kz _ _ (by omega)).trans (w2 x hx)), (l9 _ _ (by omega) (by omega) (by omega)).trans ((kz _ _ (by omega)).trans w3), (l9 _ _ (by omega) (by omega) (by omega)).trans ((kz _ _ (by omega)).trans w4), h13'⟩
  · unfold D_X7_partsOfOnly
    rw [zB_s ea3, zrd_nI (show a < 10 by omega) (by decide), zB_s ea4, zB_s e1, zB_s e2, zB_s ea]
  · rw [e26, D_X8_wisest_26, if_pos (by exact (leL (x := 3) (a := 3) (by decide) (by decide) (by omega)).mpr (by omega)), zB_s e3, zB_s ec, zB_s ec, zLt_eq]
theorem ws_le {e x : Int64} : lg_cmp e x ≤ 0 ↔ e.toInt ≤ x.toInt := (lg_cmp_le e x).trans Int64.le_iff_toInt_le
theorem ws_loop {C P U H G n a base : Nat} {r g : Nat → Int32} (w5 : jRow r U H) (hn : n = fr r H + G) (h7 : n ≤ 7) (ha : a < n) (hb : isBase r H a base) (b20 : 20 ≤ base) (b59 : base ≤ 59) : ∀ (f u v : Nat) (r1 : Nat → Int32) (A B : zMt) (NA NB : zNt) (xc xr : Int32) (x4 : Int64), u ≤ U → U - u < f → U - u < v → gR (C + 17) A r g U H G → cL (C + 91) A r g H G → (∀ j, j < 82 → B (P + 1) j = r1 j) → (∀ j, j < 82 → ¬ (base ≤ j ∧ j < base + 3) → r1 j = r j) → (∀ h, h < 10 → B (P + 5) h = g h) → B P 7 = nI U → B P 8 = nI H → B (P + 13) a = nI base → x4 = NB P 60 → ((u = 0 ∧ x4 = -1 ∧ xr = -1) ∨ (¬ u = 0 ∧ xc = xr ∧ ∃ k, k < 5 ∧ xr = nI k)) → ∃ xf yf Af NAf Bf NBf, D_X7_wise_26 C f (nI a) xc x4 (nI u) A NA = (zB (D_X7_answer C xf Af) fun e => some (e.1, e.2, NAf)) ∧ D_X8_wisest_15 P v (nI a) xr (nI u) B NB = some (yf, Bf, NBf) ∧ ((U = 0 ∧ yf = -1) ∨ (¬ U = 0 ∧ xf = yf ∧ ∃ k, k < 5 ∧ yf = nI k)) := by
  intro f
  induction f with
  | zero => intro u v r1 A B NA NB xc xr x4 _ z; omega
  | succ f ih =>
    intro u v r1 A B NA NB xc xr x4 hu hf hv w6 w8 w1 hr1 w2 w3 w4 h13 hx4 hx
    obtain ⟨v, rfl⟩ : ∃ y, v = y + 1 := ⟨v - 1, by omega⟩
    have c1 := w6.1.1
    rw [D_X7_wise_26, D_X8_wisest_15, w6.1.2.2.2.1, w3]
    by_cases hc : U ≤ u
    · rw [if_pos (by exact (nI_leI (by omega) (by omega)).mpr hc), if_pos (by exact (nI_leI (by omega) (by omega)).mpr hc)]
      obtain ⟨Bz, hz⟩ := takes_all (P := P) (M := B)
      rw [zB_s hz]
      refine ⟨xc, xr, A, NA, Bz, NB, rfl, rfl, ?_⟩
      rcases hx with ⟨q1, _, q3⟩ | q
      · exact Or.inl ⟨by omega, q3⟩
      · exact Or.inr ⟨by omega, q.2⟩
    · rw [if_neg (by intro z; exact hc ((nI_leI (by omega) (by omega)).mp z)), if_neg (by intro z; exact hc ((nI_leI (by omega) (by omega)).mp z))]
      obtain ⟨e, A', NA', B', NB', r2, s1, s2, s3, s4, s5, s6, s7, s8, s9, s10, s11⟩ := ws_one (NA := NA) (NB := NB) (x2 := xr) (k15 := D_X8_wisest_15 P v) w6 w8 w5 hn h7 ha (show u < U by omega) hb b20 b59 w1 hr1 w2 w3 w4 h13
      rw [zB_s s1, s2, s3, ← hx4]
      have w6' : gR (C + 17) A' r g U H G := w6.m (fun i j _ _ => s5 i j (by omega)) (fun _ _ => rfl) (fun _ _ => rfl)
      have w8' : cL (C + 91) A' r g H G := w8.k (fun i j _ _ => s5 i j (by omega))
      unfold D_X7_wise_62 D_X8_wisest_90
      rw [nI_add1]
      by_cases q : lg_cmp e x4 ≤ 0
      · rw [if_pos q, if_pos q]
        refine ih (u + 1) v r2 A' B' NA' NB' xc xr x4 (by omega) (by omega) (by omega) w6' w8' s6 s7 s8 s9 s10 s11 (hx4.trans s3.symm) (Or.inr ?_)
        rcases hx with ⟨_, q2, _⟩ | y
        · have := ws_le.mp q
          rw [q2, show (-1 : Int64).toInt = -1 by decide] at this
          omega
        · exact ⟨by omega, y.2⟩
      · rw [if_neg q, if_neg q]
        exact ih (u + 1) v r2 A' B' NA' (zu NB' P 60 e) (nI u) (nI u) e (by omega) (by omega) (by omega) w6' w8' s6 s7 s8 s9 s10 s11 zu_eq.symm (Or.inr ⟨by omega, rfl, u, by omega, rfl⟩)
theorem wc_loop {C P U H G n a base : Nat} {r g : Nat → Int32} (w5 : jRow r U H) (hn : n = fr r H + G) (h7 : n ≤ 7) (ha : a < n) (hb : isBase r H a base) (b20 : 20 ≤ base) (b59 : base ≤ 59) : ∀ (f u v : Nat) (r1 : Nat → Int32) (A B : zMt) (NA NB : zNt) (xr : Int32) (x3 : Int64), u ≤ U → U - u < f → U - u < v → gR (C + 17) A r g U H G → cL (C + 91) A r g H G → (∀ j, j < 82 → B (P + 1) j = r1 j) → (∀ j, j < 82 → ¬ (base ≤ j ∧ j < base + 3) → r1 j = r j) → (∀ h, h < 10 → B (P + 5) h = g h) → B P 7 = nI U → B P 8 = nI H → B (P + 13) a = nI base → ((u = 0 ∧ x3 = 0 ∧ NB P 60 = -1 ∧ xr = -1) ∨ (¬ u = 0 ∧ x3 = NB P 60 ∧ ∃ k, k < 5 ∧ xr = nI k)) → ∃ xf yf Af NAf Bf NBf, D_X7_wiseChance_22 C f (nI a) x3 (nI u) A NA = (zB (D_X7_answerParts C xf Af) fun e => some (e.1, e.2, NAf)) ∧ D_X8_wisest_15 P v (nI a) xr (nI u) B NB = some (yf, Bf, NBf) ∧ ((U = 0 ∧ yf = -1) ∨ (¬ U = 0 ∧ xf = NBf P 60 ∧ ∃ k, k < 5 ∧ yf = nI k)) := by
  intro f
  induction f with
  | zero => intro u v r1 A B NA NB xr x3 _ z; omega
  | succ f ih =>
    intro u v r1 A B NA NB xr x3 hu hf hv w6 w8 w1 hr1 w2 w3 w4 h13 hx
    obtain ⟨v, rfl⟩ : ∃ y, v = y + 1 := ⟨v - 1, by omega⟩
    have c1 := w6.1.1
    rw [D_X7_wiseChance_22, D_X8_wisest_15, w6.1.2.2.2.1, w3]
    by_cases hc : U ≤ u
    · rw [if_pos (by exact (nI_leI (by omega) (by omega)).mpr hc), if_pos (by exact (nI_leI (by omega) (by omega)).mpr hc)]
      obtain ⟨Bz, hz⟩ := takes_all (P := P) (M := B)
      rw [zB_s hz]
      refine ⟨x3, xr, A, NA, Bz, NB, rfl, rfl, ?_⟩
      rcases hx with ⟨q1, _, _, q3⟩ | q
      · exact Or.inl ⟨by omega, q3⟩
      · exact Or.inr ⟨by omega, q.2⟩
    · rw [if_neg (by intro z; exact hc ((nI_leI (by omega) (by omega)).mp z)), if_neg (by intro z; exact hc ((nI_leI (by omega) (by omega)).mp z))]
      obtain ⟨e, A', NA', B', NB', r2, s1, s2, s3, s4, s5, s6, s7, s8, s9, s10, s11⟩ := ws_one (NA := NA) (NB := NB) (x2 := xr) (k15 := D_X8_wisest_15 P v) w6 w8 w5 hn h7 ha (show u < U by omega) hb b20 b59 w1 hr1 w2 w3 w4 h13
      rw [zB_s s1, s2, s3]
      have w6' : gR (C + 17) A' r g U H G := w6.m (fun i j _ _ => s5 i j (by omega)) (fun _ _ => rfl) (fun _ _ => rfl)
      have w8' : cL (C + 91) A' r g H G := w8.k (fun i j _ _ => s5 i j (by omega))
      unfold D_X8_wisest_90
      rw [nI_add1]
      have o0 : (0 : Int64).toInt = 0 := by decide
      by_cases q : lg_cmp e (NB P 60) ≤ 0
      · rw [if_pos q]
        have q' := ws_le.mp q
        rcases hx with ⟨_, _, y, _⟩ | ⟨_, y, yk⟩
        · rw [y, show (-1 : Int64).toInt = -1 by decide] at q'
          omega
        · have ex : (if e < x3 then x3 else e) = x3 := by
            by_cases z : e < x3
            · rw [if_pos z]
            · rw [if_neg z]
              have h1 := Int64.le_iff_toInt_le.mp (Int64.not_lt.mp z)
              rw [y] at h1 ⊢
              exact Int64.toInt_inj.mp (by omega)
          rw [ex]
          exact ih (u + 1) v r2 A' B' NA' NB' xr x3 (by omega) (by omega) (by omega) w6' w8' s6 s7 s8 s9 s10 s11 (Or.inr ⟨by omega, y.trans s3.symm, yk⟩)
      · rw [if_neg q]
        have q' : ¬ e.toInt ≤ (NB P 60).toInt := fun z => q (ws_le.mpr z)
        have ex : (if e < x3 then x3 else e) = e := by
          refine if_neg (fun z => ?_)
          have h1 := Int64.lt_iff_toInt_lt.mp z
          rcases hx with ⟨_, y, _, _⟩ | ⟨_, y, _⟩
          · rw [y, o0] at h1
            omega
          · rw [y] at h1
            exact q' (by omega)
        rw [ex]
        exact ih (u + 1) v r2 A' B' NA' (zu NB' P 60 e) (nI u) e (by omega) (by omega) (by omega) w6' w8' s6 s7 s8 s9 s10 s11 (Or.inr ⟨Nat.succ_ne_zero u, zu_eq.symm, u, (show u < 5 by omega), rfl⟩)
/-- what both ask first -/
theorem ws_why {C P U H G K : Nat} {A B : zMt} {r g : Nat → Int32} {v0 : Int32} (w : eqS C P A B r g U H G K) : (∃ n a B2 B3 base, n = fr r H + G ∧ n ≤ 7 ∧ a < n ∧ v0 = nI a ∧ D_X7_whyNotWise C A v0 = some (if U = 0 then 5 else 0) ∧ (∃ B1, D_X8_isApplicant P v0 B = some (1, B1) ∧ D_X8_areMany P B1 = some (0, B2)) ∧ D_X8_putsAside P B2 = some B3 ∧ isBase r H a base ∧ 20 ≤ base ∧ base ≤ 59 ∧ B3 (P + 13) a = nI base ∧ (∀ i j, ¬ (i = P ∧ j = 33) → ¬ (P + 11 ≤ i ∧ i ≤ P + 17) → ¬ i = P + 3 → B3 i j = B i j)) ∨ (∃ B1, D_X7_whyNotWise C A v0 = some 2 ∧ D_X8_isApplicant P v0 B = some (0, B1)) ∨ (∃ B1 B2, D_X7_whyNotWise C A v0 = some 3 ∧ D_X8_isApplicant P v0 B = some (1, B1) ∧ D_X8_areMany P B1 = some (1, B2)) := by
  obtain ⟨n, B1, hn, l1, l2, l3, l4, l5, hA⟩ := t_isA (v := v0) w
  obtain ⟨w1, w2, w3, w4, w5, w6, w7, w8, w9⟩ := id w
  have c1 := w6.1.1
  unfold D_X7_whyNotWise
  rcases hA with ⟨f1, f2, a, ha, hv⟩ | ⟨f1, f2⟩
  · subst hv
    have w' : eqS C P A B1 r g U H G K := w.k (fun _ _ _ _ => rfl) (fun i j h => l5 i j (by omega) (by omega))
    rw [zB_s f1, if_neg n10]
    obtain ⟨n', B2, hn', l1', l2', l3', l4', l5'⟩ := t_laid w'
    have : n' = n := hn'.trans hn.symm
    subst this
    obtain ⟨m1, m2⟩ := mm_many7 l2'.1 l1' l4'.1
    have e91 : A (C + 91) 1 = nI n' := l2.2.2.1
    rw [e91, w6.1.2.2.2.1]
    by_cases h7 : n' ≤ 7
    · rw [if_pos ((nI_7i l2.1).mpr h7)]
      obtain ⟨B3, e3, k3⟩ := puts_all (P := P) (M := B2)
      obtain ⟨base, b1, b2, b3, b4⟩ := t_base w' l1' (a := a) (by omega)
      refine Or.inl ⟨n', a, B2, B3, base, hn', h7, ha, rfl, ?_, ⟨B1, f2, m1 h7⟩, e3, b1, b2, b3, (k3 _ _ (by omega)).trans b4, fun i j z1 z2 z3 => (k3 i j z3).trans ((l5' i j z1 z2).trans (l5 i j z1 z2))⟩
      unfold D_X7_whyNotWise_39
      by_cases q : U = 0
      · rw [if_pos ((nI_0i (by omega)).mpr q), if_pos q]
      · rw [if_neg (fun z => q ((nI_0i (by omega)).mp z)), if_neg q]
    · rw [if_neg (fun z => h7 ((nI_7i l2.1).mp z))]
      exact Or.inr (Or.inr ⟨B1, B2, rfl, f2, m2 h7⟩)
  · rw [zB_s f1, if_pos rfl]
    exact Or.inr (Or.inl ⟨B1, rfl, f2⟩)
theorem t_wise {C P : Nat} {A B : zMt} {NA NB : zNt} {v0 : Int32} (w0 : eqE C P A B) (_hJ : jJ P B) : two (D_X7_wise C v0 A NA) (D_X8_wise P v0 B NB) (fun a b => a.1 = b.1) := by
  obtain ⟨r, g, U, H, G, K, w⟩ := w0
  obtain ⟨w1, w2, w3, w4, w5, w6, w7, w8, w9⟩ := id w
  unfold D_X7_wise D_X8_wise
  rcases ws_why (v0 := v0) w with ⟨n, a, B2, B3, base, hn, h7, ha, hv, y1, ⟨B1, y2, y3⟩, y4, hb, b20, b59, h13, kB⟩ | ⟨B1, y1, y2⟩ | ⟨B1, B2, y1, y2, y3⟩
  · subst hv
    rw [zB_s y1, zB_s y2, if_neg n10, zB_s y3, if_pos rfl]
    obtain ⟨xf, yf, Af, NAf, Bf, NBf, q1, q2, q3⟩ := ws_loop (C := C) (P := P) w5 hn h7 ha hb b20 b59 zFu 0 zFu r A B3 NA (zu NB P 60 (-1)) 0 (-1) (-1) (Nat.zero_le U) (by have := w6.1.1; unfold zFu; omega) (by have := w6.1.1; unfold zFu; omega) w6 w8 (fun j hj => (kB _ _ (by omega) (by omega) (by omega)).trans (w1 j hj)) (fun _ _ _ => rfl) (fun x hx => (kB _ _ (by omega) (by omega) (by omega)).trans (w2 x hx)) ((kB _ _ (by omega) (by omega) (by omega)).trans w3) ((kB _ _ (by omega) (by omega) (by omega)).trans w4) h13 zu_eq.symm (Or.inl ⟨rfl, rfl, rfl⟩)
    rw [show nI 0 = (0 : Int32) by decide] at q1 q2
    have ew : D_X8_wisest P (nI a) B2 NB = some (yf, Bf, NBf) := by
      unfold D_X8_wisest
      rw [zB_s y4, zLt_eq]
      exact q2
    refine two.r ew ?_
    rcases q3 with ⟨z1, z2⟩ | ⟨z, z1, k, z2, z3⟩
    · rw [if_pos z1, if_neg (by decide), if_pos z2]
      unfold D_X8_wise_51
      exact t_rfs3
    · rw [if_neg z, if_pos rfl, q1, if_neg (by rw [z3]; exact nI_ne (by omega))]
      unfold D_X8_wise_51
      exact t_ans3 z1
  · rw [zB_s y1, zB_s y2, if_neg (by decide), if_pos rfl]
    exact t_rfs3
  · rw [zB_s y1, zB_s y2, if_neg (by decide), if_neg n10, zB_s y3, if_neg n10]
    exact t_rfs3
theorem t_wiseChance {C P : Nat} {A B : zMt} {NA NB : zNt} {v0 : Int32} (w0 : eqE C P A B) (_hJ : jJ P B) : two (D_X7_wiseChance C v0 A NA) (D_X8_wiseChance P v0 B NB) (fun a b => a.1 = b.1) := by
  obtain ⟨r, g, U, H, G, K, w⟩ := w0
  obtain ⟨w1, w2, w3, w4, w5, w6, w7, w8, w9⟩ := id w
  unfold D_X7_wiseChance D_X8_wiseChance
  rcases ws_why (v0 := v0) w with ⟨n, a, B2, B3, base, hn, h7, ha, hv, y1, ⟨B1, y2, y3⟩, y4, hb, b20, b59, h13, kB⟩ | ⟨B1, y1, y2⟩ | ⟨B1, B2, y1, y2, y3⟩
  · subst hv
    rw [zB_s y1, zB_s y2, if_neg n10, zB_s y3, if_pos rfl]
    obtain ⟨xf, yf, Af, NAf, Bf, NBf, q1, q2, q3⟩ := wc_loop (C := C) (P := P) w5 hn h7 ha hb b20 b59 zFu 0 zFu r A B3 NA (zu NB P 60 (-1)) (-1) 0 (Nat.zero_le U) (by have := w6.1.1; unfold zFu; omega) (by have := w6.1.1; unfold zFu; omega) w6 w8 (fun j hj => (kB _ _ (by omega) (by omega) (by omega)).trans (w1 j hj)) (fun _ _ _ => rfl) (fun x hx => (kB _ _ (by omega) (by omega) (by omega)).trans (w2 x hx)) ((kB _ _ (by omega) (by omega) (by omega)).trans w3) ((kB _ _ (by omega) (by omega) (by omega)).trans w4) h13 (Or.inl ⟨rfl, rfl, zu_eq, rfl⟩)
    rw [show nI 0 = (0 : Int32) by decide] at q1 q2
    have ew : D_X8_wisest P (nI a) B2 NB = some (yf, Bf, NBf) := by
      unfold D_X8_wisest
      rw [zB_s y4, zLt_eq]
      exact q2
    refine two.r ew ?_
    rcases q3 with ⟨z1, z2⟩ | ⟨z, z1, k, z2, z3⟩
    · rw [if_pos z1, if_neg (by decide), if_pos z2]
      unfold D_X8_wiseChance_55
      exact t_rfs4
    · rw [if_neg z, if_pos rfl, q1, if_neg (by rw [z3]; exact nI_ne (by omega))]
      unfold D_X8_wiseChance_55
      exact t_ans4 z1
  · rw [zB_s y1, zB_s y2, if_neg (by decide), if_pos rfl]
    exact t_rfs4
  · rw [zB_s y1, zB_s y2, if_neg (by decide), if_neg n10, zB_s y3, if_neg n10]
    exact t_rfs4
