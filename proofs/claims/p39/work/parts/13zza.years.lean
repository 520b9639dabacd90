/-! years, often, soonest, both sides -/
theorem bv_cg {r r' : Nat → Int32} {H a : Nat} (hH : H ≤ 10) (h : ∀ j, j < 20 → r' j = r j) : ∀ n, n ≤ H → bv r' H a n = bv r H a n
  | 0, _ => rfl
  | n + 1, hn => by
    show (if memb r' H a n then bv r' H a n ||| ((1 : Int32) <<< (nI n &&& 31)) else bv r' H a n) = (if memb r H a n then bv r H a n ||| ((1 : Int32) <<< (nI n &&& 31)) else bv r H a n)
    rw [bv_cg hH h n (by omega)]
    by_cases q : memb r H a n
    · rw [if_pos q, if_pos ((memb_cg hH h).mpr q)]
    · rw [if_neg q, if_neg (fun z => q ((memb_cg hH h).mp z))]
theorem cL.cg {Q H G : Nat} {A : zMt} {r r' g : Nat → Int32} (hH : H ≤ 10) (hG : G ≤ 4) (h : ∀ j, j < 71 → r' j = r j) (w : cL Q A r' g H G) : cL Q A r g H G := by
  have h20 : ∀ j, j < 20 → r' j = r j := fun j hj => h j (by omega)
  have h67 : r' 67 = r 67 := h 67 (by omega)
  have eF : fr r' H = fr r H := fr_cg h20 H hH
  obtain ⟨l1, l2, l3⟩ := w
  rw [eF] at l1 l2 l3
  refine ⟨l1, l2.trans (sTs_cg hH h20 h67 _), fun a ha => ?_⟩
  obtain ⟨p1, p2, p3, p4, p5, p6, p7, p8⟩ := l3 a ha
  refine ⟨p1.trans (bv_cg hH h20 H (Nat.le_refl H)), p2, fun base hb => ?_, p4.trans (sN_cg hH h20), p5.trans (sG_cg hH h20), p6.trans (sP_cg hH h20), p7.trans (sT_cg hH h20 h67), fun x hm => p8 x ((memb_cg hH h20).mpr hm)⟩
  have b59 : base ≤ 59 := by
    rcases hb with ⟨h', y1, y2, y3, y4⟩ | ⟨y1, y2⟩
    · omega
    · omega
  have hb' : isBase r' H a base := by
    rcases hb with ⟨h', y1, y2, y3, y4⟩ | ⟨y1, y2⟩
    · exact Or.inl ⟨h', y1, (h20 _ (by omega)).trans y2, (fr_cg h20 h' (by omega)).trans y3, y4⟩
    · exact Or.inr ⟨by rw [eF]; exact y1, by rw [eF]; exact y2⟩
  obtain ⟨c, c1, c2, c3, c4⟩ := p3 base hb'
  exact ⟨c, c1, c2, fun k hk => (c3 k hk).trans (h _ (by omega)), fun k hk => by rw [← h (base + k) (by omega)]; exact c4 k hk⟩
theorem cU.cg {Q U : Nat} {A : zMt} {r r' : Nat → Int32} (hU : U ≤ 5) (h : ∀ j, j < 71 → r' j = r j) (w : cU Q A r' U) : cU Q A r U := by
  obtain ⟨u1, u2, u3⟩ := w
  refine ⟨u1, fun u hu => ?_, u3⟩
  obtain ⟨x1, x2, x3⟩ := u2 u hu
  rw [h (62 + u) (by omega)] at x1 x2 x3
  rw [h 68 (by omega)] at x2
  rw [h 69 (by omega)] at x3
  exact ⟨x1, x2, x3⟩
theorem t_laid2 {Q P U H G : Nat} {A B : zMt} {r g : Nat → Int32} (c1 : U ≤ 5) (c2 : H ≤ 10) (c3 : G ≤ 4) (w1 : ∀ j, j < 82 → B (P + 1) j = r j) (w2 : ∀ h, h < 10 → B (P + 5) h = g h) (w3 : B P 7 = nI U) (w4 : B P 8 = nI H) (w5 : jRow r U H) (h70 : r 70 = nI G) (hg : ∀ h, h < H → g h = 0 ∨ g h = 1) (w7 : cU Q A r U) (w8 : cL Q A r g H G) : ∃ n B1, n = fr r H + G ∧ D_X8_laysApplicants P B = some B1 ∧ gP (tP Q A) n U ∧ gH (tP Q A) n H ∧ mP P B1 (tP Q A) n U ∧ (∀ i j, ¬ (i = P ∧ j = 33) → ¬ (P + 11 ≤ i ∧ i ≤ P + 17) → B1 i j = B i j) := by
  obtain ⟨f1, f2, f3, f4, f5⟩ := row_facts w5 h70 c3 c2
  obtain ⟨B1, e1, e2, e3⟩ := mm_lays (P := P) (B := B) (r := r) (g := g) c2 c3 (by omega) hg f5 w4 w1 (fun h hh => w2 h (by omega)) h70
  exact ⟨_, B1, rfl, e1, t_view c2 c3 c1 (by omega) w5 f3 w7 w8, t_viewH (U := U) c2 c3 (by omega) f4 w8, t_view8 c2 c3 w7 w8 c1 e2 (fun j hj => (e3 _ _ (by omega) (by omega)).trans (w1 j hj)) ((e3 _ _ (by omega) (by omega)).trans w3), e3⟩
/-- the class's copy and the reference's row, some years on: register Q + 4 -/
def yR (Q P : Nat) (A B : zMt) (r g : Nat → Int32) (U H G : Nat) : Prop := (∀ j, j < 82 → B (P + 1) j = r j) ∧ (∀ h, h < 10 → B (P + 5) h = g h) ∧ B P 7 = nI U ∧ B P 8 = nI H ∧ jRow r U H ∧ ∃ r', gR (Q + 4) A r' g U H G ∧ ∀ j, j < 71 → r' j = r j
theorem jRow.pts {r r' : Nat → Int32} {U H : Int} (h : jRow r U H) (hH : H ≤ 10) (p : ∀ x : Nat, x < 10 → 0 ≤ (r' x).toInt ∧ (r' x).toInt ≤ 20) (e : ∀ j, 10 ≤ j → j < 82 → r' j = r j) : jRow r' U H := by
  obtain ⟨s1, s2, s3, s4, s5, s6⟩ := h
  refine ⟨p, fun x hx => ?_, fun k h1 h2 => ?_, fun u hu => ?_, ?_, fun q hq => ?_⟩
  · rw [e (10 + x) (by omega) (by omega), e 70 (by omega) (by omega)]; exact s2 x hx
  · rw [e k (by omega) (by omega)]; exact s3 k h1 h2
  · rw [e (62 + u) (by omega) (by omega)]; exact s4 u hu
  · rw [e 67 (by omega) (by omega), e 68 (by omega) (by omega), e 69 (by omega) (by omega), e 70 (by omega) (by omega)]; exact s5
  · rw [e 70 (by omega) (by omega)] at hq
    obtain ⟨x, h1, h2⟩ := s6 q hq
    exact ⟨x, h1, by rw [e (10 + x) (by omega) (by omega)]; exact h2⟩
theorem bh_rng {T s : zMt} {a : Nat} {had : Int32} (h0 : 0 ≤ had.toInt) (h1 : had.toInt ≤ 20) : 0 ≤ (bh T s a had).toInt ∧ (bh T s a had).toInt ≤ 20 := by
  have o20 : (20 : Int32).toInt = 20 := by decide
  have o0 : (0 : Int32).toInt = 0 := by decide
  have e := z_inc (x := had) (by omega)
  unfold bh
  by_cases q : T 11 a = 0
  · rw [if_pos q]; exact ⟨h0, h1⟩
  · rw [if_neg q]
    by_cases q1 : s 0 a = -1
    · rw [if_pos q1]
      by_cases q2 : (20 : Int32) < had + 1
      · rw [if_pos q2, o20]; omega
      · have h3 := Int32.le_iff_toInt_le.mp (Int32.not_lt.mp q2)
        rw [o20, e] at h3
        rw [if_neg q2, e]
        omega
    · rw [if_neg q1]
      by_cases q2 : s 0 a = T 12 (3 * a)
      · rw [if_pos q2, o0]; omega
      · rw [if_neg q2]; exact ⟨h0, h1⟩
theorem t_yr {Q P U H G : Nat} {A B : zMt} {N : zNt} {r g : Nat → Int32} {seed : Int32} (w : yR Q P A B r g U H G) (hs : 0 ≤ seed.toInt) : ∃ A1 A2 b T s n, D_X2_gather (Q + 12) (Q + 4) A = some A1 ∧ D_X5_bySeed (Q + 25) (Q + 12) seed A1 = some A2 ∧ D_X8_goesYear P seed B N = some b ∧ gP T n U ∧ gH T n H ∧ (∀ i j, i < 13 → A2 (Q + 12 + i) j = T i j) ∧ rC (Q + 25) A2 s n U ∧ mP P b.1 T n U ∧ rM P b.1 s n U ∧ okS T s n U ∧ (∀ h, h < H → b.1 (P + 1) h = bh T s (aOf T h) (r h)) ∧ (∀ i j, ¬ (Q + 12 ≤ i ∧ i ≤ Q + 32) → A2 i j = A i j) ∧ (∀ i j, ¬ (i = P ∧ j = 33) → ¬ (P + 11 ≤ i ∧ i ≤ P + 22) → ¬ i = P + 30 → ¬ (i = P + 1 ∧ j < H) → b.1 i j = B i j) ∧ jRow (b.1 (P + 1)) U H := by
  obtain ⟨w1, w2, w3, w4, w5, r', w6, w7⟩ := w
  have c1 := w6.1.1
  have c2 := w6.1.2.1
  have c3 := w6.1.2.2.1
  have h70 : r 70 = nI G := (w7 70 (by omega)).symm.trans w6.1.2.2.2.2.2.2
  obtain ⟨f1, f2, f3, f4, f5⟩ := row_facts w5 h70 c3 c2
  have h20 : ∀ j, j < 20 → r' j = r j := fun j hj => w7 j (by omega)
  have eF : fr r' H = fr r H := fr_cg h20 H c2
  obtain ⟨A1, ea, cu, cl, k1⟩ := cc_gather (Q := Q + 12) (R := Q + 4) w6 (by omega) (by rw [eF]; omega) (by rw [w7 67 (by omega)]; exact f2) (fun x hx => by rw [sN_cg c2 h20]; exact f5 x (by rw [← eF]; exact hx))
  have hg : ∀ h, h < H → g h = 0 ∨ g h = 1 := fun h hh => (w6.2.2.2.1 h hh).2
  obtain ⟨n, B1, hn, l1, l2, l3, l4, l5⟩ := t_laid2 c1 c2 c3 w1 w2 w3 w4 w5 h70 hg (cu.cg c1 w7) (cl.cg c2 c3 w7)
  obtain ⟨A2, ea2, b, eb, ⟨l, hl, hC, hM, hpt⟩, hm2, k3, k4, k5⟩ := t_year (Q := Q + 12) (S := Q + 25) (A := A1) (N := N) (seed := seed) l2 l3 c2 (fun _ _ _ => rfl) (Or.inr (by omega)) l1 l4 ((l5 _ _ (by omega) (by omega)).trans w4) hs
  have hp : ∀ h, h < H → b.1 (P + 1) h = bh (tP (Q + 12) A1) (rs (tP (Q + 12) A1) 10 U n l) (aOf (tP (Q + 12) A1) h) (r h) := fun h hh => by
    rw [hpt h hh, l5 _ _ (by omega) (by omega), w1 h (by omega)]
  have kB : ∀ i j, ¬ (i = P ∧ j = 33) → ¬ (P + 11 ≤ i ∧ i ≤ P + 22) → ¬ i = P + 30 → ¬ (i = P + 1 ∧ j < H) → b.1 i j = B i j := fun i j h1 h2 h3 h4 => (k4 i j (by omega) h3 h4).trans (l5 i j h1 (by omega))
  refine ⟨A1, A2, b, tP (Q + 12) A1, rs (tP (Q + 12) A1) 10 U n l, n, ea, ea2, eb, l2, l3, fun i j hi => k3 _ _ (by omega), hC, hm2, hM, rs_ok l2 hl, hp, fun i j h => (k3 i j (by omega)).trans (k1 i j (by omega)), kB, ?_⟩
  refine w5.pts (by omega) (fun x hx => ?_) (fun j h1 h2 => (kB _ _ (by omega) (by omega) (by omega) (by omega)).trans (w1 j h2))
  by_cases q : x < H
  · rw [hp x q]
    exact bh_rng (w5.1 x hx).1 (w5.1 x hx).2
  · rw [kB _ _ (by omega) (by omega) (by omega) (by omega), w1 x (by omega)]
    exact w5.1 x hx
/-- what a year notes of a hunter -/
def nW (s : zMt) (a : Nat) (old : Int32) : Int32 := if s 0 a = -1 then old + 1 else 0
def nO (s : zMt) (a : Nat) (old : Int32) : Int32 := if s 0 a = -1 then old else old + 1
def nS (T s : zMt) (a : Nat) (y old : Int32) : Int32 := if s 0 a = -1 then old else if s 0 a = T 12 (3 * a) then (if old = 0 then y else old) else old
def nL (s : zMt) (a : Nat) (f old : Int32) : Int32 := if s 0 a = -1 then (if old < f then f else old) else old
theorem cc_note {Q n U h : Nat} {A T s : zMt} {y : Int32} (hn : n ≤ 10) (hh : h < 10) (ha : aOf T h < n) (h4 : T 4 h = nI (aOf T h)) (hT : ∀ i j, i < 13 → A (Q + 12 + i) j = T i j) (hs : rC (Q + 25) A s n U) : ∃ A', D_X6_note Q (nI h) y A = some A' ∧ A' (Q + 3) h = nW s (aOf T h) (A (Q + 3) h) ∧ A' (Q + 1) h = nO s (aOf T h) (A (Q + 1) h) ∧ A' (Q + 2) h = nS T s (aOf T h) y (A (Q + 2) h) ∧ A' Q 1 = nL s (aOf T h) (nW s (aOf T h) (A (Q + 3) h)) (A Q 1) ∧ (∀ i j, ¬ (i = Q ∧ j = 1) → ¬ (Q + 1 ≤ i ∧ i ≤ Q + 3 ∧ j = h) → A' i j = A i j) := by
  have e4 : A (Q + 16) h = nI (aOf T h) := (hT 4 h (by omega)).trans h4
  have e27 : A (Q + 27) (aOf T h) = s 0 (aOf T h) := (hs.1 _ ha).1
  generalize aOf T h = a at ha e4 e27
  unfold D_X6_note nW nO nS nL
  rw [zrd_nI (show h < 10 by omega) (by decide), e4, zrd_nI (show a < 10 by omega) (by decide), e27]
  by_cases q : s 0 a = -1
  · rw [if_pos q, if_pos q, if_pos q, if_pos q, if_pos q, zrd_nI (show h < 10 by omega) (by decide), zwr_nI (show h < 10 by omega) (by decide), zLt_eq, zLt_eq, zrd_nI (show h < 10 by omega) (by decide)]
    refine ⟨_, rfl, ?_, ?_, ?_, ?_, fun i j h1 h2 => (zu_ne (by omega)).trans (zu_ne (by omega))⟩
    · rw [zu_ne (by omega), zu_eq]
    · rw [zu_ne (by omega), zu_ne (by omega)]
    · rw [zu_ne (by omega), zu_ne (by omega)]
    · rw [zu_eq, zu_eq, zu_ne (show ¬ (Q = Q + 3 ∧ (1 : Nat) = h) by omega)]
  · rw [if_neg q, if_neg q, if_neg q, if_neg q, if_neg q, zwr_nI (show h < 10 by omega) (by decide), zLt_eq, zrd_nI (show h < 10 by omega) (by decide), zwr_nI (show h < 10 by omega) (by decide), zLt_eq]
    have kz : ∀ i j, ¬ (Q + 1 ≤ i ∧ i ≤ Q + 3 ∧ j = h) → zu (zu A (Q + 3) h 0) (Q + 1) h (zu A (Q + 3) h 0 (Q + 1) h + 1) i j = A i j := fun i j h1 => (zu_ne (by omega)).trans (zu_ne (by omega))
    have hT' : ∀ i j, i < 13 → zu (zu A (Q + 3) h 0) (Q + 1) h (zu A (Q + 3) h 0 (Q + 1) h + 1) (Q + 12 + i) j = T i j := fun i j hi => (kz _ _ (by omega)).trans (hT i j hi)
    have hs' : rC (Q + 25) (zu (zu A (Q + 3) h 0) (Q + 1) h (zu A (Q + 3) h 0 (Q + 1) h + 1)) s n U := hs.k (fun i j _ _ => kz _ _ (by omega))
    have ef := cc_hasFirst (Q := Q + 12) (S := Q + 25) hn ha hT' hs'
    rw [zB_s ef]
    have w3 : zu (zu A (Q + 3) h 0) (Q + 1) h (zu A (Q + 3) h 0 (Q + 1) h + 1) (Q + 3) h = 0 := by rw [zu_ne (by omega), zu_eq]
    have w1 : zu (zu A (Q + 3) h 0) (Q + 1) h (zu A (Q + 3) h 0 (Q + 1) h + 1) (Q + 1) h = A (Q + 1) h + 1 := by rw [zu_eq, zu_ne (by omega)]
    have w2 : zu (zu A (Q + 3) h 0) (Q + 1) h (zu A (Q + 3) h 0 (Q + 1) h + 1) (Q + 2) h = A (Q + 2) h := by rw [zu_ne (by omega), zu_ne (by omega)]
    have w0 : zu (zu A (Q + 3) h 0) (Q + 1) h (zu A (Q + 3) h 0 (Q + 1) h + 1) Q 1 = A Q 1 := by rw [zu_ne (by omega), zu_ne (by omega)]
    generalize zu (zu A (Q + 3) h 0) (Q + 1) h (zu A (Q + 3) h 0 (Q + 1) h + 1) = M at kz w3 w1 w2 w0
    rw [if_neg q]
    by_cases q1 : s 0 a = T 12 (3 * a)
    · rw [if_pos q1, if_neg n10, if_pos q1, zrd_nI (show h < 10 by omega) (by decide), w2]
      by_cases q2 : A (Q + 2) h = 0
      · rw [if_pos q2, if_pos q2, zwr_nI (show h < 10 by omega) (by decide), zLt_eq]
        exact ⟨_, rfl, (zu_ne (by omega)).trans w3, (zu_ne (by omega)).trans w1, zu_eq, (zu_ne (by omega)).trans w0, fun i j h1 h2 => (zu_ne (by omega)).trans (kz i j h2)⟩
      · rw [if_neg q2, if_neg q2]
        exact ⟨M, rfl, w3, w1, w2, w0, fun i j h1 h2 => kz i j h2⟩
    · rw [if_neg q1, if_pos rfl, if_neg q1]
      exact ⟨M, rfl, w3, w1, w2, w0, fun i j h1 h2 => kz i j h2⟩
def nLf (T s : zMt) (f : Nat → Int32) (old : Int32) : Nat → Int32
  | 0 => old
  | h + 1 => nL s (aOf T h) (f h) (nLf T s f old h)
theorem cc_notes {Q X n U H : Nat} {T s : zMt} {x2 x3 y old : Int32} {w : Nat → Int32} {k45 : Int32 → Int32 → Int32 → zMt → Option zMt} (hn : n ≤ 10) (hH : H ≤ 10) (hh : gH T n H) : ∀ (v k : Nat) (A : zMt), k ≤ H → H - k < v → A (Q + 4) 1 = nI H → (∀ i j, i < 13 → A (Q + 12 + i) j = T i j) → rC (Q + 25) A s n U → (∀ h, k ≤ h → h < H → A (Q + 3) h = w h) → A Q 1 = nLf T s (fun h => nW s (aOf T h) (w h)) old k → ∃ A', D_X6_pass_102 Q X k45 v x2 x3 y (nI k) A = (zB (D_X4_live (Q + 4) (Q + 12) (Q + 25) A') fun e => k45 x2 x3 (y + 1) e) ∧ (∀ h, k ≤ h → h < H → A' (Q + 3) h = nW s (aOf T h) (A (Q + 3) h) ∧ A' (Q + 1) h = nO s (aOf T h) (A (Q + 1) h) ∧ A' (Q + 2) h = nS T s (aOf T h) y (A (Q + 2) h)) ∧ A' Q 1 = nLf T s (fun h => nW s (aOf T h) (w h)) old H ∧ (∀ i j, ¬ (i = Q ∧ j = 1) → ¬ (Q + 1 ≤ i ∧ i ≤ Q + 3 ∧ k ≤ j ∧ j < H) → A' i j = A i j) := by
  intro v
  induction v with
  | zero => intro k A _ h; omega
  | succ v ih =>
    intro k A hk hv h1 hT hs hw hL
    rw [D_X6_pass_102, h1]
    by_cases hc : H ≤ k
    · have : k = H := by omega
      subst this
      rw [if_pos (by exact (nI_leI (by omega) (by omega)).mpr (Nat.le_refl k))]
      exact ⟨A, rfl, fun h h2 h3 => by omega, hL, fun _ _ _ _ => rfl⟩
    · rw [if_neg (by intro z; exact hc ((nI_leI (by omega) (by omega)).mp z))]
      obtain ⟨A1, e1, a3, a1, a2, a0, kz⟩ := cc_note (Q := Q) (h := k) (y := y) (A := A) hn (by omega) (hh k (by omega)).1 (hh k (by omega)).2.1 hT hs
      rw [zB_s e1, nI_add1]
      obtain ⟨A', f1, f2, f3, f4⟩ := ih (k + 1) A1 (by omega) (by omega) ((kz _ _ (by omega) (by omega)).trans h1) (fun i j hi => (kz _ _ (by omega) (by omega)).trans (hT i j hi)) (hs.k (fun i j _ _ => kz _ _ (by omega) (by omega))) (fun h h2 h3 => (kz _ _ (by omega) (by omega)).trans (hw h (by omega) h3)) (by
        rw [a0, hL, hw k (by omega) (by omega)]
        rfl)
      refine ⟨A', f1, fun h h2 h3 => ?_, f3, fun i j h2 h3 => (f4 i j h2 (by omega)).trans (kz i j h2 (by omega))⟩
      by_cases q : h = k
      · subst q
        rw [f4 _ _ (by omega) (by omega), f4 _ _ (by omega) (by omega), f4 _ _ (by omega) (by omega)]
        exact ⟨a3, a1, a2⟩
      · obtain ⟨z1, z2, z3⟩ := f2 h (by omega) h3
        rw [kz _ _ (by omega) (by omega)] at z1 z2 z3
        exact ⟨z1, z2, z3⟩
/-- one year, both sides -/
theorem t_yrs {Q X P U H G k Y : Nat} {A B : zMt} {N : zNt} {r g : Nat → Int32} {x : Int32} {v : Nat} (w : yR Q P A B r g U H G) (hs : 0 ≤ (x + nI k).toInt) (hk : k < Y) (hY : Y ≤ 30) : ∃ A' b T s n, D_X6_pass_45 Q X (v + 1) x (nI Y) (nI (k + 1)) A = D_X6_pass_45 Q X v x (nI Y) (nI (k + 1 + 1)) A' ∧ D_X8_goesYear P (x + nI k) B N = some b ∧ gP T n U ∧ gH T n H ∧ mP P b.1 T n U ∧ rM P b.1 s n U ∧ okS T s n U ∧ yR Q P A' b.1 (b.1 (P + 1)) g U H G ∧ A' Q 0 = A Q 0 + tg T s n ∧ (∀ h, h < H → A' (Q + 3) h = nW s (aOf T h) (A (Q + 3) h) ∧ A' (Q + 1) h = nO s (aOf T h) (A (Q + 1) h) ∧ A' (Q + 2) h = nS T s (aOf T h) (nI (k + 1)) (A (Q + 2) h)) ∧ A' Q 1 = nLf T s (fun h => nW s (aOf T h) (A (Q + 3) h)) (A Q 1) H ∧ (∀ i j, ¬ (Q ≤ i ∧ i ≤ Q + 32) → A' i j = A i j) ∧ (∀ i j, ¬ (i = P ∧ j = 33) → ¬ (P + 11 ≤ i ∧ i ≤ P + 22) → ¬ i = P + 30 → ¬ i = P + 1 → b.1 i j = B i j) := by
  obtain ⟨w1, w2, w3, w4, w5, r', w6, w7⟩ := id w
  have c2 := w6.1.2.1
  obtain ⟨A1, A2, b, T, s, n, e1, e2, e3, l2, l3, hT, hC, hm, hM, ok, hp, k1, k2, jr⟩ := t_yr (N := N) (seed := x + nI k) w hs
  have hn := l2.1
  have kz : ∀ i j, ¬ (i = Q ∧ j = 0) → zu A2 Q 0 (A2 Q 0 + tg T s n) i j = A2 i j := fun i j h => zu_ne h
  obtain ⟨A3, f1, f2, f3, f4⟩ := cc_notes (Q := Q) (X := X) (x2 := x) (x3 := nI Y) (y := nI (k + 1)) (old := A Q 1) (w := fun h => A (Q + 3) h) (k45 := D_X6_pass_45 Q X v) (s := s) hn c2 l3 zFu 0 (zu A2 Q 0 (A2 Q 0 + tg T s n)) (by omega) (by unfold zFu; omega) ((kz _ _ (by omega)).trans ((k1 _ _ (by omega)).trans w6.1.2.2.2.2.1)) (fun i j hi => (kz _ _ (by omega)).trans (hT i j hi)) (hC.k (fun i j _ _ => kz _ _ (by omega))) (fun h _ _ => (kz _ _ (by omega)).trans (k1 _ _ (by omega))) ((kz _ _ (by omega)).trans (k1 _ _ (by omega)))
  rw [show nI 0 = (0 : Int32) by decide] at f1
  have k3 : ∀ i j, (Q + 4 ≤ i ∧ i ≤ Q + 32) → A3 i j = A2 i j := fun i j h => (f4 _ _ (by omega) (by omega)).trans (kz _ _ (by omega))
  obtain ⟨A4, d1, d2, d3⟩ := cc_live (Q := Q + 12) (S := Q + 25) (R := Q + 4) l2 l3 c2 (by omega) (by omega) zFu 0 A3 (by omega) (by unfold zFu; omega) ((k3 _ _ (by omega)).trans ((k1 _ _ (by omega)).trans w6.1.2.2.2.2.1)) (fun i j hi => (k3 _ _ (by omega)).trans (hT i j hi)) (hC.k (fun i j _ _ => k3 _ _ (by omega)))
  rw [show nI 0 = (0 : Int32) by decide] at d1
  have k4 : ∀ i j, Q + 4 ≤ i → i < Q + 12 → A3 i j = A i j := fun i j h1 h2 => (k3 _ _ (by omega)).trans (k1 _ _ (by omega))
  have kB : ∀ i j, ¬ (i = P ∧ j = 33) → ¬ (P + 11 ≤ i ∧ i ≤ P + 22) → ¬ i = P + 30 → ¬ i = P + 1 → b.1 i j = B i j := fun i j h1 h2 h3 h4 => k2 i j h1 h2 h3 (by omega)
  refine ⟨A4, b, T, s, n, ?_, e3, l2, l3, hm, hM, ok, ⟨fun _ _ => rfl, fun h hh => (kB _ _ (by omega) (by omega) (by omega) (by omega)).trans (w2 h hh), (kB _ _ (by omega) (by omega) (by omega) (by omega)).trans w3, (kB _ _ (by omega) (by omega) (by omega) (by omega)).trans w4, jr, fun j => if j < H then A4 (Q + 6) j else if 72 ≤ j ∧ j < 72 + H then A4 (Q + 11) (j - 72) else if j = 71 then A4 (Q + 4) 6 else r' j, ?_, ?_⟩, ?_, ?_, ?_, ?_, kB⟩
  · rw [D_X6_pass_45, if_neg (by intro z; exact absurd ((nI_ltI (by omega) (by omega)).mp z) (by omega)), zB_s e1, show (x + nI (k + 1)) - (1 : Int32) = x + nI k by rw [← nI_add1, ← Int32.add_assoc, Int32.add_sub_cancel], zB_s e2, zB_s (cc_tags (Q := Q + 12) (S := Q + 25) l2 hT hC), zLt_eq, f1]
    unfold D_X4_live
    rw [zB_s d1, nI_add1]
  · refine w6.year (fun h hh => ?_) (fun h hh => ?_) ?_ (fun i j h1 h2 h3 h4 h5 => (d3 _ _ (by omega)).trans (k4 _ _ (by omega) (by omega))) (fun j h1 h2 h3 h4 => ?_)
    · exact (if_pos hh).symm
    · show _ = (if 72 + h < H then _ else if 72 ≤ 72 + h ∧ 72 + h < 72 + H then A4 (Q + 11) (72 + h - 72) else _)
      rw [if_neg (by omega), if_pos (by omega), show 72 + h - 72 = h by omega]
    · show _ = (if 71 < H then _ else if 72 ≤ 71 ∧ 71 < 72 + H then _ else if 71 = 71 then A4 (Q + 4) 6 else _)
      rw [if_neg (by omega), if_neg (by omega), if_pos rfl]
    · show (if j < H then _ else if 72 ≤ j ∧ j < 72 + H then _ else if j = 71 then _ else r' j) = _
      rw [if_neg h2, if_neg h3, if_neg h4]
  · intro j hj
    show (if j < H then A4 (Q + 6) j else if 72 ≤ j ∧ j < 72 + H then _ else if j = 71 then _ else r' j) = _
    by_cases q : j < H
    · rw [if_pos q, (d2 j (by omega) q).1, hp j q, k4 _ _ (by omega) (by omega)]
      rw [show A (Q + 6) j = r' j from w6.2.2.1 j (by omega), w7 j hj]
    · rw [if_neg q, if_neg (by omega), if_neg (by omega), w7 j hj, k2 _ _ (by omega) (by omega) (by omega) (by omega), w1 j (by omega)]
  · rw [d3 _ _ (by omega), f4 _ _ (by omega) (by omega), zu_eq, k1 _ _ (by omega)]
  · intro h hh
    rw [d3 _ _ (by omega), d3 _ _ (by omega), d3 _ _ (by omega)]
    obtain ⟨z1, z2, z3⟩ := f2 h (by omega) hh
    rw [kz _ _ (by omega), k1 _ _ (by omega)] at z1 z2 z3
    exact ⟨z1, z2, z3⟩
  · rw [d3 _ _ (by omega)]
    exact f3
  · intro i j h
    exact (d3 _ _ (by omega)).trans ((f4 _ _ (by omega) (by omega)).trans ((kz _ _ (by omega)).trans (k1 _ _ (by omega))))
