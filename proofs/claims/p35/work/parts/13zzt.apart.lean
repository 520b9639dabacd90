/-! apart, both sides: a party's hunters each alone -/
def cmk (t : Nat → Int32) (p : Int32) (s : Nat → Int32) : Nat → Int32
  | 0 => 0
  | h + 1 => if t h = p then cmk t p s h ||| ((1 : Int32) <<< (s h &&& 31)) else cmk t p s h
theorem cmk_bit {t s : Nat → Int32} {p : Int32} {H i : Nat} (hs : ∀ h, h < H → ∃ k, k < 10 ∧ s h = nI k) (hi : i < 32) : ∀ K, K ≤ H → ((cmk t p s K).toBitVec.getLsbD i = true ↔ ∃ h, h < K ∧ t h = p ∧ s h = nI i)
  | 0, _ => by
    rw [show cmk t p s 0 = (0 : Int32) from rfl, show (0 : Int32).toBitVec = 0#32 from rfl, BitVec.getLsbD_zero]
    exact ⟨fun z => absurd z (by decide), fun ⟨h, z, _⟩ => absurd z (Nat.not_lt_zero h)⟩
  | K + 1, hK => by
    have ih := cmk_bit (t := t) (p := p) hs hi K (by omega)
    show ((if t K = p then cmk t p s K ||| ((1 : Int32) <<< (s K &&& 31)) else cmk t p s K).toBitVec.getLsbD i = true ↔ _)
    by_cases q : t K = p
    · obtain ⟨k, hk, e⟩ := hs K (by omega)
      rw [if_pos q, Int32.toBitVec_or, BitVec.getLsbD_or, Bool.or_eq_true, ih, e, bit1 k hk i hi, decide_eq_true_iff]
      constructor
      · rintro (⟨h, z1, z2, z3⟩ | z)
        · exact ⟨h, by omega, z2, z3⟩
        · exact ⟨K, by omega, q, by rw [e, z]⟩
      · rintro ⟨h, z1, z2, z3⟩
        by_cases y : h = K
        · subst y
          exact Or.inr (nI_inj (by omega) (by omega) (z3.symm.trans e))
        · exact Or.inl ⟨h, by omega, z2, z3⟩
    · rw [if_neg q, ih]
      constructor
      · rintro ⟨h, z1, z2, z3⟩
        exact ⟨h, by omega, z2, z3⟩
      · rintro ⟨h, z1, z2, z3⟩
        have : ¬ h = K := fun y => q (y ▸ z2)
        exact ⟨h, by omega, z2, z3⟩
def rmk (f : Nat → Int32) (m : Int32) : Nat → Int32
  | 0 => 0
  | a + 1 => rmk f m a ||| (if (f a &&& m) = 0 then 0 else (1 : Int32) <<< (nI a &&& 31))
theorem rmk_bit {f : Nat → Int32} {m : Int32} {i : Nat} (hi : i < 32) : ∀ n, n ≤ 10 → ((rmk f m n).toBitVec.getLsbD i = true ↔ i < n ∧ ¬ (f i &&& m) = 0)
  | 0, _ => by
    rw [show rmk f m 0 = (0 : Int32) from rfl, show (0 : Int32).toBitVec = 0#32 from rfl, BitVec.getLsbD_zero]
    exact ⟨fun z => absurd z (by decide), fun z => by omega⟩
  | n + 1, hn => by
    have ih := rmk_bit (f := f) (m := m) hi n (by omega)
    show ((rmk f m n ||| (if (f n &&& m) = 0 then 0 else (1 : Int32) <<< (nI n &&& 31))).toBitVec.getLsbD i = true ↔ _)
    rw [Int32.toBitVec_or, BitVec.getLsbD_or, Bool.or_eq_true, ih]
    by_cases q : (f n &&& m) = 0
    · rw [if_pos q, show (0 : Int32).toBitVec = 0#32 from rfl, BitVec.getLsbD_zero]
      constructor
      · rintro (⟨z1, z2⟩ | z)
        · exact ⟨by omega, z2⟩
        · exact absurd z (by decide)
      · rintro ⟨z1, z2⟩
        have : ¬ i = n := fun y => z2 (y ▸ q)
        exact Or.inl ⟨by omega, z2⟩
    · rw [if_neg q, bit1 n (by omega) i hi, decide_eq_true_iff]
      constructor
      · rintro (⟨z1, z2⟩ | z)
        · exact ⟨by omega, z2⟩
        · exact ⟨by omega, z ▸ q⟩
      · rintro ⟨z1, z2⟩
        by_cases y : i = n
        · exact Or.inr y
        · exact Or.inl ⟨by omega, z2⟩
theorem and0_iff {x y : Int32} : (x &&& y) = 0 ↔ ∀ i, i < 32 → ¬ (x.toBitVec.getLsbD i = true ∧ y.toBitVec.getLsbD i = true) := by
  rw [← Int32.toBitVec_inj, Int32.toBitVec_and]
  constructor
  · intro h i hi ⟨z1, z2⟩
    have := congrArg (fun b => b.getLsbD i) h
    simp only [BitVec.getLsbD_and] at this
    rw [z1, z2, show (0 : Int32).toBitVec = 0#32 from rfl, BitVec.getLsbD_zero] at this
    exact absurd this (by decide)
  · intro h
    apply BitVec.eq_of_getLsbD_eq
    intro i hi
    rw [BitVec.getLsbD_and, show (0 : Int32).toBitVec = 0#32 from rfl, BitVec.getLsbD_zero]
    cases q : x.toBitVec.getLsbD i
    · rfl
    · cases p : y.toBitVec.getLsbD i
      · rfl
      · exact absurd ⟨q, p⟩ (h i hi)
/-- the class asks for the same as the reference -/
theorem ap_mask {T : zMt} {n H : Nat} {t : Nat → Int32} {p : Int32} (hn : n ≤ 10) (hH : H ≤ 10) (hh : gH T n H) : cmk t p (T 4) H = rmk (T 9) (cmk t p nI H) n := by
  refine i_ext (fun i hi => ?_)
  have e4 : ∀ h, h < H → ∃ k, k < 10 ∧ T 4 h = nI k := fun h z => ⟨aOf T h, by have := (hh h z).1; omega, (hh h z).2.1⟩
  rw [cmk_bit e4 hi H (Nat.le_refl H), rmk_bit hi n hn, and0_iff]
  have hb : ∀ j, j < 32 → ((cmk t p nI H).toBitVec.getLsbD j = true ↔ j < H ∧ t j = p) := fun j hj => by
    rw [cmk_bit (fun h z => ⟨h, by omega, rfl⟩) hj H (Nat.le_refl H)]
    constructor
    · rintro ⟨h, z1, z2, z3⟩
      have := nI_inj (by omega) (by omega) z3
      subst this
      exact ⟨z1, z2⟩
    · rintro ⟨z1, z2⟩
      exact ⟨j, z1, z2, rfl⟩
  constructor
  · rintro ⟨h, z1, z2, z3⟩
    obtain ⟨y1, y2, y3⟩ := hh h z1
    have e : aOf T h = i := nI_inj (by omega) (by omega) (y2.symm.trans z3)
    subst e
    exact ⟨y1, fun w => w h (by omega) ⟨(bitAt_iff (by omega)).mp ((y3 _ y1).mpr rfl), (hb h (by omega)).mpr ⟨z1, z2⟩⟩⟩
  · rintro ⟨z1, z2⟩
    refine Classical.byContradiction (fun w => z2 (fun j hj ⟨q1, q2⟩ => w ?_))
    obtain ⟨y1, y2⟩ := (hb j hj).mp q2
    have := ((hh j y1).2.2 i z1).mp ((bitAt_iff (by omega)).mpr q1)
    exact ⟨j, y1, y2, by rw [(hh j y1).2.1, this]⟩
/-- the class's loop -/
theorem ap_79 {C H p : Nat} {A T : zMt} {N : zNt} (hH : H ≤ 10) (h1 : A (C + 17) 1 = nI H) (hT : ∀ h, h < H → A (C + 170) h = T 4 h) : ∀ (v k : Nat), k ≤ H → H - k < v → D_X7_apart_79 C v (nI p) (cmk (A (C + 21)) (nI p) (T 4) k) (nI k) A N = (zB (D_X0_allOf (C + 187) N (cmk (A (C + 21)) (nI p) (T 4) H)) fun e => zB (D_X7_answerParts C e A) fun e => some (e.1, e.2, N)) := by
  intro v
  induction v with
  | zero => intro k _ h; omega
  | succ v ih =>
    intro k hk hv
    rw [D_X7_apart_79, h1]
    by_cases hc : H ≤ k
    · rw [if_pos (by exact (nI_leI (by omega) (by omega)).mpr hc), show k = H by omega]
    · rw [if_neg (by intro z; exact hc ((nI_leI (by omega) (by omega)).mp z)), zrd_nI (show k < 10 by omega) (by decide), zrd_nI (show k < 10 by omega) (by decide), hT k (by omega)]
      have e : cmk (A (C + 21)) (nI p) (T 4) (k + 1) = if A (C + 21) k = nI p then cmk (A (C + 21)) (nI p) (T 4) k ||| ((1 : Int32) <<< (T 4 k &&& 31)) else cmk (A (C + 21)) (nI p) (T 4) k := rfl
      have := ih (k + 1) (by omega) (by omega)
      rw [e] at this
      unfold D_X7_apart_121
      rw [nI_add1]
      by_cases q : A (C + 21) k = nI p
      · rw [if_pos q]
        rw [if_pos q] at this
        exact this
      · rw [if_neg q]
        rw [if_neg q] at this
        exact this
/-- the reference's first loop -/
theorem ap_19 {P H p : Nat} {B : zMt} {N : zNt} (hH : H ≤ 10) (h8 : B P 8 = nI H) : ∀ (v k : Nat), k ≤ H → H - k < v → D_X8_apart_19 P v (nI p) (cmk (fun h => B (P + 1) (10 + h)) (nI p) nI k) (nI k) B N = (zB (D_X8_putsAside P B) fun e => zB (D_X8_splits P (nI p) e) fun e => zB (D_X8_areMany P e) fun e => if e.1 = 0 then D_X8_apart_77 P (cmk (fun h => B (P + 1) (10 + h)) (nI p) nI H) (1 : Int32) e.2 N else D_X8_apart_77 P (cmk (fun h => B (P + 1) (10 + h)) (nI p) nI H) (0 : Int32) e.2 N) := by
  intro v
  induction v with
  | zero => intro k _ h; omega
  | succ v ih =>
    intro k hk hv
    rw [D_X8_apart_19, h8]
    by_cases hc : H ≤ k
    · rw [if_pos (by exact (nI_leI (by omega) (by omega)).mpr hc), show k = H by omega]
    · rw [if_neg (by intro z; exact hc ((nI_leI (by omega) (by omega)).mp z)), nI_10h k (by omega)]
      unfold zI
      rw [if_neg (vp_in_nI (show 10 + k < 82 by omega) (by decide)), nI_clamp (by omega)]
      have e : cmk (fun h => B (P + 1) (10 + h)) (nI p) nI (k + 1) = if B (P + 1) (10 + k) = nI p then cmk (fun h => B (P + 1) (10 + h)) (nI p) nI k ||| ((1 : Int32) <<< (nI k &&& 31)) else cmk (fun h => B (P + 1) (10 + h)) (nI p) nI k := rfl
      have := ih (k + 1) (by omega) (by omega)
      rw [e] at this
      unfold D_X8_apart_48
      rw [nI_add1]
      by_cases q : B (P + 1) (10 + k) = nI p
      · rw [if_pos q]
        rw [if_pos q] at this
        exact this
      · rw [if_neg q, show cmk (fun h => B (P + 1) (10 + h)) (nI p) nI k ||| (0 : Int32) = cmk (fun h => B (P + 1) (10 + h)) (nI p) nI k by rw [Int32.or_zero]]
        rw [if_neg q] at this
        exact this
/-- the reference's second loop -/
theorem ap_90 {P n U : Nat} {T : zMt} {N : zNt} {m x3 : Int32} (hn : n ≤ 10) (hU : U ≤ 5) : ∀ (v k : Nat) (B : zMt), k ≤ n → n - k < v → mP P B T n U → B P 58 = rmk (T 9) m k → ∃ B', D_X8_apart_90 P v m x3 (nI k) B N = (zB (D_X8_laysAll P B' N) fun e => D_X8_apart_138 P x3 e.1 e.2) ∧ B' P 58 = rmk (T 9) m n ∧ (∀ i j, ¬ (i = P ∧ j = 58) → B' i j = B i j) := by
  intro v
  induction v with
  | zero => intro k B _ h; omega
  | succ v ih =>
    intro k B hk hv hm h58
    rw [D_X8_apart_90, hm.1]
    by_cases hc : n ≤ k
    · rw [if_pos (by exact (nI_leI (by omega) (by omega)).mpr hc)]
      exact ⟨B, rfl, by rw [h58, show k = n by omega], fun _ _ _ => rfl⟩
    · rw [if_neg (by intro z; exact hc ((nI_leI (by omega) (by omega)).mp z))]
      unfold zI
      rw [if_neg (vp_in_nI (show k < 10 by omega) (by decide)), nI_clamp (by omega), (hm.2.2.1 k (by omega)).1, h58]
      have kz : ∀ i j, ¬ (i = P ∧ j = 58) → zu B P 58 (rmk (T 9) m (k + 1)) i j = B i j := fun i j h => zu_ne h
      obtain ⟨B', f1, f2, f3⟩ := ih (k + 1) (zu B P 58 (rmk (T 9) m (k + 1))) (by omega) (by omega) (hm.m hU (kz _ _ (by omega)) (kz _ _ (by omega)) (fun j _ _ => kz _ _ (by omega)) (fun i j _ _ => kz _ _ (by omega))) zu_eq
      refine ⟨B', ?_, f2, fun i j h => (f3 i j h).trans (kz i j h)⟩
      unfold D_X8_apart_124
      rw [← f1, zLt_eq, zLt_eq, nI_add1]
      show (if (T 9 k &&& m) = 0 then D_X8_apart_90 P v m x3 (nI (k + 1)) (zu B P 58 (rmk (T 9) m k ||| 0)) N else D_X8_apart_90 P v m x3 (nI (k + 1)) (zu B P 58 (rmk (T 9) m k ||| ((1 : Int32) <<< (nI k &&& 31)))) N) = D_X8_apart_90 P v m x3 (nI (k + 1)) (zu B P 58 (rmk (T 9) m k ||| (if (T 9 k &&& m) = 0 then 0 else (1 : Int32) <<< (nI k &&& 31)))) N
      by_cases q : (T 9 k &&& m) = 0
      · rw [if_pos q, if_pos q]
      · rw [if_neg q, if_neg q]
theorem t_apart {C P : Nat} {A B : zMt} {NA NB : zNt} {v0 : Int32} (w0 : eqE C P A B) (hJ : jJ P B) : two (D_X7_apart C v0 A NA) (D_X8_apart P v0 B NB) (fun a b => a.1 = b.1) := by
  obtain ⟨r, g, U, H, G, K, w⟩ := id w0
  obtain ⟨w1, w2, w3, w4, w5, w6, w7, w8, w9⟩ := id w
  have c1 := w6.1.1
  have c2 := w6.1.2.1
  have c3 := w6.1.2.2.1
  unfold D_X7_apart D_X8_apart
  rcases t_isP (v := v0) w with ⟨e1, e2, p, hp, hv⟩ | ⟨e1, e2⟩
  · subst hv
    rw [zB_s e1, zB_s e2, if_neg n10, if_neg n10]
    have hm0 := ap_19 (P := P) (p := p) (B := B) (N := NB) c2 w4 zFu 0 (by omega) (by unfold zFu; omega)
    rw [show nI 0 = (0 : Int32) by decide, show cmk (fun h => B (P + 1) (10 + h)) (nI p) nI 0 = (0 : Int32) from rfl] at hm0
    rw [hm0]
    have ec : cmk (fun h => B (P + 1) (10 + h)) (nI p) nI H = cmk (A (C + 21)) (nI p) nI H := by
      have go : ∀ k, k ≤ H → cmk (fun h => B (P + 1) (10 + h)) (nI p) nI k = cmk (A (C + 21)) (nI p) nI k := by
        intro k
        induction k with
        | zero => intro _; rfl
        | succ k ih =>
          intro hk
          have e21 : A (C + 21) k = B (P + 1) (10 + k) := (w6.2.2.2.2.1 k (by omega)).1.trans (w1 (10 + k) (by omega)).symm
          show (if B (P + 1) (10 + k) = nI p then cmk (fun h => B (P + 1) (10 + h)) (nI p) nI k ||| ((1 : Int32) <<< (nI k &&& 31)) else cmk (fun h => B (P + 1) (10 + h)) (nI p) nI k) = (if A (C + 21) k = nI p then cmk (A (C + 21)) (nI p) nI k ||| ((1 : Int32) <<< (nI k &&& 31)) else cmk (A (C + 21)) (nI p) nI k)
          rw [e21, ih (by omega)]
      exact go H (Nat.le_refl H)
    rw [ec]
    obtain ⟨A1, ea, g158, k1⟩ := w6.take (R := C + 158) (by omega)
    obtain ⟨B1, eb, k2⟩ := puts_all (P := P) (M := B)
    have hL : gR (C + 158) A1 (B1 (P + 1)) g U H G := g158.m (fun _ _ _ _ => rfl) (fun j hj => (k2 _ _ (by omega)).trans (w1 j hj)) (fun _ _ => rfl)
    obtain ⟨A2, f1, f2, f3, f4⟩ := cc_diss (Q := C + 158) (H := H) (p := p) c2 zFu 0 A1 hL.1.2.2.2.2.1 (by omega) (by unfold zFu; omega)
    rw [show nI 0 = (0 : Int32) by decide] at f1
    have f1' : D_X4_dissolve (C + 158) (nI p) A1 = some A2 := f1
    obtain ⟨B2, m1, m2, m3, m4, m5⟩ := mm_spl2 (P := P) (H := H) (p := p) c2 (by omega) zFu 0 B1 ((k2 _ _ (by omega)).trans w4) (by omega) (by unfold zFu; omega)
    rw [show nI 0 = (0 : Int32) by decide] at m1
    have m1' : D_X8_splits P (nI p) B1 = some B2 := m1
    have eB70 : B1 (P + 1) 70 = nI G := (k2 _ _ (by omega)).trans ((w1 70 (by omega)).trans w6.1.2.2.2.2.2.2)
    obtain ⟨B2', m6, kb, jS2⟩ := v_X8_splits (P := P) (v0 := nI p) (M0 := B1) (hJ.1.mono (fun a j q => k2 a j (by omega))) (hJ.2.1.mono (fun a j q => k2 a j (by omega))) (by rw [nI_toInt (by omega)]; omega) (by rw [eB70, nI_toInt (by omega), nI_toInt (by omega)]; omega)
    rw [m1'] at m6
    cases m6
    have gA : gR (C + 158) A2 (B2 (P + 1)) g U H (G - 1) := hL.split hp f2 (fun h hh => f3 h (Nat.zero_le h) hh) (fun i j _ _ h1 h2 => f4 i j h1 (by omega)) m2 (fun h hh => m3 h (Nat.zero_le h) hh) m4 (fun j _ hj => m5 _ _ (by omega))
    have h7 : B2 P 7 = nI U := (m5 _ _ (by omega)).trans ((k2 _ _ (by omega)).trans w3)
    have h8 : B2 P 8 = nI H := (m5 _ _ (by omega)).trans ((k2 _ _ (by omega)).trans w4)
    have h5 : ∀ h, h < 10 → B2 (P + 5) h = g h := fun h hh => (m5 _ _ (by omega)).trans ((k2 _ _ (by omega)).trans (w2 h hh))
    have jr : jRow (B2 (P + 1)) U H := jS2.row h7 h8 c1 c2
    have h70 := gA.1.2.2.2.2.2.2
    obtain ⟨y1, y2, y3, y4, y5⟩ := row_facts jr h70 (by omega) c2
    obtain ⟨A3, ea3, cu, cl, k3⟩ := cc_gather (Q := C + 166) (R := C + 158) gA (by omega) (by omega) y2 y5
    have hg : ∀ h, h < H → g h = 0 ∨ g h = 1 := fun h hh => (gA.2.2.2.1 h hh).2
    obtain ⟨n, B3, hn, l1, l2, l3, l4, l5, -⟩ := t_laid3 c1 c2 (by omega) (fun _ _ => rfl) h5 h7 h8 jr h70 hg cu cl
    obtain ⟨q1, q2⟩ := mm_many7 l2.1 l1 l4.1
    refine two.l ea (two.l f1' (two.l ea3 (two.r eb (two.r m1' ?_))))
    have e166 : A3 (C + 166) 1 = nI n := l2.2.2.1
    rw [e166]
    by_cases hn7 : n ≤ 7
    · rw [if_pos ((nI_7i l2.1).mpr hn7)]
      refine two.r (q1 hn7) ?_
      rw [if_pos rfl]
      unfold D_X8_apart_77
      rw [if_neg n10, zLt_eq]
      have kz : ∀ i j, ¬ (i = P ∧ j = 58) → zu B3 P 58 (0 : Int32) i j = B3 i j := fun i j h => zu_ne h
      obtain ⟨B5, s1, s2, s3⟩ := ap_90 (P := P) (T := tP (C + 166) A3) (N := NB) (m := cmk (A (C + 21)) (nI p) nI H) (x3 := 1) l2.1 c1 zFu 0 (zu B3 P 58 (0 : Int32)) (by omega) (by unfold zFu; omega) (l4.m c1 (kz _ _ (by omega)) (kz _ _ (by omega)) (fun j _ _ => kz _ _ (by omega)) (fun i j _ _ => kz _ _ (by omega))) zu_eq
      rw [show nI 0 = (0 : Int32) by decide] at s1
      rw [s1]
      have kB : ∀ i j, ¬ (i = P ∧ (j = 33 ∨ j = 58)) → ¬ (P + 11 ≤ i ∧ i ≤ P + 17) → B5 i j = B2 i j := fun i j z1 z2 => (s3 i j (by omega)).trans ((kz i j (by omega)).trans (l5 i j (by omega) z2))
      obtain ⟨A3', A4, N4, T, B6, NB6, e1', e2', e3', t1, t2, t3, t4, t5, t6, t7, t8, t9, t10, t11, -⟩ := t_tri (n := n) (NA := NA) (NB := NB) (B := B5) gA (fun j _ => kB _ _ (by omega) (by omega)) (fun x hx => (kB _ _ (by omega) (by omega)).trans (h5 x hx)) ((kB _ _ (by omega) (by omega)).trans h7) ((kB _ _ (by omega) (by omega)).trans h8) jr hn hn7
      rw [ea3] at e1'
      cases e1'
      refine two.l e2' (two.r e3' ?_)
      have a17 : ∀ i j, i < C + 158 → A4 i j = A i j := fun i j h => (t8 i j (by omega)).trans ((f4 i j (by omega) (by omega)).trans (k1 i j (by omega)))
      have hc := ap_79 (C := C) (H := H) (p := p) (A := A4) (T := T) (N := N4) c2 ((a17 _ _ (by omega)).trans w6.1.2.2.2.2.1) (fun h hh => t3 4 h (by omega)) zFu 0 (by omega) (by unfold zFu; omega)
      rw [show nI 0 = (0 : Int32) by decide, show cmk (A4 (C + 21)) (nI p) (T 4) 0 = (0 : Int32) from rfl, cc_allOf hn7 t5, show A4 (C + 21) = A (C + 21) from funext fun j => a17 _ _ (by omega)] at hc
      rw [hc]
      unfold D_X8_apart_138
      obtain ⟨Bz, hz⟩ := takes_all (P := P) (M := B6)
      refine two.l rfl (two.r hz ?_)
      rw [if_neg n10]
      unfold D_X8_apart_163
      refine t_ans4 ?_
      have e58 : B6 P 58 = rmk (tP (C + 166) A3 9) (cmk (A (C + 21)) (nI p) nI H) n := (t9 _ _ (by omega) (by omega) (by omega)).trans s2
      have eT9 : tP (C + 166) A3 9 = T 9 := funext fun j => t10 9 j (by omega)
      show _ = NB6 P 59
      rw [t6.2.2.2.2.2.1, e58, eT9, ← ap_mask l2.1 c2 t2]
      refine lsum_cg _ (fun y _ => ?_)
      by_cases z : (nI (hvN (rs T 10 U n y.1) n) &&& cmk (A (C + 21)) (nI p) (T 4) H) = cmk (A (C + 21)) (nI p) (T 4) H
      · rw [if_pos z, if_pos (mask_iff0.mpr (mask_iff.mp z))]
      · rw [if_neg z, if_neg (fun x => z (mask_iff.mpr (mask_iff0.mp x)))]
    · rw [if_neg (fun z => hn7 ((nI_7i l2.1).mp z))]
      refine two.r (q2 hn7) ?_
      rw [if_neg n10]
      unfold D_X8_apart_77 D_X8_apart_138
      rw [if_pos rfl]
      obtain ⟨Bz, hz⟩ := takes_all (P := P) (M := B3)
      refine two.r hz ?_
      rw [if_pos rfl]
      unfold D_X8_apart_163
      exact t_rfs4
  · rw [zB_s e1, zB_s e2, if_pos rfl, if_pos rfl]
    exact t_rfs4
