/-! years: the reading, both sides -/
/-- who has had nothing -/
def ub (f : Nat → Int32) : Nat → Int32
  | 0 => 0
  | h + 1 => ub f h ||| (if f h = 0 then (1 : Int32) <<< (nI h &&& 31) else 0)
theorem ub_0 : ∀ H, H < 11 → ((1 : Int32) <<< (nI H &&& 31)) - 1 = ub (fun _ => 0) H := by decide +kernel
theorem ub_cg {f f' : Nat → Int32} : ∀ n, (∀ h, h < n → f' h = f h) → ub f' n = ub f n
  | 0, _ => rfl
  | n + 1, h => by
    show ub f' n ||| (if f' n = 0 then _ else _) = ub f n ||| (if f n = 0 then _ else _)
    rw [ub_cg n (fun x hx => h x (by omega)), h n (by omega)]
theorem i_orand {x y z : Int32} : (x ||| y) &&& z = (x &&& z) ||| (y &&& z) := by
  rw [← Int32.toBitVec_inj, Int32.toBitVec_and, Int32.toBitVec_or, Int32.toBitVec_or, Int32.toBitVec_and, Int32.toBitVec_and]
  apply BitVec.eq_of_getLsbD_eq
  intro i _
  rw [BitVec.getLsbD_and, BitVec.getLsbD_or, BitVec.getLsbD_or, BitVec.getLsbD_and, BitVec.getLsbD_and]
  cases x.toBitVec.getLsbD i <;> cases y.toBitVec.getLsbD i <;> cases z.toBitVec.getLsbD i <;> rfl
theorem bit1 : ∀ h, h < 10 → ∀ i, i < 32 → ((1 : Int32) <<< (nI h &&& 31)).toBitVec.getLsbD i = decide (i = h) := by decide +kernel
theorem bitm1 : ∀ i, i < 32 → (-1 : Int32).toBitVec.getLsbD i = true := by decide +kernel
theorem i_bitnot {w : Int32} {h : Nat} (hh : h < 10) : (bitAt w h → ((1 : Int32) <<< (nI h &&& 31)) &&& (w ^^^ (-1 : Int32)) = 0) ∧ (¬ bitAt w h → ((1 : Int32) <<< (nI h &&& 31)) &&& (w ^^^ (-1 : Int32)) = (1 : Int32) <<< (nI h &&& 31)) := by
  have key : ∀ i, i < 32 → (((1 : Int32) <<< (nI h &&& 31)) &&& (w ^^^ (-1 : Int32))).toBitVec.getLsbD i = (decide (i = h) && !w.toBitVec.getLsbD i) := fun i hi => by
    rw [Int32.toBitVec_and, Int32.toBitVec_xor, BitVec.getLsbD_and, BitVec.getLsbD_xor, bit1 h hh i hi, bitm1 i hi, Bool.xor_true]
  refine ⟨fun q => ?_, fun q => ?_⟩
  · rw [bitAt_iff hh] at q
    rw [← Int32.toBitVec_inj]
    apply BitVec.eq_of_getLsbD_eq
    intro i hi
    rw [key i hi, show (0 : Int32).toBitVec = 0#32 from rfl, BitVec.getLsbD_zero]
    by_cases z : i = h
    · subst z
      rw [q]
      simp
    · rw [decide_eq_false z]
      rfl
  · rw [bitAt_iff hh] at q
    rw [← Int32.toBitVec_inj]
    apply BitVec.eq_of_getLsbD_eq
    intro i hi
    rw [key i hi, bit1 h hh i hi]
    by_cases z : i = h
    · subst z
      rw [Bool.eq_false_iff.mpr q]
      simp
    · rw [decide_eq_false z]
      rfl
theorem ub_and {w : Int32} {f f' : Nat → Int32} : ∀ n, n ≤ 10 → (∀ h, h < n → (f' h = 0 ↔ f h = 0 ∧ ¬ bitAt w h)) → ub f n &&& (w ^^^ (-1 : Int32)) = ub f' n
  | 0, _, _ => by
    show (0 : Int32) &&& _ = 0
    exact Int32.zero_and
  | n + 1, hn, h => by
    show (ub f n ||| (if f n = 0 then (1 : Int32) <<< (nI n &&& 31) else 0)) &&& (w ^^^ (-1 : Int32)) = ub f' n ||| (if f' n = 0 then (1 : Int32) <<< (nI n &&& 31) else 0)
    rw [i_orand, ub_and n (by omega) (fun x hx => h x (by omega))]
    have e := h n (by omega)
    obtain ⟨b1, b2⟩ := i_bitnot (w := w) (show n < 10 by omega)
    by_cases q : f n = 0
    · rw [if_pos q]
      by_cases z : bitAt w n
      · rw [if_neg (fun y => (e.mp y).2 z), b1 z]
      · rw [if_pos (e.mpr ⟨q, z⟩), b2 z]
    · rw [if_neg q, if_neg (fun y => q (e.mp y).1), Int32.zero_and]
theorem wn_bit {T s : zMt} {n H h : Nat} (hh : gH T n H) (hH : H ≤ 10) (hhH : h < H) : ∀ m, m ≤ n → (bitAt (wn T s m) h ↔ aOf T h < m ∧ ¬ s 0 (aOf T h) = -1)
  | 0, _ => ⟨fun z => absurd z bitAt_0, fun z => absurd z.1 (Nat.not_lt_zero _)⟩
  | m + 1, hm => by
    have ih := wn_bit (s := s) hh hH hhH m (by omega)
    have hb := (hh h hhH).2.2 m (by omega)
    by_cases q : s 0 m = -1
    · rw [show wn T s (m + 1) = wn T s m from if_pos q, ih]
      refine ⟨fun z => ⟨by omega, z.2⟩, fun z => ⟨?_, z.2⟩⟩
      have : ¬ aOf T h = m := fun y => z.2 (by rw [y]; exact q)
      omega
    · rw [show wn T s (m + 1) = wn T s m ||| T 9 m from if_neg q, bitAt_or (by omega), ih, hb]
      constructor
      · rintro (⟨z1, z2⟩ | z)
        · exact ⟨by omega, z2⟩
        · rw [← z]; exact ⟨by omega, q⟩
      · rintro ⟨z1, z2⟩
        by_cases y : m = aOf T h
        · exact Or.inr y
        · exact Or.inl ⟨by omega, z2⟩
theorem cc_unserved {Q H : Nat} {A : zMt} (hH : H ≤ 10) : D_X6_unserved Q A (nI H) = some (ub (A (Q + 1)) H) := by
  have go : ∀ (v k : Nat), k ≤ H → H - k < v → D_X6_unserved_4 Q A v (nI H) (ub (A (Q + 1)) k) (nI k) = some (ub (A (Q + 1)) H) := by
    intro v
    induction v with
    | zero => intro k _ h; omega
    | succ v ih =>
      intro k hk hv
      rw [D_X6_unserved_4]
      by_cases hc : H ≤ k
      · rw [if_pos (by exact (nI_leI (by omega) (by omega)).mpr hc), show k = H by omega]
      · rw [if_neg (by intro z; exact hc ((nI_leI (by omega) (by omega)).mp z)), zrd_nI (show k < 10 by omega) (by decide)]
        have := ih (k + 1) (by omega) (by omega)
        rw [← nI_add1] at this
        by_cases q : A (Q + 1) k = 0
        · rw [if_pos q]
          rw [show ub (A (Q + 1)) (k + 1) = ub (A (Q + 1)) k ||| ((1 : Int32) <<< (nI k &&& 31)) by show _ ||| (if _ then _ else _) = _; rw [if_pos q]] at this
          exact this
        · rw [if_neg q]
          rw [show ub (A (Q + 1)) (k + 1) = ub (A (Q + 1)) k ||| 0 by show _ ||| (if _ then _ else _) = _; rw [if_neg q]] at this
          exact this
  have := go zFu 0 (by omega) (by unfold zFu; omega)
  rw [show nI 0 = (0 : Int32) by decide] at this
  exact this
theorem nLf_ge {T s : zMt} {f : Nat → Int32} {old : Int32} (h0 : 0 ≤ old.toInt) : ∀ n, 0 ≤ (nLf T s f old n).toInt
  | 0 => h0
  | n + 1 => by
    have ih := nLf_ge (T := T) (s := s) (f := f) h0 n
    show 0 ≤ (nL s (aOf T n) (f n) (nLf T s f old n)).toInt
    unfold nL
    by_cases q : s 0 (aOf T n) = -1
    · rw [if_pos q]
      by_cases z : nLf T s f old n < f n
      · rw [if_pos z]
        have := Int32.lt_iff_toInt_lt.mp z
        omega
      · rw [if_neg z]; exact ih
    · rw [if_neg q]; exact ih
theorem mm_y112 {P n U H : Nat} {T s : zMt} {N : zNt} {x1 x2 x3 x4 x5 x7 old : Int32} {w : Nat → Int32} {k75 : Int32 → Int32 → Int32 → Int32 → Int32 → Int32 → Int32 → zMt → zNt → Option (Int32 × zMt × zNt)} (hg : gP T n U) (hh : gH T n H) (hH : H ≤ 10) (h0 : 0 ≤ old.toInt) : ∀ (v k : Nat) (B : zMt), k ≤ H → H - k < v → B P 8 = nI H → mP P B T n U → rM P B s n U → (∀ h, k ≤ h → h < H → B (P + 31) h = w h) → ∃ B', D_X8_years_112 P k75 v x1 x2 x3 x4 x5 (nLf T s (fun h => nW s (aOf T h) (w h)) old k) x7 (nI k) B N = k75 x1 x2 x3 x4 x5 (nLf T s (fun h => nW s (aOf T h) (w h)) old H) (x7 + 1) B' N ∧ (∀ h, k ≤ h → h < H → B' (P + 31) h = nW s (aOf T h) (w h)) ∧ (∀ i j, ¬ (i = P + 31 ∧ k ≤ j) → B' i j = B i j) := by
  have g2 := hg.2.1
  intro v
  induction v with
  | zero => intro k B _ h; omega
  | succ v ih =>
    intro k B hk hv h8 hm hs hw
    rw [D_X8_years_112, h8]
    by_cases hc : H ≤ k
    · have : k = H := by omega
      subst this
      rw [if_pos (by exact (nI_leI (by omega) (by omega)).mpr (Nat.le_refl k))]
      exact ⟨B, rfl, fun h h2 h3 => by omega, fun _ _ _ => rfl⟩
    · rw [if_neg (by intro z; exact hc ((nI_leI (by omega) (by omega)).mp z)), zB_s (mm_unitNow hg.1 hm hs hh hH (show k < H by omega))]
      have st : ∀ B1 : zMt, B1 = zu B (P + 31) k (nW s (aOf T k) (w k)) → ∃ B', D_X8_years_112 P k75 v x1 x2 x3 x4 x5 (nLf T s (fun h => nW s (aOf T h) (w h)) old (k + 1)) x7 (nI (k + 1)) B1 N = k75 x1 x2 x3 x4 x5 (nLf T s (fun h => nW s (aOf T h) (w h)) old H) (x7 + 1) B' N ∧ (∀ h, k ≤ h → h < H → B' (P + 31) h = nW s (aOf T h) (w h)) ∧ (∀ i j, ¬ (i = P + 31 ∧ k ≤ j) → B' i j = B i j) := fun B1 e => by
        have kz : ∀ i j, ¬ (i = P + 31 ∧ j = k) → B1 i j = B i j := fun i j h => by rw [e]; exact zu_ne h
        obtain ⟨B', f1, f2, f3⟩ := ih (k + 1) B1 (by omega) (by omega) ((kz _ _ (by omega)).trans h8) (hm.m g2 (kz _ _ (by omega)) (kz _ _ (by omega)) (fun j _ _ => kz _ _ (by omega)) (fun i j _ _ => kz _ _ (by omega))) (hs.k (fun i j _ _ => kz _ _ (by omega))) (fun h h2 h3 => (kz _ _ (by omega)).trans (hw h (by omega) h3))
        refine ⟨B', f1, fun h h2 h3 => ?_, fun i j h2 => (f3 i j (by omega)).trans (kz i j (by omega))⟩
        by_cases q : h = k
        · subst q
          rw [f3 _ _ (by omega), e, zu_eq]
        · exact f2 h (by omega) h3
      have hge := nLf_ge (T := T) (s := s) (f := fun h => nW s (aOf T h) (w h)) h0 k
      have eL : nLf T s (fun h => nW s (aOf T h) (w h)) old (k + 1) = (if nLf T s (fun h => nW s (aOf T h) (w h)) old k < nW s (aOf T k) (w k) then nW s (aOf T k) (w k) else nLf T s (fun h => nW s (aOf T h) (w h)) old k) := by
        show nL s (aOf T k) (nW s (aOf T k) (w k)) _ = _
        unfold nL
        by_cases q : s 0 (aOf T k) = -1
        · rw [if_pos q]
        · rw [if_neg q, show nW s (aOf T k) (w k) = 0 from if_neg q, if_neg (fun z => by
            have := Int32.lt_iff_toInt_lt.mp z
            rw [show (0 : Int32).toInt = 0 by decide] at this
            omega)]
      have ew := hw k (Nat.le_refl k) (by omega)
      have y150 : ∀ y2 : Int32, y2 = nW s (aOf T k) (w k) → ∃ B', D_X8_years_150 P k75 (D_X8_years_112 P k75 v) x1 x2 x3 x4 x5 (nLf T s (fun h => nW s (aOf T h) (w h)) old k) x7 (nI k) (nI k) y2 B N = k75 x1 x2 x3 x4 x5 (nLf T s (fun h => nW s (aOf T h) (w h)) old H) (x7 + 1) B' N ∧ (∀ h, k ≤ h → h < H → B' (P + 31) h = nW s (aOf T h) (w h)) ∧ (∀ i j, ¬ (i = P + 31 ∧ k ≤ j) → B' i j = B i j) := fun y2 hy => by
        subst hy
        obtain ⟨B', f1, f2, f3⟩ := st _ rfl
        refine ⟨B', ?_, f2, f3⟩
        rw [← f1]
        unfold D_X8_years_150 zI
        rw [if_neg (vp_in_nI (show k < 10 by omega) (by decide)), nI_clamp (by omega), zLt_eq, if_neg (ci (show k < 10 by omega) (by omega)), zu_eq, ← eL, nI_add1]
      by_cases q : s 0 (aOf T k) = -1
      · rw [if_pos q]
        unfold zI
        rw [if_neg (vp_in_nI (show k < 10 by omega) (by decide)), nI_clamp (by omega), ew]
        exact y150 _ (show w k + 1 = nW s (aOf T k) (w k) from (if_pos q).symm)
      · rw [if_neg q]
        exact y150 _ (show (0 : Int32) = nW s (aOf T k) (w k) from (if_neg q).symm)
theorem t_y75 {Q X P U H G Y : Nat} {g : Nat → Int32} {x y : Int32} (hY : Y ≤ 30) (h0 : 0 ≤ x.toInt) (h9 : x.toInt + Y ≤ 999999999) (hH : H ≤ 10) : ∀ (m k v u : Nat) (A B : zMt) (N : zNt) (r : Nat → Int32), k + m = Y → m < v → m < u → yR Q P A B r g U H G → (∀ h, h < H → B (P + 31) h = A (Q + 3) h) → 0 ≤ (A Q 1).toInt → (∀ h, h < H → ∃ c, c ≤ k ∧ A (Q + 1) h = nI c) → ∃ A' B' N', D_X6_pass_45 Q X v x (nI Y) (nI (k + 1)) A = some A' ∧ D_X8_years_75 P u x (nI Y) y (A Q 0) (ub (A (Q + 1)) H) (A Q 1) (nI k) B N = D_X8_years_75 P (0 + 1) x (nI Y) y (A' Q 0) (ub (A' (Q + 1)) H) (A' Q 1) (nI Y) B' N' ∧ (∀ i j, ¬ (Q ≤ i ∧ i ≤ Q + 32) → A' i j = A i j) := by
  intro m
  induction m with
  | zero =>
    intro k v u A B N r hk hv hu w h31 hL hO
    obtain ⟨v, rfl⟩ : ∃ y, v = y + 1 := ⟨v - 1, by omega⟩
    obtain ⟨u, rfl⟩ : ∃ y, u = y + 1 := ⟨u - 1, by omega⟩
    have : k = Y := by omega
    subst this
    refine ⟨A, B, N, p45_end hY, ?_, fun _ _ _ => rfl⟩
    have hle : nI k ≤ nI k := (nI_leI (by omega) (by omega)).mpr (Nat.le_refl k)
    rw [D_X8_years_75, D_X8_years_75, if_pos hle, if_pos hle]
  | succ m ih =>
    intro k v u A B N r hk hv hu w h31 hL hO
    obtain ⟨v, rfl⟩ : ∃ y, v = y + 1 := ⟨v - 1, by omega⟩
    obtain ⟨u, rfl⟩ : ∃ y, u = y + 1 := ⟨u - 1, by omega⟩
    obtain ⟨A1, b, T, s, n, e1, e2, l2, l3, hm, hM, ok, w', a0, a1, a2, k1, k2⟩ := t_yrs (X := X) (N := N) (x := x) (v := v) w (t_ysd h0 h9 (show k ≤ Y by omega)) (show k < Y by omega) hY
    obtain ⟨w1', w2', w3', w4', w5', w6'⟩ := id w'
    obtain ⟨B2, f1, f2, f3⟩ := mm_y112 (P := P) (N := b.2) (x1 := x) (x2 := nI Y) (x3 := y) (x4 := A Q 0 + tg T s n) (x5 := ub (A (Q + 1)) H &&& (wn T s n ^^^ (-1 : Int32))) (x7 := nI k) (old := A Q 1) (w := fun h => A (Q + 3) h) (k75 := D_X8_years_75 P u) (s := s) l2 l3 hH hL zFu 0 b.1 (by omega) (by unfold zFu; omega) w4' hm hM (fun h _ hh => (k2 _ _ (by omega) (by omega) (by omega) (by omega)).trans (h31 h hh))
    rw [show nI 0 = (0 : Int32) by decide, nI_add1] at f1
    have eO : ∀ h, h < H → ∃ c c', c ≤ k ∧ A (Q + 1) h = nI c ∧ A1 (Q + 1) h = nI c' ∧ c' ≤ k + 1 ∧ (c' = 0 ↔ c = 0 ∧ s 0 (aOf T h) = -1) := fun h hh => by
      obtain ⟨c, c1, c2⟩ := hO h hh
      have e := (a1 h hh).2.1
      rw [c2] at e
      unfold nO at e
      by_cases q : s 0 (aOf T h) = -1
      · rw [if_pos q] at e
        exact ⟨c, c, c1, c2, e, by omega, ⟨fun z => ⟨z, q⟩, fun z => z.1⟩⟩
      · rw [if_neg q, nI_add1] at e
        exact ⟨c, c + 1, c1, c2, e, by omega, ⟨fun z => by omega, fun z => absurd z.2 q⟩⟩
    have eu : ub (A (Q + 1)) H &&& (wn T s n ^^^ (-1 : Int32)) = ub (A1 (Q + 1)) H := ub_and H hH (fun h hh => by
      obtain ⟨c, c', c1, c2, c3, c4, c5⟩ := eO h hh
      rw [c2, c3, nI_0i (by omega), nI_0i (by omega), wn_bit l3 hH hh n (Nat.le_refl n), c5]
      constructor
      · rintro ⟨z1, z2⟩
        exact ⟨z1, fun z => z.2 z2⟩
      · rintro ⟨z1, z2⟩
        refine ⟨z1, Classical.byContradiction fun z => z2 ⟨(l3 h hh).1, z⟩⟩)
    obtain ⟨A', B', N', g1, g2, g3⟩ := ih (k + 1) v u A1 B2 b.2 _ (by omega) (by omega) (by omega) ⟨fun j hj => f3 _ _ (by omega), fun h hh => (f3 _ _ (by omega)).trans (w2' h hh), (f3 _ _ (by omega)).trans w3', (f3 _ _ (by omega)).trans w4', w5', w6'⟩ (fun h hh => (f2 h (by omega) hh).trans (a1 h hh).1.symm) (by rw [a2]; exact nLf_ge hL H) (fun h hh => by
      obtain ⟨c, c', c1, c2, c3, c4, c5⟩ := eO h hh
      exact ⟨c', c4, c3⟩)
    refine ⟨A', B', N', e1.trans g1, ?_, fun i j h => (g3 i j h).trans (k1 i j h)⟩
    rw [← g2, ← eu, a0, a2]
    conv => lhs; rw [D_X8_years_75]
    rw [if_neg (by intro z; exact absurd ((nI_leI (by omega) (by omega)).mp z) (by omega)), zB_s e2, zB_s (mm_tags l2.1 hm hM), zB_s (mm_win l2.1 hm hM)]
    exact f1
theorem mm_y49 {P H : Nat} {x1 x2 x3 x4 x5 x6 : Int32} {N : zNt} (hH : H ≤ 10) : ∀ (v k : Nat) (B : zMt), k ≤ H → H - k < v → B P 8 = nI H → (∀ h, h < k → B (P + 31) h = 0) → ∃ B', D_X8_years_49 P v x1 x2 x3 x4 x5 x6 (nI k) B N = D_X8_years_75 P zFu x1 x2 x3 x4 x5 x6 (0 : Int32) B' N ∧ (∀ h, h < H → B' (P + 31) h = 0) ∧ (∀ i j, ¬ i = P + 31 → B' i j = B i j) := by
  intro v
  induction v with
  | zero => intro k B _ h; omega
  | succ v ih =>
    intro k B hk hv h8 hz
    rw [D_X8_years_49, h8]
    by_cases hc : H ≤ k
    · rw [if_pos (by exact (nI_leI (by omega) (by omega)).mpr hc)]
      exact ⟨B, rfl, fun h hh => hz h (by omega), fun _ _ _ => rfl⟩
    · rw [if_neg (by intro z; exact hc ((nI_leI (by omega) (by omega)).mp z))]
      unfold zI
      rw [if_neg (vp_in_nI (show k < 10 by omega) (by decide)), nI_clamp (by omega), zLt_eq, nI_add1]
      obtain ⟨B', f1, f2, f3⟩ := ih (k + 1) (zu B (P + 31) k 0) (by omega) (by omega) ((zu_ne (by omega)).trans h8) (fun h hh => by
        by_cases q : h = k
        · subst q; exact zu_eq
        · rw [zu_ne (by omega)]; exact hz h (by omega))
      exact ⟨B', f1, f2, fun i j h => (f3 i j h).trans (zu_ne (by omega))⟩
theorem t_years {C P : Nat} {A B : zMt} {N : zNt} {v0 v1 v2 : Int32} (w0 : eqE C P A B) (hJ : jJ P B) : two (D_X7_years C v0 v1 v2 A) (D_X8_years P v0 v1 v2 B N) (fun a b => a.1 = b.1) := by
  obtain ⟨r, g, U, H, G, K, w⟩ := w0
  have c2 := w.2.2.2.2.2.1.1.2.1
  have eH : A (C + 17) 1 = nI H := w.2.2.2.2.2.1.1.2.2.2.2.1
  unfold D_X7_years D_X8_years
  rcases t_areY (v0 := v0) (v1 := v1) with ⟨e1, e2, hs, Y, Y1, Y30, hY, hs9⟩ | ⟨e1, e2⟩
  · subst hY
    rw [zB_s e1, zB_s e2, if_neg n10, if_neg n10]
    rcases t_rng (v := v2) (x := 2) (y := 2) (by decide) with ⟨g1, g2, g3, g4, g5⟩ | ⟨gn, g5⟩
    · rw [if_neg g1, if_pos g2, zB_s g5, if_neg n10]
      obtain ⟨A1, B1, p1, p2, w', z0, z1, zr, kA, b8⟩ := t_y0 (x := v0) (y := nI Y) w hJ
      obtain ⟨B2, q1, q2, q3⟩ := mm_y49 (P := P) (H := H) (x1 := v0) (x2 := nI Y) (x3 := v2) (x4 := 0) (x5 := ((1 : Int32) <<< ((B1 P 8) &&& 31)) - 1) (x6 := 0) (N := N) c2 zFu 0 B1 (by omega) (by unfold zFu; omega) b8 (fun h hh => by omega)
      rw [show nI 0 = (0 : Int32) by decide] at q1
      obtain ⟨w1', w2', w3', w4', w5', w6'⟩ := w'
      obtain ⟨A', B', N', d1, d2, d3⟩ := t_y75 (Q := C + 125) (P := P) (U := U) (G := G) (g := g) (X := C + 17) (x := v0) (y := v2) Y30 hs hs9 c2 Y 0 zFu zFu A1 B2 N r (by omega) (by unfold zFu; omega) (by unfold zFu; omega) ⟨fun j hj => (q3 _ _ (by omega)).trans (w1' j hj), fun h hh => (q3 _ _ (by omega)).trans (w2' h hh), (q3 _ _ (by omega)).trans w3', (q3 _ _ (by omega)).trans w4', w5', w6'⟩ (fun h hh => (q2 h hh).trans (zr h (by omega)).2.2.symm) (by rw [z1]; decide) (fun h hh => ⟨0, by omega, (zr h (by omega)).1.trans (by decide)⟩)
      rw [z0, z1, show nI 0 = (0 : Int32) by decide, ub_cg (f := fun _ => 0) H (fun h hh => (zr h (by omega)).1), ← ub_0 H (by omega), ← b8] at d2
      refine two.l (p1.trans d1) (two.r p2 ?_)
      rw [q1, d2]
      have eH' : A' (C + 17) 1 = nI H := (d3 _ _ (by omega)).trans ((kA _ _ (by omega)).trans eH)
      have hle : nI Y ≤ nI Y := (nI_leI (by omega) (by omega)).mpr (Nat.le_refl Y)
      obtain ⟨B3, eb3⟩ := takes_all (P := P) (M := B')
      rw [D_X8_years_75, if_pos hle]
      have o2 : (2 : Int32).toInt = 2 := by decide
      have hc : v2 = 0 ∨ v2 = 1 ∨ v2 = 2 := by
        have : v2.toInt = 0 ∨ v2.toInt = 1 ∨ v2.toInt = 2 := by omega
        rcases this with q | q | q
        · exact Or.inl (i_of (k := 0) q (by omega))
        · exact Or.inr (Or.inl (i_of (k := 1) q (by omega)))
        · exact Or.inr (Or.inr (i_of (k := 2) q (by omega)))
      rcases hc with q | q | q <;> subst q
      · rw [if_pos (show Int32.toInt (0 : Int32) = 0 by decide)]
        refine two.r eb3 ?_
        rw [if_pos (show (0 : Int32) = 0 from rfl)]
        exact t_ansN rfl
      · rw [if_neg (show ¬ Int32.toInt (1 : Int32) = 0 by decide), if_pos (show Int32.toInt (1 : Int32) = 1 by decide), eH']
        refine two.l (cc_unserved c2) (two.r eb3 ?_)
        rw [if_neg (show ¬ (1 : Int32) = 0 by decide), if_pos (show (1 : Int32) = 1 from rfl)]
        exact t_ansN rfl
      · rw [if_neg (show ¬ Int32.toInt (2 : Int32) = 0 by decide), if_neg (show ¬ Int32.toInt (2 : Int32) = 1 by decide)]
        refine two.r eb3 ?_
        rw [if_neg (show ¬ (2 : Int32) = 0 by decide), if_neg (show ¬ (2 : Int32) = 1 by decide)]
        exact t_ansN rfl
    · rw [zB_s g5, if_pos rfl]
      rcases gn with z | ⟨z, z2⟩
      · rw [if_pos z]
        exact t_rfsN
      · rw [if_neg z, if_neg z2]
        exact t_rfsN
  · rw [zB_s e1, zB_s e2, if_pos rfl, if_pos rfl]
    exact t_rfsN
