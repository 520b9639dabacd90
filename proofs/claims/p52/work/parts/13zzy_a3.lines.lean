/-! p52: lines that the class takes: units, hunters -/
def fo (Q : Nat) (A A' : zMt) : Prop := ∀ r j, (r = Q + 5 ∨ r = Q + 6 ∨ (r = Q ∧ 11 ≤ j ∧ j ≤ 13)) → A' r j = A r j
theorem fo.tr {Q : Nat} {A A' A2 : zMt} (h : fo Q A A') (g : fo Q A' A2) : fo Q A A2 := fun r j q => (g r j q).trans (h r j q)
theorem fq.fo {Q : Nat} {A A' : zMt} (h : fq Q A A') : fo Q A A' := fun r j q => h r j (by omega)
theorem pc.isL {t : Nat → Int32} {x : Nat} {w : List Nat} (h : pc t x w) (g : ∀ c, c ∈ w → 97 ≤ c ∧ c ≤ 122) : ∀ i, i < w.length → isL (t (x + i)) = true := fun i hi => by
  have e := h i w[i] (List.getElem?_eq_getElem hi)
  have q := g w[i] (List.getElem_mem hi)
  rw [e, isL_c _ (by omega), decide_eq_true_eq]
  exact q
theorem pc.isD {t : Nat → Int32} {x : Nat} {w : List Nat} (h : pc t x w) (g : ∀ c, c ∈ w → 48 ≤ c ∧ c ≤ 57) : ∀ i, i < w.length → isD (t (x + i)) = true := fun i hi => by
  have e := h i w[i] (List.getElem?_eq_getElem hi)
  have q := g w[i] (List.getElem_mem hi)
  rw [e, isD_c _ (by omega), decide_eq_true_eq]
  exact q
theorem stL {t : Nat → Int32} {n x c : Nat} (e : t x = nI c) (hc : c < 128) (g : ¬ (97 ≤ c ∧ c ≤ 122)) : ¬ (x < n ∧ isL (t x) = true) := fun q => by
  have := q.2
  rw [e, isL_c c hc, decide_eq_true_eq] at this
  exact g this
theorem stD {t : Nat → Int32} {n x c : Nat} (e : t x = nI c) (hc : c < 128) (g : ¬ (48 ≤ c ∧ c ≤ 57)) : ¬ (x < n ∧ isD (t x) = true) := fun q => by
  have := q.2
  rw [e, isD_c c hc, decide_eq_true_eq] at this
  exact g this
theorem nv_pc {t : Nat → Int32} {s : Nat} {w : List Nat} (h : pc t s w) : ∀ k, k ≤ w.length → nv t s k = nvl (w.take k)
  | 0, _ => rfl
  | k + 1, hk => by
    have e := h k w[k] (List.getElem?_eq_getElem (by omega))
    show (nv t s k * (10 : Int32)) + (t (s + k) - (48 : Int32)) = _
    rw [nv_pc h k (by omega), e, List.take_succ_eq_append_getElem (by omega)]
    unfold nvl
    rw [List.foldl_append]
    rfl
/-- a number stands here -/
theorem kG.numW {Q n s : Nat} {t : Nat → Int32} {A : zMt} {N : zNt} {w : List Nat} {k c : Nat} (h : kG Q n s t A N) (hw : w.length = k) (hk1 : 1 ≤ k) (hk : k ≤ 3) (hn : s + k ≤ n) (hp : pc t s w) (g : ∀ c, c ∈ w → 48 ≤ c ∧ c ≤ 57) (e : t (s + k) = nI c) (hc : c < 128) (gc : ¬ (48 ≤ c ∧ c ≤ 57)) : A Q 6 = 2 ∧ A Q 5 = nI (s + k) ∧ A Q 9 = nvl w := by
  subst hw
  have l := hp.isD g
  have l0 : isL (t s) = false := by
    have e0 := hp 0 w[0] (List.getElem?_eq_getElem (by omega))
    have q := g w[0] (List.getElem_mem (by omega))
    rw [show s = s + 0 from rfl, e0, isL_c _ (by omega), decide_eq_false_iff_not]
    omega
  obtain ⟨q1, q2, q3⟩ := h.num hk1 hk hn l l0 (stD e hc gc)
  refine ⟨q1, q2, q3.trans ?_⟩
  rw [nv_pc hp _ (Nat.le_refl _), List.take_length]
theorem kG.wordW {Q n s : Nat} {t : Nat → Int32} {A : zMt} {N : zNt} {w : List Nat} {k c : Nat} (h : kG Q n s t A N) (hw : w.length = k) (hk1 : 1 ≤ k) (hk : k ≤ 8) (hn : s + k ≤ n) (hp : pc t s w) (g : ∀ c, c ∈ w → 97 ≤ c ∧ c ≤ 122) (e : t (s + k) = nI c) (hc : c < 128) (gc : ¬ (97 ≤ c ∧ c ≤ 122)) : A Q 6 = 1 ∧ A Q 7 = nI s ∧ A Q 5 = nI (s + k) ∧ N Q 8 = wv t s k := by
  subst hw
  exact h.word hk1 hk hn (hp.isL g) (stL e hc gc)
theorem dg_le : ∀ d, d < 10 → nvl [48 + d] ≤ 20 := by decide
theorem sy_unit : sayB [117, 110, 105, 116] 0 = true := by decide
theorem k_addUnit {R u : Nat} {v : Int32} {A : zMt} (h : A R 0 = nI u) (hu : u < 5) : ∃ A', D_X4_addUnit R v A = some A' ∧ A' R 0 = nI (u + 1) ∧ (∀ i j, ¬ (i = R ∧ j = 0) → ¬ i = R + 1 → A' i j = A i j) := by
  unfold D_X4_addUnit
  rw [h, zwr_nI (by omega) (by omega), zLt_eq, zLt_eq]
  refine ⟨_, rfl, ?_, fun i j h1 h2 => ?_⟩
  · rw [zu_eq, zu_ne (by omega), h, nI_add1]
  · rw [zu_ne (by omega), zu_ne (by omega)]
theorem r_unit {Q n s u d H G : Nat} {t : Nat → Int32} {A : zMt} {N : zNt} (w : iv Q n t A N u H G) (hu : u < 3) (hd : d < 10) (hs : s + 10 ≤ n) (hp : pc t s [117, 110, 105, 116, 32, 117, 97 + u, 32, 48 + d, 59]) (h5 : A Q 5 = nI (s + 4)) : ∃ e, D_X3_readUnit Q A N = some e ∧ e.1 = 1 ∧ iv Q n t e.2.1 e.2.2 (u + 1) H G ∧ fo Q A e.2.1 ∧ kG Q n (rn isB t n (s + 10)) t e.2.1 e.2.2 := by
  have p1 := (pc.app (u := [117, 110, 105, 116, 32]) (v := [117, 97 + u, 32, 48 + d, 59]) hp).2
  have p2 := (pc.app (u := [117, 97 + u]) (v := [32, 48 + d, 59]) p1).1
  have p3 := (pc.app (u := [48 + d]) (v := [59]) (pc.app (u := [117, 110, 105, 116, 32, 117, 97 + u, 32]) (v := [48 + d, 59]) hp).2).1
  unfold D_X3_readUnit
  obtain ⟨a, e1, w1, f1, -, g1, -⟩ := k_go (N := N) (y := s + 5) w h5 (by omega) (rnB1 (c := 117) (by omega) (hp 4 32 rfl) (by omega) (hp 5 117 rfl) (by omega))
  rw [zB_s e1]
  obtain ⟨b, e2, b1, w2, f2, q2, g2⟩ := k_newName (y := s + 8) (v := 568 + u) w1 g1 (k := 2) (by omega) (by omega) (wd := [117, 97 + u]) rfl p2 (p2.isL (by intro c hc; simp only [List.mem_cons, List.not_mem_nil, or_false] at hc; omega)) (by omega) (stL (hp 7 32 rfl) (by omega) (by omega)) (rnB1 (c := 48 + d) (by omega) (hp 7 32 rfl) (by omega) (hp 8 (48 + d) rfl) (by omega)) (nm_u p2 (by omega)) (by omega) (by omega) (by have := w.2.2.1; omega) (by omega)
  rw [zB_s e2, if_neg (by rw [b1]; decide)]
  obtain ⟨m6, m5, m9⟩ := g2.numW (w := [48 + d]) (k := 1) rfl (by omega) (by omega) (by omega) p3 (by intro c hc; simp only [List.mem_cons, List.not_mem_nil, or_false] at hc; omega) (hp 9 59 rfl) (by omega) (by omega)
  obtain ⟨b', e3, b3, w3, f3, n3, g3⟩ := k_number (m := 20) (y := s + 9) w2 m6 m5 (by rw [m9]; exact dg_le d hd) (by omega) (rnB0 (c := 59) (by omega) (fun _ => hp 9 59 rfl) (by omega))
  rw [zB_s e3, if_neg (by rw [b3]; decide)]
  obtain ⟨c, e4, b4, w4, f4, n4, g4⟩ := k_endl w3 g3 (by omega) (hp 9 59 rfl)
  rw [zB_s e4, if_neg (by rw [b4]; decide)]
  obtain ⟨A', e5, a1, a2⟩ := k_addUnit (R := Q + 1) (v := c.2.1 Q 9) w4.2.2.2.2.1 (by omega)
  rw [w4.2.2.2.2.1, zwr_nI (by omega) (by omega), zLt_eq, zB_s e5]
  have hq : c.2.2 Q 10 = nm (568 + u) := by rw [n4 _ _ (by omega), n3 _ _ (by omega), q2]
  obtain ⟨y0, y1, y2, y3, y4, y5, y6, y7, y8, y9⟩ := w4
  refine ⟨_, rfl, rfl, ⟨y0.mono (fun i j z => a2 i j (by omega) (by omega)), by omega, y2, y3, a1, (a2 _ _ (by omega) (by omega)).trans y5, (a2 _ _ (by omega) (by omega)).trans y6, fun i hi => ?_, fun i hi => ?_, fun i hi => ?_⟩, (f1.fo.tr (f2.fo.tr (f3.fo.tr f4.fo))).tr (fun i j z => a2 i j (by omega) (by omega)), g4.k (fun j z => a2 _ _ (by omega) (by omega)) (zu_ne (by omega))⟩
  · show zu c.2.2 (Q + 10) u (c.2.2 Q 10) (Q + 10) i = _
    by_cases z : i = u
    · subst z; rw [zu_eq, hq]
    · rw [zu_ne (by omega)]; exact y7 i (by omega)
  · show zu c.2.2 (Q + 10) u (c.2.2 Q 10) (Q + 11) i = _
    rw [zu_ne (by omega)]; exact y8 i hi
  · show zu c.2.2 (Q + 10) u (c.2.2 Q 10) (Q + 12) i = _
    rw [zu_ne (by omega)]; exact y9 i hi
theorem l_unitS {Q n s u d H G : Nat} {t : Nat → Int32} {A : zMt} {N : zNt} (w : iv Q n t A N u H G) (hu : u < 3) (hd : d < 10) (hs : s + 10 ≤ n) (hp : pc t s [117, 110, 105, 116, 32, 117, 97 + u, 32, 48 + d, 59]) (hk : kG Q n s t A N) : ∃ e, D_X3_readLine Q A N = some e ∧ e.1 = 1 ∧ iv Q n t e.2.1 e.2.2 (u + 1) H G ∧ fo Q A e.2.1 ∧ kG Q n (rn isB t n (s + 10)) t e.2.1 e.2.2 := by
  have pw := (pc.app (u := [117, 110, 105, 116]) (v := [32, 117, 97 + u, 32, 48 + d, 59]) hp).1
  obtain ⟨h6, h7, h5, -⟩ := hk.wordW (w := [117, 110, 105, 116]) (k := 4) rfl (by omega) (by omega) (by omega) pw (by decide) (hp 4 32 rfl) (by omega) (by omega)
  obtain ⟨e, he, e1, e2, e3, e4⟩ := r_unit w hu hd hs hp h5
  unfold D_X3_readLine
  rw [zB_s (k_says (k := 4) (w := [117, 110, 105, 116]) rfl w.1 h6 h7 h5 (by omega) (by omega) pw), if_neg (by decide), w.2.2.2.2.1, if_neg (show ¬ (5 : Int32) ≤ nI u from fun q => by have := (nI_leI (a := 5) (b := u) (by omega) (by omega)).mp q; omega), zB_s he]
  exact ⟨_, rfl, e1, e2, e3, e4⟩

