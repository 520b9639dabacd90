/-! p52: lines that the class takes: hunters -/
theorem k_addHunter {R h : Nat} {v g : Int32} {A : zMt} (h1 : A R 1 = nI h) (hh : h < 10) : ∃ A', D_X4_addHunter R v g A = some A' ∧ A' R 1 = nI (h + 1) ∧ (∀ i j, ¬ (i = R ∧ j = 1) → ¬ (R + 2 ≤ i ∧ i ≤ R + 3) → A' i j = A i j) := by
  unfold D_X4_addHunter
  have e0 : zu A (R + 2) h v R 1 = nI h := (zu_ne (by omega)).trans h1
  have tail : ∀ x : Int32, ∃ A', D_X4_addHunter_29 R (zu A (R + 2) h v R 1) x (zu A (R + 2) h v) = some A' ∧ A' R 1 = nI (h + 1) ∧ (∀ i j, ¬ (i = R ∧ j = 1) → ¬ (R + 2 ≤ i ∧ i ≤ R + 3) → A' i j = A i j) := fun x => by
    unfold D_X4_addHunter_29
    rw [e0, zwr_nI (by omega) (by omega), zLt_eq, zLt_eq]
    refine ⟨_, rfl, ?_, fun i j h1 h2 => ?_⟩
    · rw [zu_eq, zu_ne (by omega), e0, nI_add1]
    · rw [zu_ne (by omega), zu_ne (by omega), zu_ne (by omega)]
  rw [h1, zwr_nI (by omega) (by omega), zLt_eq]
  by_cases z : g = 0
  · rw [if_pos z]; exact tail 0
  · rw [if_neg z]; exact tail 1
/-- the end of a hunter's line, at the sign -/
theorem r_hunter39 {Q n s U H G : Nat} {x1 : Int32} {t : Nat → Int32} {A : zMt} {N : zNt} (w : iv Q n t A N U H G) (hH : H < 5) (hs : s < n) (e59 : t s = nI 59) (g : kG Q n s t A N) (hq : N Q 10 = nm (217 + H)) : ∃ e, D_X3_readHunter_39 Q x1 A N = some e ∧ e.1 = 1 ∧ iv Q n t e.2.1 e.2.2 U (H + 1) G ∧ fo Q A e.2.1 ∧ kG Q n (rn isB t n (s + 1)) t e.2.1 e.2.2 := by
  unfold D_X3_readHunter_39
  obtain ⟨c, e4, b4, w4, f4, n4, g4⟩ := k_endl w g hs e59
  rw [zB_s e4, if_neg (by rw [b4]; decide)]
  obtain ⟨A', e5, a1, a2⟩ := k_addHunter (R := Q + 1) (v := c.2.1 Q 9) (g := x1) w4.2.2.2.2.2.1 (by omega)
  rw [w4.2.2.2.2.2.1, zwr_nI (by omega) (by omega), zLt_eq, zB_s e5]
  have hq : c.2.2 Q 10 = nm (217 + H) := by rw [n4 _ _ (by omega), hq]
  obtain ⟨y0, y1, y2, y3, y4, y5, y6, y7, y8, y9⟩ := w4
  refine ⟨_, rfl, rfl, ⟨y0.mono (fun i j z => a2 i j (by omega) (by omega)), y1, by omega, y3, (a2 _ _ (by omega) (by omega)).trans y4, a1, (a2 _ _ (by omega) (by omega)).trans y6, fun i hi => ?_, fun i hi => ?_, fun i hi => ?_⟩, f4.fo.tr (fun i j z => a2 i j (by omega) (by omega)), g4.k (fun j z => a2 _ _ (by omega) (by omega)) (zu_ne (by omega))⟩
  · show zu c.2.2 (Q + 11) H (c.2.2 Q 10) (Q + 10) i = _
    rw [zu_ne (by omega)]; exact y7 i hi
  · show zu c.2.2 (Q + 11) H (c.2.2 Q 10) (Q + 11) i = _
    by_cases z : i = H
    · subst z; rw [zu_eq, hq]
    · rw [zu_ne (by omega)]; exact y8 i (by omega)
  · show zu c.2.2 (Q + 11) H (c.2.2 Q 10) (Q + 12) i = _
    rw [zu_ne (by omega)]; exact y9 i hi
/-- 'hunter h? d' has been read; what comes is at y -/
theorem r_hunter1 {Q n s d U H G y c : Nat} {t : Nat → Int32} {A : zMt} {N : zNt} (w : iv Q n t A N U H G) (hH : H < 5) (hd : d < 10) (hs : s + 11 < n) (hp : pc t s [104, 117, 110, 116, 101, 114, 32, 104, 97 + H, 32, 48 + d]) (e : t (s + 11) = nI c) (hc : c = 32 ∨ c = 59) (hy : rn isB t n (s + 11) = y) (h5 : A Q 5 = nI (s + 6)) : ∃ A' N', (∃ e1, D_X3_step Q A N = some e1 ∧ ∃ e2, D_X3_readNewName Q e1.1 e1.2 = some e2 ∧ e2.1 = 1 ∧ ∃ e3, D_X3_numberUpTo Q (20 : Int32) e2.2.1 e2.2.2 = some e3 ∧ e3.1 = 1 ∧ e3.2.1 = A' ∧ e3.2.2 = N') ∧ iv Q n t A' N' U H G ∧ fo Q A A' ∧ N' Q 10 = nm (217 + H) ∧ kG Q n y t A' N' := by
  have p1 := (pc.app (u := [104, 117, 110, 116, 101, 114, 32]) (v := [104, 97 + H, 32, 48 + d]) hp).2
  have p2 := (pc.app (u := [104, 97 + H]) (v := [32, 48 + d]) p1).1
  have p3 := (pc.app (u := [104, 117, 110, 116, 101, 114, 32, 104, 97 + H, 32]) (v := [48 + d]) hp).2
  obtain ⟨a, e1, w1, f1, -, g1, -⟩ := k_go (N := N) (y := s + 7) w h5 (by omega) (rnB1 (c := 104) (by omega) (hp 6 32 rfl) (by omega) (hp 7 104 rfl) (by omega))
  obtain ⟨b, e2, b1, w2, f2, q2, g2⟩ := k_newName (y := s + 10) (v := 217 + H) w1 g1 (k := 2) (by omega) (by omega) (wd := [104, 97 + H]) rfl p2 (p2.isL (by intro c hc; simp only [List.mem_cons, List.not_mem_nil, or_false] at hc; omega)) (by omega) (stL (hp 9 32 rfl) (by omega) (by omega)) (rnB1 (c := 48 + d) (by omega) (hp 9 32 rfl) (by omega) (hp 10 (48 + d) rfl) (by omega)) (nm_h p2 (by omega)) (by omega) (by have := w.2.1; omega) (by omega) (by omega)
  obtain ⟨m6, m5, m9⟩ := g2.numW (w := [48 + d]) (k := 1) rfl (by omega) (by omega) (by omega) p3 (by intro c hc; simp only [List.mem_cons, List.not_mem_nil, or_false] at hc; omega) e (by omega) (by omega)
  obtain ⟨b', e3, b3, w3, f3, n3, g3⟩ := k_number (m := 20) (y := y) w2 m6 m5 (by rw [m9]; exact dg_le d hd) (by omega) hy
  exact ⟨_, _, ⟨a, e1, b, e2, b1, b', e3, b3, rfl, rfl⟩, w3, f1.fo.tr (f2.fo.tr f3.fo), (n3 _ _ (by omega)).trans q2, g3⟩
theorem r_hunterN {Q n s d U H G : Nat} {t : Nat → Int32} {A : zMt} {N : zNt} (w : iv Q n t A N U H G) (hH : H < 5) (hd : d < 10) (hs : s + 12 ≤ n) (hp : pc t s [104, 117, 110, 116, 101, 114, 32, 104, 97 + H, 32, 48 + d, 59]) (h5 : A Q 5 = nI (s + 6)) : ∃ e, D_X3_readHunter Q A N = some e ∧ e.1 = 1 ∧ iv Q n t e.2.1 e.2.2 U (H + 1) G ∧ fo Q A e.2.1 ∧ kG Q n (rn isB t n (s + 12)) t e.2.1 e.2.2 := by
  obtain ⟨A', N', ⟨e1, x1, e2, x2, x3, e3, x4, x5, x6, x7⟩, w3, f3, q3, g3⟩ := r_hunter1 (c := 59) (y := s + 11) w hH hd (by omega) (pc.app (u := [104, 117, 110, 116, 101, 114, 32, 104, 97 + H, 32, 48 + d]) (v := [59]) hp).1 (hp 11 59 rfl) (by omega) (rnB0 (c := 59) (by omega) (fun _ => hp 11 59 rfl) (by omega)) h5
  unfold D_X3_readHunter
  rw [zB_s x1, zB_s x2, if_neg (by rw [x3]; decide), zB_s x4, if_neg (by rw [x5]; decide), x6, x7]
  obtain ⟨m6, -⟩ := g3.semi (by omega) (hp 11 59 rfl)
  rw [zB_s (c_says0 (j := 2) (by rw [m6]; decide)), if_pos rfl]
  obtain ⟨e, he, y1, y2, y3, y4⟩ := r_hunter39 (x1 := 0) w3 hH (by omega) (hp 11 59 rfl) g3 q3
  exact ⟨e, he, y1, y2, f3.tr y3, y4⟩
theorem r_hunterG {Q n s d U H G : Nat} {t : Nat → Int32} {A : zMt} {N : zNt} (w : iv Q n t A N U H G) (hH : H < 5) (hd : d < 10) (hs : s + 18 ≤ n) (hp : pc t s [104, 117, 110, 116, 101, 114, 32, 104, 97 + H, 32, 48 + d, 32, 103, 117, 101, 115, 116, 59]) (h5 : A Q 5 = nI (s + 6)) : ∃ e, D_X3_readHunter Q A N = some e ∧ e.1 = 1 ∧ iv Q n t e.2.1 e.2.2 U (H + 1) G ∧ fo Q A e.2.1 ∧ kG Q n (rn isB t n (s + 18)) t e.2.1 e.2.2 := by
  obtain ⟨A', N', ⟨e1, x1, e2, x2, x3, e3, x4, x5, x6, x7⟩, w3, f3, q3, g3⟩ := r_hunter1 (c := 32) (y := s + 12) w hH hd (by omega) (pc.app (u := [104, 117, 110, 116, 101, 114, 32, 104, 97 + H, 32, 48 + d]) (v := [32, 103, 117, 101, 115, 116, 59]) hp).1 (hp 11 32 rfl) (by omega) (rnB1 (c := 103) (by omega) (hp 11 32 rfl) (by omega) (hp 12 103 rfl) (by omega)) h5
  have pw := (pc.app (u := [103, 117, 101, 115, 116]) (v := [59]) (pc.app (u := [104, 117, 110, 116, 101, 114, 32, 104, 97 + H, 32, 48 + d, 32]) (v := [103, 117, 101, 115, 116, 59]) hp).2).1
  unfold D_X3_readHunter
  rw [zB_s x1, zB_s x2, if_neg (by rw [x3]; decide), zB_s x4, if_neg (by rw [x5]; decide), x6, x7]
  obtain ⟨m6, m7, m5, -⟩ := g3.wordW (w := [103, 117, 101, 115, 116]) (k := 5) rfl (by omega) (by omega) (by omega) pw (by decide) (hp 17 59 rfl) (by omega) (by omega)
  rw [zB_s (k_says (k := 5) (j := 2) (w := [103, 117, 101, 115, 116]) rfl w3.1 m6 m7 m5 (by omega) (by omega) pw), if_neg (by decide)]
  obtain ⟨a, e1', w4, f4, n4, g4, -⟩ := k_go (N := N') (y := s + 17) w3 m5 (by omega) (rnB0 (c := 59) (by omega) (fun _ => hp 17 59 rfl) (by omega))
  rw [zB_s e1']
  obtain ⟨e, he, y1, y2, y3, y4⟩ := r_hunter39 (x1 := if sayB [103, 117, 101, 115, 116] 2 = true then 1 else 0) w4 hH (by omega) (hp 17 59 rfl) g4 ((n4 _ _ (by omega)).trans q3)
  exact ⟨e, he, y1, y2, f3.tr (f4.fo.tr y3), y4⟩
theorem l_hunterS {Q n s U H G : Nat} {t : Nat → Int32} {A : zMt} {N : zNt} {y : Nat} (w : iv Q n t A N U H G) (hH : H < 5) (hs : s + 7 ≤ n) (hp : pc t s [104, 117, 110, 116, 101, 114, 32]) (hk : kG Q n s t A N) (hr : A Q 5 = nI (s + 6) → ∃ e, D_X3_readHunter Q A N = some e ∧ e.1 = 1 ∧ iv Q n t e.2.1 e.2.2 U (H + 1) G ∧ fo Q A e.2.1 ∧ kG Q n y t e.2.1 e.2.2) : ∃ e, D_X3_readLine Q A N = some e ∧ e.1 = 1 ∧ iv Q n t e.2.1 e.2.2 U (H + 1) G ∧ fo Q A e.2.1 ∧ kG Q n y t e.2.1 e.2.2 := by
  have pw := (pc.app (u := [104, 117, 110, 116, 101, 114]) (v := [32]) hp).1
  obtain ⟨h6, h7, h5, -⟩ := hk.wordW (w := [104, 117, 110, 116, 101, 114]) (k := 6) rfl (by omega) (by omega) (by omega) pw (by decide) (hp 6 32 rfl) (by omega) (by omega)
  obtain ⟨e, he, e1, e2, e3, e4⟩ := hr h5
  have sy : ∀ j, j < 11 → D_X3_says Q j A = some (if sayB [104, 117, 110, 116, 101, 114] j then 1 else 0) := fun j hj => k_says (k := 6) (w := [104, 117, 110, 116, 101, 114]) rfl w.1 h6 h7 h5 (by omega) hj pw
  unfold D_X3_readLine
  rw [zB_s (sy 0 (by omega)), if_pos (by decide), zB_s (sy 1 (by omega)), if_neg (by decide), w.2.2.2.2.2.1, if_neg (show ¬ (10 : Int32) ≤ nI H from fun q => by have := (nI_leI (a := 10) (b := H) (by omega) (by omega)).mp q; omega), zB_s he]
  exact ⟨_, rfl, e1, e2, e3, e4⟩

