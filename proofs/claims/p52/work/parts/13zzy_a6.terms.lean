/-! p52: lines that the class takes: law, prefer, guests -/
/-- what the reader keeps for the lines that come once -/
def fl (Q : Nat) (A : zMt) (a b c : Bool) : Prop := (a = true → A Q 11 = 0) ∧ (b = true → A Q 12 = 0) ∧ (c = true → A Q 13 = 0)
theorem r_law59 {Q n x U H G : Nat} {t : Nat → Int32} {A : zMt} {N : zNt} (w : iv Q n t A N U H G) (h5 : A Q 5 = nI x) (hx : x < n) (e : t x = nI 59) : ∃ r, D_X3_readLaw_59 Q A N = some r ∧ r.1 = 1 ∧ iv Q n t r.2.1 r.2.2 U H G ∧ (∀ j, 12 ≤ j → j ≤ 13 → r.2.1 Q j = A Q j) ∧ kG Q n (rn isB t n (x + 1)) t r.2.1 r.2.2 := by
  unfold D_X3_readLaw_59
  rw [zLt_eq]
  have kA1 : kA Q A A := kA.rf
  have w1 : iv Q n t (zu A Q 11 1) N U H G := by
    obtain ⟨y0, y1, y2, y3, y4, y5, y6, y7, y8, y9⟩ := w
    exact ⟨y0.mono (fun i j z => zu_ne (by omega)), y1, y2, y3, (zu_ne (by omega)).trans y4, (zu_ne (by omega)).trans y5, (zu_ne (by omega)).trans y6, y7, y8, y9⟩
  obtain ⟨a, e1, w2, f2, n2, g2, -⟩ := k_go (A := zu A Q 11 1) (N := N) w1 ((zu_ne (by omega)).trans h5) (by omega) (rnB0 (c := 59) (by omega) (fun _ => e) (by omega))
  rw [zB_s e1]
  obtain ⟨b, e2, b1, w3, f3, n3, g3⟩ := k_endl w2 g2 hx e
  rw [zB_s e2]
  exact ⟨_, rfl, b1, w3, fun j j1 j2 => by rw [f3 _ _ (by omega), f2 _ _ (by omega), zu_ne (by omega)], g3⟩
theorem iv.law {Q n U H G : Nat} {v : Int32} {j : Nat} {t : Nat → Int32} {A : zMt} {N : zNt} (w : iv Q n t A N U H G) (hj : 3 ≤ j) : iv Q n t (zu A (Q + 1) j v) N U H G := by
  obtain ⟨y0, y1, y2, y3, y4, y5, y6, y7, y8, y9⟩ := w
  exact ⟨y0.mono (fun i j z => zu_ne (by omega)), y1, y2, y3, (zu_ne (by omega)).trans y4, (zu_ne (by omega)).trans y5, (zu_ne (by omega)).trans y6, y7, y8, y9⟩
theorem l_lineS {Q n s U H G : Nat} {t : Nat → Int32} {A : zMt} {N : zNt} (w : iv Q n t A N U H G) (hs : s + 9 ≤ n) (hp : pc t s [108, 97, 119, 32, 108, 105, 110, 101, 59]) (hk : kG Q n s t A N) (hf : A Q 11 = 0) : ∃ e, D_X3_readLine Q A N = some e ∧ e.1 = 1 ∧ iv Q n t e.2.1 e.2.2 U H G ∧ (∀ j, 12 ≤ j → j ≤ 13 → e.2.1 Q j = A Q j) ∧ kG Q n (rn isB t n (s + 9)) t e.2.1 e.2.2 := by
  have pw := (pc.app (u := [108, 97, 119]) (v := [32, 108, 105, 110, 101, 59]) hp).1
  have pv := (pc.app (u := [108, 105, 110, 101]) (v := [59]) (pc.app (u := [108, 97, 119, 32]) (v := [108, 105, 110, 101, 59]) hp).2).1
  obtain ⟨h6, h7, h5, -⟩ := hk.wordW (w := [108, 97, 119]) (k := 3) rfl (by omega) (by omega) (by omega) pw (by decide) (hp 3 32 rfl) (by omega) (by omega)
  have sy : ∀ j, j < 11 → D_X3_says Q j A = some (if sayB [108, 97, 119] j then 1 else 0) := fun j hj => k_says (k := 3) (w := [108, 97, 119]) rfl w.1 h6 h7 h5 (by omega) hj pw
  unfold D_X3_readLine
  rw [zB_s (sy 0 (by omega)), if_pos (by decide), zB_s (sy 1 (by omega)), if_pos (by decide), zB_s (sy 3 (by omega)), if_pos (by decide), zB_s (sy 4 (by omega)), if_pos (by decide), zB_s (sy 5 (by omega)), if_neg (by decide), if_pos hf]
  unfold D_X3_readLaw
  obtain ⟨a, e1, w1, f1, -, g1, -⟩ := k_go (N := N) (y := s + 4) w h5 (by omega) (rnB1 (c := 108) (by omega) (hp 3 32 rfl) (by omega) (hp 4 108 rfl) (by omega))
  obtain ⟨m6, m7, m5, -⟩ := g1.wordW (w := [108, 105, 110, 101]) (k := 4) rfl (by omega) (by omega) (by omega) pv (by decide) (hp 8 59 rfl) (by omega) (by omega)
  rw [zB_s e1, zB_s (k_says (k := 4) (j := 8) (w := [108, 105, 110, 101]) rfl w1.1 m6 m7 m5 (by omega) (by omega) pv), if_neg (by decide), zLt_eq]
  obtain ⟨r, e2, r1, r2, r3, r4⟩ := r_law59 (A := zu a.1 (Q + 1) 3 1) (N := a.2) (x := s + 8) (w1.law (by omega)) ((zu_ne (by omega)).trans m5) (by omega) (hp 8 59 rfl)
  rw [zB_s e2]
  exact ⟨_, rfl, r1, r2, fun j j1 j2 => by rw [r3 j j1 j2, zu_ne (by omega), f1 _ _ (by omega)], r4⟩
theorem l_squareS {Q n s U H G : Nat} {t : Nat → Int32} {A : zMt} {N : zNt} (w : iv Q n t A N U H G) (hs : s + 11 ≤ n) (hp : pc t s [108, 97, 119, 32, 115, 113, 117, 97, 114, 101, 59]) (hk : kG Q n s t A N) (hf : A Q 11 = 0) : ∃ e, D_X3_readLine Q A N = some e ∧ e.1 = 1 ∧ iv Q n t e.2.1 e.2.2 U H G ∧ (∀ j, 12 ≤ j → j ≤ 13 → e.2.1 Q j = A Q j) ∧ kG Q n (rn isB t n (s + 11)) t e.2.1 e.2.2 := by
  have pw := (pc.app (u := [108, 97, 119]) (v := [32, 115, 113, 117, 97, 114, 101, 59]) hp).1
  have pv := (pc.app (u := [115, 113, 117, 97, 114, 101]) (v := [59]) (pc.app (u := [108, 97, 119, 32]) (v := [115, 113, 117, 97, 114, 101, 59]) hp).2).1
  obtain ⟨h6, h7, h5, -⟩ := hk.wordW (w := [108, 97, 119]) (k := 3) rfl (by omega) (by omega) (by omega) pw (by decide) (hp 3 32 rfl) (by omega) (by omega)
  have sy : ∀ j, j < 11 → D_X3_says Q j A = some (if sayB [108, 97, 119] j then 1 else 0) := fun j hj => k_says (k := 3) (w := [108, 97, 119]) rfl w.1 h6 h7 h5 (by omega) hj pw
  unfold D_X3_readLine
  rw [zB_s (sy 0 (by omega)), if_pos (by decide), zB_s (sy 1 (by omega)), if_pos (by decide), zB_s (sy 3 (by omega)), if_pos (by decide), zB_s (sy 4 (by omega)), if_pos (by decide), zB_s (sy 5 (by omega)), if_neg (by decide), if_pos hf]
  unfold D_X3_readLaw
  obtain ⟨a, e1, w1, f1, -, g1, -⟩ := k_go (N := N) (y := s + 4) w h5 (by omega) (rnB1 (c := 115) (by omega) (hp 3 32 rfl) (by omega) (hp 4 115 rfl) (by omega))
  obtain ⟨m6, m7, m5, -⟩ := g1.wordW (w := [115, 113, 117, 97, 114, 101]) (k := 6) rfl (by omega) (by omega) (by omega) pv (by decide) (hp 10 59 rfl) (by omega) (by omega)
  rw [zB_s e1, zB_s (k_says (k := 6) (j := 8) (w := [115, 113, 117, 97, 114, 101]) rfl w1.1 m6 m7 m5 (by omega) (by omega) pv), if_pos (by decide), zB_s (k_says (k := 6) (j := 9) (w := [115, 113, 117, 97, 114, 101]) rfl w1.1 m6 m7 m5 (by omega) (by omega) pv), if_neg (by decide), zLt_eq]
  obtain ⟨r, e2, r1, r2, r3, r4⟩ := r_law59 (A := zu a.1 (Q + 1) 3 2) (N := a.2) (x := s + 10) (w1.law (by omega)) ((zu_ne (by omega)).trans m5) (by omega) (hp 10 59 rfl)
  rw [zB_s e2]
  exact ⟨_, rfl, r1, r2, fun j j1 j2 => by rw [r3 j j1 j2, zu_ne (by omega), f1 _ _ (by omega)], r4⟩
theorem iv.q {Q n U H G : Nat} {v : Int32} {j : Nat} {t : Nat → Int32} {A : zMt} {N : zNt} (w : iv Q n t A N U H G) (hj : 10 ≤ j) : iv Q n t (zu A Q j v) N U H G := by
  obtain ⟨y0, y1, y2, y3, y4, y5, y6, y7, y8, y9⟩ := w
  exact ⟨y0.mono (fun i j z => zu_ne (by omega)), y1, y2, y3, (zu_ne (by omega)).trans y4, (zu_ne (by omega)).trans y5, (zu_ne (by omega)).trans y6, y7, y8, y9⟩
theorem l_preferS {Q n s k U H G : Nat} {ds : List Nat} {t : Nat → Int32} {A : zMt} {N : zNt} (w : iv Q n t A N U H G) (hk1 : 1 ≤ k) (hk3 : k ≤ 3) (hl : ds.length = k) (hd : ∀ c, c ∈ ds → 48 ≤ c ∧ c ≤ 57) (hv : nvl ds ≤ 100) (hs : s + 8 + k ≤ n) (hp : pc t s ([112, 114, 101, 102, 101, 114, 32] ++ (ds ++ [59]))) (hk : kG Q n s t A N) (hf : A Q 12 = 0) : ∃ e, D_X3_readLine Q A N = some e ∧ e.1 = 1 ∧ iv Q n t e.2.1 e.2.2 U H G ∧ e.2.1 Q 13 = A Q 13 ∧ kG Q n (rn isB t n (s + 8 + k)) t e.2.1 e.2.2 := by
  have pa := (pc.app hp).1
  have pb : pc t (s + 7) (ds ++ [59]) := (pc.app hp).2
  have pd := (pc.app pb).1
  have e59 : t (s + 7 + k) = nI 59 := by
    have := (pc.app pb).2 0 59 rfl
    rw [hl] at this; exact this
  have d0 : ∃ c, 48 ≤ c ∧ c ≤ 57 ∧ t (s + 7) = nI c := ⟨ds[0], (hd _ (List.getElem_mem (by omega))).1, (hd _ (List.getElem_mem (by omega))).2, pd 0 _ (List.getElem?_eq_getElem (by omega))⟩
  obtain ⟨c0, c1, c2, c3⟩ := d0
  have pw := (pc.app (u := [112, 114, 101, 102, 101, 114]) (v := [32]) pa).1
  obtain ⟨h6, h7, h5, -⟩ := hk.wordW (w := [112, 114, 101, 102, 101, 114]) (k := 6) rfl (by omega) (by omega) (by omega) pw (by decide) (pa 6 32 rfl) (by omega) (by omega)
  have sy : ∀ j, j < 11 → D_X3_says Q j A = some (if sayB [112, 114, 101, 102, 101, 114] j then 1 else 0) := fun j hj => k_says (k := 6) (w := [112, 114, 101, 102, 101, 114]) rfl w.1 h6 h7 h5 (by omega) hj pw
  unfold D_X3_readLine
  rw [zB_s (sy 0 (by omega)), if_pos (by decide), zB_s (sy 1 (by omega)), if_pos (by decide), zB_s (sy 3 (by omega)), if_pos (by decide), zB_s (sy 4 (by omega)), if_pos (by decide), zB_s (sy 5 (by omega)), if_pos (by decide), zB_s (sy 6 (by omega)), if_neg (by decide), if_pos hf]
  unfold D_X3_readPrefer
  obtain ⟨a, e1, w1, f1, -, g1, -⟩ := k_go (N := N) (y := s + 7) w h5 (by omega) (rnB1 (c := c0) (by omega) (pa 6 32 rfl) (by omega) c3 (by omega))
  rw [zB_s e1]
  obtain ⟨m6, m5, m9⟩ := g1.numW (w := ds) hl hk1 hk3 (by omega) pd hd e59 (by omega) (by omega)
  obtain ⟨b, e2, b1, w2, f2, n2, g2⟩ := k_number (m := 100) (y := s + 7 + k) w1 m6 m5 (by rw [m9]; exact hv) (by omega) (rnB0 (c := 59) (by omega) (fun _ => e59) (by omega))
  rw [zB_s e2, if_neg (by rw [b1]; decide), zLt_eq, zLt_eq]
  obtain ⟨c, e3, d1, w3, f3, n3, g3⟩ := k_endl (A := zu (zu b.2.1 Q 12 1) (Q + 1) 4 (zu b.2.1 Q 12 1 Q 9)) ((w2.q (by omega)).law (by omega)) (g2.k (fun j z => by rw [zu_ne (by omega), zu_ne (by omega)]) rfl) (by omega) e59
  rw [zB_s e3]
  refine ⟨_, rfl, d1, w3, by rw [f3 _ _ (by omega), zu_ne (by omega), zu_ne (by omega), f2 _ _ (by omega), f1 _ _ (by omega)], ?_⟩
  rw [show s + 8 + k = s + 7 + k + 1 by omega]; exact g3
theorem l_guestsS {Q n s k U H G : Nat} {ds : List Nat} {t : Nat → Int32} {A : zMt} {N : zNt} (w : iv Q n t A N U H G) (hk1 : 1 ≤ k) (hk3 : k ≤ 3) (hl : ds.length = k) (hd : ∀ c, c ∈ ds → 48 ≤ c ∧ c ≤ 57) (hv : nvl ds ≤ 100) (hs : s + 8 + k ≤ n) (hp : pc t s ([103, 117, 101, 115, 116, 115, 32] ++ (ds ++ [59]))) (hk : kG Q n s t A N) (hf : A Q 13 = 0) : ∃ e, D_X3_readLine Q A N = some e ∧ e.1 = 1 ∧ iv Q n t e.2.1 e.2.2 U H G ∧ kG Q n (rn isB t n (s + 8 + k)) t e.2.1 e.2.2 := by
  have pa := (pc.app hp).1
  have pb : pc t (s + 7) (ds ++ [59]) := (pc.app hp).2
  have pd := (pc.app pb).1
  have e59 : t (s + 7 + k) = nI 59 := by
    have := (pc.app pb).2 0 59 rfl
    rw [hl] at this; exact this
  have d0 : ∃ c, 48 ≤ c ∧ c ≤ 57 ∧ t (s + 7) = nI c := ⟨ds[0], (hd _ (List.getElem_mem (by omega))).1, (hd _ (List.getElem_mem (by omega))).2, pd 0 _ (List.getElem?_eq_getElem (by omega))⟩
  obtain ⟨c0, c1, c2, c3⟩ := d0
  have pw := (pc.app (u := [103, 117, 101, 115, 116, 115]) (v := [32]) pa).1
  obtain ⟨h6, h7, h5, -⟩ := hk.wordW (w := [103, 117, 101, 115, 116, 115]) (k := 6) rfl (by omega) (by omega) (by omega) pw (by decide) (pa 6 32 rfl) (by omega) (by omega)
  have sy : ∀ j, j < 11 → D_X3_says Q j A = some (if sayB [103, 117, 101, 115, 116, 115] j then 1 else 0) := fun j hj => k_says (k := 6) (w := [103, 117, 101, 115, 116, 115]) rfl w.1 h6 h7 h5 (by omega) hj pw
  unfold D_X3_readLine
  rw [zB_s (sy 0 (by omega)), if_pos (by decide), zB_s (sy 1 (by omega)), if_pos (by decide), zB_s (sy 3 (by omega)), if_pos (by decide), zB_s (sy 4 (by omega)), if_pos (by decide), zB_s (sy 5 (by omega)), if_pos (by decide), zB_s (sy 6 (by omega)), if_pos (by decide), zB_s (sy 7 (by omega)), if_neg (by decide), if_pos hf]
  unfold D_X3_readGuests
  obtain ⟨a, e1, w1, f1, -, g1, -⟩ := k_go (N := N) (y := s + 7) w h5 (by omega) (rnB1 (c := c0) (by omega) (pa 6 32 rfl) (by omega) c3 (by omega))
  rw [zB_s e1]
  obtain ⟨m6, m5, m9⟩ := g1.numW (w := ds) hl hk1 hk3 (by omega) pd hd e59 (by omega) (by omega)
  obtain ⟨b, e2, b1, w2, f2, n2, g2⟩ := k_number (m := 100) (y := s + 7 + k) w1 m6 m5 (by rw [m9]; exact hv) (by omega) (rnB0 (c := 59) (by omega) (fun _ => e59) (by omega))
  rw [zB_s e2, if_neg (by rw [b1]; decide), zLt_eq, zLt_eq]
  obtain ⟨c, e3, d1, w3, f3, n3, g3⟩ := k_endl (A := zu (zu b.2.1 Q 13 1) (Q + 1) 5 (zu b.2.1 Q 13 1 Q 9)) ((w2.q (by omega)).law (by omega)) (g2.k (fun j z => by rw [zu_ne (by omega), zu_ne (by omega)]) rfl) (by omega) e59
  rw [zB_s e3]
  refine ⟨_, rfl, d1, w3, ?_⟩
  rw [show s + 8 + k = s + 7 + k + 1 by omega]; exact g3

