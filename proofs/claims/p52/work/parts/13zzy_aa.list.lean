theorem rd_party {Q T nT n s U H : Nat} {b : Bool} {t : Nat → Int32} {A : zMt} {N : zNt} (w : iv Q n t A N U H 0) (hH : 2 ≤ H) (hs : s + (pT b).length ≤ n) (hp : pc t s (pT b)) (g : kG Q n (rn isB t n s) t A N) (f5 : ∀ h, h < 10 → A (Q + 5) h = -1) (f6 : ∀ h, h < 10 → A (Q + 6) h = 0) : ∃ A' N' k, k ≤ 1 ∧ RD Q T nT A N A' N' k ∧ iv Q n t A' N' U H (if b then 1 else 0) ∧ (∀ h, h < H → A' (Q + 5) h = if b = true ∧ h < 2 then 0 else -1) ∧ (∀ h, h < H → A' (Q + 6) h = 0) ∧ (∀ j, 11 ≤ j → j ≤ 13 → A' Q j = A Q j) ∧ kG Q n (rn isB t n (s + (pT b).length)) t A' N' := by
  have hH5 := w.2.2.1
  cases b with
  | false =>
    exact ⟨A, N, 0, by omega, RD.rf, w, fun h hh => by rw [if_neg (by simp)]; exact f5 h (by omega), fun h hh => f6 h (by omega), fun _ _ _ => rfl, g⟩
  | true =>
    have e14 : (pT true).length = 14 := rfl
    rw [e14] at hs ⊢
    have hp' : pc t s [112, 97, 114, 116, 121, 32, 112, 32, 104, 97, 32, 104, 98, 59] := hp
    have es : t s = nI 112 := hp' 0 112 rfl
    rw [rnB0 (c := 112) (by omega) (fun _ => es) (by omega)] at g
    obtain ⟨e, he, e1, w1, a5, a6, aq, g1⟩ := l_partyS w hH hs hp' g (fun h hh => ⟨f5 h (by omega), f6 h (by omega)⟩)
    exact ⟨e.2.1, e.2.2, 1, Nat.le_refl 1, RD.one (g.ne0 (by omega) es (by omega)) he e1, w1, fun h hh => by
      rw [a5 h hh]
      by_cases z : h < 2
      · rw [if_pos z, if_pos ⟨rfl, z⟩]
      · rw [if_neg z, if_neg (fun q => z q.2)]; exact f5 h (by omega), fun h hh => (a6 h).trans (f6 h (by omega)), aq, g1⟩
theorem rd_law {Q T nT n s U H G l : Nat} {t : Nat → Int32} {A : zMt} {N : zNt} (w : iv Q n t A N U H G) (hs : s + (lT l).length ≤ n) (hp : pc t s (lT l)) (g : kG Q n (rn isB t n s) t A N) (hf : A Q 11 = 0) : ∃ A' N' k, k ≤ 1 ∧ RD Q T nT A N A' N' k ∧ iv Q n t A' N' U H G ∧ (∀ j, 12 ≤ j → j ≤ 13 → A' Q j = A Q j) ∧ kG Q n (rn isB t n (s + (lT l).length)) t A' N' := by
  by_cases z0 : l = 0
  · subst z0
    exact ⟨A, N, 0, by omega, RD.rf, w, fun _ _ _ => rfl, g⟩
  · by_cases z1 : l = 1
    · subst z1
      have e9 : (lT 1).length = 9 := rfl
      rw [e9] at hs ⊢
      have hp' : pc t s [108, 97, 119, 32, 108, 105, 110, 101, 59] := hp
      have es : t s = nI 108 := hp' 0 108 rfl
      rw [rnB0 (c := 108) (by omega) (fun _ => es) (by omega)] at g
      obtain ⟨e, he, e1, w1, aq, g1⟩ := l_lineS w hs hp' g hf
      exact ⟨e.2.1, e.2.2, 1, Nat.le_refl 1, RD.one (g.ne0 (by omega) es (by omega)) he e1, w1, aq, g1⟩
    · have hl : lT l = [108, 97, 119, 32, 115, 113, 117, 97, 114, 101, 59] := by unfold lT; rw [if_neg z0, if_neg z1]
      rw [hl] at hs hp ⊢
      have e11 : ([108, 97, 119, 32, 115, 113, 117, 97, 114, 101, 59] : List Nat).length = 11 := rfl
      rw [e11] at hs ⊢
      have es : t s = nI 108 := hp 0 108 rfl
      rw [rnB0 (c := 108) (by omega) (fun _ => es) (by omega)] at g
      obtain ⟨e, he, e1, w1, aq, g1⟩ := l_squareS w hs hp g hf
      exact ⟨e.2.1, e.2.2, 1, Nat.le_refl 1, RD.one (g.ne0 (by omega) es (by omega)) he e1, w1, aq, g1⟩
theorem rd_prefer {Q T nT n s U H G : Nat} {ds : List Nat} {t : Nat → Int32} {A : zMt} {N : zNt} (w : iv Q n t A N U H G) (hd : dOk ds) (hs : s + (fT ds).length ≤ n) (hp : pc t s (fT ds)) (g : kG Q n (rn isB t n s) t A N) (hf : A Q 12 = 0) : ∃ A' N', RD Q T nT A N A' N' 1 ∧ iv Q n t A' N' U H G ∧ A' Q 13 = A Q 13 ∧ kG Q n (rn isB t n (s + (fT ds).length)) t A' N' := by
  have el : (fT ds).length = 8 + ds.length := by
    show ([112, 114, 101, 102, 101, 114, 32] ++ (ds ++ [59])).length = _
    rw [List.length_append, List.length_append]
    show 7 + (ds.length + 1) = _
    omega
  rw [el] at hs ⊢
  have es : t s = nI 112 := (pc.app hp).1 0 112 rfl
  rw [rnB0 (c := 112) (by omega) (fun _ => es) (by omega)] at g
  obtain ⟨d1, d2, d3, d4⟩ := hd
  obtain ⟨e, he, e1, w1, aq, g1⟩ := l_preferS (k := ds.length) w d1 d2 rfl d3 d4 (by omega) hp g hf
  exact ⟨e.2.1, e.2.2, RD.one (g.ne0 (by omega) es (by omega)) he e1, w1, aq, by rw [← Nat.add_assoc]; exact g1⟩
theorem rd_guests {Q T nT n s U H G : Nat} {gd : Option (List Nat)} {t : Nat → Int32} {A : zMt} {N : zNt} (w : iv Q n t A N U H G) (hd : ∀ ds, gd = some ds → dOk ds) (hs : s + (gT5 gd).length ≤ n) (hp : pc t s (gT5 gd)) (g : kG Q n (rn isB t n s) t A N) (hf : A Q 13 = 0) : ∃ A' N' k, k ≤ 1 ∧ RD Q T nT A N A' N' k ∧ iv Q n t A' N' U H G ∧ kG Q n (rn isB t n (s + (gT5 gd).length)) t A' N' := by
  cases gd with
  | none => exact ⟨A, N, 0, by omega, RD.rf, w, g⟩
  | some ds =>
    have el : (gT5 (some ds)).length = 8 + ds.length := by
      show ([103, 117, 101, 115, 116, 115, 32] ++ (ds ++ [59])).length = _
      rw [List.length_append, List.length_append]
      show 7 + (ds.length + 1) = _
      omega
    rw [el] at hs ⊢
    have hp' : pc t s ([103, 117, 101, 115, 116, 115, 32] ++ (ds ++ [59])) := hp
    have es : t s = nI 103 := (pc.app hp').1 0 103 rfl
    rw [rnB0 (c := 103) (by omega) (fun _ => es) (by omega)] at g
    obtain ⟨d1, d2, d3, d4⟩ := hd ds rfl
    obtain ⟨e, he, e1, w1, g1⟩ := l_guestsS (k := ds.length) w d1 d2 rfl d3 d4 (by omega) hp' g hf
    exact ⟨e.2.1, e.2.2, 1, Nat.le_refl 1, RD.one (g.ne0 (by omega) es (by omega)) he e1, w1, by rw [← Nat.add_assoc]; exact g1⟩
theorem rd_all {Q T nT n : Nat} {qs : List Nat} {hs : List (Nat × Bool)} {b : Bool} {as : List (Nat × List Nat)} {l : Nat} {pd : List Nat} {gd : Option (List Nat)} {t : Nat → Int32} {A : zMt} {N : zNt} (ok : tOk qs hs b as pd gd) (hn : n = (txt qs hs b as l pd gd).length) (hp : pc t 0 (txt qs hs b as l pd gd)) (w : iv Q n t A N 0 0 0) (g : kG Q n (rn isB t n 0) t A N) (h11 : ∀ j, 11 ≤ j → j ≤ 13 → A Q j = 0) (f5 : ∀ h, h < 10 → A (Q + 5) h = -1) (f6 : ∀ h, h < 10 → A (Q + 6) h = 0) : ∃ A' N' k, k ≤ 20 ∧ RD Q T nT A N A' N' k ∧ iv Q n t A' N' qs.length hs.length (if b then 1 else 0) ∧ A' Q 6 = 0 := by
  obtain ⟨o1, o2, o3, o4, o5, o6, o7, o8, o9⟩ := ok
  have p1 := pc.app hp
  have p2 := pc.app p1.2
  have p3 := pc.app p2.2
  have p4 := pc.app p3.2
  have p5 := pc.app p4.2
  have p6 := pc.app p5.2
  have ln : n = 10 * qs.length + ((hT 0 hs).length + ((pT b).length + ((aT b as).length + ((lT l).length + ((fT pd).length + (gT5 gd).length))))) := by
    rw [hn]
    unfold txt
    rw [List.length_append, List.length_append, List.length_append, List.length_append, List.length_append, List.length_append, uT_len]
  rw [uT_len] at p1 p2 p3 p4 p5 p6
  obtain ⟨A1, N1, r1, w1, k1, g1⟩ := rd_units (T := T) (nT := nT) qs 0 0 A N w (by omega) o2 (by omega) p1.1 g
  rw [Nat.zero_add] at w1
  obtain ⟨A2, N2, r2, w2, k2, g2⟩ := rd_hunters (T := T) (nT := nT) hs 0 (0 + 10 * qs.length) A1 N1 w1 (by omega) o5 (by omega) p2.1 g1
  rw [Nat.zero_add hs.length] at w2
  have kk := k1.tr k2
  obtain ⟨A3, N3, c3, q3, r3, w3, a5, a6, aq, g3⟩ := rd_party (T := T) (nT := nT) (b := b) w2 o3 (by omega) p3.1 g2 (fun h hh => (kk _ _ (by omega)).trans (f5 h hh)) (fun h hh => (kk _ _ (by omega)).trans (f6 h hh))
  obtain ⟨A4, N4, r4, w4, aq4, g4⟩ := rd_asks (T := T) (nT := nT) as 0 _ A3 N3 w3 (fun _ => o3) o6 (fun h _ hh => a6 h hh) a5 (by omega) p4.1 g3
  obtain ⟨A5, N5, c5, q5, r5, w5, aq5, g5⟩ := rd_law (T := T) (nT := nT) (l := l) w4 (by omega) p5.1 g4 (by rw [aq4 _ (by omega) (by omega), aq _ (by omega) (by omega), kk _ _ (by omega)]; exact h11 11 (by omega) (by omega))
  have e12 : ∀ j, 12 ≤ j → j ≤ 13 → A5 Q j = 0 := fun j j1 j2 => by rw [aq5 j j1 j2, aq4 j (by omega) j2, aq j (by omega) j2, kk _ _ (by omega)]; exact h11 j (by omega) j2
  obtain ⟨A6, N6, r6, w6, a13, g6⟩ := rd_prefer (T := T) (nT := nT) w5 o8 (by omega) p6.1 g5 (e12 12 (by omega) (by omega))
  obtain ⟨A7, N7, c7, q7, r7, w7, g7⟩ := rd_guests (T := T) (nT := nT) (gd := gd) w6 o9 (by omega) p6.2 g6 (a13.trans (e12 13 (by omega) (by omega)))
  refine ⟨A7, N7, _, ?_, r1.tr (r2.tr (r3.tr (r4.tr (r5.tr (r6.tr r7))))), w7, g7.end ?_⟩
  · omega
  · rw [rn_stop (fun q => by have := q.1; omega)]; omega

