/-! p52: lines that the class takes: a party, law, prefer, guests -/
theorem b3_bit : ∀ k, k < 10 → ((((3 : Int32) >>> (nI k &&& 31)) &&& (1 : Int32)) = (1 : Int32) ↔ k < 2) := by decide
theorem k_addP {R H : Nat} (hH : H ≤ 10) : ∀ (u k : Nat) (A : zMt), A R 1 = nI H → A R 2 = nI 0 → k ≤ H → H - k < u → ∃ A', D_X4_addParty_2 R u (3 : Int32) (nI k) A = some A' ∧ A' R 2 = nI 1 ∧ (∀ h, k ≤ h → h < H → A' (R + 4) h = if h < 2 then 0 else A (R + 4) h) ∧ (∀ i j, ¬ (i = R ∧ j = 2) → ¬ (i = R + 4 ∧ k ≤ j ∧ j < H) → A' i j = A i j) := by
  intro u
  induction u with
  | zero => intro k A _ _ _ h; omega
  | succ u ih =>
    intro k A h1 h2 hk hu
    rw [D_X4_addParty_2, h1]
    by_cases c : H ≤ k
    · rw [if_pos ((nI_leI (by omega) (by omega)).mpr c), zLt_eq]
      refine ⟨_, rfl, ?_, fun h q1 q2 => by omega, fun i j q1 q2 => zu_ne (by omega)⟩
      rw [zu_eq, h2, nI_add1]
    · rw [if_neg (fun q => c ((nI_leI (by omega) (by omega)).mp q))]
      by_cases b : k < 2
      · rw [if_pos ((b3_bit k (by omega)).mpr b), h2, zwr_nI (by omega) (by omega), zLt_eq]
        unfold D_X4_addParty_31
        rw [nI_add1]
        obtain ⟨A', e, a1, a2, a3⟩ := ih (k + 1) (zu A (R + 4) k (nI 0)) ((zu_ne (by omega)).trans h1) ((zu_ne (by omega)).trans h2) (by omega) (by omega)
        refine ⟨A', e, a1, fun h q1 q2 => ?_, fun i j q1 q2 => (a3 i j q1 (by omega)).trans (zu_ne (by omega))⟩
        by_cases z : h = k
        · subst z; rw [a3 _ _ (by omega) (by omega), zu_eq, if_pos b]; rfl
        · rw [a2 h (by omega) q2, zu_ne (by omega)]
      · rw [if_neg (fun q => b ((b3_bit k (by omega)).mp q))]
        unfold D_X4_addParty_31
        rw [nI_add1]
        obtain ⟨A', e, a1, a2, a3⟩ := ih (k + 1) A h1 h2 (by omega) (by omega)
        refine ⟨A', e, a1, fun h q1 q2 => ?_, fun i j q1 q2 => a3 i j q1 (by omega)⟩
        by_cases z : h = k
        · subst z; rw [a3 _ _ (by omega) (by omega), if_neg b]
        · rw [a2 h (by omega) q2]
theorem k_free {Q h : Nat} {A : zMt} (hh : h < 10) (h1 : A (Q + 5) h = -1) (h2 : A (Q + 6) h = 0) : D_X3_isFree Q A (nI h) = some 1 := by
  unfold D_X3_isFree
  rw [if_neg (nI_ne (by omega)), zrd_nI (by omega) (by omega), zrd_nI (by omega) (by omega), if_pos h1, if_pos h2]
  rfl
theorem k_hunter {Q n U H G h : Nat} {t : Nat → Int32} {A : zMt} {N : zNt} (w : iv Q n t A N U H G) (hh : h < H) (h8 : N Q 8 = nm (217 + h)) : D_X3_find (Q + 11) 10 N (A (Q + 1) 1) (N Q 8) = some (nI h) := by
  obtain ⟨w0, w1, w2, w3, w4, w5, w6, w7, w8, w9⟩ := w
  rw [w5, h8]
  exact k_find1 (by omega) (by omega) hh (w8 h hh) (fun j hj q => by have := nm_inj (by omega) (by omega) ((w8 j hj).symm.trans q); omega)
theorem k_party35 {Q n s y U H G h : Nat} {k17 : Int32 → Int32 → zMt → zNt → Option (Int32 × zMt × zNt)} {x1 x2 : Int32} {t : Nat → Int32} {A : zMt} {N : zNt} (w : iv Q n t A N U H G) (g : kG Q n s t A N) (hh : h < H) (hp : pc t s [104, 97 + h]) {c : Nat} (e : t (s + 2) = nI c) (hc : c = 32 ∨ c = 59) (hs : s + 2 < n) (hy : rn isB t n (s + 2) = y) (f1 : A (Q + 5) h = -1) (f2 : A (Q + 6) h = 0) (nb : ¬ (((x1 >>> (nI h &&& 31)) &&& (1 : Int32)) = (1 : Int32))) : ∃ a : zMt × zNt, D_X3_readParty_35 Q k17 x1 x2 A N = k17 (x1 ||| ((1 : Int32) <<< (nI h &&& 31))) (x2 + 1) a.1 a.2 ∧ iv Q n t a.1 a.2 U H G ∧ fq Q A a.1 ∧ fqn Q N a.2 ∧ kG Q n y t a.1 a.2 := by
  have hH := w.2.2.1
  obtain ⟨m6, m7, m5, m8⟩ := g.wordW (w := [104, 97 + h]) (k := 2) rfl (by omega) (by omega) (by omega) hp (by intro c hc; simp only [List.mem_cons, List.not_mem_nil, or_false] at hc; omega) e (by omega) (by omega)
  have m8' : N Q 8 = nm (217 + h) := m8.trans (nm_h hp (by omega))
  unfold D_X3_readParty_35
  rw [zB_s (k_isName (k := 2) (w := [104, 97 + h]) rfl w.1 m6 m7 m5 (by omega) hp (by omega)), if_neg (by decide), zB_s (k_hunter w hh m8'), zB_s (k_free (by omega) f1 f2), if_neg (by decide), if_neg nb]
  obtain ⟨a, e1, w4, f4, n4, g4, -⟩ := k_go (N := N) w m5 (by omega) hy
  rw [zB_s e1]
  exact ⟨a, rfl, w4, f4, n4, g4⟩
theorem r_party {Q n s U H : Nat} {t : Nat → Int32} {A : zMt} {N : zNt} (w : iv Q n t A N U H 0) (hH : 2 ≤ H) (hs : s + 14 ≤ n) (hp : pc t s [112, 97, 114, 116, 121, 32, 112, 32, 104, 97, 32, 104, 98, 59]) (h5 : A Q 5 = nI (s + 5)) (f5 : ∀ h, h < 2 → A (Q + 5) h = -1 ∧ A (Q + 6) h = 0) : ∃ e, D_X3_readParty Q A N = some e ∧ e.1 = 1 ∧ iv Q n t e.2.1 e.2.2 U H 1 ∧ (∀ h, h < H → e.2.1 (Q + 5) h = if h < 2 then 0 else A (Q + 5) h) ∧ (∀ j, e.2.1 (Q + 6) j = A (Q + 6) j) ∧ (∀ j, 11 ≤ j → j ≤ 13 → e.2.1 Q j = A Q j) ∧ kG Q n (rn isB t n (s + 14)) t e.2.1 e.2.2 := by
  have hH5 := w.2.2.1
  have p1 := (pc.app (u := [112]) (v := [32, 104, 97, 32, 104, 98, 59]) (pc.app (u := [112, 97, 114, 116, 121, 32]) (v := [112, 32, 104, 97, 32, 104, 98, 59]) hp).2).1
  have p2 := (pc.app (u := [104, 97]) (v := [32, 104, 98, 59]) (pc.app (u := [112, 97, 114, 116, 121, 32, 112, 32]) (v := [104, 97, 32, 104, 98, 59]) hp).2).1
  have p3 := (pc.app (u := [104, 98]) (v := [59]) (pc.app (u := [112, 97, 114, 116, 121, 32, 112, 32, 104, 97, 32]) (v := [104, 98, 59]) hp).2).1
  unfold D_X3_readParty
  obtain ⟨a, e1, w1, f1, -, g1, -⟩ := k_go (N := N) (y := s + 6) w h5 (by omega) (rnB1 (c := 112) (by omega) (hp 5 32 rfl) (by omega) (hp 6 112 rfl) (by omega))
  rw [zB_s e1]
  obtain ⟨b, e2, b1, w2, f2, q2, g2⟩ := k_newName (y := s + 8) (v := 16) w1 g1 (k := 1) (by omega) (by omega) (wd := [112]) rfl p1 (p1.isL (by decide)) (by omega) (stL (hp 7 32 rfl) (by omega) (by omega)) (rnB1 (c := 104) (by omega) (hp 7 32 rfl) (by omega) (hp 8 104 rfl) (by omega)) (nm_p p1) (by omega) (by omega) (by omega) (by omega)
  rw [zB_s e2, if_neg (by rw [b1]; decide), show zFu = (zFu - 3) + 1 + 1 + 1 by decide, D_X3_readParty_17, if_neg (by decide), if_pos (by decide)]
  have F2 : ∀ h, h < 2 → b.2.1 (Q + 5) h = -1 ∧ b.2.1 (Q + 6) h = 0 := fun h hh => ⟨by rw [f2 _ _ (by omega), f1 _ _ (by omega)]; exact (f5 h hh).1, by rw [f2 _ _ (by omega), f1 _ _ (by omega)]; exact (f5 h hh).2⟩
  obtain ⟨c, e3, w3, f3, n3, g3⟩ := k_party35 (k17 := D_X3_readParty_17 Q (zFu - 3 + 1 + 1)) (x1 := 0) (x2 := 0) (y := s + 11) w2 g2 (h := 0) (by omega) p2 (hp 10 32 rfl) (by omega) (by omega) (rnB1 (c := 104) (by omega) (hp 10 32 rfl) (by omega) (hp 11 104 rfl) (by omega)) (F2 0 (by omega)).1 (F2 0 (by omega)).2 (by decide)
  rw [e3, D_X3_readParty_17, if_neg (by decide), if_pos (by decide)]
  obtain ⟨d, e4, w4, f4, n4, g4⟩ := k_party35 (k17 := D_X3_readParty_17 Q (zFu - 3 + 1)) (x1 := 0 ||| ((1 : Int32) <<< (nI 0 &&& 31))) (x2 := 0 + 1) (y := s + 13) w3 g3 (h := 1) (by omega) p3 (hp 13 59 rfl) (by omega) (by omega) (rnB0 (c := 59) (by omega) (fun _ => hp 13 59 rfl) (by omega)) (by rw [f3 _ _ (by omega)]; exact (F2 1 (by omega)).1) (by rw [f3 _ _ (by omega)]; exact (F2 1 (by omega)).2) (by decide)
  obtain ⟨m6, -⟩ := g4.semi (by omega) (hp 13 59 rfl)
  rw [e4, D_X3_readParty_17, if_neg (by decide), if_neg (by decide), if_pos m6]
  unfold D_X3_readParty_106
  obtain ⟨f, e5, b5, w5, f6, n5, g5⟩ := k_endl w4 g4 (by omega) (hp 13 59 rfl)
  rw [zB_s e5, if_neg (by rw [b5]; decide), w5.2.2.2.2.2.2.1, zwr_nI (by omega) (by omega), zLt_eq, show (0 ||| ((1 : Int32) <<< (nI 0 &&& 31))) ||| ((1 : Int32) <<< (nI 1 &&& 31)) = 3 by decide]
  unfold D_X4_addParty
  obtain ⟨A', e6, a1, a2, a3⟩ := k_addP (R := Q + 1) (H := H) (by omega) zFu 0 f.2.1 w5.2.2.2.2.2.1 w5.2.2.2.2.2.2.1 (by omega) (by unfold zFu; omega)
  rw [show (0 : Int32) = nI 0 from rfl, zB_s e6]
  have hq : f.2.2 Q 10 = nm 16 := by rw [n5 _ _ (by omega), n4 _ _ (by omega), n3 _ _ (by omega), q2]
  have ff : ∀ r j, ¬ (r = Q ∧ (j = 5 ∨ j = 6 ∨ j = 7 ∨ j = 9)) → f.2.1 r j = A r j := fun r j z => by rw [f6 _ _ z, f4 _ _ z, f3 _ _ z, f2 _ _ z, f1 _ _ z]
  obtain ⟨y0, y1, y2, y3, y4, y5, y6, y7, y8, y9⟩ := w5
  refine ⟨_, rfl, rfl, ⟨y0.mono (fun i j z => a3 i j (by omega) (by omega)), y1, y2, by omega, (a3 _ _ (by omega) (by omega)).trans y4, (a3 _ _ (by omega) (by omega)).trans y5, a1, fun i hi => ?_, fun i hi => ?_, fun i hi => ?_⟩, fun h hh => ?_, fun j => ?_, fun j j1 j2 => ?_, g5.k (fun j z => a3 _ _ (by omega) (by omega)) (zu_ne (by omega))⟩
  · show zu f.2.2 (Q + 12) 0 (f.2.2 Q 10) (Q + 10) i = _
    rw [zu_ne (by omega)]; exact y7 i hi
  · show zu f.2.2 (Q + 12) 0 (f.2.2 Q 10) (Q + 11) i = _
    rw [zu_ne (by omega)]; exact y8 i hi
  · show zu f.2.2 (Q + 12) 0 (f.2.2 Q 10) (Q + 12) i = _
    have : i = 0 := by omega
    subst this
    rw [zu_eq, hq]
  · show A' (Q + 1 + 4) h = _
    rw [a2 h (by omega) hh]
    by_cases z : h < 2
    · rw [if_pos z, if_pos z]; rfl
    · rw [if_neg z, if_neg z]; exact ff _ _ (by omega)
  · show A' (Q + 6) j = _
    rw [a3 _ _ (by omega) (by omega)]; exact ff _ _ (by omega)
  · show A' Q j = _
    rw [a3 _ _ (by omega) (by omega)]; exact ff _ _ (by omega)
theorem l_partyS {Q n s U H : Nat} {t : Nat → Int32} {A : zMt} {N : zNt} (w : iv Q n t A N U H 0) (hH : 2 ≤ H) (hs : s + 14 ≤ n) (hp : pc t s [112, 97, 114, 116, 121, 32, 112, 32, 104, 97, 32, 104, 98, 59]) (hk : kG Q n s t A N) (f5 : ∀ h, h < 2 → A (Q + 5) h = -1 ∧ A (Q + 6) h = 0) : ∃ e, D_X3_readLine Q A N = some e ∧ e.1 = 1 ∧ iv Q n t e.2.1 e.2.2 U H 1 ∧ (∀ h, h < H → e.2.1 (Q + 5) h = if h < 2 then 0 else A (Q + 5) h) ∧ (∀ j, e.2.1 (Q + 6) j = A (Q + 6) j) ∧ (∀ j, 11 ≤ j → j ≤ 13 → e.2.1 Q j = A Q j) ∧ kG Q n (rn isB t n (s + 14)) t e.2.1 e.2.2 := by
  have pw := (pc.app (u := [112, 97, 114, 116, 121]) (v := [32, 112, 32, 104, 97, 32, 104, 98, 59]) hp).1
  obtain ⟨h6, h7, h5, -⟩ := hk.wordW (w := [112, 97, 114, 116, 121]) (k := 5) rfl (by omega) (by omega) (by omega) pw (by decide) (hp 5 32 rfl) (by omega) (by omega)
  obtain ⟨e, he, e1, e2⟩ := r_party w hH hs hp h5 f5
  have sy : ∀ j, j < 11 → D_X3_says Q j A = some (if sayB [112, 97, 114, 116, 121] j then 1 else 0) := fun j hj => k_says (k := 5) (w := [112, 97, 114, 116, 121]) rfl w.1 h6 h7 h5 (by omega) hj pw
  unfold D_X3_readLine
  rw [zB_s (sy 0 (by omega)), if_pos (by decide), zB_s (sy 1 (by omega)), if_pos (by decide), zB_s (sy 3 (by omega)), if_neg (by decide), w.2.2.2.2.2.2.1, if_neg (by decide), zB_s he]
  exact ⟨_, rfl, e1, e2⟩

