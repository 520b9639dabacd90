/-! p52: the wishes of a line, and the line -/
theorem z13_0 {f : Nat → Int32} : zrd 0 f 3 (0 : Int32) = f 0 := zrd_nI (j := 0) (by omega) (by omega)
theorem z13_1 {f : Nat → Int32} : zrd 0 f 3 (1 : Int32) = f 1 := zrd_nI (j := 1) (by omega) (by omega)
theorem k_unit {Q n U H G u : Nat} {t : Nat → Int32} {A : zMt} {N : zNt} (w : iv Q n t A N U H G) (hu : u < U) (h8 : N Q 8 = nm (568 + u)) : D_X3_find (Q + 10) 5 N (A (Q + 1) 0) (N Q 8) = some (nI u) := by
  obtain ⟨w0, w1, w2, w3, w4, w5, w6, w7, w8, w9⟩ := w
  rw [w4, h8]
  exact k_find1 w1 (by omega) hu (w7 u hu) (fun j hj q => by have := nm_inj (by omega) (by omega) ((w7 j hj).symm.trans q); omega)
theorem r_asks150 {Q n x U H G : Nat} {x1 : Int32} {t : Nat → Int32} {A : zMt} {N : zNt} (w : iv Q n t A N U H G) (g : kG Q n x t A N) (hx : x < n) (e59 : t x = nI 59) : ∃ e, D_X3_readAsks_150 Q x1 A N = some e ∧ e.1 = 1 ∧ iv Q n t e.2.1 e.2.2 U H G ∧ (∀ h, h < 10 → ¬ bitAt x1 h → e.2.1 (Q + 6) h = A (Q + 6) h) ∧ (∀ j, e.2.1 (Q + 5) j = A (Q + 5) j) ∧ (∀ j, 11 ≤ j → j ≤ 13 → e.2.1 Q j = A Q j) ∧ kG Q n (rn isB t n (x + 1)) t e.2.1 e.2.2 := by
  unfold D_X3_readAsks_150
  obtain ⟨c, e4, b4, w4, f4, n4, g4⟩ := k_endl w g hx e59
  rw [zB_s e4, if_neg (by rw [b4]; decide)]
  obtain ⟨A', e5, a1, a2⟩ := k_wishFor (R := Q + 1) (v0 := x1) (v1 := zrd 0 (c.2.1 (Q + 13)) 3 (0 : Int32)) (v2 := zrd 0 (c.2.1 (Q + 13)) 3 (1 : Int32)) (v3 := zrd 0 (c.2.1 (Q + 13)) 3 (2 : Int32)) (A := c.2.1) (H := H) (by have := w.2.2.1; omega) w4.2.2.2.2.2.1
  rw [zB_s e5]
  obtain ⟨y0, y1, y2, y3, y4, y5, y6, y7, y8, y9⟩ := w4
  refine ⟨_, rfl, rfl, ⟨y0.mono (fun i j z => a2 i j (by omega)), y1, y2, y3, (a2 _ _ (by omega)).trans y4, (a2 _ _ (by omega)).trans y5, (a2 _ _ (by omega)).trans y6, y7, y8, y9⟩, fun h hh nb => ?_, fun j => ?_, fun j j1 j2 => ?_, g4.k (fun j z => a2 _ _ (by omega)) rfl⟩
  · show A' (Q + 1 + 5) h = _
    rw [a1 h hh nb]; exact f4 _ _ (by omega)
  · show A' (Q + 5) j = _
    rw [a2 _ _ (by omega)]; exact f4 _ _ (by omega)
  · show A' Q j = _
    rw [a2 _ _ (by omega)]; exact f4 _ _ (by omega)
theorem k_asks46 {Q n U H G : Nat} {x1 : Int32} {t : Nat → Int32} : ∀ (rest : List Nat) (fu i x y : Nat) (A : zMt) (N : zNt), rest.length < fu → iv Q n t A N U H G → i + rest.length ≤ 3 → (rest = [] → 1 ≤ i ∧ y = x) → (¬ rest = [] → y = x + 1) → pc t x (wtx rest ++ [59]) → x + 3 * rest.length + 1 ≤ n → kG Q n y t A N → rest.Nodup → (∀ u, u ∈ rest → u < U) → (∀ j, j < 2 → ∀ u, u ∈ rest → ¬ A (Q + 13) j = nI u) → ∃ e, D_X3_readAsks_46 Q fu x1 (nI i) A N = some e ∧ e.1 = 1 ∧ iv Q n t e.2.1 e.2.2 U H G ∧ (∀ h, h < 10 → ¬ bitAt x1 h → e.2.1 (Q + 6) h = A (Q + 6) h) ∧ (∀ j, e.2.1 (Q + 5) j = A (Q + 5) j) ∧ (∀ j, 11 ≤ j → j ≤ 13 → e.2.1 Q j = A Q j) ∧ kG Q n (rn isB t n (x + 3 * rest.length + 1)) t e.2.1 e.2.2 := by
  intro rest
  induction rest with
  | nil =>
    intro fu i x y A N hfu w hi h0 _ hp hx g _ _ _
    obtain ⟨i1, rfl⟩ := h0 rfl
    have e59 : t y = nI 59 := hp 0 59 rfl
    have hy : y < n := by have : ([] : List Nat).length = 0 := rfl; omega
    have hi3 : i ≤ 3 := by have : ([] : List Nat).length = 0 := rfl; omega
    obtain ⟨m6, -⟩ := g.semi hy e59
    obtain ⟨f, rfl⟩ : ∃ f, fu = f + 1 := ⟨fu - 1, by have : ([] : List Nat).length = 0 := rfl; omega⟩
    have R := r_asks150 (x1 := x1) w g hy e59
    rw [D_X3_readAsks_46]
    by_cases q : (3 : Int32) ≤ nI i
    · rw [if_pos q]; exact R
    · rw [if_neg q, if_neg (show ¬ nI i < (1 : Int32) from fun z => by have := (nI_ltI (a := i) (b := 1) (by omega) (by omega)).mp z; omega), if_pos m6]; exact R
  | cons u r ih =>
    intro fu i x y A N hfu w hi _ h1 hp hx g hnd hU hc
    have hy : y = x + 1 := h1 (by simp)
    subst hy
    rw [List.length_cons] at hfu hi hx
    obtain ⟨f, rfl⟩ : ∃ f, fu = f + 1 := ⟨fu - 1, by omega⟩
    have hu : u < U := hU u (List.mem_cons_self)
    have hU5 := w.2.1
    have p0 : pc t x ([32, 117, 97 + u] ++ (wtx r ++ [59])) := by
      have : wtx (u :: r) ++ [59] = [32, 117, 97 + u] ++ (wtx r ++ [59]) := by
        show ([32, 117, 97 + u] ++ wtx r) ++ [59] = _
        rw [List.append_assoc]
      rw [← this]; exact hp
    have p1 := (pc.app p0).1
    have p2 : pc t (x + 3) (wtx r ++ [59]) := (pc.app p0).2
    have pw : pc t (x + 1) [117, 97 + u] := (pc.app (u := [32]) (v := [117, 97 + u]) p1).2
    -- what comes behind the word
    have nxt : ∃ c, (c = 32 ∨ c = 59) ∧ t (x + 3) = nI c ∧ (r = [] → c = 59) ∧ (¬ r = [] → c = 32 ∧ t (x + 4) = nI 117) := by
      cases r with
      | nil => exact ⟨59, Or.inr rfl, p2 0 59 rfl, fun _ => rfl, fun z => absurd rfl z⟩
      | cons v r => exact ⟨32, Or.inl rfl, p2 0 32 rfl, fun z => absurd z (by simp), fun _ => ⟨rfl, p2 1 117 rfl⟩⟩
    obtain ⟨c, hc0, ec, hc1, hc2⟩ := nxt
    obtain ⟨m6, m7, m5, m8⟩ := g.wordW (w := [117, 97 + u]) (k := 2) rfl (by omega) (by omega) (by omega) pw (by intro c hc; simp only [List.mem_cons, List.not_mem_nil, or_false] at hc; omega) ec (by omega) (by omega)
    have m8' : N Q 8 = nm (568 + u) := m8.trans (nm_u pw (by omega))
    have step : ∃ e, D_X3_readAsks_64 Q (D_X3_readAsks_46 Q f) x1 (nI i) A N = some e ∧ e.1 = 1 ∧ iv Q n t e.2.1 e.2.2 U H G ∧ (∀ h, h < 10 → ¬ bitAt x1 h → e.2.1 (Q + 6) h = A (Q + 6) h) ∧ (∀ j, e.2.1 (Q + 5) j = A (Q + 5) j) ∧ (∀ j, 11 ≤ j → j ≤ 13 → e.2.1 Q j = A Q j) ∧ kG Q n (rn isB t n (x + 3 * (r.length + 1) + 1)) t e.2.1 e.2.2 := by
      unfold D_X3_readAsks_64
      rw [zB_s (k_isName (k := 2) (w := [117, 97 + u]) rfl w.1 m6 m7 m5 (by omega) pw (by omega)), if_neg (by decide), zB_s (k_unit w hu m8'), if_neg (nI_ne (by omega)), z13_0, z13_1, if_neg (hc 0 (by omega) u List.mem_cons_self), if_neg (hc 1 (by omega) u List.mem_cons_self), zwr_nI (by omega) (by omega), zLt_eq]
      have kk : kA Q A (zu A (Q + 13) i (nI u)) := fun r j _ h => zu_ne (by omega)
      have hyn : rn isB t n (x + 3) = if r = [] then x + 3 else x + 4 := by
        by_cases z : r = []
        · rw [if_pos z]; exact rnB0 (c := 59) (by omega) (fun _ => by rw [ec, hc1 z]) (by omega)
        · rw [if_neg z]
          obtain ⟨c32, e117⟩ := hc2 z
          exact rnB1 (c := 117) (by omega) (by rw [ec, c32]) (by omega) e117 (by omega)
      obtain ⟨a, e1, w1, f1, n1, g1, -⟩ := k_go (A := zu A (Q + 13) i (nI u)) (N := N) (w.k kk kNA.rf) ((zu_ne (by omega)).trans (show A Q 5 = nI (x + 3) from m5)) (by omega) hyn
      rw [zB_s e1, nI_add1]
      have hnd2 := List.nodup_cons.mp hnd
      obtain ⟨e, he, q1, q2, q3, q4, q5, q6⟩ := ih f (i + 1) (x + 3) (if r = [] then x + 3 else x + 4) a.1 a.2 (by omega) w1 (by omega) (fun z => ⟨by omega, if_pos z⟩) (fun z => if_neg z) p2 (by omega) g1 hnd2.2 (fun v hv => hU v (List.mem_cons_of_mem _ hv)) (fun j hj v hv => by
        rw [f1 _ _ (by omega)]
        by_cases z : j = i
        · subst z
          rw [zu_eq]
          intro q
          have hv2 := hU v (List.mem_cons_of_mem _ hv)
          have := nI_inj (by omega) (by omega) q
          subst this
          exact hnd2.1 hv
        · rw [zu_ne (by omega)]
          exact hc j hj v (List.mem_cons_of_mem _ hv))
      refine ⟨e, he, q1, q2, fun h hh nb => ?_, fun j => ?_, fun j j1 j2 => ?_, ?_⟩
      · rw [q3 h hh nb, f1 _ _ (by omega), zu_ne (by omega)]
      · rw [q4 j, f1 _ _ (by omega), zu_ne (by omega)]
      · rw [q5 j j1 j2, f1 _ _ (by omega), zu_ne (by omega)]
      · rw [show x + 3 * (r.length + 1) + 1 = x + 3 + 3 * r.length + 1 by omega]; exact q6
    rw [D_X3_readAsks_46, if_neg (show ¬ (3 : Int32) ≤ nI i from fun z => by have := (nI_leI (a := 3) (b := i) (by omega) (by omega)).mp z; omega)]
    rw [List.length_cons]
    by_cases q : nI i < (1 : Int32)
    · rw [if_pos q]; exact step
    · rw [if_neg q, if_neg (by rw [m6]; decide)]; exact step
/-- behind 'asks': who asks, with what it is taken for -/
theorem r_asks {Q n s k v U H G : Nat} {wd us : List Nat} {t : Nat → Int32} {A : zMt} {N : zNt} (w : iv Q n t A N U H G) (hk1 : 1 ≤ k) (hk : k < 3) (hl : wd.length = k) (hg : ∀ c, c ∈ wd → 97 ≤ c ∧ c ≤ 122) (hp : pc t s ([97, 115, 107, 115, 32] ++ (wd ++ (wtx us ++ [59])))) (hus : ¬ us = []) (hlen : us.length ≤ 3) (hnd : us.Nodup) (hU : ∀ u, u ∈ us → u < U) (hs : s + 5 + k + 3 * us.length + 1 ≤ n) (h5 : A Q 5 = nI (s + 4)) (hv : wv t (s + 5) k = nm v) (B : Nat → Prop) (hask : ∀ A' N', iv Q n t A' N' U H G → N' Q 8 = nm v → (∀ j, A' (Q + 5) j = A (Q + 5) j) → (∀ j, A' (Q + 6) j = A (Q + 6) j) → ∃ r, D_X3_asker Q A' N' = some r ∧ ¬ r = 0 ∧ ∀ h, h < 10 → bitAt r h → B h) : ∃ e, D_X3_readAsks Q A N = some e ∧ e.1 = 1 ∧ iv Q n t e.2.1 e.2.2 U H G ∧ (∀ h, h < 10 → ¬ B h → e.2.1 (Q + 6) h = A (Q + 6) h) ∧ (∀ j, e.2.1 (Q + 5) j = A (Q + 5) j) ∧ (∀ j, 11 ≤ j → j ≤ 13 → e.2.1 Q j = A Q j) ∧ kG Q n (rn isB t n (s + 5 + k + 3 * us.length + 1)) t e.2.1 e.2.2 := by
  have pa := (pc.app hp).1
  have pb : pc t (s + 5) (wd ++ (wtx us ++ [59])) := (pc.app hp).2
  have pw := (pc.app pb).1
  have pu : pc t (s + 5 + k) (wtx us ++ [59]) := by have := (pc.app pb).2; rw [hl] at this; exact this
  have us1 : ∃ u r, us = u :: r := by
    cases us with
    | nil => exact absurd rfl hus
    | cons u r => exact ⟨u, r, rfl⟩
  obtain ⟨u0, r0, hu0⟩ := us1
  have e32 : t (s + 5 + k) = nI 32 := by rw [hu0] at pu; exact pu 0 32 rfl
  have e117 : t (s + 5 + k + 1) = nI 117 := by rw [hu0] at pu; exact pu 1 117 rfl
  have hl0 : us.length = r0.length + 1 := by rw [hu0, List.length_cons]
  have hw0 := hg wd[0] (List.getElem_mem (by omega))
  have ew0 : t (s + 5) = nI wd[0] := pw 0 _ (List.getElem?_eq_getElem (by omega))
  unfold D_X3_readAsks
  obtain ⟨a, e1, w1, f1, n1, g1, -⟩ := k_go (N := N) (y := s + 5) w h5 (by omega) (rnB1 (c := wd[0]) (by omega) (pa 4 32 rfl) (by omega) ew0 (by omega))
  obtain ⟨m6, m7, m5, m8⟩ := g1.wordW (w := wd) hl hk1 (by omega) (by omega) pw hg e32 (by omega) (by omega)
  rw [zB_s e1, zB_s (k_isName (k := k) (w := wd) hl w1.1 m6 m7 m5 (by omega) pw hk), if_neg (by decide)]
  obtain ⟨r, e2, r0', rB⟩ := hask a.1 a.2 w1 (m8.trans hv) (fun j => f1 _ _ (by omega)) (fun j => f1 _ _ (by omega))
  rw [zB_s e2, if_neg r0']
  obtain ⟨b, e3, w2, f2, n2, g2, -⟩ := k_go (A := a.1) (N := a.2) (y := s + 5 + k + 1) w1 m5 (by omega) (rnB1 (c := 117) (by omega) e32 (by omega) e117 (by omega))
  rw [zB_s e3, zLt_eq]
  have kk : kA Q b.1 (zfil b.1 (Q + 13) 3 (-1 : Int32)) := fun r j _ h => zfil_ne h
  obtain ⟨e, he, q1, q2, q3, q4, q5, q6⟩ := k_asks46 (x1 := r) us zFu 0 (s + 5 + k) (s + 5 + k + 1) (zfil b.1 (Q + 13) 3 (-1 : Int32)) b.2 (by unfold zFu; omega) (w2.k kk kNA.rf) (by omega) (fun z => absurd z hus) (fun _ => rfl) pu (by omega) (g2.k (fun j z => zfil_ne (by omega)) rfl) hnd hU (fun j hj u hu => by
    rw [zfil_in (by omega)]
    have := hU u hu
    have := w.2.1
    exact fun q => nI_ne (by omega) q.symm)
  refine ⟨e, he, q1, q2, fun h hh nb => ?_, fun j => ?_, fun j j1 j2 => ?_, q6⟩
  · rw [q3 h hh (fun z => nb (rB h hh z)), zfil_ne (by omega), f2 _ _ (by omega), f1 _ _ (by omega)]
  · rw [q4 j, zfil_ne (by omega), f2 _ _ (by omega), f1 _ _ (by omega)]
  · rw [q5 j j1 j2, zfil_ne (by omega), f2 _ _ (by omega), f1 _ _ (by omega)]
theorem l_asksS {Q n s k v U H G : Nat} {wd us : List Nat} {t : Nat → Int32} {A : zMt} {N : zNt} (w : iv Q n t A N U H G) (hk1 : 1 ≤ k) (hk : k < 3) (hl : wd.length = k) (hg : ∀ c, c ∈ wd → 97 ≤ c ∧ c ≤ 122) (hp : pc t s ([97, 115, 107, 115, 32] ++ (wd ++ (wtx us ++ [59])))) (hus : ¬ us = []) (hlen : us.length ≤ 3) (hnd : us.Nodup) (hU : ∀ u, u ∈ us → u < U) (hs : s + 5 + k + 3 * us.length + 1 ≤ n) (hG : kG Q n s t A N) (hv : wv t (s + 5) k = nm v) (B : Nat → Prop) (hask : ∀ A' N', iv Q n t A' N' U H G → N' Q 8 = nm v → (∀ j, A' (Q + 5) j = A (Q + 5) j) → (∀ j, A' (Q + 6) j = A (Q + 6) j) → ∃ r, D_X3_asker Q A' N' = some r ∧ ¬ r = 0 ∧ ∀ h, h < 10 → bitAt r h → B h) : ∃ e, D_X3_readLine Q A N = some e ∧ e.1 = 1 ∧ iv Q n t e.2.1 e.2.2 U H G ∧ (∀ h, h < 10 → ¬ B h → e.2.1 (Q + 6) h = A (Q + 6) h) ∧ (∀ j, e.2.1 (Q + 5) j = A (Q + 5) j) ∧ (∀ j, 11 ≤ j → j ≤ 13 → e.2.1 Q j = A Q j) ∧ kG Q n (rn isB t n (s + 5 + k + 3 * us.length + 1)) t e.2.1 e.2.2 := by
  have pa := (pc.app hp).1
  have pw := (pc.app (u := [97, 115, 107, 115]) (v := [32]) pa).1
  obtain ⟨h6, h7, h5, -⟩ := hG.wordW (w := [97, 115, 107, 115]) (k := 4) rfl (by omega) (by omega) (by omega) pw (by decide) (pa 4 32 rfl) (by omega) (by omega)
  obtain ⟨e, he, e1, e2⟩ := r_asks w hk1 hk hl hg hp hus hlen hnd hU hs h5 hv B hask
  have sy : ∀ j, j < 11 → D_X3_says Q j A = some (if sayB [97, 115, 107, 115] j then 1 else 0) := fun j hj => k_says (k := 4) (w := [97, 115, 107, 115]) rfl w.1 h6 h7 h5 (by omega) hj pw
  unfold D_X3_readLine
  rw [zB_s (sy 0 (by omega)), if_pos (by decide), zB_s (sy 1 (by omega)), if_pos (by decide), zB_s (sy 3 (by omega)), if_pos (by decide), zB_s (sy 4 (by omega)), if_neg (by decide), zB_s he]
  exact ⟨_, rfl, e1, e2⟩

