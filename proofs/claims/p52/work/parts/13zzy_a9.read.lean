/-! p52: the whole list is read -/
theorem kG.ne0 {Q n s c : Nat} {t : Nat → Int32} {A : zMt} {N : zNt} (h : kG Q n s t A N) (hs : s < n) (e : t s = nI c) (hc : 97 ≤ c ∧ c ≤ 122) : ¬ A Q 6 = 0 := by
  have hl : isL (t s) = true := by rw [e, isL_c c (by omega), decide_eq_true_eq]; exact hc
  obtain ⟨q1, q2⟩ := h.2.2.1 hs hl
  by_cases z : rn isL t n s - s ≤ 8
  · rw [(q1 z).1]; decide
  · rw [q2 z]; decide
/-- k lines are read -/
def RD (Q T nT : Nat) (A : zMt) (N : zNt) (A' : zMt) (N' : zNt) (k : Nat) : Prop := ∀ fu l, l + k ≤ 700 → D_X3_read_62 Q T nT (fu + k) (nI l) A N = D_X3_read_62 Q T nT fu (nI (l + k)) A' N'
theorem RD.rf {Q T nT : Nat} {A : zMt} {N : zNt} : RD Q T nT A N A N 0 := fun _ _ _ => rfl
theorem RD.tr {Q T nT k k' : Nat} {A A' A2 : zMt} {N N' N2 : zNt} (h : RD Q T nT A N A' N' k) (g : RD Q T nT A' N' A2 N2 k') : RD Q T nT A N A2 N2 (k + k') := fun fu l hl => by
  rw [show fu + (k + k') = fu + k' + k by omega, h (fu + k') l (by omega), g fu (l + k) (by omega), Nat.add_assoc]
theorem RD.one {Q T nT : Nat} {A : zMt} {N : zNt} {e : Int32 × zMt × zNt} (h0 : ¬ A Q 6 = 0) (h : D_X3_readLine Q A N = some e) (h1 : e.1 = 1) : RD Q T nT A N e.2.1 e.2.2 1 := fun fu l hl => by
  rw [D_X3_read_62, if_neg (show ¬ (700 : Int32) ≤ nI l from fun q => by have := (nI_leI (a := 700) (b := l) (by omega) (by omega)).mp q; omega), if_neg h0, zB_s h, if_neg (by rw [h1]; decide), nI_add1]
theorem rd_units {Q T nT n H G : Nat} {t : Nat → Int32} : ∀ (l : List Nat) (u s : Nat) (A : zMt) (N : zNt), iv Q n t A N u H G → u + l.length ≤ 3 → (∀ d, d ∈ l → d < 10) → s + 10 * l.length ≤ n → pc t s (uT u l) → kG Q n (rn isB t n s) t A N → ∃ A' N', RD Q T nT A N A' N' l.length ∧ iv Q n t A' N' (u + l.length) H G ∧ fo Q A A' ∧ kG Q n (rn isB t n (s + 10 * l.length)) t A' N'
  | [], u, s, A, N, w, _, _, _, _, g => ⟨A, N, RD.rf, w, fun _ _ _ => rfl, g⟩
  | d :: r, u, s, A, N, w, hl, hd, hs, hp, g => by
    rw [List.length_cons] at hl hs ⊢
    have p0 : pc t s ([117, 110, 105, 116, 32, 117, 97 + u, 32, 48 + d, 59] ++ uT (u + 1) r) := hp
    have p1 := (pc.app p0).1
    have p2 : pc t (s + 10) (uT (u + 1) r) := (pc.app p0).2
    have es : t s = nI 117 := p1 0 117 rfl
    rw [rnB0 (c := 117) (by omega) (fun _ => es) (by omega)] at g
    obtain ⟨e, he, e1, w1, f1, g1⟩ := l_unitS w (by omega) (hd d List.mem_cons_self) (by omega) p1 g
    obtain ⟨A', N', q1, q2, q3, q4⟩ := rd_units (T := T) (nT := nT) r (u + 1) (s + 10) e.2.1 e.2.2 w1 (by omega) (fun d hd' => hd d (List.mem_cons_of_mem _ hd')) (by omega) p2 g1
    refine ⟨A', N', ?_, ?_, f1.tr q3, ?_⟩
    · rw [Nat.add_comm]; exact (RD.one (g.ne0 (by omega) es (by omega)) he e1).tr q1
    · rw [show u + (r.length + 1) = u + 1 + r.length by omega]; exact q2
    · rw [show s + 10 * (r.length + 1) = s + 10 + 10 * r.length by omega]; exact q4
theorem rd_hunters {Q T nT n U G : Nat} {t : Nat → Int32} : ∀ (l : List (Nat × Bool)) (h s : Nat) (A : zMt) (N : zNt), iv Q n t A N U h G → h + l.length ≤ 5 → (∀ p, p ∈ l → p.1 < 10) → s + (hT h l).length ≤ n → pc t s (hT h l) → kG Q n (rn isB t n s) t A N → ∃ A' N', RD Q T nT A N A' N' l.length ∧ iv Q n t A' N' U (h + l.length) G ∧ fo Q A A' ∧ kG Q n (rn isB t n (s + (hT h l).length)) t A' N'
  | [], h, s, A, N, w, _, _, _, _, g => ⟨A, N, RD.rf, w, fun _ _ _ => rfl, g⟩
  | p :: r, h, s, A, N, w, hl, hd, hs, hp, g => by
    rw [List.length_cons] at hl ⊢
    have p0 : pc t s (hL h p.1 p.2 ++ hT (h + 1) r) := hp
    have hlen : (hT h (p :: r)).length = (hL h p.1 p.2).length + (hT (h + 1) r).length := by
      show (hL h p.1 p.2 ++ hT (h + 1) r).length = _
      rw [List.length_append]
    rw [hlen] at hs ⊢
    have p1 := (pc.app p0).1
    have p2 := (pc.app p0).2
    have pw : pc t s [104, 117, 110, 116, 101, 114, 32] := (pc.app p1).1
    have es : t s = nI 104 := pw 0 104 rfl
    have d10 := hd p List.mem_cons_self
    have hL12 : 12 ≤ (hL h p.1 p.2).length := by rw [hL_len]; by_cases z : p.2 = true <;> simp [z]
    rw [rnB0 (c := 104) (by omega) (fun _ => es) (by omega)] at g
    have LN : ∃ e, D_X3_readLine Q A N = some e ∧ e.1 = 1 ∧ iv Q n t e.2.1 e.2.2 U (h + 1) G ∧ fo Q A e.2.1 ∧ kG Q n (rn isB t n (s + (hL h p.1 p.2).length)) t e.2.1 e.2.2 := by
      refine l_hunterS w (by omega) (by omega) pw g (fun h5 => ?_)
      obtain ⟨p_1, p_2⟩ := p
      cases p_2 with
      | false => exact r_hunterN w (by omega) d10 (by have : (hL h p_1 false).length = 12 := rfl; omega) p1 h5
      | true => exact r_hunterG w (by omega) d10 (by have e18 : (hL h (p_1, true).fst (p_1, true).snd).length = 18 := rfl; omega) p1 h5
    obtain ⟨e, he, e1, w1, f1, g1⟩ := LN
    obtain ⟨A', N', q1, q2, q3, q4⟩ := rd_hunters (T := T) (nT := nT) r (h + 1) (s + (hL h p.1 p.2).length) e.2.1 e.2.2 w1 (by omega) (fun d hd' => hd d (List.mem_cons_of_mem _ hd')) (by omega) p2 g1
    refine ⟨A', N', ?_, ?_, f1.tr q3, ?_⟩
    · rw [Nat.add_comm]; exact (RD.one (g.ne0 (by omega) es (by omega)) he e1).tr q1
    · rw [show h + (r.length + 1) = h + 1 + r.length by omega]; exact q2
    · rw [← Nat.add_assoc]; exact q4
theorem rd_asks {Q T nT n U H : Nat} {b : Bool} {t : Nat → Int32} : ∀ (l : List (Nat × List Nat)) (lo s : Nat) (A : zMt) (N : zNt), iv Q n t A N U H (if b then 1 else 0) → (b = true → 2 ≤ H) → aOk b U H lo l → (∀ h, lo ≤ h → h < H → A (Q + 6) h = 0) → (∀ h, h < H → A (Q + 5) h = if b = true ∧ h < 2 then 0 else -1) → s + (aT b l).length ≤ n → pc t s (aT b l) → kG Q n (rn isB t n s) t A N → ∃ A' N', RD Q T nT A N A' N' l.length ∧ iv Q n t A' N' U H (if b then 1 else 0) ∧ (∀ j, 11 ≤ j → j ≤ 13 → A' Q j = A Q j) ∧ kG Q n (rn isB t n (s + (aT b l).length)) t A' N'
  | [], lo, s, A, N, w, _, _, _, _, _, _, g => ⟨A, N, RD.rf, w, fun _ _ _ => rfl, g⟩
  | p :: r, lo, s, A, N, w, hb, hok, h6, h5, hs, hp, g => by
    obtain ⟨h, us⟩ := p
    obtain ⟨o1, o2, o3, o4, o5, o6, o7, o8⟩ := hok
    have hH := w.2.2.1
    rw [List.length_cons]
    have p0 : pc t s (aL b h us ++ aT b r) := hp
    have hlen : (aT b ((h, us) :: r)).length = (aL b h us).length + (aT b r).length := by
      show (aL b h us ++ aT b r).length = _
      rw [List.length_append]
    rw [hlen] at hs ⊢
    have p1 := (pc.app p0).1
    have p2 := (pc.app p0).2
    have es : t s = nI 97 := (pc.app p1).1 0 97 rfl
    have o1' : lo ≤ h := o1
    have o2' : h < H := o2
    have hl4 : 4 ≤ (aL b h us).length := by
      show 4 ≤ (97 :: 115 :: 107 :: 115 :: 32 :: _).length
      rw [List.length_cons, List.length_cons, List.length_cons, List.length_cons]
      omega
    rw [rnB0 (c := 97) (by omega) (fun _ => es) (by omega)] at g
    -- the line
    have LN : ∃ e, D_X3_readLine Q A N = some e ∧ e.1 = 1 ∧ iv Q n t e.2.1 e.2.2 U H (if b then 1 else 0) ∧ (∀ k, h + 1 ≤ k → k < H → e.2.1 (Q + 6) k = A (Q + 6) k) ∧ (∀ j, e.2.1 (Q + 5) j = A (Q + 5) j) ∧ (∀ j, 11 ≤ j → j ≤ 13 → e.2.1 Q j = A Q j) ∧ kG Q n (rn isB t n (s + (aL b h us).length)) t e.2.1 e.2.2 := by
      by_cases q : (b && h == 1) = true
      · have hbt : b = true := by cases b <;> simp_all
        have hh1 : h = 1 := by subst hbt; simpa using q
        subst hbt
        subst hh1
        have hlL : (aL true 1 us).length = 5 + 1 + 3 * us.length + 1 := by
          show ([97, 115, 107, 115, 32] ++ ([112] ++ (wtx us ++ [59]))).length = _
          rw [List.length_append, List.length_append, List.length_append, wtx_len]
          show 5 + (1 + (3 * us.length + 1)) = _
          omega
        have pl : pc t s ([97, 115, 107, 115, 32] ++ ([112] ++ (wtx us ++ [59]))) := p1
        have pw : pc t (s + 5) [112] := (pc.app (pc.app pl).2).1
        have f1 : A (Q + 5) 1 = 0 := by rw [h5 1 o2', if_pos ⟨rfl, by omega⟩]
        have f2 : A (Q + 6) 1 = 0 := h6 1 o1' o2'
        obtain ⟨e, he, e1, w1, a6, a5, aq, g1⟩ := l_asksS (wd := [112]) (us := us) (k := 1) (v := 16) w (by omega) (by omega) rfl (by decide) pl o4 o5 o6 o7 (by rw [hlL] at hs; omega) g (nm_p pw) (fun k => A (Q + 5) k = 0) (fun A' N' w' n8 k5 k6 => by
          obtain ⟨r', er, r0, rb⟩ := k_askerP (A := A') (N := N') w' o2' n8 ((k5 1).trans f1) ((k6 1).trans f2)
          exact ⟨r', er, r0, fun k hk qb => (k5 k).symm.trans (rb k hk qb)⟩)
        refine ⟨e, he, e1, w1, fun k k1 k2 => a6 k (by omega) (fun z => ?_), a5, aq, ?_⟩
        · rw [h5 k k2, if_neg (by omega)] at z; exact absurd z (by decide)
        · rw [hlL, show s + (5 + 1 + 3 * us.length + 1) = s + 5 + 1 + 3 * us.length + 1 by omega]; exact g1
      · have hlL : (aL b h us).length = 5 + 2 + 3 * us.length + 1 := by
          unfold aL
          rw [if_neg q, List.length_append, List.length_append, List.length_append, wtx_len]
          show 5 + (2 + (3 * us.length + 1)) = _
          omega
        have pl : pc t s ([97, 115, 107, 115, 32] ++ ([104, 97 + h] ++ (wtx us ++ [59]))) := by
          have := p1
          unfold aL at this
          rw [if_neg q] at this
          exact this
        have pw : pc t (s + 5) [104, 97 + h] := (pc.app (pc.app pl).2).1
        have f1 : A (Q + 5) h = -1 := by
          rw [h5 h o2', if_neg]
          rintro ⟨z1, z2⟩
          have := o3 z1
          have : h = 1 := by omega
          subst this
          subst z1
          exact q rfl
        have f2 : A (Q + 6) h = 0 := h6 h o1' o2'
        obtain ⟨e, he, e1, w1, a6, a5, aq, g1⟩ := l_asksS (wd := [104, 97 + h]) (us := us) (k := 2) (v := 217 + h) w (by omega) (by omega) rfl (by intro c hc; simp only [List.mem_cons, List.not_mem_nil, or_false] at hc; omega) pl o4 o5 o6 o7 (by rw [hlL] at hs; omega) g (nm_h pw (by omega)) (fun k => k = h) (fun A' N' w' n8 k5 k6 => k_askerH (A := A') (N := N') w' o2' n8 ((k5 h).trans f1) ((k6 h).trans f2))
        refine ⟨e, he, e1, w1, fun k k1 k2 => a6 k (by omega) (by omega), a5, aq, ?_⟩
        rw [hlL, show s + (5 + 2 + 3 * us.length + 1) = s + 5 + 2 + 3 * us.length + 1 by omega]; exact g1
    obtain ⟨e, he, e1, w1, a6, a5, aq, g1⟩ := LN
    obtain ⟨A', N', q1, q2, q3, q4⟩ := rd_asks (T := T) (nT := nT) r (h + 1) (s + (aL b h us).length) e.2.1 e.2.2 w1 hb o8 (fun k k1 k2 => (a6 k k1 k2).trans (h6 k (by omega) k2)) (fun k hk => (a5 k).trans (h5 k hk)) (by omega) p2 g1
    refine ⟨A', N', ?_, q2, fun j j1 j2 => (q3 j j1 j2).trans (aq j j1 j2), ?_⟩
    · rw [Nat.add_comm]; exact (RD.one (g.ne0 (by omega) es (by omega)) he e1).tr q1
    · rw [← Nat.add_assoc]; exact q4

