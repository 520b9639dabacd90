/-! spoils: the trial without an applicant's choices, both sides -/
theorem fr_cg {r r' : Nat → Int32} (h : ∀ j, j < 20 → r' j = r j) : ∀ n, n ≤ 10 → fr r' n = fr r n
  | 0, _ => rfl
  | n + 1, hn => by
    show fr r' n + (if r' (10 + n) = -1 then 1 else 0) = fr r n + (if r (10 + n) = -1 then 1 else 0)
    rw [fr_cg h n (by omega), h (10 + n) (by omega)]
theorem memb_cg {r r' : Nat → Int32} {H a x : Nat} (hH : H ≤ 10) (h : ∀ j, j < 20 → r' j = r j) : memb r' H a x ↔ memb r H a x := by
  constructor
  · rintro ⟨hx, z⟩
    rw [h (10 + x) (by omega), fr_cg h x (by omega), fr_cg h H hH] at z
    exact ⟨hx, z⟩
  · rintro ⟨hx, z⟩
    rw [← h (10 + x) (by omega), ← fr_cg h x (by omega), ← fr_cg h H hH] at z
    exact ⟨hx, z⟩
theorem sm_cg {r r' f f' : Nat → Int32} {H a : Nat} (hH : H ≤ 10) (h : ∀ j, j < 20 → r' j = r j) (hf : ∀ x, x < H → f' x = f x) : ∀ n, n ≤ H → sm f' r' H a n = sm f r H a n
  | 0, _ => rfl
  | n + 1, hn => by
    show (if memb r' H a n then sm f' r' H a n + f' n else sm f' r' H a n) = (if memb r H a n then sm f r H a n + f n else sm f r H a n)
    rw [sm_cg hH h hf n (by omega), hf n (by omega)]
    by_cases q : memb r H a n
    · rw [if_pos q, if_pos ((memb_cg hH h).mpr q)]
    · rw [if_neg q, if_neg (fun z => q ((memb_cg hH h).mp z))]
theorem sN_cg {r r' : Nat → Int32} {H a : Nat} (hH : H ≤ 10) (h : ∀ j, j < 20 → r' j = r j) : sN r' H a = sN r H a := sm_cg hH h (fun _ _ => rfl) H (Nat.le_refl H)
theorem sG_cg {g r r' : Nat → Int32} {H a : Nat} (hH : H ≤ 10) (h : ∀ j, j < 20 → r' j = r j) : sG g r' H a = sG g r H a := sm_cg hH h (fun _ _ => rfl) H (Nat.le_refl H)
theorem sP_cg {r r' : Nat → Int32} {H a : Nat} (hH : H ≤ 10) (h : ∀ j, j < 20 → r' j = r j) : sP r' H a = sP r H a := by
  unfold sP
  rw [sN_cg hH h, sm_cg hH h (fun x hx => h x (by omega)) H (Nat.le_refl H)]
theorem sT_cg {r r' : Nat → Int32} {H a : Nat} (hH : H ≤ 10) (h : ∀ j, j < 20 → r' j = r j) (h67 : r' 67 = r 67) : sT r' H a = sT r H a := by
  unfold sT
  rw [h67, sP_cg hH h]
theorem sTs_cg {r r' : Nat → Int32} {H : Nat} (hH : H ≤ 10) (h : ∀ j, j < 20 → r' j = r j) (h67 : r' 67 = r 67) : ∀ n, sTs r' H n = sTs r H n
  | 0 => rfl
  | n + 1 => by
    show sTs r' H n + sT r' H n = sTs r H n + sT r H n
    rw [sTs_cg hH h h67 n, sT_cg hH h h67]
theorem St_cg {t t' : Nat → Int32} {b : Int32} : ∀ n, (∀ k, k < n → t' k = t k) → St t' b n = St t b n
  | 0, _ => rfl
  | n + 1, h => by
    show St t' b n + _ = St t b n + _
    rw [St_cg n (fun k hk => h k (by omega)), h n (by omega)]
/-- the view with one applicant's choices gone -/
def trT (T T' : zMt) (n U a : Nat) : Prop := (T' 0 0 = T 0 0 ∧ T' 0 1 = T 0 1 ∧ T' 0 2 = T 0 2 ∧ T' 0 3 = T 0 3) ∧ (∀ u, u < U → T' 1 u = T 1 u ∧ T' 2 u = T 2 u ∧ T' 3 u = T 3 u) ∧ (∀ b, b < n → T' 5 b = T 5 b ∧ T' 6 b = T 6 b ∧ T' 7 b = T 7 b ∧ T' 8 b = T 8 b) ∧ (∀ b, b < n → ¬ b = a → T' 11 b = T 11 b ∧ ∀ k, k < 3 → T' 12 (3 * b + k) = T 12 (3 * b + k)) ∧ T' 11 a = 0 ∧ ∀ k, k < 3 → T' 12 (3 * a + k) = -1
theorem trT.g {T T' : zMt} {n U a : Nat} (t : trT T T' n U a) (hg : gP T n U) : gP T' n U := by
  obtain ⟨⟨t0, t1, t2, t3⟩, t4, t5, t6, t7, t8⟩ := t
  obtain ⟨g1, g2, g3, g4, g5, g6, g7⟩ := hg
  refine ⟨g1, g2, t1.trans g3, t0.trans g4, fun b hb => ?_, ?_, ?_⟩
  · obtain ⟨x1, x2, x3, x4⟩ := t5 b hb
    obtain ⟨y1, y2, y3, c, y4, y5, y6, y7⟩ := g5 b hb
    rw [x1, x3, x4]
    refine ⟨y1, y2, y3, ?_⟩
    by_cases q : b = a
    · subst q
      exact ⟨0, by omega, t7.trans (by decide), fun k hk => by omega, fun k _ hk => t8 k hk⟩
    · obtain ⟨z1, z2⟩ := t6 b hb q
      refine ⟨c, y4, z1.trans y5, fun k hk => ?_, fun k h1 h2 => (z2 k h2).trans (y7 k h1 h2)⟩
      obtain ⟨u, u1, u2⟩ := y6 k hk
      exact ⟨u, u1, (z2 k (by omega)).trans u2⟩
  · rw [t2, g6]
    exact (St_cg n (fun k hk => (t5 k hk).2.2.2)).symm
  · rcases g7 with ⟨q1, q2⟩ | ⟨q1, u, q2, q3⟩
    · exact Or.inl ⟨t3.trans q1, fun u hu => by rw [(t4 u hu).2.1]; exact q2 u hu⟩
    · exact Or.inr ⟨t3.trans q1, u, q2, by rw [(t4 u q2).2.1]; exact q3⟩
/-- alike where it counts -/
def se (s s' : zMt) (n U : Nat) : Prop := (∀ b, b < n → s' 0 b = s 0 b ∧ s' 1 b = s 1 b) ∧ (∀ u, u < U → s' 2 u = s 2 u ∧ s' 3 u = s 3 u)
theorem se.g {T T' s s' : zMt} {n U b u : Nat} {rd : Int32} (h : se s s' n U) (h5 : T' 5 b = T 5 b) (h6 : T' 6 b = T 6 b) : se (gT T s b u rd) (gT T' s' b u rd) n U := by
  refine ⟨fun x hx => ?_, fun x hx => ?_⟩
  · by_cases q : x = b
    · subst q
      rw [gT_0, gT_0, gT_1, gT_1]
      exact ⟨rfl, rfl⟩
    · rw [gT_out (by omega) (by omega), gT_out (by omega) (by omega), gT_out (by omega) (by omega), gT_out (by omega) (by omega)]
      exact h.1 x hx
  · by_cases q : x = u
    · subst q
      rw [gT_2, gT_2, gT_3, gT_3, h5, h6, (h.2 x hx).1, (h.2 x hx).2]
      exact ⟨rfl, rfl⟩
    · rw [gT_out (by omega) (by omega), gT_out (by omega) (by omega), gT_out (by omega) (by omega), gT_out (by omega) (by omega)]
      exact h.2 x hx
theorem se.F1 {T T' s s' : zMt} {n U a b u : Nat} (h : se s s' n U) (t : trT T T' n U a) (hn : n ≤ 10) (hU : U ≤ 5) (hb : b < n) (hu : u < U) : se (f1 T a u s b) (f1 T' 10 u s' b) n U := by
  obtain ⟨t0, t4, t5, t6, t7, t8⟩ := t
  by_cases q : b = a
  · subst q
    have e1 : f1 T b u s b = s := if_neg (fun z => z.1 rfl)
    have e2 : f1 T' 10 u s' b = s' := if_neg (fun z => nI_ne (k := u) (by omega) (z.2.1.symm.trans (t8 0 (by omega))))
    rw [e1, e2]
    exact h
  · obtain ⟨x1, x2, x3, x4⟩ := t5 b hb
    obtain ⟨y1, y2, y3⟩ := t4 u hu
    obtain ⟨z1, z2⟩ := t6 b hb q
    have z3 : T' 12 (3 * b) = T 12 (3 * b) := z2 0 (by omega)
    have e : (¬ b = 10 ∧ T' 12 (3 * b) = nI u ∧ T' 5 b ≤ s' 2 u - T' 1 u + T' 2 u ∧ T' 6 b ≤ s' 3 u) ↔ (¬ b = a ∧ T 12 (3 * b) = nI u ∧ T 5 b ≤ s 2 u - T 1 u + T 2 u ∧ T 6 b ≤ s 3 u) := by
      rw [z3, x1, x2, y1, y2, (h.2 u hu).1, (h.2 u hu).2]
      exact ⟨fun z => ⟨q, z.2⟩, fun z => ⟨by omega, z.2⟩⟩
    unfold f1
    by_cases c : (¬ b = a ∧ T 12 (3 * b) = nI u ∧ T 5 b ≤ s 2 u - T 1 u + T 2 u ∧ T 6 b ≤ s 3 u)
    · rw [if_pos c, if_pos (e.mpr c)]
      exact h.g x1 x2
    · rw [if_neg c, if_neg (fun z => c (e.mp z))]
      exact h
theorem se.a {T T' : zMt} {n U a b : Nat} (t : trT T T' n U a) (hn : n ≤ 10) (hU : U ≤ 5) (hb : b < n) : ∀ (u : Nat) (s s' : zMt), u ≤ U → se s s' n U → se (fA T a b u s) (fA T' 10 b u s') n U
  | 0, _, _, _, h => h
  | u + 1, s, s', hu, h => (se.a t hn hU hb u s s' (by omega) h).F1 t hn hU hb (by omega)
theorem se.c {T T' : zMt} {n U a : Nat} (t : trT T T' n U a) (hn : n ≤ 10) (hU : U ≤ 5) : ∀ (l : List Nat) (s s' : zMt), (∀ x, x ∈ l → x < n) → se s s' n U → se (fC T a U l s) (fC T' 10 U l s') n U
  | [], _, _, _, h => h
  | b :: l, s, s', hl, h => se.c t hn hU l _ _ (fun x hx => hl x (List.mem_cons_of_mem b hx)) (se.a t hn hU (hl b List.mem_cons_self) U s s' (Nat.le_refl U) h)
theorem se.s {T T' : zMt} {n U a b d : Nat} (hg : gP T n U) (t : trT T T' n U a) (hb : b < n) (hba : ¬ b = a) (hd3 : d ≤ 3) (hd : T 11 b = nI d) : ∀ (c k : Nat) (s s' : zMt), k + c ≤ d → se s s' n U → se (s2 T s b c k) (s2 T' s' b c k) n U
  | 0, _, _, _, _, h => h
  | c + 1, k, s, s', hk, h => by
    obtain ⟨t0, t4, t5, t6, t7, t8⟩ := id t
    obtain ⟨x1, x2, x3, x4⟩ := t5 b hb
    obtain ⟨z1, z2⟩ := t6 b hb hba
    have g2 := hg.2.1
    obtain ⟨c', c1, c2, c3, c4⟩ := (hg.2.2.2.2.1 b hb).2.2.2
    have : c' = d := nI_inj (by omega) (by omega) (c2.symm.trans hd)
    subst this
    obtain ⟨u, u1, u2⟩ := c3 k (by omega)
    have ew : wu T b k = u := by
      unfold wu
      rw [u2, nI_clamp (by omega)]
    have ew' : wu T' b k = u := by
      unfold wu
      rw [z2 k (by omega), u2, nI_clamp (by omega)]
    have e1 : s2 T s b (c + 1) k = if T 5 b ≤ s 2 (wu T b k) ∧ T 6 b ≤ s 3 (wu T b k) then gT T s b (wu T b k) 2 else s2 T s b c (k + 1) := rfl
    have e2 : s2 T' s' b (c + 1) k = if T' 5 b ≤ s' 2 (wu T' b k) ∧ T' 6 b ≤ s' 3 (wu T' b k) then gT T' s' b (wu T' b k) 2 else s2 T' s' b c (k + 1) := rfl
    rw [e1, e2, ew, ew', x1, x2, (h.2 u u1).1, (h.2 u u1).2]
    by_cases q : T 5 b ≤ s 2 u ∧ T 6 b ≤ s 3 u
    · rw [if_pos q, if_pos q]
      exact h.g x1 x2
    · rw [if_neg q, if_neg q]
      exact se.s hg t hb hba hd3 hd c (k + 1) s s' (by omega) h
theorem se.F2 {T T' s s' : zMt} {n U a b : Nat} (hg : gP T n U) (t : trT T T' n U a) (hb : b < n) (h : se s s' n U) : se (f2 T a s b) (f2 T' 10 s' b) n U := by
  have hn := hg.1
  unfold f2
  by_cases q : b = a
  · subst q
    rw [if_neg (fun z => z.2 rfl), t.2.2.2.2.1, show (0 : Int32).toNatClampNeg = 0 by decide]
    by_cases c : s' 0 b = -1 ∧ ¬ b = 10
    · rw [if_pos c]
      exact h
    · rw [if_neg c]
      exact h
  · obtain ⟨z1, z2⟩ := t.2.2.2.1 b hb q
    obtain ⟨d, d1, d2, d3, d4⟩ := (hg.2.2.2.2.1 b hb).2.2.2
    rw [z1, d2, nI_clamp (by omega), (h.1 b hb).1]
    by_cases c : s 0 b = -1
    · rw [if_pos ⟨c, q⟩, if_pos ⟨c, by omega⟩]
      exact se.s hg t hb q d1 d2 d 0 s s' (by omega) h
    · rw [if_neg (fun z => c z.1), if_neg (fun z => c z.1)]
      exact h
theorem se.S {T T' : zMt} {n U a : Nat} (hg : gP T n U) (t : trT T T' n U a) : ∀ (l : List Nat) (s s' : zMt), (∀ x, x ∈ l → x < n) → se s s' n U → se (fS T a l s) (fS T' 10 l s') n U
  | [], _, _, _, h => h
  | b :: l, s, s', hl, h => se.S hg t l _ _ (fun x hx => hl x (List.mem_cons_of_mem b hx)) (se.F2 hg t (hl b List.mem_cons_self) h)
theorem pf_cg {T T' : zMt} {p n : Nat} : ∀ l : List Nat, (∀ x, x ∈ l → x < n) → (∀ b, b < n → T' 7 b = T 7 b) → pf T' p l = pf T p l
  | [], _, _ => rfl
  | b :: l, hl, h => by
    show (if T' 7 b = nI p then b :: pf T' p l else pf T' p l) = (if T 7 b = nI p then b :: pf T p l else pf T p l)
    rw [pf_cg l (fun x hx => hl x (List.mem_cons_of_mem b hx)) h, h b (hl b List.mem_cons_self)]
theorem bk_cg {T T' : zMt} {n : Nat} {l : List Nat} (hl : ∀ x, x ∈ l → x < n) (h : ∀ b, b < n → T' 7 b = T 7 b) : ∀ m, bk T' l m = bk T l m
  | 0 => rfl
  | m + 1 => by
    show pf T' m l ++ bk T' l m = pf T m l ++ bk T l m
    rw [pf_cg l hl h, bk_cg hl h m]
theorem lp_cg {l l' : Nat → Nat} : ∀ n, (∀ k, k < n → l' k = l k) → lp l' n = lp l n
  | 0, _ => rfl
  | n + 1, h => by
    show lp l' n ++ [l' n] = lp l n ++ [l n]
    rw [lp_cg n (fun k hk => h k (by omega)), h n (by omega)]
theorem rs_tr {T T' : zMt} {n U a : Nat} {l l' : Nat → Nat} (hg : gP T n U) (t : trT T T' n U a) (hl : ∀ k, k < n → l k < n) (he : ∀ k, k < n → l' k = l k) : se (rs T a U n l) (rs T' 10 U n l') n U := by
  have hm : ∀ x, x ∈ lp l n → x < n := lp_mem n hl
  unfold rs
  rw [lp_cg n he, bk_cg hm (fun b hb => (t.2.2.1 b hb).2.2.1) 21]
  refine se.S hg t _ _ _ hm (se.c t hg.1 hg.2.1 _ _ _ (fun x hx => hm x (bk_mem 21 x hx).1) ⟨fun b hb => ⟨rfl, rfl⟩, fun u hu => ⟨(t.2.1 u hu).1, (t.2.1 u hu).2.2⟩⟩)
/-- what is gathered of the list without them -/
theorem wsC_of {Q : Nat} {A : zMt} {r : Nat → Int32} {a base : Nat} (w : wsC Q A r a base) : ∃ c, c ≤ 3 ∧ A (Q + 11) a = nI c ∧ (∀ k, k < 3 → A (Q + 12) (3 * a + k) = r (base + k)) ∧ (∀ k, k < 3 → (k < c ↔ ¬ r (base + k) = -1)) := w
theorem t_tr {Q Q' U H G a base : Nat} {A A' : zMt} {r r' g : Nat → Int32} (hH : H ≤ 10) (hG : G ≤ 4) (hU : U ≤ 5) (cu : cU Q A r U) (cl : cL Q A r g H G) (cu' : cU Q' A' r' U) (cl' : cL Q' A' r' g H G) (hp : ∀ x, x < fr r H + G → ∃ b, isBase r H x b) (ha : a < fr r H + G) (hb : isBase r H a base) (b20 : 20 ≤ base) (b59 : base ≤ 59) (hr : ∀ j, j < 82 → ¬ (base ≤ j ∧ j < base + 3) → r' j = r j) (hn : ∀ k, k < 3 → r' (base + k) = -1) : trT (tP Q A) (tP Q' A') (fr r H + G) U a := by
  have h20 : ∀ j, j < 20 → r' j = r j := fun j hj => hr j (by omega) (by omega)
  have h67 : r' 67 = r 67 := hr 67 (by omega) (by omega)
  have h68 : r' 68 = r 68 := hr 68 (by omega) (by omega)
  have h69 : r' 69 = r 69 := hr 69 (by omega) (by omega)
  have eF : fr r' H = fr r H := fr_cg h20 H hH
  obtain ⟨u1, u2, u3⟩ := cu
  obtain ⟨v1, v2, v3⟩ := cu'
  obtain ⟨l1, l2, l3⟩ := cl
  obtain ⟨m1, m2, m3⟩ := cl'
  rw [eF] at m1 m2 m3
  have eB : ∀ x b, isBase r H x b → isBase r' H x b := fun x b z => by
    rcases z with ⟨h', y1, y2, y3, y4⟩ | ⟨y1, y2⟩
    · exact Or.inl ⟨h', y1, (h20 _ (by omega)).trans y2, (fr_cg h20 h' (by omega)).trans y3, y4⟩
    · exact Or.inr ⟨by rw [eF]; exact y1, by rw [eF]; exact y2⟩
  have eU : ∀ u, u < U → u < 5 → A' (Q' + 1) u = A (Q + 1) u ∧ A' (Q' + 2) u = A (Q + 2) u ∧ A' (Q' + 3) u = A (Q + 3) u := fun u hu hu5 => by
    obtain ⟨x1, x2, x3⟩ := u2 u hu
    obtain ⟨y1, y2, y3⟩ := v2 u hu
    rw [hr (62 + u) (by omega) (by omega)] at y1 y2 y3
    rw [h68] at y2
    rw [h69] at y3
    exact ⟨y1.trans x1.symm, y2.trans x2.symm, y3.trans x3.symm⟩
  refine ⟨⟨v1.trans u1.symm, m1.trans l1.symm, m2.trans ((sTs_cg hH h20 h67 _).trans l2.symm), ?_⟩, fun u hu => eU u hu (by omega), fun b hb' => ?_, fun b hb' hba => ?_, ?_, ?_⟩
  · show A' Q' 3 = A Q 3
    rcases u3 with ⟨x1, x2⟩ | ⟨x1, u, x2, x3⟩
    · rcases v3 with ⟨y1, y2⟩ | ⟨y1, u', y2, y3⟩
      · exact y1.trans x1.symm
      · exact absurd (by rw [(eU u' y2 (by omega)).2.1]; exact x2 u' y2) y3
    · rcases v3 with ⟨y1, y2⟩ | ⟨y1, u', y2, y3⟩
      · exact absurd (by rw [← (eU u x2 (by omega)).2.1]; exact y2 u x2) x3
      · exact y1.trans x1.symm
  · obtain ⟨p1, p2, p3, p4, p5, p6, p7, p8⟩ := l3 b hb'
    obtain ⟨q1, q2, q3, q4, q5, q6, q7, q8⟩ := m3 b hb'
    exact ⟨q4.trans ((sN_cg hH h20).trans p4.symm), q5.trans ((sG_cg hH h20).trans p5.symm), q6.trans ((sP_cg hH h20).trans p6.symm), q7.trans ((sT_cg hH h20 h67).trans p7.symm)⟩
  · obtain ⟨bb, hbb⟩ := hp b hb'
    obtain ⟨c, c1, c2, c3, c4⟩ := (l3 b hb').2.2.1 bb hbb
    obtain ⟨d, d1, d2, d3, d4⟩ := (m3 b hb').2.2.1 bb (eB _ _ hbb)
    have dj : bb + 3 ≤ base ∨ base + 3 ≤ bb := by
      rcases hbb with ⟨h', y1, y2, y3, y4⟩ | ⟨y1, y2⟩
      · rcases hb with ⟨h2, x1, x2, x3, x4⟩ | ⟨x1, x2⟩
        · have : ¬ h' = h2 := fun z => hba (by rw [← y3, ← x3, z])
          omega
        · omega
      · rcases hb with ⟨h2, x1, x2, x3, x4⟩ | ⟨x1, x2⟩
        · omega
        · omega
    have b82 : bb ≤ 59 := by
      rcases hbb with ⟨h', y1, y2, y3, y4⟩ | ⟨y1, y2⟩
      · omega
      · omega
    have er : ∀ k, k < 3 → r' (bb + k) = r (bb + k) := fun k hk => hr _ (by omega) (by omega)
    have hk : ∀ k, k < 3 → (k < d ↔ k < c) := fun k hk => by rw [d4 k hk, c4 k hk, er k hk]
    have h0 := hk 0 (by omega)
    have h1 := hk 1 (by omega)
    have h2 := hk 2 (by omega)
    have : d = c := by omega
    subst this
    exact ⟨d2.trans c2.symm, fun k hk => (d3 k hk).trans ((er k hk).trans (c3 k hk).symm)⟩
  · obtain ⟨d, d1, d2, d3, d4⟩ := (m3 a ha).2.2.1 base (eB _ _ hb)
    have : d = 0 := by
      by_cases q : 0 < d
      · exact absurd (hn 0 (by omega)) ((d4 0 (by omega)).mp q)
      · omega
    subst this
    exact d2.trans (by decide)
  · intro k hk
    obtain ⟨d, d1, d2, d3, d4⟩ := (m3 a ha).2.2.1 base (eB _ _ hb)
    exact (d3 k hk).trans (hn k hk)
theorem rkF_cg {T T' : zMt} {a : Nat} {x : Int32} : ∀ d k, k + d ≤ 3 → (∀ i, i < 3 → T' 12 (3 * a + i) = T 12 (3 * a + i)) → rkF T' a x d k = rkF T a x d k
  | 0, _, _, _ => rfl
  | d + 1, k, h, e => by
    show (if T' 12 (3 * a + k) = x then nI k else rkF T' a x d (k + 1)) = (if T 12 (3 * a + k) = x then nI k else rkF T a x d (k + 1))
    rw [rkF_cg d (k + 1) (by omega) e, e k (by omega)]
theorem rk_cg {T T' : zMt} {a c : Nat} {x : Int32} (hc3 : c ≤ 3) (hc : T 11 a = nI c) (h : T' 11 a = T 11 a) (e : ∀ i, i < 3 → T' 12 (3 * a + i) = T 12 (3 * a + i)) : rk T' a x = rk T a x := by
  unfold rk
  rw [h, hc, nI_clamp (by omega)]
  exact rkF_cg c 0 (by omega) e
theorem mm_sp34 {P n U a : Nat} {T s : zMt} {N : zNt} (hg : gP T n U) : ∀ (v k : Nat) (B : zMt), k ≤ n → n - k < v → mP P B T n U → rM P B s n U → (∀ b, b < k → B (P + 23) b = hM T s b) → ∃ B', D_X8_spoils_34 P v (nI a) (nI k) B N = (zB (D_X8_results P (nI a) B') fun e => D_X8_spoils_69 P zFu (nI a) (0 : Int32) (0 : Int32) e N) ∧ (∀ b, b < n → B' (P + 23) b = hM T s b) ∧ (∀ i j, ¬ i = P + 23 → B' i j = B i j) := by
  have g1 := hg.1
  have g2 := hg.2.1
  intro v
  induction v with
  | zero => intro k B _ h; omega
  | succ v ih =>
    intro k B hk hv hm hs hb
    rw [D_X8_spoils_34, hm.1]
    by_cases hc : n ≤ k
    · rw [if_pos (by exact (nI_leI (by omega) (by omega)).mpr hc)]
      exact ⟨B, rfl, fun b hb' => hb b (by omega), fun _ _ _ => rfl⟩
    · rw [if_neg (by intro z; exact hc ((nI_leI (by omega) (by omega)).mp z)), zB_s (mm_held hg hm hs (show k < n by omega))]
      unfold zI
      rw [if_neg (vp_in_nI (show k < 10 by omega) (by decide)), nI_clamp (by omega), zLt_eq, nI_add1]
      have kz : ∀ i j, ¬ (i = P + 23 ∧ j = k) → zu B (P + 23) k (hM T s k) i j = B i j := fun i j h => zu_ne h
      obtain ⟨B', f1, f2, f3⟩ := ih (k + 1) (zu B (P + 23) k (hM T s k)) (by omega) (by omega) (hm.m g2 (kz _ _ (by omega)) (kz _ _ (by omega)) (fun j _ _ => kz _ _ (by omega)) (fun i j _ _ => kz _ _ (by omega))) (hs.k (fun i j _ _ => kz _ _ (by omega))) (fun b hb' => by
        by_cases q : b = k
        · subst q
          exact zu_eq
        · rw [kz _ _ (by omega)]
          exact hb b (by omega))
      exact ⟨B', f1, f2, fun i j h => (f3 i j h).trans (kz i j (by omega))⟩
theorem t_sp99 {C P n U a : Nat} {A B T T' s s' s'' : zMt} {N : zNt} (hg : gP T n U) (hg' : gP T' n U) (hT : ∀ i j, i < 13 → A (C + 91 + i) j = T i j) (hT' : ∀ i j, i < 13 → A (C + 166 + i) j = T' i j) (hC0 : rC (C + 104) A s n U) (hC' : rC (C + 179) A s' n U) (hm : mP P B T n U) (hM' : rM P B s'' n U) (hb : ∀ b, b < n → B (P + 23) b = hM T s b) (hx : ∀ b, b < n → ¬ b = a → (hC T s b ≤ hC T' s' b ↔ hM T s b ≤ hM T s'' b)) (ha : a < n) : ∀ (v k : Nat) (c : Int32), k ≤ n → n - k < v → two (D_X7_spoils_99 C v (nI a) c (nI k) A) (D_X8_spoils_69 P v (nI a) c (nI k) B N) (fun a b => a.1 = b.1) := by
  have hn10 := hg.1
  have e91 : A (C + 91) 1 = nI n := (hT 0 1 (by omega)).trans hg.2.2.1
  intro v
  induction v with
  | zero => intro k _ _ h; omega
  | succ v ih =>
    intro k c hk hv
    rw [D_X7_spoils_99, D_X8_spoils_69, e91, hm.1]
    by_cases hc : n ≤ k
    · have hle : nI n ≤ nI k := (nI_leI (by omega) (by omega)).mpr hc
      rw [if_pos hle, if_pos hle]
      exact t_ansN rfl
    · have hle : ¬ nI n ≤ nI k := fun z => hc ((nI_leI (by omega) (by omega)).mp z)
      have s0' : two (D_X7_spoils_153 C (D_X7_spoils_99 C v) (nI a) c (nI k) A) (D_X8_spoils_108 P (D_X8_spoils_69 P v) (nI a) (nI k) c B N) (fun a b => a.1 = b.1) := by
        unfold D_X7_spoils_153 D_X8_spoils_108 D_X8_spoils_109
        rw [Int32.or_zero, nI_add1]
        exact ih (k + 1) c (by omega) (by omega)
      rw [if_neg hle, if_neg hle]
      refine two.ite Iff.rfl (fun _ => s0') (fun hne => ?_)
      have hka : ¬ k = a := fun z => hne (by rw [z])
      refine two.l (cc_held hg' hT' hC' (by omega)) (two.l (cc_held hg hT hC0 (by omega)) (two.r (mm_held hg hm hM' (by omega)) ?_))
      refine two.ir (vp_in_nI (by omega) (by decide)) ?_
      rw [nI_clamp (by omega), hb k (by omega)]
      refine two.ite (hx k (by omega) hka) (fun _ => s0') (fun _ => ?_)
      unfold D_X7_spoils_153 D_X8_spoils_109
      rw [nI_add1]
      exact ih (k + 1) _ (by omega) (by omega)
theorem t_spoils {C P : Nat} {A B : zMt} {N : zNt} {v0 v1 : Int32} (w0 : eqE C P A B) (_hJ : jJ P B) : two (D_X7_spoils C v0 v1 A) (D_X8_spoils P v0 v1 B N) (fun a b => a.1 = b.1) := by
  obtain ⟨r, g, U, H, G, K, w⟩ := w0
  obtain ⟨w1, w2, w3, w4, w5, w6, w7, w8, w9⟩ := id w
  have c1 := w6.1.1
  have c2 := w6.1.2.1
  have c3 := w6.1.2.2.1
  obtain ⟨r1, r2, r3, r4, r5⟩ := row_facts w5 w6.1.2.2.2.2.2.2 c3 c2
  unfold D_X7_spoils D_X8_spoils
  rcases t_isS (v := v0) with ⟨e1, e2, hs, hs2⟩ | ⟨e1, e2⟩
  · rw [zB_s e1, zB_s e2, if_neg n10, if_neg n10]
    obtain ⟨n, B1, hn, l1, l2, l3, l4, l5, hA⟩ := t_isA (v := v1) w
    have hn10 := l2.1
    rcases hA with ⟨f1, f2, a, ha, hv⟩ | ⟨f1, f2⟩
    · subst hv
      have w' : eqS C P A B1 r g U H G K := w.k (fun _ _ _ _ => rfl) (fun i j h => l5 i j (by omega) (by omega))
      obtain ⟨n', B2, hn', l1', l2', l3', l4', l5'⟩ := t_laid w'
      have : n' = n := hn'.trans hn.symm
      subst this
      obtain ⟨A1, ea1, b, eb, ⟨l, hl⟩, k1, k2, k3⟩ := t_order (Q := C + 91) (S := C + 104) (A := A) (N := N) (seed := v0) l2 rfl rfl (fun _ _ => rfl) (Or.inr (by omega)) l1' l4' hs
      have hT1 : ∀ i j, i < 13 → A1 (C + 91 + i) j = tP (C + 91) A i j := fun i j hi => k1 _ _ (by omega)
      obtain ⟨A2, ea2, hC2, k4⟩ := cc_settle (Q := C + 91) (S := C + 104) (A := A1) (l := l) l2 (Or.inr (by omega)) hT1 (fun k hk => ⟨(hl.1 k hk).1, (hl.1 k hk).2.1⟩)
      have ebs : D_X5_bySeed (C + 104) (C + 91) v0 A = some A2 := by
        unfold D_X5_bySeed
        rw [zB_s ea1, zB_s ea2]
      have hmb : mP P b.1 (tP (C + 91) A) n' U := l4'.m c1 (k2 _ _ (by omega)) (k2 _ _ (by omega)) (fun j _ _ => k2 _ _ (by omega)) (fun i j _ _ => k2 _ _ (by omega))
      obtain ⟨B3, eb3, hM3, k5⟩ := mm_results (wo := 10) (v1 := -1) l2 hmb (fun x hx => ⟨fun z => absurd z (nI_ne (by omega)), fun z => by omega⟩) (fun k hk => ⟨(hl.1 k hk).1, (hl.1 k hk).2.2⟩)
      have ebr : D_X8_laysResult P v0 B1 N = some (B3, b.2) := by
        unfold D_X8_laysResult
        rw [zB_s eb, zB_s eb3]
      have q12 : ∀ i j, ¬ (C + 105 ≤ i ∧ i ≤ C + 111) → A2 i j = A i j := fun i j h => (k4 i j (by omega)).trans (k1 i j (by omega))
      have g17 : gR (C + 17) A2 r g U H G := w6.m (fun i j _ _ => q12 i j (by omega)) (fun _ _ => rfl) (fun _ _ => rfl)
      obtain ⟨A3, ea3, g158, k6⟩ := g17.take (R := C + 158) (by omega)
      obtain ⟨base, hb, b20, b59, b13⟩ := t_base w l1 (a := a) (by omega)
      have ebit : A3 (C + 100) a = bv r H a H := (k6 _ _ (by omega)).trans ((q12 _ _ (by omega)).trans (w8.2.2 a (by omega)).1)
      obtain ⟨A4, ea4, x1, x2, x3⟩ := cc_wishFor (Q := C + 158) (H := H) (b := A3 (C + 100) a) (u := -1) (v := -1) (x := -1) (A := A3) c2 g158.1.2.2.2.2.1
      have hbit : ∀ h, h < H → (bitAt (A3 (C + 100) a) h ↔ memb r H a h) := fun h hh => by
        rw [ebit, bv_bit H c2 h (by omega)]
        exact ⟨fun z => z.2, fun z => ⟨hh, z⟩⟩
      obtain ⟨o1, o2, o3, o4⟩ := wct_ok (u := -1) (v := -1) (x := -1) (fun z => z) (fun z => z)
      have rn : ∀ j, base ≤ j ∧ j < base + 3 → (fun j => if base ≤ j ∧ j < base + 3 then (-1 : Int32) else r j) j = -1 := fun j hj => if_pos hj
      have ro : ∀ j, ¬ (base ≤ j ∧ j < base + 3) → (fun j => if base ≤ j ∧ j < base + 3 then (-1 : Int32) else r j) j = r j := fun j hj => if_neg hj
      generalize (fun j => if base ≤ j ∧ j < base + 3 then (-1 : Int32) else r j) = r' at rn ro
      have g4 : gR (C + 158) A4 r' g U H G := g158.wish hb b20 (fun h hh hm' => x1 h hh ((hbit h hh).mpr hm')) (fun h hh hm' => x2 h hh (fun z => hm' ((hbit h hh).mp z))) (fun i j _ _ z1 z2 => x3 i j (by omega) (by omega)) (rn _ (by omega)) (rn _ (by omega)) (rn _ (by omega)) b59 (fun j hj hj2 => ro j hj2) o1 o2 o3 o4
      have h20 : ∀ j, j < 20 → r' j = r j := fun j hj => ro j (by omega)
      have eF : fr r' H = fr r H := fr_cg h20 H c2
      obtain ⟨A5, ea5, cu5, cl5, k7⟩ := cc_gather (Q := C + 166) (R := C + 158) g4 (by omega) (by rw [eF]; omega) (by rw [ro 67 (by omega)]; exact r2) (fun x hx => by rw [sN_cg c2 h20]; exact r5 x (by rw [← eF]; exact hx))
      have hex : ∀ x, x < fr r H + G → ∃ b, isBase r H x b := fun x hx => by
        obtain ⟨b', y1, -⟩ := t_base w l1 hx
        exact ⟨b', y1⟩
      have tr := t_tr (Q := C + 91) (Q' := C + 166) c2 c3 c1 w7 w8 cu5 cl5 hex (by omega) hb b20 b59 (fun j _ hj2 => ro j hj2) (fun k hk => rn _ (by omega))
      rw [← hn] at tr
      obtain ⟨A6, ea6, b', eb', ⟨l', hl'⟩, k8, -, -⟩ := t_order (Q := C + 166) (S := C + 179) (A := A5) (N := N) (seed := v0) l2 tr.1.2.1 tr.1.2.2.1 (fun x hx => (tr.2.2.1 x hx).2.2.2) (Or.inr (by omega)) l1' l4' hs
      rw [eb] at eb'
      cases eb'
      have ell : ∀ k, k < n' → l' k = l k := fun k hk => by
        have y1 := (hl'.1 k hk).1
        have y2 := (hl.1 k hk).1
        exact nI_inj (by omega) (by omega) ((hl'.1 k hk).2.2.symm.trans (hl.1 k hk).2.2)
      obtain ⟨A7, ea7, hC7, k9⟩ := cc_settle (Q := C + 166) (S := C + 179) (T := tP (C + 166) A5) (A := A6) (l := l') (tr.g l2) (Or.inr (by omega)) (fun i j hi => k8 _ _ (by omega)) (fun k hk => ⟨(hl'.1 k hk).1, (hl'.1 k hk).2.1⟩)
      have ebs7 : D_X5_bySeed (C + 179) (C + 166) v0 A5 = some A7 := by
        unfold D_X5_bySeed
        rw [zB_s ea6, zB_s ea7]
      have hse := rs_tr (l' := l') l2 tr (fun k hk => (hl.1 k hk).1) ell
      have q37 : ∀ i j, (C + 91 ≤ i ∧ i < C + 112) → A7 i j = A2 i j := fun i j h => (k9 i j (by omega)).trans ((k8 i j (by omega)).trans ((k7 i j (by omega)).trans ((x3 i j (by omega) (by omega)).trans (k6 i j (by omega)))))
      have q57 : ∀ i j, i < 13 → A7 (C + 166 + i) j = tP (C + 166) A5 i j := fun i j hi => (k9 _ _ (by omega)).trans (k8 _ _ (by omega))
      have hm3 : mP P B3 (tP (C + 91) A) n' U := hmb.m c1 (k5 _ _ (by omega)) (k5 _ _ (by omega)) (fun j _ _ => k5 _ _ (by omega)) (fun i j _ _ => k5 _ _ (by omega))
      obtain ⟨B4, eb4, hk4, kb4⟩ := mm_sp34 (P := P) (a := a) (N := b.2) l2 zFu 0 B3 (by omega) (by unfold zFu; omega) hm3 hM3 (fun b' hb' => by omega)
      rw [show nI 0 = (0 : Int32) by decide] at eb4
      have hm4 : mP P B4 (tP (C + 91) A) n' U := hm3.m c1 (kb4 _ _ (by omega)) (kb4 _ _ (by omega)) (fun j _ _ => kb4 _ _ (by omega)) (fun i j _ _ => kb4 _ _ (by omega))
      obtain ⟨B5, eb5, hM5, kb5⟩ := mm_results (wo := a) (v1 := nI a) (l := l) l2 hm4 (fun x hx => ⟨fun z => nI_inj (by omega) (by omega) z, fun z => by rw [z]⟩) (fun k hk => ⟨(hl.1 k hk).1, (kb4 _ _ (by omega)).trans ((k5 _ _ (by omega)).trans (hl.1 k hk).2.2)⟩)
      have hm5 : mP P B5 (tP (C + 91) A) n' U := hm4.m c1 (kb5 _ _ (by omega)) (kb5 _ _ (by omega)) (fun j _ _ => kb5 _ _ (by omega)) (fun i j _ _ => kb5 _ _ (by omega))
      have ok1 := rs_ok (wo := 10) (l := l) l2 (fun k hk => (hl.1 k hk).1)
      have ok2 := rs_ok (wo := a) (l := l) l2 (fun k hk => (hl.1 k hk).1)
      have hx : ∀ b, b < n' → ¬ b = a → (hC (tP (C + 91) A) (rs (tP (C + 91) A) 10 U n' l) b ≤ hC (tP (C + 166) A5) (rs (tP (C + 166) A5) 10 U n' l') b ↔ hM (tP (C + 91) A) (rs (tP (C + 91) A) 10 U n' l) b ≤ hM (tP (C + 91) A) (rs (tP (C + 91) A) a U n' l) b) := fun x hx hxa => by
        obtain ⟨d, d1, d2, d3, d4⟩ := (l2.2.2.2.2.1 x hx).2.2.2
        obtain ⟨z1, z2⟩ := tr.2.2.2.1 x hx hxa
        have eh : hC (tP (C + 166) A5) (rs (tP (C + 166) A5) 10 U n' l') x = hC (tP (C + 91) A) (rs (tP (C + 91) A) a U n' l) x := by
          unfold hC
          rw [(hse.1 x hx).1, rk_cg d1 d2 z1 z2]
        rw [eh]
        rcases t_held l2 hx ok1 d1 d2 with ⟨y1, y2⟩ | ⟨i, y0, y1, y2⟩
        · rw [y1, y2]
          rcases t_held l2 hx ok2 d1 d2 with ⟨t1, t2⟩ | ⟨j, t0, t1, t2⟩
          · rw [t1, t2]
            exact ⟨fun _ => (nI_leI (by omega) (by omega)).mpr (Nat.le_refl d), fun _ => (nI_leI (by omega) (by omega)).mpr (by omega)⟩
          · rw [t1, t2]
            exact ⟨fun z => absurd ((nI_leI (by omega) (by omega)).mp z) (by omega), fun z => absurd ((nI_leI (by omega) (by omega)).mp z) (by omega)⟩
        · rw [y1, y2]
          rcases t_held l2 hx ok2 d1 d2 with ⟨t1, t2⟩ | ⟨j, t0, t1, t2⟩
          · rw [t1, t2]
            exact ⟨fun _ => (nI_leI (by omega) (by omega)).mpr (by omega), fun _ => (nI_leI (by omega) (by omega)).mpr (by omega)⟩
          · rw [t1, t2]
      have last := t_sp99 (C := C) (P := P) (A := A7) (B := B5) (N := b.2) l2 (tr.g l2) (fun i j hi => (q37 _ _ (by omega)).trans (q12 _ _ (by omega))) q57 (hC2.k (fun i j _ _ => q37 _ _ (by omega))) hC7 hm5 hM5 (fun x hx => (kb5 _ _ (by omega)).trans (hk4 x hx)) hx ha zFu 0 (0 : Int32) (by omega) (by unfold zFu; omega)
      rw [show nI 0 = (0 : Int32) by decide] at last
      rw [zB_s f1, zB_s f2, if_neg n10, if_neg n10]
      refine two.l ebs (two.r ebr ?_)
      refine two.l ea3 ?_
      rw [zrd_nI (show a < 10 by omega) (by decide)]
      refine two.l ea4 (two.l ea5 (two.l ebs7 ?_))
      show two _ (D_X8_spoils_34 P zFu (nI a) (0 : Int32) B3 b.2) _
      rw [eb4, zB_s eb5]
      exact last
    · rw [zB_s f1, zB_s f2, if_pos rfl, if_pos rfl]
      exact t_rfsN
  · rw [zB_s e1, zB_s e2, if_pos rfl, if_pos rfl]
    exact t_rfsN
