/-! ACTS, side by side: one number becomes another; UNDO -/
def acR (C P : Nat) (A : zMt) (a b : Int32 × zMt) : Prop := a.1 = b.1 ∧ eqE C P a.2 b.2 ∧ (a.2 C 3 = 0 ∨ ∀ i j, ¬ (i = C ∧ j = 0) → a.2 i j = A i j)
theorem two.tr {α β γ : Type} {X : Option α} {Y : Option (β × γ)} {R : α → β × γ → Prop} {f : β × γ → Option (β × γ)} (h : two X Y R) (hf : ∀ e, f e = some (e.1, e.2)) : two X (zB Y f) R := by
  obtain ⟨a, h1, b, h2, h3⟩ := h
  rw [h2]
  exact ⟨a, h1, b, hf b, h3⟩
/-- both refuse -/
theorem t_ref {C P : Nat} {A B B1 : zMt} {v v' : Int32} (w : eqE C P A B) (k : ∀ i j, ¬ (i = P ∧ j = 33) → ¬ (P + 11 ≤ i ∧ i ≤ P + 17) → B1 i j = B i j) : two (zB (D_X7_refuse C v A) fun e => some (e.1, e.2)) (zB (D_X8_refuse P v' B1) fun e => some (e.1, e.2)) (acR C P A) := by
  refine two.l (e := ((-1 : Int32), zu A C 0 v)) rfl (two.r (e := ((-1 : Int32), zu (zu B1 P 6 (0 : Int32)) P 12 v')) rfl (two.mk ⟨rfl, w.k (fun i j _ _ => ?_) (fun i j _ => ?_), Or.inr (fun i j h => ?_)⟩))
  · show zu A C 0 v i j = A i j
    exact zu_ne (by omega)
  · show zu (zu B1 P 6 (0 : Int32)) P 12 v' i j = B i j
    rw [zu_ne (by omega), zu_ne (by omega)]
    exact k i j (by omega) (by omega)
  · show zu A C 0 v i j = A i j
    exact zu_ne (by omega)
theorem t_ref0 {C P : Nat} {A B : zMt} {v v' : Int32} (w : eqE C P A B) : two (zB (D_X7_refuse C v A) fun e => some (e.1, e.2)) (zB (D_X8_refuse P v' B) fun e => some (e.1, e.2)) (acR C P A) := t_ref w (fun _ _ _ _ => rfl)
/-- one number of a list -/
theorem gR.put {R i k x : Nat} {A : zMt} {r r' g : Nat → Int32} {U H G : Nat} {v : Int32} (w : gR R A r g U H G) (hc : (i = 2 ∧ k < 10 ∧ x = k) ∨ (i = 1 ∧ k < U ∧ x = 62 + k) ∨ (i = 0 ∧ 3 ≤ k ∧ k ≤ 5 ∧ x = 64 + k)) (e : r' x = v) (b : ∀ j, j < 82 → ¬ j = x → r' j = r j) : gR R (zu A (R + i) k v) r' g U H G := by
  obtain ⟨⟨c1, c2, c3, c4, c5, c6, c7⟩, r1, r2, r3, r4, r5, r6, r9, ⟨s1, s2, s3, s4⟩, u3, u4, u5⟩ := w
  have ne : ∀ a j, ¬ (a = R + i ∧ j = k) → zu A (R + i) k v a j = A a j := fun a j h => zu_ne h
  have ws : ∀ h base, h < 10 → 20 ≤ base → base ≤ 59 → wsR R A r h base → wsR R (zu A (R + i) k v) r' h base := fun h base h1 h2 h3 q => q.k (ne _ _ (by omega)) (fun y _ => ne _ _ (by omega)) (fun y _ => b _ (by omega) (by omega))
  refine ⟨⟨c1, c2, c3, (ne _ _ (by omega)).trans c4, (ne _ _ (by omega)).trans c5, (ne _ _ (by omega)).trans c6, (b _ (by omega) (by omega)).trans c7⟩, fun u hu => ?_, fun h hh => ?_, fun h hh => ?_, fun h hh => ?_, fun h hh he => ?_, fun h p hh hp he => ?_, fun p hp => ?_, ⟨?_, ?_, ?_, ?_⟩, fun h hh => ?_, fun u hu1 hu2 => ?_, fun h hh1 hh2 => ?_⟩
  · by_cases q : i = 1 ∧ k = u
    · obtain ⟨rfl, rfl⟩ := q
      rw [zu_eq, ← e, show x = 62 + k by omega]
    · rw [ne _ _ (by omega), b _ (by omega) (by omega)]; exact r1 u hu
  · by_cases q : i = 2 ∧ k = h
    · obtain ⟨rfl, rfl⟩ := q
      rw [zu_eq, ← e, show x = k by omega]
    · rw [ne _ _ (by omega), b _ (by omega) (by omega)]; exact r2 h hh
  · rw [ne _ _ (by omega)]; exact r3 h hh
  · rw [ne _ _ (by omega), b _ (by omega) (by omega)]; exact r4 h hh
  · rw [ne _ _ (by omega)] at he
    exact ws h _ (by omega) (by omega) (by omega) (r5 h hh he)
  · rw [ne _ _ (by omega)] at he
    exact ws h _ (by omega) (by omega) (by omega) (r6 h p hh hp he)
  · obtain ⟨h, h1, h2⟩ := r9 p hp
    exact ⟨h, h1, (ne _ _ (by omega)).trans h2⟩
  · by_cases q : i = 0 ∧ k = 3
    · obtain ⟨rfl, rfl⟩ := q
      show zu A R 3 v R 3 = _
      rw [zu_eq, ← e, show x = 67 by omega]
    · rw [ne _ _ (by omega), b _ (by omega) (by omega)]; exact s1
  · by_cases q : i = 0 ∧ k = 4
    · obtain ⟨rfl, rfl⟩ := q
      show zu A R 4 v R 4 = _
      rw [zu_eq, ← e, show x = 68 by omega]
    · rw [ne _ _ (by omega), b _ (by omega) (by omega)]; exact s2
  · by_cases q : i = 0 ∧ k = 5
    · obtain ⟨rfl, rfl⟩ := q
      show zu A R 5 v R 5 = _
      rw [zu_eq, ← e, show x = 69 by omega]
    · rw [ne _ _ (by omega), b _ (by omega) (by omega)]; exact s3
  · rw [ne _ _ (by omega), b _ (by omega) (by omega)]; exact s4
  · rw [ne _ _ (by omega), b _ (by omega) (by omega)]; exact u3 h hh
  · rw [ne _ _ (by omega)]; exact u4 u hu1 hu2
  · rw [ne _ _ (by omega)]; exact u5 h hh1 hh2
theorem t_put {C P U H G K i k x R1 : Nat} {A B : zMt} {r g : Nat → Int32} {v : Int32} {wr : zMt → zMt} (w : eqS C P A B r g U H G K) (hJ : jJ P B) (hc : (i = 2 ∧ k < 10 ∧ x = k) ∨ (i = 1 ∧ k < U ∧ x = 62 + k) ∨ (i = 0 ∧ 3 ≤ k ∧ k ≤ 5 ∧ x = 64 + k)) (hR1 : R1 = C + 17 + i) (hwr : ∀ M, wr M = zu M R1 k v) (hok : jOk x v) : two (if A R1 k = v then zB (D_X7_refuse C (4 : Int32) A) fun e => some (e.1, e.2) else zB (D_X1_keep (C + 25) (C + 17) A) fun e => zLt (wr e) fun M => zB (D_X7_changed C (A R1 k) M) fun e => some (e.1, e.2)) (D_X8_becomes P (nI x) v B) (acR C P A) := by
  subst hR1
  obtain ⟨w1, w2, w3, w4, w5, w6, w7, w8, w9⟩ := id w
  have c1 := w6.1.1
  have c2 := w6.1.2.1
  have hx : x < 82 := by omega
  have ex : A (C + 17 + i) k = B (P + 1) x := by
    rw [w1 x hx]
    rcases hc with ⟨z1, z2, z3⟩ | ⟨z1, z2, z3⟩ | ⟨z1, z2, z3, z4⟩
    · subst z1; subst z3; exact w6.2.2.1 _ z2
    · subst z1; subst z3; exact w6.2.1 k (by omega)
    · subst z1
      obtain ⟨s1, s2, s3, s4⟩ := w6.2.2.2.2.2.2.2.2.1
      have : k = 3 ∨ k = 4 ∨ k = 5 := by omega
      rcases this with z | z | z <;> subst z <;> subst z4
      · exact s1
      · exact s2
      · exact s3
  have ix : ¬ (nI x < 0 ∨ 82 ≤ (nI x).toNatClampNeg) := vp_in_nI hx (by decide)
  by_cases q : B (P + 1) x = v
  · rw [if_pos (ex.trans q)]
    unfold D_X8_becomes zI
    rw [if_neg ix, nI_clamp (by omega), if_pos q]
    exact t_ref0 ⟨r, g, U, H, G, K, w⟩
  · rw [if_neg (fun z => q (ex.symm.trans z))]
    have hL : gR (C + 17) A (B (P + 1)) g U H G := w6.m (fun _ _ _ _ => rfl) (fun j hj => w1 j hj) (fun _ _ => rfl)
    obtain ⟨A1, ea, B1, eb, K1, p1, k1, k2⟩ := t_keep hL w9
    have em : D_X8_becomes P (nI x) v B = some (B1 (P + 1) x, zu (zu (zu B1 (P + 1) x v) P 6 (0 : Int32)) P 12 (0 : Int32)) := by
      unfold D_X8_becomes zI
      rw [if_neg ix, nI_clamp (by omega), if_neg q, zB_s eb, if_neg (ci hx (by omega)), if_neg (ci hx (by omega))]
      rfl
    obtain ⟨rb, e1, kb, -, jS1, -⟩ := v_X8_becomes (P := P) (v0 := nI x) (v1 := v) (M0 := B) hJ.1 hJ.2.1 hJ.2.2.1 hJ.2.2.2.1 hJ.2.2.2.2 (by rw [nI_toInt (by omega)]; omega) (by rw [nI_toInt (by omega)]; omega) (by rw [nI_clamp (by omega)]; exact hok)
    rw [em] at e1
    cases e1
    have kf : ∀ i j, ¬ (i = P ∧ (j = 6 ∨ j = 12)) → zu (zu (zu B1 (P + 1) x v) P 6 (0 : Int32)) P 12 (0 : Int32) i j = zu B1 (P + 1) x v i j := fun i j h => (zu_ne (by omega)).trans (zu_ne (by omega))
    have kz : ∀ i j, ¬ (i = P + 1 ∧ j = x) → ¬ (i = P ∧ j = 9) → ¬ i = P + 4 → zu B1 (P + 1) x v i j = B i j := fun i j h h1 h2 => (zu_ne (by omega)).trans (k2 i j h1 h2)
    have h7 : zu B1 (P + 1) x v P 7 = nI U := (kz _ _ (by omega) (by omega) (by omega)).trans w3
    have h8 : zu B1 (P + 1) x v P 8 = nI H := (kz _ _ (by omega) (by omega) (by omega)).trans w4
    have jr : jRow (zu B1 (P + 1) x v (P + 1)) U H := (jS1.row ((kf _ _ (by omega)).trans h7) ((kf _ _ (by omega)).trans h8) c1 c2).congr (by omega) (fun j _ => (kf _ _ (by omega)).symm)
    have gA : gR (C + 17) (zu A1 (C + 17 + i) k v) (zu B1 (P + 1) x v (P + 1)) g U H G := (hL.m (A' := A1) (r' := B (P + 1)) (g' := g) (fun i j _ _ => k1 i j (by omega)) (fun _ _ => rfl) (fun _ _ => rfl)).put hc zu_eq (fun j _ hj => kz _ _ (by omega) (by omega) (by omega))
    have pA : pst (C + 25) P (zu A1 (C + 17 + i) k v) (zu B1 (P + 1) x v) g U H K1 := p1.k (fun i j _ _ => zu_ne (by omega)) (fun i j _ => zu_ne (by omega))
    obtain ⟨A3, f1, f2, f3, f4⟩ := t_done (v := A (C + 17 + i) k) h7 h8 jr (fun h hh => (kz _ _ (by omega) (by omega) (by omega)).trans (w2 h hh)) gA pA
    rw [em]
    refine two.l ea ?_
    rw [hwr, zLt_eq]
    refine two.l f1 (two.mk ⟨?_, ⟨_, _, _, _, _, _, f2.k (fun _ _ _ _ => rfl) (fun i j _ => kf i j (by omega))⟩, Or.inl f3⟩)
    show A (C + 17 + i) k = B1 (P + 1) x
    rw [ex, k2 _ _ (by omega) (by omega)]
theorem t_points {C P : Nat} {A B : zMt} {v0 v1 : Int32} (w0 : eqE C P A B) (hJ : jJ P B) : two (D_X7_points C v0 v1 A) (D_X8_points P v0 v1 B) (acR C P A) := by
  obtain ⟨r, g, U, H, G, K, w⟩ := id w0
  have c2 := w.2.2.2.2.2.1.1.2.1
  have o20 : (20 : Int32).toInt = 20 := by decide
  unfold D_X7_points D_X8_points
  rcases t_rng (v := v1) (x := 20) (y := 20) (by decide) with ⟨g1, g2, g3, g4, g5⟩ | ⟨gn, g5⟩
  · rw [if_neg g1, if_pos g2, zB_s g5, if_neg n10]
    rcases t_isH (v := v0) w with ⟨e1, e2, h, hh, hv⟩ | ⟨e1, e2⟩
    · subst hv
      rw [zB_s e1, zB_s e2, if_neg n10, if_neg n10, nI_0p h (by omega), zrd_nI (show h < 10 by omega) (by decide)]
      exact (t_put (i := 2) (k := h) (x := h) (R1 := C + 19) (wr := fun e => zwr e (C + 19) 10 (nI h) v1) w hJ (Or.inl ⟨rfl, by omega, rfl⟩) rfl (fun M => zwr_nI (by omega) (by decide)) (Or.inl ⟨by omega, g3, by omega⟩)).tr (fun _ => rfl)
    · rw [zB_s e1, zB_s e2, if_pos rfl, if_pos rfl]
      exact t_ref0 w0
  · rw [zB_s g5, if_pos rfl]
    rcases gn with z | ⟨z, z2⟩
    · rw [if_pos z]
      exact t_ref0 w0
    · rw [if_neg z, if_neg z2]
      exact t_ref0 w0
theorem t_quota {C P : Nat} {A B : zMt} {v0 v1 : Int32} (w0 : eqE C P A B) (hJ : jJ P B) : two (D_X7_quota C v0 v1 A) (D_X8_quota P v0 v1 B) (acR C P A) := by
  obtain ⟨r, g, U, H, G, K, w⟩ := id w0
  have c2 := w.2.2.2.2.2.1.1.1
  have o20 : (20 : Int32).toInt = 20 := by decide
  unfold D_X7_quota D_X8_quota
  rcases t_rng (v := v1) (x := 20) (y := 20) (by decide) with ⟨g1, g2, g3, g4, g5⟩ | ⟨gn, g5⟩
  · rw [if_neg g1, if_pos g2, zB_s g5, if_neg n10]
    rcases t_isU (v := v0) w with ⟨e1, e2, h, hh, hv⟩ | ⟨e1, e2⟩
    · subst hv
      rw [zB_s e1, zB_s e2, if_neg n10, if_neg n10, nI_62 h (by omega), zrd_nI (show h < 5 by omega) (by decide)]
      exact (t_put (i := 1) (k := h) (x := 62 + h) (R1 := C + 18) (wr := fun e => zwr e (C + 18) 5 (nI h) v1) w hJ (Or.inr (Or.inl ⟨rfl, hh, rfl⟩)) rfl (fun M => zwr_nI (by omega) (by decide)) (Or.inr (Or.inl ⟨by omega, by omega, g3, by omega⟩))).tr (fun _ => rfl)
    · rw [zB_s e1, zB_s e2, if_pos rfl, if_pos rfl]
      exact t_ref0 w0
  · rw [zB_s g5, if_pos rfl]
    rcases gn with z | ⟨z, z2⟩
    · rw [if_pos z]
      exact t_ref0 w0
    · rw [if_neg z, if_neg z2]
      exact t_ref0 w0
theorem t_law {C P : Nat} {A B : zMt} {v0 : Int32} (w0 : eqE C P A B) (hJ : jJ P B) : two (D_X7_law C v0 A) (D_X8_law P v0 B) (acR C P A) := by
  obtain ⟨r, g, U, H, G, K, w⟩ := id w0
  have o2 : (2 : Int32).toInt = 2 := by decide
  unfold D_X7_law D_X8_law
  rcases t_rng (v := v0) (x := 2) (y := 2) (by decide) with ⟨g1, g2, g3, g4, g5⟩ | ⟨gn, g5⟩
  · rw [if_neg g1, if_pos g2, zB_s g5, if_neg n10, show (67 : Int32) = nI 67 by decide]
    exact (t_put (i := 0) (k := 3) (x := 67) (R1 := C + 17) (wr := fun e => zu e (C + 17) 3 v0) w hJ (Or.inr (Or.inr ⟨rfl, by omega, by omega, rfl⟩)) rfl (fun M => rfl) (Or.inr (Or.inr (Or.inl ⟨rfl, g3, by omega⟩)))).tr (fun _ => rfl)
  · rw [zB_s g5, if_pos rfl]
    rcases gn with z | ⟨z, z2⟩
    · rw [if_pos z]
      exact t_ref0 w0
    · rw [if_neg z, if_neg z2]
      exact t_ref0 w0
theorem t_prefer {C P : Nat} {A B : zMt} {v0 : Int32} (w0 : eqE C P A B) (hJ : jJ P B) : two (D_X7_prefer C v0 A) (D_X8_prefer P v0 B) (acR C P A) := by
  obtain ⟨r, g, U, H, G, K, w⟩ := id w0
  have o2 : (100 : Int32).toInt = 100 := by decide
  unfold D_X7_prefer D_X8_prefer
  rcases t_rng (v := v0) (x := 100) (y := 100) (by decide) with ⟨g1, g2, g3, g4, g5⟩ | ⟨gn, g5⟩
  · rw [if_neg g1, if_pos g2, zB_s g5, if_neg n10, show (68 : Int32) = nI 68 by decide]
    exact (t_put (i := 0) (k := 4) (x := 68) (R1 := C + 17) (wr := fun e => zu e (C + 17) 4 v0) w hJ (Or.inr (Or.inr ⟨rfl, by omega, by omega, rfl⟩)) rfl (fun M => rfl) (Or.inr (Or.inr (Or.inr ⟨by omega, by omega, g3, by omega⟩)))).tr (fun _ => rfl)
  · rw [zB_s g5, if_pos rfl]
    rcases gn with z | ⟨z, z2⟩
    · rw [if_pos z]
      exact t_ref0 w0
    · rw [if_neg z, if_neg z2]
      exact t_ref0 w0
theorem t_guests {C P : Nat} {A B : zMt} {v0 : Int32} (w0 : eqE C P A B) (hJ : jJ P B) : two (D_X7_guests C v0 A) (D_X8_guests P v0 B) (acR C P A) := by
  obtain ⟨r, g, U, H, G, K, w⟩ := id w0
  have o2 : (100 : Int32).toInt = 100 := by decide
  unfold D_X7_guests D_X8_guests
  rcases t_rng (v := v0) (x := 100) (y := 100) (by decide) with ⟨g1, g2, g3, g4, g5⟩ | ⟨gn, g5⟩
  · rw [if_neg g1, if_pos g2, zB_s g5, if_neg n10, show (69 : Int32) = nI 69 by decide]
    exact (t_put (i := 0) (k := 5) (x := 69) (R1 := C + 17) (wr := fun e => zu e (C + 17) 5 v0) w hJ (Or.inr (Or.inr ⟨rfl, by omega, by omega, rfl⟩)) rfl (fun M => rfl) (Or.inr (Or.inr (Or.inr ⟨by omega, by omega, g3, by omega⟩)))).tr (fun _ => rfl)
  · rw [zB_s g5, if_pos rfl]
    rcases gn with z | ⟨z, z2⟩
    · rw [if_pos z]
      exact t_ref0 w0
    · rw [if_neg z, if_neg z2]
      exact t_ref0 w0
theorem t_undo {C P : Nat} {A B : zMt} (w0 : eqE C P A B) (hJ : jJ P B) : two (D_X7_undo C A) (D_X8_undo P B) (acR C P A) := by
  obtain ⟨r, g, U, H, G, K, w⟩ := id w0
  obtain ⟨w1, w2, w3, w4, w5, w6, w7, w8, w9⟩ := id w
  have c1 := w6.1.1
  have c2 := w6.1.2.1
  obtain ⟨a, ea, hcase⟩ := t_back w9
  unfold D_X7_undo
  refine two.l ea ?_
  rcases hcase with ⟨h0, h1, h2, h3⟩ | ⟨h0, h1, h2, h3, B', e1, ⟨G', g1⟩, p1, k1⟩
  · rw [if_pos h1, h2]
    unfold D_X8_undo
    rw [if_pos h3]
    exact t_ref0 w0
  · rw [if_neg (by rw [h1]; decide), h2, e1]
    obtain ⟨rb, e2, kb, -, jS1, -⟩ := v_X8_undo (P := P) (M0 := B) hJ.1 hJ.2.1 hJ.2.2.1 hJ.2.2.2.1 hJ.2.2.2.2
    rw [e1] at e2
    cases e2
    have h7 : B' P 7 = nI U := (k1 _ _ (by omega) (by omega)).trans w3
    have h8 : B' P 8 = nI H := (k1 _ _ (by omega) (by omega)).trans w4
    obtain ⟨A3, f1, f2, f3, f4⟩ := t_done (v := nI (K - 1)) h7 h8 (jS1.row h7 h8 c1 c2) (fun h hh => (k1 _ _ (by omega) (by omega)).trans (w2 h hh)) g1 p1
    exact two.l f1 (two.mk ⟨rfl, ⟨_, _, _, _, _, _, f2⟩, Or.inl f3⟩)
