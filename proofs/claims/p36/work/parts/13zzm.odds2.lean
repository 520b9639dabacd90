/-! the odds: both, chance, mean, ends, both sides -/
theorem t_both {C P : Nat} {A B : zMt} {NA NB : zNt} {v0 v1 : Int32} (w0 : eqE C P A B) (hD : oD C A NA) (_hJ : jJ P B) : two (D_X7_both C v0 v1 A NA) (D_X8_both P v0 v1 B NB) (fun a b => a.1 = b.1 ∧ oD C a.2.1 a.2.2) := by
  obtain ⟨r, g, U, H, G, K, w⟩ := w0
  unfold D_X7_both D_X8_both
  obtain ⟨n, B1, hn, l1, l2, l3, l4, l5, hA⟩ := t_isA (v := v0) w
  rcases hA with ⟨f1, f2, a, ha, hv⟩ | ⟨f1, f2⟩
  · subst hv
    have w' : eqS C P A B1 r g U H G K := w.k (fun _ _ _ _ => rfl) (fun i j h => l5 i j (by omega) (by omega))
    rw [zB_s f1, zB_s f2, if_neg n10, if_neg n10]
    obtain ⟨n2, B2, hn2, j1, j2, j3, j4, j5, hA2⟩ := t_isA (v := v1) w'
    have : n2 = n := hn2.trans hn.symm
    subst this
    rcases hA2 with ⟨g1, g2, o, ho, hv⟩ | ⟨g1, g2⟩
    · subst hv
      have w2 : eqS C P A B2 r g U H G K := w'.k (fun _ _ _ _ => rfl) (fun i j h => j5 i j (by omega) (by omega))
      obtain ⟨n', B3, hn', hn10, e91, hO⟩ := t_odds (NB := NB) w2 hD
      have : n' = n2 := hn'.trans hn.symm
      subst this
      rw [zB_s g1, if_neg n10, e91]
      refine two.r g2 ?_
      rw [if_neg n10]
      refine two.ite Iff.rfl (fun _ => t_rfsL hD) (fun _ => ?_)
      rcases hO with ⟨h7, m1, A', N', T, B', N2, p1, p2, p3, p4, p5, p6, p7, p8, p9, p10⟩ | ⟨h7, m1⟩
      · rw [if_pos ((nI_7i hn10).mpr h7)]
        refine two.l p1 (two.r m1 ?_)
        rw [if_pos rfl]
        refine two.r p2 (two.l (cc_allOf h7 p6) ?_)
        rw [nI_7m a (by omega) o (by omega)]
        refine two.ir (vp_in_nI (by omega) (by decide)) ?_
        rw [nI_clamp (by omega)]
        show two _ (zB (D_X8_givesLong P (N2 (P + 27) (7 * a + o)) B') fun e => some (e.1, e.2, N2)) _
        rw [p8.2.2.2.1 a o ha ho]
        refine t_ansL p7 (lsum_cg _ (fun y _ => ?_))
        have e := hv_two (s := rs T 10 U n' y.1) h7 ha ho
        by_cases q : ¬ rs T 10 U n' y.1 0 a = -1 ∧ ¬ rs T 10 U n' y.1 0 o = -1
        · rw [if_pos q, if_pos (e.mpr q)]
        · rw [if_neg q, if_neg (fun z => q (e.mp z))]
      · rw [if_neg (fun z => h7 ((nI_7i hn10).mp z))]
        refine two.r m1 ?_
        rw [if_neg n10]
        exact t_rfsL hD
    · rw [zB_s g1, if_pos rfl]
      refine two.r g2 ?_
      rw [if_pos rfl]
      exact t_rfsL hD
  · rw [zB_s f1, zB_s f2, if_pos rfl, if_pos rfl]
    exact t_rfsL hD
theorem t_chance {C P : Nat} {A B : zMt} {NA NB : zNt} {v0 v1 : Int32} (w0 : eqE C P A B) (hD : oD C A NA) (_hJ : jJ P B) : two (D_X7_chance C v0 v1 A NA) (D_X8_chance P v0 v1 B NB) (fun a b => a.1 = b.1 ∧ oD C a.2.1 a.2.2) := by
  obtain ⟨r, g, U, H, G, K, w⟩ := w0
  unfold D_X7_chance D_X8_chance
  rcases t_rng (v := v1) (x := 2) (y := 2) (by decide) with ⟨g1, g2, g3, g4, g5⟩ | ⟨gn, g5⟩
  · rw [if_neg g1, if_pos g2, zB_s g5, if_neg n10]
    obtain ⟨n, B1, hn, l1, l2, l3, l4, l5, hA⟩ := t_isA (v := v0) w
    rcases hA with ⟨f1, f2, a, ha, hv⟩ | ⟨f1, f2⟩
    · subst hv
      have w' : eqS C P A B1 r g U H G K := w.k (fun _ _ _ _ => rfl) (fun i j h => l5 i j (by omega) (by omega))
      obtain ⟨n', B2, hn', hn10, e91, hO⟩ := t_odds (NB := NB) w' hD
      have : n' = n := hn'.trans hn.symm
      subst this
      rw [zB_s f1, zB_s f2, if_neg n10, if_neg n10, e91]
      rcases hO with ⟨h7, m1, A', N', T, B', N2, p1, p2, p3, p4, p5, p6, p7, p8, p9, p10⟩ | ⟨h7, m1⟩
      · rw [if_pos ((nI_7i hn10).mpr h7)]
        refine two.l p1 (two.r m1 ?_)
        rw [if_pos rfl]
        refine two.r p2 ?_
        have hU := p4.2.1
        have o2 : (2 : Int32).toInt = 2 := by decide
        have hc : v1 = 0 ∨ v1 = 1 ∨ v1 = 2 := by
          have : v1.toInt = 0 ∨ v1.toInt = 1 ∨ v1.toInt = 2 := by omega
          rcases this with q | q | q
          · exact Or.inl (i_of (k := 0) q (by omega))
          · exact Or.inr (Or.inl (i_of (k := 1) q (by omega)))
          · exact Or.inr (Or.inr (i_of (k := 2) q (by omega)))
        rcases hc with q | q | q <;> subst q
        · rw [if_pos (show Int32.toInt (0 : Int32) = 0 by decide), if_pos (show (0 : Int32) = 0 from rfl)]
          exact two.l (cc_any h7 ha p6) (two.r (mm_chance p4 h7 ha p9 p8) (t_ansL p7 rfl))
        · rw [if_neg (show ¬ Int32.toInt (1 : Int32) = 0 by decide), if_pos (show Int32.toInt (1 : Int32) = 1 by decide), if_neg (show ¬ (1 : Int32) = 0 by decide), if_pos (show (1 : Int32) = 1 from rfl)]
          refine two.ir (vp_in_nI (by omega) (by decide)) ?_
          rw [nI_clamp (by omega)]
          show two (if zrd 0 (A' (C + 102)) 10 (nI a) = 0 then D_X7_chance_129 C 0 A' N' else zB (D_X2_wish (C + 91) A' (nI a) 0) fun e => zB (D_X0_certainUnit (C + 112) N' (nI a) e) fun e' => D_X7_chance_129 C e' A' N') (D_X8_chance_85 P (N2 (P + 25) a) B' N2) _
          rw [p8.2.1 a ha, zrd_nI (show a < 10 by omega) (by decide), show A' (C + 102) a = T 11 a from p3 11 a (by omega)]
          obtain ⟨c, c1, c2, c3, c4⟩ := (p4.2.2.2.2.1 a ha).2.2.2
          by_cases q : c = 0
          · subst q
            rw [c2, if_pos (by decide)]
            refine t_ansL p7 ?_
            rw [lsum_cg (g := fun _ => 0) (lvA T n') (fun y hy => if_neg (fun z => ?_)), lsum_0]
            rcases lvA_ok p4 hy a ha with z2 | ⟨k, w, w1, w2, w3, w4⟩
            · exact z.1 z2
            · rw [c2, nI_clamp (by omega)] at w1
              omega
          · obtain ⟨u, u1, u2⟩ := c3 0 (by omega)
            have ew := cc_wish (Q := C + 91) (A := A') (T := T) (a := a) (k := 0) (by omega) (by omega) p3
            rw [show nI 0 = (0 : Int32) by decide, u2] at ew
            rw [c2, if_neg (fun z => q ((nI_0i (by omega)).mp z))]
            refine two.l ew ?_
            unfold D_X0_certainUnit
            rw [nI_m5 a (by omega) u (by omega), zrd_nI (show 5 * a + u < 35 by omega) (by decide)]
            refine two.l rfl (t_ansL p7 ((p6.2.2.1 a u ha u1).trans (lsum_cg _ (fun y _ => ?_))))
            have u2' : T 12 (3 * a) = nI u := u2
            rw [u2']
            by_cases z : rs T 10 U n' y.1 0 a = nI u
            · rw [if_pos z, if_pos ⟨by rw [z]; exact nI_ne (by omega), z⟩]
            · rw [if_neg z, if_neg (fun t => z t.2)]
        · rw [if_neg (show ¬ Int32.toInt (2 : Int32) = 0 by decide), if_neg (show ¬ Int32.toInt (2 : Int32) = 1 by decide), if_neg (show ¬ (2 : Int32) = 0 by decide), if_neg (show ¬ (2 : Int32) = 1 by decide)]
          refine two.ir (vp_in_nI (by omega) (by decide)) ?_
          rw [nI_clamp (by omega), zrd_nI (show a < 7 by omega) (by decide)]
          exact t_ansL p7 ((p6.2.2.2 a ha).trans (p8.2.2.1 a ha).symm)
      · rw [if_neg (fun z => h7 ((nI_7i hn10).mp z))]
        refine two.r m1 ?_
        rw [if_neg n10]
        exact t_rfsL hD
    · rw [zB_s f1, zB_s f2, if_pos rfl, if_pos rfl]
      exact t_rfsL hD
  · rw [zB_s g5, if_pos rfl]
    rcases gn with z | ⟨z, z2⟩
    · rw [if_pos z]
      exact t_rfsL hD
    · rw [if_neg z, if_neg z2]
      exact t_rfsL hD
theorem lsum_mul {c : Int64} {f : lY → Int64} : ∀ L : List lY, c * lsum f L = lsum (fun y => c * f y) L
  | [] => Int64.mul_zero
  | y :: L => by
    show c * (f y + lsum f L) = c * f y + lsum (fun y => c * f y) L
    rw [← lsum_mul L, Int64.mul_add]
theorem tUf_z {T s : zMt} {x : Int64} {u : Nat} : ∀ d k, tUf T s x u d k + z64 (fun a => if s 0 a = nI u then x * Int32.toInt64 (T 5 a) else 0) k = z64 (fun a => if s 0 a = nI u then x * Int32.toInt64 (T 5 a) else 0) (k + d)
  | 0, k => Int64.zero_add _
  | d + 1, k => by
    show ((if s 0 k = nI u then x * Int32.toInt64 (T 5 k) else 0) + tUf T s x u d (k + 1)) + z64 _ k = _
    rw [show k + (d + 1) = k + 1 + d by omega, ← tUf_z d (k + 1)]
    show _ = tUf T s x u d (k + 1) + (z64 _ k + (if s 0 k = nI u then x * Int32.toInt64 (T 5 k) else 0))
    rw [Int64.add_comm (if s 0 k = nI u then x * Int32.toInt64 (T 5 k) else 0) (tUf T s x u d (k + 1)), Int64.add_assoc, Int64.add_comm (z64 _ k)]
theorem t_mean {C P : Nat} {A B : zMt} {NA NB : zNt} {v0 : Int32} (w0 : eqE C P A B) (hD : oD C A NA) (_hJ : jJ P B) : two (D_X7_mean C v0 A NA) (D_X8_mean P v0 B NB) (fun a b => a.1 = b.1 ∧ oD C a.2.1 a.2.2) := by
  obtain ⟨r, g, U, H, G, K, w⟩ := w0
  unfold D_X7_mean D_X8_mean
  rcases t_isU (v := v0) w with ⟨g1, g2, u, hu, hv⟩ | ⟨g1, g2⟩
  · subst hv
    obtain ⟨n, B2, hn, hn10, e91, hO⟩ := t_odds (NB := NB) w hD
    rw [zB_s g1, zB_s g2, if_neg n10, if_neg n10, e91]
    rcases hO with ⟨h7, m1, A', N', T, B', N2, p1, p2, p3, p4, p5, p6, p7, p8, p9, p10⟩ | ⟨h7, m1⟩
    · rw [if_pos ((nI_7i hn10).mpr h7)]
      refine two.l p1 (two.r m1 ?_)
      rw [if_pos rfl]
      refine two.r p2 ?_
      have hU := p4.2.1
      have e91' : A' (C + 91) 1 = nI n := (p3 0 1 (by omega)).trans p4.2.2.1
      have go : ∀ (v k : Nat), k ≤ n → n - k < v → D_X7_mean_43 C v (nI u) (z64 (fun a => Int32.toInt64 (T 5 a) * N' (C + 115) (5 * a + u)) k) (nI k) A' N' = zB (D_X7_answerParts C (z64 (fun a => Int32.toInt64 (T 5 a) * N' (C + 115) (5 * a + u)) n) A') fun e => some (e.1, e.2, N') := by
        intro v
        induction v with
        | zero => intro k _ h; omega
        | succ v ih =>
          intro k hk hv
          rw [D_X7_mean_43, e91']
          by_cases hc : n ≤ k
          · rw [if_pos (by exact (nI_leI (by omega) (by omega)).mpr hc), show k = n by omega]
          · rw [if_neg (by intro z; exact hc ((nI_leI (by omega) (by omega)).mp z))]
            have := ih (k + 1) (by omega) (by omega)
            rw [← nI_add1] at this
            unfold D_X0_certainUnit
            rw [nI_m5 k (by omega) u (by omega), zrd_nI (show 5 * k + u < 35 by omega) (by decide), zrd_nI (show k < 10 by omega) (by decide), show A' (C + 96) k = T 5 k from p3 5 k (by omega)]
            exact this
      have := go zFu 0 (by omega) (by unfold zFu; omega)
      rw [show nI 0 = (0 : Int32) by decide, show ∀ f : Nat → Int64, z64 f 0 = (0 : Int64) from fun _ => rfl] at this
      show two (D_X7_mean_43 C zFu (nI u) (0 : Int64) (0 : Int32) A' N') (zI (nI u) 5 (zB (D_X8_givesLong P (N2 (P + 28) (nI u).toNatClampNeg) B') fun e => some (e.1, e.2, N2))) _
      rw [this]
      refine two.ir (vp_in_nI (by omega) (by decide)) ?_
      rw [nI_clamp (by omega), p8.2.2.2.2.1 u hu]
      refine t_ansL p7 ?_
      rw [z64_lsum (g := fun a y => Int32.toInt64 (T 5 a) * (if rs T 10 U n y.1 0 a = nI u then y.2 else 0)) (L := lvA T n) n (fun a ha => by
        rw [← lsum_mul]
        exact congrArg (fun z => Int32.toInt64 (T 5 a) * z) (p6.2.2.1 a u ha hu))]
      refine lsum_cg _ (fun y _ => ?_)
      have e := tUf_z (T := T) (s := rs T 10 U n y.1) (x := y.2) (u := u) n 0
      rw [show ∀ f : Nat → Int64, z64 f 0 = (0 : Int64) from fun _ => rfl, Int64.add_zero, Nat.zero_add] at e
      rw [e]
      refine congrArg (fun f => z64 f n) (funext fun a => ?_)
      by_cases q : rs T 10 U n y.1 0 a = nI u
      · rw [if_pos q, if_pos q, Int64.mul_comm]
      · rw [if_neg q, if_neg q, Int64.mul_zero]
    · rw [if_neg (fun z => h7 ((nI_7i hn10).mp z))]
      refine two.r m1 ?_
      rw [if_neg n10]
      exact t_rfsL hD
  · rw [zB_s g1, zB_s g2, if_pos rfl, if_pos rfl]
    exact t_rfsL hD
