/-! the parts of some leaves are never less than none; likes, both sides -/
theorem l_mul {x : Int64} {t : Int32} (h0 : 0 ≤ x.toInt) (h1 : x.toInt ≤ 1000000000000) (t0 : 0 ≤ t.toInt) (t1 : t.toInt ≤ 401) : (x * Int32.toInt64 t).toInt = x.toInt * t.toInt := by
  have a : 0 ≤ x.toInt * t.toInt := Int.mul_nonneg h0 t0
  have b : x.toInt * t.toInt ≤ 1000000000000 * 401 := Int.mul_le_mul h1 t1 t0 (by omega)
  rw [Int64.toInt_mul, Int32.toInt_toInt64]
  generalize x.toInt * t.toInt = y at a b
  rw [Int.bmod_def]
  omega
theorem l_div {y : Int64} {s : Int} (h0 : 0 ≤ y.toInt) (h1 : 1 ≤ s) (h2 : s ≤ 100000) : (y / Int64.ofInt s).toInt = y.toInt / s := by
  have e : (Int64.ofInt s).toInt = s := by
    rw [Int64.toInt_ofInt, Int.bmod_def, show ((Int64.size : Nat) : Int) = 18446744073709551616 by decide]
    omega
  have a : 0 ≤ y.toInt / s := Int.ediv_nonneg h0 (by omega)
  have b : y.toInt / s ≤ y.toInt := Int.ediv_le_self s h0
  have c := Int64.toInt_lt y
  rw [Int64.toInt_div, e, Int.tdiv_eq_ediv_of_nonneg h0]
  generalize y.toInt / s = z at a b
  rw [Int.bmod_def]
  omega
theorem lv_rng {t : Nat → Int32} {n : Nat} {f : lY → Int64} (hn : n ≤ 10) (ht : ∀ a, a < n → 1 ≤ (t a).toInt ∧ (t a).toInt ≤ 401) (hf : ∀ y, f y = 0 ∨ f y = y.2) : ∀ (d k : Nat) (b : Int32) (l : Nat → Nat) (x : Int64), 0 ≤ x.toInt → x.toInt ≤ 1000000000000 → 0 ≤ (lsum f (lv t n d k b l x)).toInt ∧ (lsum f (lv t n d k b l x)).toInt ≤ x.toInt := by
  have o0 : (0 : Int64).toInt = 0 := by decide
  intro d
  induction d with
  | zero =>
    intro k b l x h0 h1
    show 0 ≤ (f (l, x) + 0).toInt ∧ (f (l, x) + 0).toInt ≤ x.toInt
    rw [Int64.add_zero]
    rcases hf (l, x) with z | z
    · rw [z, o0]
      omega
    · rw [z]
      exact ⟨h0, Int.le_refl _⟩
  | succ d ih =>
    intro k b l x h0 h1
    have hS := St_le (t := t) (b := b) n ht
    have key : ∀ m, m ≤ n → 0 ≤ (lsum f (lvL (fun a => if ((b >>> (nI a &&& 31)) &&& 1) = 1 then [] else lv t n d (k + 1) (b ||| ((1 : Int32) <<< (nI a &&& 31))) (fun j => if j = k then a else l j) ((x * Int32.toInt64 (t a)) / Int64.ofInt (St t b n))) m)).toInt ∧ (lsum f (lvL (fun a => if ((b >>> (nI a &&& 31)) &&& 1) = 1 then [] else lv t n d (k + 1) (b ||| ((1 : Int32) <<< (nI a &&& 31))) (fun j => if j = k then a else l j) ((x * Int32.toInt64 (t a)) / Int64.ofInt (St t b n))) m)).toInt * St t b n ≤ x.toInt * St t b m ∧ ((lsum f (lvL (fun a => if ((b >>> (nI a &&& 31)) &&& 1) = 1 then [] else lv t n d (k + 1) (b ||| ((1 : Int32) <<< (nI a &&& 31))) (fun j => if j = k then a else l j) ((x * Int32.toInt64 (t a)) / Int64.ofInt (St t b n))) m)).toInt = 0 ∨ 0 < St t b n) := by
      intro m
      induction m with
      | zero =>
        intro _
        show 0 ≤ (0 : Int64).toInt ∧ (0 : Int64).toInt * St t b n ≤ x.toInt * 0 ∧ ((0 : Int64).toInt = 0 ∨ 0 < St t b n)
        rw [o0]
        omega
      | succ m ihm =>
        intro hm
        obtain ⟨i1, i2, i3⟩ := ihm (by omega)
        have hSm := St_mono (t := t) (b := b) (fun a ha => (ht a ha).1) (m + 1) hm
        have hSp := (St_le (t := t) (b := b) m (fun a ha => ht a (by omega))).1
        have e1 : ∀ (F : Nat → List lY), lsum f (lvL F (m + 1)) = lsum f (lvL F m) + lsum f (F m) := fun F => lsum_app _ _
        rw [e1]
        rw [St_s] at hSm ⊢
        by_cases q : ((b >>> (nI m &&& 31)) &&& 1) = 1
        · rw [if_pos q, if_pos q]
          show 0 ≤ (_ + (0 : Int64)).toInt ∧ (_ + (0 : Int64)).toInt * _ ≤ _ ∧ ((_ + (0 : Int64)).toInt = 0 ∨ _)
          rw [Int64.add_zero, Int.add_zero]
          exact ⟨i1, i2, i3⟩
        · rw [if_neg q] at hSm
          rw [if_neg q, if_neg q]
          obtain ⟨t1, t2⟩ := ht m (by omega)
          have hq : ((x * Int32.toInt64 (t m)) / Int64.ofInt (St t b n)).toInt = x.toInt * (t m).toInt / St t b n := by
            rw [l_div (by rw [l_mul h0 h1 (by omega) t2]; exact Int.mul_nonneg h0 (by omega)) (by omega) (by omega), l_mul h0 h1 (by omega) t2]
          have q1 : x.toInt * (t m).toInt / St t b n * St t b n ≤ x.toInt * (t m).toInt := Int.ediv_mul_le _ (by omega)
          have q0 : 0 ≤ x.toInt * (t m).toInt / St t b n := Int.ediv_nonneg (Int.mul_nonneg h0 (by omega)) (by omega)
          have q2 : x.toInt * (t m).toInt ≤ x.toInt * St t b n := Int.mul_le_mul_of_nonneg_left (by omega) h0
          have q3 : x.toInt * (t m).toInt / St t b n ≤ x.toInt := Int.le_of_mul_le_mul_right (Int.le_trans q1 q2) (by omega)
          obtain ⟨j1, j2⟩ := ih (k + 1) (b ||| ((1 : Int32) <<< (nI m &&& 31))) (fun j => if j = k then m else l j) ((x * Int32.toInt64 (t m)) / Int64.ofInt (St t b n)) (by rw [hq]; exact q0) (by rw [hq]; omega)
          rw [hq] at j2
          generalize lsum f (lv t n d (k + 1) (b ||| ((1 : Int32) <<< (nI m &&& 31))) (fun j => if j = k then m else l j) ((x * Int32.toInt64 (t m)) / Int64.ofInt (St t b n))) = Y at j1 j2 ⊢
          generalize lsum f (lvL (fun a => if ((b >>> (nI a &&& 31)) &&& 1) = 1 then [] else lv t n d (k + 1) (b ||| ((1 : Int32) <<< (nI a &&& 31))) (fun j => if j = k then a else l j) ((x * Int32.toInt64 (t a)) / Int64.ofInt (St t b n))) m) = X at i1 i2 i3 ⊢
          have y1 : Y.toInt * St t b n ≤ x.toInt * (t m).toInt / St t b n * St t b n := Int.mul_le_mul_of_nonneg_right j2 (by omega)
          have y2 : (X.toInt + Y.toInt) * St t b n ≤ x.toInt * (St t b m + (t m).toInt) := by
            rw [Int.add_mul, Int.mul_add]
            exact Int.add_le_add i2 (Int.le_trans y1 q1)
          have y3 : x.toInt * (St t b m + (t m).toInt) ≤ x.toInt * St t b n := Int.mul_le_mul_of_nonneg_left hSm h0
          have y4 : X.toInt + Y.toInt ≤ x.toInt := Int.le_of_mul_le_mul_right (Int.le_trans y2 y3) (by omega)
          have y5 : (X + Y).toInt = X.toInt + Y.toInt := by
            rw [Int64.toInt_add, Int.bmod_def]
            omega
          rw [y5]
          exact ⟨by omega, y2, Or.inr (by omega)⟩
    obtain ⟨k1, k2, k3⟩ := key n (Nat.le_refl n)
    refine ⟨k1, ?_⟩
    rcases k3 with z | z
    · exact Int.le_trans (Int.le_of_eq z) h0
    · exact Int.le_of_mul_le_mul_right k2 z
theorem lvA_rng {T : zMt} {n U : Nat} {f : lY → Int64} (hg : gP T n U) (hf : ∀ y, f y = 0 ∨ f y = y.2) : 0 ≤ (lsum f (lvA T n)).toInt :=
  (lv_rng hg.1 (fun a ha => (hg.2.2.2.2.1 a ha).2.2.1.i (by omega)) hf n 0 0 _ _ (by decide) (by decide)).1
theorem any_rng {T : zMt} {n U a : Nat} (hg : gP T n U) : 0 ≤ (lsum (fun y => if ¬ rs T 10 U n y.1 0 a = -1 then y.2 else 0) (lvA T n)).toInt :=
  lvA_rng hg (fun y => by
    by_cases q : ¬ rs T 10 U n y.1 0 a = -1
    · exact Or.inr (if_pos q)
    · exact Or.inl (if_neg q))
theorem jRow.law {r r' : Nat → Int32} {U H : Int} {k : Nat} (h : jRow r U H) (hH : H ≤ 10) (hk : k ≤ 2) (e : r' 67 = nI k) (b : ∀ j, j < 82 → ¬ j = 67 → r' j = r j) : jRow r' U H := by
  obtain ⟨s1, s2, s3, s4, s5, s6⟩ := h
  refine ⟨fun x hx => ?_, fun x hx => ?_, fun y h1 h2 => ?_, fun u hu => ?_, ?_, fun q hq => ?_⟩
  · rw [b x (by omega) (by omega)]; exact s1 x hx
  · rw [b (10 + x) (by omega) (by omega), b 70 (by omega) (by omega)]; exact s2 x hx
  · rw [b y (by omega) (by omega)]; exact s3 y h1 h2
  · rw [b (62 + u) (by omega) (by omega)]; exact s4 u hu
  · rw [e, nI_toInt (by omega), b 68 (by omega) (by omega), b 69 (by omega) (by omega), b 70 (by omega) (by omega)]
    exact ⟨by omega, by omega, s5.2.2⟩
  · rw [b 70 (by omega) (by omega)] at hq
    obtain ⟨x, h1, h2⟩ := s6 q hq
    exact ⟨x, h1, by rw [b (10 + x) (by omega) (by omega)]; exact h2⟩
theorem lk_40 {C P U H G n a : Nat} {r g : Nat → Int32} (hn : n = fr r H + G) (h7 : n ≤ 7) (hH : H ≤ 10) (ha : a < n) (w5 : jRow r U H) : ∀ (u k v : Nat) (r' : Nat → Int32) (A B : zMt) (NA NB : zNt) (xc xr : Int32) (x3 : Int64), k ≤ 3 → 3 - k < u → 3 - k < v → (∀ j, j < 82 → ¬ j = 67 → r' j = r j) → gR (C + 158) A r' g U H G → (∀ j, j < 82 → B (P + 1) j = r' j) → (∀ x, x < 10 → B (P + 5) x = g x) → B P 7 = nI U → B P 8 = nI H → ((k = 0 ∧ x3 = -1) ∨ xc = xr) → two (D_X7_likes_52 C u (nI a) xc x3 (nI k) A NA) (D_X8_likes_40 P v (nI a) xr x3 (nI k) B NB) (fun a b => a.1 = b.1) := by
  intro u
  induction u with
  | zero => intro k v r' A B NA NB xc xr x3 _ z; omega
  | succ u ih =>
    intro k v r' A B NA NB xc xr x3 hk hu hv hr w6 w1 w2 w3 w4 hx
    obtain ⟨v, rfl⟩ : ∃ y, v = y + 1 := ⟨v - 1, by omega⟩
    rw [D_X7_likes_52, D_X8_likes_40]
    by_cases hc : 3 ≤ k
    · have hxe : xc = xr := by
        rcases hx with ⟨z, _⟩ | z
        · omega
        · exact z
      rw [if_pos (by exact (ltL (x := 2) (a := 2) (by decide) (by decide) (by omega)).mpr (by omega)), if_pos (by exact (leL (x := 3) (a := 3) (by decide) (by decide) (by omega)).mpr hc)]
      obtain ⟨Bz, hz⟩ := takes_all (P := P) (M := B)
      exact two.r hz (t_ans3 hxe)
    · rw [if_neg (by intro z; have := (ltL (x := 2) (a := 2) (by decide) (by decide) (by omega)).mp z; omega), if_neg (by intro z; exact hc ((leL (x := 3) (a := 3) (by decide) (by decide) (by omega)).mp z)), show (67 : Int32) = nI 67 by decide]
      refine two.ir (vp_in_nI (show 67 < 82 by omega) (by decide)) ?_
      rw [nI_clamp (by omega), zLt_eq, zLt_eq]
      have q1 : ∀ j, ¬ j = 67 → (fun j => if j = 67 then nI k else r' j) j = r' j := fun j hj => if_neg hj
      have q2 : (fun j => if j = 67 then nI k else r' j) 67 = nI k := if_pos rfl
      generalize (fun j => if j = 67 then nI k else r' j) = r2 at q1 q2
      have g2 : gR (C + 158) (zu A (C + 158 + 0) 3 (nI k)) r2 g U H G := w6.put (i := 0) (k := 3) (x := 67) (Or.inr (Or.inr ⟨rfl, by omega, by omega, rfl⟩)) q2 (fun j _ hj => q1 j hj)
      have j2 : jRow r2 U H := w5.law (by omega) (k := k) (by omega) q2 (fun j h1 h2 => (q1 j h2).trans (hr j h1 h2))
      have f2 : fr r2 H = fr r H := fr_cg2 H (fun x hx => (q1 _ (by omega)).trans (hr _ (by omega) (by omega)))
      obtain ⟨A1, A2, N2, T, B2, NB2, e1, e2, e3, l1, l2, l3, l4, l5, l6, l7, l8, l9, -, -, -⟩ := t_tri (n := n) (NA := NA) (NB := NB) (B := zu B (P + 1) 67 (nI k)) g2 (fun j hj => by
        by_cases z : j = 67
        · subst z
          rw [zu_eq, q2]
        · rw [zu_ne (by omega), q1 j z]
          exact w1 j hj) (fun x hx => (zu_ne (by omega)).trans (w2 x hx)) ((zu_ne (by omega)).trans w3) ((zu_ne (by omega)).trans w4) j2 (by rw [f2]; exact hn) h7
      have ec := mm_chance l1 h7 ha l7 l6
      have hnn := any_rng (a := a) l1
      refine two.l e1 (two.l e2 (two.r e3 (two.l (cc_any h7 ha l5) (two.r ec ?_))))
      have w6' : gR (C + 158) A2 r2 g U H G := g2.m (fun i j _ _ => l8 i j (by omega)) (fun _ _ => rfl) (fun _ _ => rfl)
      have nx : ∀ (yc yr : Int32) (y3 : Int64), yc = yr → two (D_X7_likes_52 C u (nI a) yc y3 (nI (k + 1)) A2 N2) (D_X8_likes_40 P v (nI a) yr y3 (nI (k + 1)) B2 NB2) (fun a b => a.1 = b.1) := fun yc yr y3 hy => ih (k + 1) v r2 A2 B2 N2 NB2 yc yr y3 (by omega) (by omega) (by omega) (fun j hj hne => (q1 j hne).trans (hr j hj hne)) w6' (fun j hj => by
          rw [l9 _ _ (by omega) (by omega) (by omega)]
          by_cases z : j = 67
          · subst z
            rw [zu_eq, q2]
          · rw [zu_ne (by omega), q1 j z]
            exact w1 j hj) (fun x hx => (l9 _ _ (by omega) (by omega) (by omega)).trans ((zu_ne (by omega)).trans (w2 x hx))) ((l9 _ _ (by omega) (by omega) (by omega)).trans ((zu_ne (by omega)).trans w3)) ((l9 _ _ (by omega) (by omega) (by omega)).trans ((zu_ne (by omega)).trans w4)) (Or.inr hy)
      refine two.ite Iff.rfl (fun q => ?_) (fun q => ?_)
      · unfold D_X7_likes_112 D_X8_likes_78
        rw [nI_add1]
        refine nx _ _ _ ?_
        rcases hx with ⟨_, z⟩ | z
        · rw [z] at q
          have h1 := Int64.le_iff_toInt_le.mp ((lg_cmp_le _ _).mp q)
          rw [show (-1 : Int64).toInt = -1 by decide] at h1
          omega
        · exact z
      · refine two.r ec ?_
        unfold D_X7_likes_112 D_X8_likes_78
        rw [nI_add1]
        exact nx _ _ _ rfl
theorem t_likes {C P : Nat} {A B : zMt} {NA NB : zNt} {v0 : Int32} (w0 : eqE C P A B) (_hJ : jJ P B) : two (D_X7_likes C v0 A NA) (D_X8_likes P v0 B NB) (fun a b => a.1 = b.1) := by
  obtain ⟨r, g, U, H, G, K, w⟩ := w0
  obtain ⟨w1, w2, w3, w4, w5, w6, w7, w8, w9⟩ := id w
  have c2 := w6.1.2.1
  unfold D_X7_likes D_X8_likes
  obtain ⟨n, B1, hn, l1, l2, l3, l4, l5, hA⟩ := t_isA (v := v0) w
  rcases hA with ⟨f1, f2, a, ha, hv⟩ | ⟨f1, f2⟩
  · subst hv
    have w' : eqS C P A B1 r g U H G K := w.k (fun _ _ _ _ => rfl) (fun i j h => l5 i j (by omega) (by omega))
    rw [zB_s f1, zB_s f2, if_neg n10, if_neg n10]
    obtain ⟨n', B2, hn', l1', l2', l3', l4', l5'⟩ := t_laid w'
    have : n' = n := hn'.trans hn.symm
    subst this
    obtain ⟨m1, m2⟩ := mm_many7 l2'.1 l1' l4'.1
    have e91 : A (C + 91) 1 = nI n' := l2.2.2.1
    rw [e91]
    by_cases h7 : n' ≤ 7
    · rw [if_pos ((nI_7i l2.1).mpr h7)]
      refine two.r (m1 h7) ?_
      rw [if_pos rfl]
      obtain ⟨B3, e3, k3⟩ := puts_all (P := P) (M := B2)
      refine two.r e3 ?_
      obtain ⟨A1, ea, g158, k6⟩ := w6.take (R := C + 158) (by omega)
      refine two.l ea ?_
      have kB : ∀ i j, ¬ (i = P ∧ j = 33) → ¬ (P + 11 ≤ i ∧ i ≤ P + 17) → ¬ i = P + 3 → B3 i j = B i j := fun i j z1 z2 z3 => (k3 i j z3).trans ((l5' i j z1 z2).trans (l5 i j z1 z2))
      have := lk_40 (P := P) hn' h7 c2 ha w5 zFu 0 zFu r A1 B3 NA NB 0 (-1) (-1) (by omega) (by unfold zFu; omega) (by unfold zFu; omega) (fun _ _ _ => rfl) g158 (fun j hj => (kB _ _ (by omega) (by omega) (by omega)).trans (w1 j hj)) (fun x hx => (kB _ _ (by omega) (by omega) (by omega)).trans (w2 x hx)) ((kB _ _ (by omega) (by omega) (by omega)).trans w3) ((kB _ _ (by omega) (by omega) (by omega)).trans w4) (Or.inl ⟨rfl, rfl⟩)
      rw [show nI 0 = (0 : Int32) by decide] at this
      exact this
    · rw [if_neg (fun z => h7 ((nI_7i l2.1).mp z))]
      refine two.r (m2 h7) ?_
      rw [if_neg n10]
      exact t_rfs3
  · rw [zB_s f1, zB_s f2, if_pos rfl, if_pos rfl]
    exact t_rfs3
