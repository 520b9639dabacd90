/-! years, often, soonest: the readings, both sides -/
theorem mm_from64 {x a b : Int64} {lo hi : Int} (ha : a.toInt = lo) (hb : b.toInt = hi) : D_X8_isFrom x a b = some (if lo ≤ x.toInt ∧ x.toInt ≤ hi then 1 else 0) := by
  obtain ⟨r, hr, q1, q2⟩ := v_X8_isFrom (v0 := x) (v1 := a) (v2 := b)
  rw [ha, hb] at q2
  rw [hr]
  have o0 : (0 : Int32).toInt = 0 := by decide
  have o1 : (1 : Int32).toInt = 1 := by decide
  by_cases q : lo ≤ x.toInt ∧ x.toInt ≤ hi
  · rw [if_pos q]
    rcases q2 with ⟨w, _⟩ | ⟨_, w⟩
    · rw [Int32.toInt_inj.mp (w.trans o1.symm)]
    · omega
  · rw [if_neg q]
    rcases q2 with ⟨_, w⟩ | ⟨w, _⟩
    · exact absurd w q
    · rw [Int32.toInt_inj.mp (w.trans o0.symm)]
theorem t_areY {v0 v1 : Int32} : (D_X7_areYears v0 v1 = some 1 ∧ D_X8_areYears v0 v1 = some 1 ∧ 0 ≤ v0.toInt ∧ ∃ Y : Nat, 1 ≤ Y ∧ Y ≤ 30 ∧ v1 = nI Y ∧ v0.toInt + Y ≤ 999999999) ∨ (D_X7_areYears v0 v1 = some 0 ∧ D_X8_areYears v0 v1 = some 0) := by
  have o9 : (999999999 : Int32).toInt = 999999999 := by decide
  have o1 : (1 : Int32).toInt = 1 := by decide
  have o30 : (30 : Int32).toInt = 30 := by decide
  unfold D_X7_areYears D_X8_areYears
  rcases t_isS (v := v0) with ⟨e1, e2, hs, hs2⟩ | ⟨e1, e2⟩
  · rw [zB_s e1, zB_s e2, if_neg n10, if_neg n10, zB_s (mm_from (v := v1) (a := (1 : Int64)) (b := (30 : Int64)) (lo := 1) (hi := 30) (by decide) (by decide))]
    by_cases q1 : v1 < 1
    · have h1 := Int32.lt_iff_toInt_lt.mp q1
      rw [o1] at h1
      rw [if_pos q1, if_neg (show ¬ (1 ≤ v1.toInt ∧ v1.toInt ≤ 30) by omega), if_pos rfl]
      exact Or.inr ⟨rfl, rfl⟩
    · have h1 := Int32.le_iff_toInt_le.mp (Int32.not_lt.mp q1)
      rw [o1] at h1
      rw [if_neg q1]
      by_cases q2 : (30 : Int32) < v1
      · have h2 := Int32.lt_iff_toInt_lt.mp q2
        rw [o30] at h2
        rw [if_pos q2, if_neg (show ¬ (1 ≤ v1.toInt ∧ v1.toInt ≤ 30) by omega), if_pos rfl]
        exact Or.inr ⟨rfl, rfl⟩
      · have h2 := Int32.le_iff_toInt_le.mp (Int32.not_lt.mp q2)
        rw [o30] at h2
        rw [if_neg q2, if_pos (show 1 ≤ v1.toInt ∧ v1.toInt ≤ 30 from ⟨h1, h2⟩), if_neg n10]
        have es : ((999999999 : Int32) - v1).toInt = 999999999 - v1.toInt := by
          rw [z_sub (by rw [o9]; omega) (by rw [o9]; omega), o9]
        have el : (Int32.toInt64 v0 + Int32.toInt64 v1).toInt = v0.toInt + v1.toInt := by
          rw [Int64.toInt_add, Int32.toInt_toInt64, Int32.toInt_toInt64, Int.bmod_def]
          omega
        rw [zB_s (mm_from64 (x := Int32.toInt64 v0 + Int32.toInt64 v1) (a := (0 : Int64)) (b := (999999999 : Int64)) (lo := 0) (hi := 999999999) (by decide) (by decide)), el]
        by_cases q3 : (999999999 : Int32) - v1 < v0
        · have h3 := Int32.lt_iff_toInt_lt.mp q3
          rw [es] at h3
          rw [if_pos q3, if_neg (show ¬ (0 ≤ v0.toInt + v1.toInt ∧ v0.toInt + v1.toInt ≤ 999999999) by omega), if_pos rfl]
          exact Or.inr ⟨rfl, rfl⟩
        · have h3 := Int32.le_iff_toInt_le.mp (Int32.not_lt.mp q3)
          rw [es] at h3
          rw [if_neg q3, if_pos (show 0 ≤ v0.toInt + v1.toInt ∧ v0.toInt + v1.toInt ≤ 999999999 by omega), if_neg n10]
          exact Or.inl ⟨rfl, rfl, hs, v1.toInt.toNat, by omega, by omega, z_toN (by omega), by omega⟩
  · rw [zB_s e1, zB_s e2, if_pos rfl, if_pos rfl]
    exact Or.inr ⟨rfl, rfl⟩
theorem takes_some {P : Nat} : ∀ (u k : Nat) (M : zMt), k ≤ 82 → 82 - k < u → ∃ r, D_X8_takesBack_2 P u (nI k) M = some r := by
  intro u
  induction u with
  | zero => intro k M _ h; omega
  | succ u ih =>
    intro k M hk hu
    rw [D_X8_takesBack_2]
    by_cases hc : 82 ≤ k
    · rw [if_pos (by exact (leL (x := 82) (a := 82) (by decide) (by decide) (by omega)).mpr hc)]
      exact ⟨M, rfl⟩
    · rw [if_neg (by intro z; exact hc ((leL (x := 82) (a := 82) (by decide) (by decide) (by omega)).mp z))]
      unfold zI
      rw [if_neg (vp_in_nI (show k < 82 by omega) (by decide)), if_neg (vp_in_nI (show k < 82 by omega) (by decide)), zLt_eq, nI_add1]
      exact ih (k + 1) _ (by omega) (by omega)
theorem takes_all {P : Nat} {M : zMt} : ∃ r, D_X8_takesBack P M = some r := by
  obtain ⟨r, h⟩ := takes_some (P := P) zFu 0 M (by omega) (by unfold zFu; omega)
  rw [show nI 0 = (0 : Int32) by decide] at h
  exact ⟨r, h⟩
/-- before the first year -/
theorem zfiI {M : zMt} {P n j : Nat} {v : Int32} (h : j < n) : zfil M P n v P j = v := if_pos ⟨rfl, h⟩
theorem zfiN {M : zMt} {P n i j : Nat} {v : Int32} (h : ¬ i = P) : zfil M P n v i j = M i j := if_neg (fun z => h z.1)
theorem t_y0 {C P U H G K : Nat} {A B : zMt} {r g : Nat → Int32} {x y : Int32} (w : eqS C P A B r g U H G K) (hJ : jJ P B) : ∃ A1 B1, D_X6_pass (C + 125) (C + 17) x y A = D_X6_pass_45 (C + 125) (C + 17) zFu x y (nI (0 + 1)) A1 ∧ D_X8_putsAside P B = some B1 ∧ yR (C + 125) P A1 B1 r g U H G ∧ A1 (C + 125) 0 = 0 ∧ A1 (C + 125) 1 = 0 ∧ (∀ j, j < 10 → A1 (C + 126) j = 0 ∧ A1 (C + 127) j = 0 ∧ A1 (C + 128) j = 0) ∧ (∀ i j, i < C + 125 → A1 i j = A i j) ∧ B1 P 8 = nI H := by
  obtain ⟨w1, w2, w3, w4, w5, w6, w7, w8, w9⟩ := w
  obtain ⟨B1, eb, kb, -⟩ := v_X8_putsAside (P := P) (M0 := B) hJ.1 hJ.2.1
  have kb' : ∀ i j, ¬ i = P + 3 → B1 i j = B i j := fun i j h => kb i j (by unfold WM_X8_putsAside; omega)
  have kz : ∀ i j, ¬ (i = C + 125 ∧ (j = 0 ∨ j = 1)) → ¬ (C + 126 ≤ i ∧ i ≤ C + 128) → zfil (zfil (zfil (zu (zu A (C + 125) 0 0) (C + 125) 1 0) (C + 125 + 1) 10 0) (C + 125 + 2) 10 0) (C + 125 + 3) 10 0 i j = A i j := fun i j h1 h2 => (zfiN (by omega)).trans ((zfiN (by omega)).trans ((zfiN (by omega)).trans ((zu_ne (by omega)).trans (zu_ne (by omega)))))
  have g17 : gR (C + 17) (zfil (zfil (zfil (zu (zu A (C + 125) 0 0) (C + 125) 1 0) (C + 125 + 1) 10 0) (C + 125 + 2) 10 0) (C + 125 + 3) 10 0) r g U H G := w6.m (fun i j _ _ => kz i j (by omega) (by omega)) (fun _ _ => rfl) (fun _ _ => rfl)
  obtain ⟨A3, ea3, g129, k6⟩ := g17.take (R := C + 125 + 4) (by omega)
  refine ⟨A3, B1, ?_, eb, ⟨fun j hj => (kb' _ _ (by omega)).trans (w1 j hj), fun h hh => (kb' _ _ (by omega)).trans (w2 h hh), (kb' _ _ (by omega)).trans w3, (kb' _ _ (by omega)).trans w4, w5, r, g129, fun _ _ => rfl⟩, ?_, ?_, fun j hj => ⟨?_, ?_, ?_⟩, fun i j h => (k6 _ _ (by omega)).trans (kz _ _ (by omega) (by omega)), (kb' _ _ (by omega)).trans w4⟩
  · unfold D_X6_pass
    rw [zLt_eq, zLt_eq, zLt_eq, zLt_eq, zLt_eq, zB_s ea3]
    rfl
  · rw [k6 _ _ (by omega), zfiN (by omega), zfiN (by omega), zfiN (by omega), zu_ne (by omega), zu_eq]
  · rw [k6 _ _ (by omega), zfiN (by omega), zfiN (by omega), zfiN (by omega), zu_eq]
  · rw [k6 _ _ (by omega), zfiN (by omega), zfiN (by omega)]
    exact zfiI hj
  · rw [k6 _ _ (by omega), zfiN (by omega)]
    exact zfiI hj
  · rw [k6 _ _ (by omega)]
    exact zfiI hj
theorem t_ysd {x : Int32} {k Y : Nat} (h0 : 0 ≤ x.toInt) (h1 : x.toInt + Y ≤ 999999999) (hk : k ≤ Y) : 0 ≤ (x + nI k).toInt := by
  rw [z_add (by rw [nI_toInt (by omega)]; omega) (by rw [nI_toInt (by omega)]; omega), nI_toInt (by omega)]
  omega
theorem p45_end {Q X Y : Nat} {x : Int32} {A : zMt} {v : Nat} (hY : Y ≤ 30) : D_X6_pass_45 Q X (v + 1) x (nI Y) (nI (Y + 1)) A = some A := by
  rw [D_X6_pass_45, if_pos (by exact (nI_ltI (by omega) (by omega)).mpr (by omega))]
/-- often -/
theorem t_of38 {Q X P U H G Y h : Nat} {g : Nat → Int32} {x : Int32} (hY : Y ≤ 30) (h0 : 0 ≤ x.toInt) (h9 : x.toInt + Y ≤ 999999999) (hh : h < H) (hH : H ≤ 10) : ∀ (m k v u : Nat) (A B : zMt) (N : zNt) (r : Nat → Int32), k + m = Y → m < v → m < u → yR Q P A B r g U H G → ∃ A' B' N', D_X6_pass_45 Q X v x (nI Y) (nI (k + 1)) A = some A' ∧ D_X8_often_38 P u x (nI Y) (nI h) (A (Q + 1) h) (nI k) B N = (zB (D_X8_takesBack P B') fun e_78 => zB (D_X8_gives P (A' (Q + 1) h) e_78) fun e_84 => some (e_84.1, e_84.2, N')) := by
  intro m
  induction m with
  | zero =>
    intro k v u A B N r hk hv hu w
    obtain ⟨v, rfl⟩ : ∃ y, v = y + 1 := ⟨v - 1, by omega⟩
    obtain ⟨u, rfl⟩ : ∃ y, u = y + 1 := ⟨u - 1, by omega⟩
    have : k = Y := by omega
    subst this
    refine ⟨A, B, N, p45_end hY, ?_⟩
    rw [D_X8_often_38, if_pos (by exact (nI_leI (by omega) (by omega)).mpr (Nat.le_refl k))]
  | succ m ih =>
    intro k v u A B N r hk hv hu w
    obtain ⟨v, rfl⟩ : ∃ y, v = y + 1 := ⟨v - 1, by omega⟩
    obtain ⟨u, rfl⟩ : ∃ y, u = y + 1 := ⟨u - 1, by omega⟩
    obtain ⟨A1, b, T, s, n, e1, e2, l2, l3, hm, hM, ok, w', a0, a1, a2, k1, k2⟩ := t_yrs (X := X) (N := N) (x := x) (v := v) w (t_ysd h0 h9 (show k ≤ Y by omega)) (show k < Y by omega) hY
    obtain ⟨A', B', N', f1, f2⟩ := ih (k + 1) v u A1 b.1 b.2 _ (by omega) (by omega) (by omega) w'
    refine ⟨A', B', N', e1.trans f1, ?_⟩
    rw [← f2, D_X8_often_38, if_neg (by intro z; exact absurd ((nI_leI (by omega) (by omega)).mp z) (by omega)), zB_s e2, zB_s (mm_unitNow l2.1 hm hM l3 hH hh), (a1 h hh).2.1]
    unfold nO D_X8_often_68
    rw [nI_add1]
    by_cases q : s 0 (aOf T h) = -1
    · rw [if_pos q, if_pos q, Int32.add_zero]
    · rw [if_neg q, if_neg q]
theorem t_often {C P : Nat} {A B : zMt} {N : zNt} {v0 v1 v2 : Int32} (w0 : eqE C P A B) (hJ : jJ P B) : two (D_X7_often C v0 v1 v2 A) (D_X8_often P v0 v1 v2 B N) (fun a b => a.1 = b.1) := by
  obtain ⟨r, g, U, H, G, K, w⟩ := w0
  have c2 := w.2.2.2.2.2.1.1.2.1
  unfold D_X7_often D_X8_often
  rcases t_areY (v0 := v0) (v1 := v1) with ⟨e1, e2, hs, Y, Y1, Y30, hY, hs9⟩ | ⟨e1, e2⟩
  · subst hY
    rw [zB_s e1, zB_s e2, if_neg n10, if_neg n10]
    rcases t_isH (v := v2) w with ⟨f1, f2, h, hh, hv⟩ | ⟨f1, f2⟩
    · subst hv
      obtain ⟨A1, B1, p1, p2, w', z0, z1, zr, -, -⟩ := t_y0 (x := v0) (y := nI Y) w hJ
      obtain ⟨A', B', N', q1, q2⟩ := t_of38 (X := C + 17) (x := v0) Y30 hs hs9 hh c2 Y 0 zFu zFu A1 B1 N r (by omega) (by unfold zFu; omega) (by unfold zFu; omega) w'
      rw [show A1 (C + 125 + 1) h = 0 from (zr h (by omega)).1, show nI 0 = (0 : Int32) by decide] at q2
      rw [zB_s f1, zB_s f2, if_neg n10, if_neg n10]
      refine two.l (p1.trans q1) (two.r p2 ?_)
      rw [zrd_nI (show h < 10 by omega) (by decide), q2]
      obtain ⟨B2, eb2⟩ := takes_all (P := P) (M := B')
      exact two.r eb2 (t_ansN rfl)
    · rw [zB_s f1, zB_s f2, if_pos rfl, if_pos rfl]
      exact t_rfsN
  · rw [zB_s e1, zB_s e2, if_pos rfl, if_pos rfl]
    exact t_rfsN
/-- soonest -/
theorem t_pass {Q X P U H G Y : Nat} {g : Nat → Int32} {x : Int32} (hY : Y ≤ 30) (h0 : 0 ≤ x.toInt) (h9 : x.toInt + Y ≤ 999999999) : ∀ (m k v : Nat) (A B : zMt) (N : zNt) (r : Nat → Int32), k + m = Y → m < v → yR Q P A B r g U H G → ∃ A', D_X6_pass_45 Q X v x (nI Y) (nI (k + 1)) A = some A' ∧ (∀ h, h < H → ¬ A (Q + 2) h = 0 → A' (Q + 2) h = A (Q + 2) h) := by
  intro m
  induction m with
  | zero =>
    intro k v A B N r hk hv w
    obtain ⟨v, rfl⟩ : ∃ y, v = y + 1 := ⟨v - 1, by omega⟩
    have : k = Y := by omega
    subst this
    exact ⟨A, p45_end hY, fun _ _ _ => rfl⟩
  | succ m ih =>
    intro k v A B N r hk hv w
    obtain ⟨v, rfl⟩ : ∃ y, v = y + 1 := ⟨v - 1, by omega⟩
    obtain ⟨A1, b, T, s, n, e1, e2, l2, l3, hm, hM, ok, w', a0, a1, a2, k1, k2⟩ := t_yrs (X := X) (N := N) (x := x) (v := v) w (t_ysd h0 h9 (show k ≤ Y by omega)) (show k < Y by omega) hY
    obtain ⟨A', f1, f2⟩ := ih (k + 1) v A1 b.1 b.2 _ (by omega) (by omega) w'
    refine ⟨A', e1.trans f1, fun h hh hne => ?_⟩
    have e : A1 (Q + 2) h = A (Q + 2) h := by
      rw [(a1 h hh).2.2]
      unfold nS
      by_cases q : s 0 (aOf T h) = -1
      · rw [if_pos q]
      · rw [if_neg q]
        by_cases q1 : s 0 (aOf T h) = T 12 (3 * aOf T h)
        · rw [if_pos q1, if_neg hne]
        · rw [if_neg q1]
    rw [f2 h hh (by rw [e]; exact hne), e]
theorem mm_so61 {P n U H h : Nat} {B T s : zMt} {N : zNt} {x y z : Int32} {k38 : Int32 → Int32 → Int32 → Int32 → Int32 → zMt → zNt → Option (Int32 × zMt × zNt)} (hg : gP T n U) (hm : mP P B T n U) (hs : rM P B s n U) (hh : gH T n H) (hH : H ≤ 10) (hhH : h < H) : D_X8_soonest_61 P k38 zFu x y (nI h) z (0 : Int32) B N = (if (if s 0 (aOf T h) = -1 then (0 : Int32) else if s 0 (aOf T h) = T 12 (3 * aOf T h) then 1 else 0) = 0 then D_X8_soonest_98 P k38 x y (nI h) z (-1 : Int32) B N else D_X8_soonest_98 P k38 x y (nI h) z (z + (1 : Int32)) B N) := by
  have hn := hg.1
  obtain ⟨ha, _, hb⟩ := hh h hhH
  generalize aOf T h = a at ha hb
  have go : ∀ (c u x' : Nat), x' + c = a → c < u → D_X8_soonest_61 P k38 u x y (nI h) z (nI x') B N = (if (if s 0 a = -1 then (0 : Int32) else if s 0 a = T 12 (3 * a) then 1 else 0) = 0 then D_X8_soonest_98 P k38 x y (nI h) z (-1 : Int32) B N else D_X8_soonest_98 P k38 x y (nI h) z (z + (1 : Int32)) B N) := by
    intro c
    induction c with
    | zero =>
      intro u x' hx hu
      obtain ⟨u, rfl⟩ : ∃ y, u = y + 1 := ⟨u - 1, by omega⟩
      have : x' = a := by omega
      subst this
      rw [D_X8_soonest_61]
      unfold zI
      rw [if_neg (vp_in_nI (show x' < 10 by omega) (by decide)), nI_clamp (by omega), (hm.2.2.1 x' ha).1, zB_s (mm_has1 ((hb x' ha).mpr rfl)), if_neg n10, zB_s (mm_hasFirst hg hm hs ha)]
    | succ c ih =>
      intro u x' hx hu
      obtain ⟨u, rfl⟩ : ∃ y, u = y + 1 := ⟨u - 1, by omega⟩
      rw [D_X8_soonest_61]
      unfold zI
      rw [if_neg (vp_in_nI (show x' < 10 by omega) (by decide)), nI_clamp (by omega), (hm.2.2.1 x' (by omega)).1, zB_s (mm_has0 (fun z => by have := (hb x' (by omega)).mp z; omega)), if_pos rfl, nI_add1]
      exact ih u (x' + 1) (by omega) (by omega)
  have := go a zFu 0 (by omega) (by unfold zFu; omega)
  rw [show nI 0 = (0 : Int32) by decide] at this
  exact this
theorem so_stop {P : Nat} {u : Nat} {x y h c k : Int32} {B : zMt} {N : zNt} (hc : ¬ c = -1) : D_X8_soonest_38 P (u + 1) x y h c k B N = D_X8_soonest_106 P c B N := by
  rw [D_X8_soonest_38]
  by_cases q : y ≤ k
  · rw [if_pos q]
  · rw [if_neg q, if_neg hc]
theorem t_so38 {Q X P U H G Y h : Nat} {g : Nat → Int32} {x : Int32} (hY : Y ≤ 30) (h0 : 0 ≤ x.toInt) (h9 : x.toInt + Y ≤ 999999999) (hh : h < H) (hH : H ≤ 10) : ∀ (m k v u : Nat) (A B : zMt) (N : zNt) (r : Nat → Int32), k + m = Y → m < v → m + 1 < u → yR Q P A B r g U H G → A (Q + 2) h = 0 → ∃ A' B' N', D_X6_pass_45 Q X v x (nI Y) (nI (k + 1)) A = some A' ∧ ((A' (Q + 2) h = 0 ∧ D_X8_soonest_38 P u x (nI Y) (nI h) (-1 : Int32) (nI k) B N = D_X8_soonest_106 P (-1 : Int32) B' N') ∨ (∃ c, 0 < c ∧ c ≤ Y ∧ A' (Q + 2) h = nI c ∧ D_X8_soonest_38 P u x (nI Y) (nI h) (-1 : Int32) (nI k) B N = D_X8_soonest_106 P (nI c) B' N')) := by
  intro m
  induction m with
  | zero =>
    intro k v u A B N r hk hv hu w hA
    obtain ⟨v, rfl⟩ : ∃ y, v = y + 1 := ⟨v - 1, by omega⟩
    obtain ⟨u, rfl⟩ : ∃ y, u = y + 1 := ⟨u - 1, by omega⟩
    have : k = Y := by omega
    subst this
    refine ⟨A, B, N, p45_end hY, Or.inl ⟨hA, ?_⟩⟩
    rw [D_X8_soonest_38, if_pos (by exact (nI_leI (by omega) (by omega)).mpr (Nat.le_refl k))]
  | succ m ih =>
    intro k v u A B N r hk hv hu w hA
    obtain ⟨v, rfl⟩ : ∃ y, v = y + 1 := ⟨v - 1, by omega⟩
    obtain ⟨u, rfl⟩ : ∃ y, u = y + 1 + 1 := ⟨u - 2, by omega⟩
    obtain ⟨A1, b, T, s, n, e1, e2, l2, l3, hm, hM, ok, w', a0, a1, a2, k1, k2⟩ := t_yrs (X := X) (N := N) (x := x) (v := v) w (t_ysd h0 h9 (show k ≤ Y by omega)) (show k < Y by omega) hY
    have em : D_X8_soonest_38 P (u + 1 + 1) x (nI Y) (nI h) (-1 : Int32) (nI k) B N = (if (if s 0 (aOf T h) = -1 then (0 : Int32) else if s 0 (aOf T h) = T 12 (3 * aOf T h) then 1 else 0) = 0 then D_X8_soonest_98 P (D_X8_soonest_38 P (u + 1)) x (nI Y) (nI h) (nI k) (-1 : Int32) b.1 b.2 else D_X8_soonest_98 P (D_X8_soonest_38 P (u + 1)) x (nI Y) (nI h) (nI k) (nI k + (1 : Int32)) b.1 b.2) := by
      conv => lhs; rw [D_X8_soonest_38]
      rw [if_neg (by intro z; exact absurd ((nI_leI (by omega) (by omega)).mp z) (by omega)), if_pos rfl, zB_s e2]
      exact mm_so61 l2 hm hM l3 hH hh
    unfold D_X8_soonest_98 at em
    rw [nI_add1] at em
    have eS := (a1 h hh).2.2
    rw [hA] at eS
    unfold nS at eS
    have no : A1 (Q + 2) h = 0 → D_X8_soonest_38 P (u + 1 + 1) x (nI Y) (nI h) (-1 : Int32) (nI k) B N = D_X8_soonest_38 P (u + 1) x (nI Y) (nI h) (-1 : Int32) (nI (k + 1)) b.1 b.2 → ∃ A' B' N', D_X6_pass_45 Q X (v + 1) x (nI Y) (nI (k + 1)) A = some A' ∧ ((A' (Q + 2) h = 0 ∧ D_X8_soonest_38 P (u + 1 + 1) x (nI Y) (nI h) (-1 : Int32) (nI k) B N = D_X8_soonest_106 P (-1 : Int32) B' N') ∨ (∃ c, 0 < c ∧ c ≤ Y ∧ A' (Q + 2) h = nI c ∧ D_X8_soonest_38 P (u + 1 + 1) x (nI Y) (nI h) (-1 : Int32) (nI k) B N = D_X8_soonest_106 P (nI c) B' N')) := fun y1 y2 => by
      obtain ⟨A', B', N', f1, f2⟩ := ih (k + 1) v (u + 1) A1 b.1 b.2 _ (by omega) (by omega) (by omega) w' y1
      rw [y2]
      exact ⟨A', B', N', e1.trans f1, f2⟩
    by_cases q : s 0 (aOf T h) = -1
    · rw [if_pos q] at eS em
      rw [if_pos rfl] at em
      exact no eS em
    · rw [if_neg q] at eS em
      by_cases q1 : s 0 (aOf T h) = T 12 (3 * aOf T h)
      · rw [if_pos q1, if_pos rfl] at eS
        rw [if_pos q1, if_neg n10] at em
        have hc1 : ¬ nI (k + 1) = -1 := nI_ne (by omega)
        have hc0 : ¬ A1 (Q + 2) h = 0 := by
          rw [eS]
          exact fun z => absurd (nI_inj (b := 0) (by omega) (by omega) (z.trans (by decide))) (by omega)
        obtain ⟨A', f1, f2⟩ := t_pass (X := X) hY h0 h9 m (k + 1) v A1 b.1 b.2 _ (by omega) (by omega) w'
        exact ⟨A', b.1, b.2, e1.trans f1, Or.inr ⟨k + 1, by omega, by omega, (f2 h hh hc0).trans eS, em.trans (so_stop hc1)⟩⟩
      · rw [if_neg q1] at eS em
        rw [if_pos rfl] at em
        exact no eS em
theorem t_soonest {C P : Nat} {A B : zMt} {N : zNt} {v0 v1 v2 : Int32} (w0 : eqE C P A B) (hJ : jJ P B) : two (D_X7_soonest C v0 v1 v2 A) (D_X8_soonest P v0 v1 v2 B N) (fun a b => a.1 = b.1) := by
  obtain ⟨r, g, U, H, G, K, w⟩ := w0
  have c2 := w.2.2.2.2.2.1.1.2.1
  unfold D_X7_soonest D_X8_soonest
  rcases t_areY (v0 := v0) (v1 := v1) with ⟨e1, e2, hs, Y, Y1, Y30, hY, hs9⟩ | ⟨e1, e2⟩
  · subst hY
    rw [zB_s e1, zB_s e2, if_neg n10, if_neg n10]
    rcases t_isH (v := v2) w with ⟨f1, f2, h, hh, hv⟩ | ⟨f1, f2⟩
    · subst hv
      obtain ⟨A1, B1, p1, p2, w', z0, z1, zr, -, -⟩ := t_y0 (x := v0) (y := nI Y) w hJ
      obtain ⟨A', B', N', q1, q2⟩ := t_so38 (X := C + 17) (x := v0) Y30 hs hs9 hh c2 Y 0 zFu zFu A1 B1 N r (by omega) (by unfold zFu; omega) (by unfold zFu; omega) w' (zr h (by omega)).2.1
      rw [show nI 0 = (0 : Int32) by decide] at q2
      rw [zB_s f1, zB_s f2, if_neg n10, if_neg n10]
      refine two.l (p1.trans q1) (two.r p2 ?_)
      rw [zrd_nI (show h < 10 by omega) (by decide)]
      obtain ⟨B2, eb2⟩ := takes_all (P := P) (M := B')
      rcases q2 with ⟨y1, y2⟩ | ⟨c, c0, cY, y1, y2⟩
      · rw [y2, if_pos (show A' (C + 127) h = 0 from y1)]
        unfold D_X8_soonest_106
        refine two.r eb2 ?_
        rw [if_pos rfl]
        exact t_rfsN
      · rw [y2, show A' (C + 127) h = nI c from y1, if_neg (fun z => absurd (nI_inj (b := 0) (by omega) (by omega) (z.trans (by decide))) (by omega))]
        unfold D_X8_soonest_106
        refine two.r eb2 ?_
        rw [if_neg (nI_ne (by omega))]
        exact t_ansN rfl
    · rw [zB_s f1, zB_s f2, if_pos rfl, if_pos rfl]
      exact t_rfsN
  · rw [zB_s e1, zB_s e2, if_pos rfl, if_pos rfl]
    exact t_rfsN
