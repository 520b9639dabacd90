/-! the odds: given, both sides -/
def cS (r : Nat → Int32) (H m : Nat) : Nat → Nat
  | 0 => 0
  | a + 1 => cS r H m a + cnt r H a m
def mS (r : Nat → Int32) (H h : Nat) : Nat → Nat
  | 0 => 0
  | a + 1 => mS r H h a + (if memb r H a h then 1 else 0)
theorem mS_le {r : Nat → Int32} {H h : Nat} : ∀ n, n ≤ fr r H + 4 → mS r H h n = 0 ∨ (mS r H h n = 1 ∧ ∃ a, a < n ∧ memb r H a h)
  | 0, _ => Or.inl rfl
  | n + 1, hn => by
    have e : mS r H h (n + 1) = mS r H h n + (if memb r H n h then 1 else 0) := rfl
    rcases mS_le (r := r) (H := H) (h := h) n (by omega) with z | ⟨z, a, h1, h2⟩
    · by_cases q : memb r H n h
      · exact Or.inr ⟨by rw [e, z, if_pos q], n, by omega, q⟩
      · exact Or.inl (by rw [e, z, if_neg q])
    · by_cases q : memb r H n h
      · have := memb_one h2 q (by omega) (by omega)
        omega
      · exact Or.inr ⟨by rw [e, z, if_neg q], a, by omega, h2⟩
theorem cS_s {r : Nat → Int32} {H m : Nat} : ∀ n, cS r H (m + 1) n = cS r H m n + mS r H m n
  | 0 => rfl
  | n + 1 => by
    show cS r H (m + 1) n + (if memb r H n m then cnt r H n m + 1 else cnt r H n m) = cS r H m n + cnt r H n m + (mS r H m n + (if memb r H n m then 1 else 0))
    rw [cS_s n]
    by_cases q : memb r H n m
    · rw [if_pos q, if_pos q]; omega
    · rw [if_neg q, if_neg q]; omega
theorem cS_0 {r : Nat → Int32} {H : Nat} : ∀ n, cS r H 0 n = 0
  | 0 => rfl
  | n + 1 => by
    show cS r H 0 n + 0 = 0
    rw [cS_0 n]
theorem cS_le {r : Nat → Int32} {H n : Nat} (hn : n ≤ fr r H + 4) : ∀ m, cS r H m n ≤ m
  | 0 => by rw [cS_0 n]; omega
  | m + 1 => by
    have h1 := cS_le (r := r) (H := H) hn m
    rw [cS_s n]
    rcases mS_le (r := r) (H := H) (h := m) n hn with z | ⟨z, _⟩
    · omega
    · omega
theorem tg_rng {T s : zMt} {r : Nat → Int32} {H : Nat} : ∀ n, cS r H H n ≤ 10 → (∀ a, a < n → T 5 a = nI (cnt r H a H)) → ∃ v, v ≤ cS r H H n ∧ tg T s n = nI v
  | 0, _, _ => ⟨0, Nat.le_refl 0, show (0 : Int32) = nI 0 by decide⟩
  | n + 1, hle, h => by
    have e : cS r H H (n + 1) = cS r H H n + cnt r H n H := rfl
    obtain ⟨v, v1, v2⟩ := tg_rng (T := T) (s := s) n (by omega) (fun a ha => h a (by omega))
    show ∃ w, w ≤ cS r H H (n + 1) ∧ tg T s n + (if s 0 n = -1 then 0 else T 5 n) = nI w
    rw [v2]
    by_cases q : s 0 n = -1
    · rw [if_pos q, Int32.add_zero]
      exact ⟨v, by omega, rfl⟩
    · rw [if_neg q, h n (by omega), nI_addk (by omega)]
      exact ⟨v + cnt r H n H, by omega, rfl⟩
def tgS (T : zMt) (S : Nat) : Nat → Int32
  | 0 => 0
  | a + 1 => tgS T S a + (if ((nI S >>> (nI a &&& 31)) &&& 1) = 1 then T 5 a else 0)
theorem cc_tagsOf {Ap n U S : Nat} {A T : zMt} (hg : gP T n U) (hT : ∀ i j, i < 13 → A (Ap + i) j = T i j) : D_X0_tagsOf Ap A (nI S) = some (tgS T S n) := by
  have g1 := hg.1
  have e1 : A Ap 1 = nI n := (hT 0 1 (by omega)).trans hg.2.2.1
  have go : ∀ (v k : Nat), k ≤ n → n - k < v → D_X0_tagsOf_4 Ap A v (nI S) (tgS T S k) (nI k) = some (tgS T S n) := by
    intro v
    induction v with
    | zero => intro k _ h; omega
    | succ v ih =>
      intro k hk hv
      rw [D_X0_tagsOf_4, e1]
      by_cases hc : n ≤ k
      · rw [if_pos (by exact (nI_leI (by omega) (by omega)).mpr hc), show k = n by omega]
      · rw [if_neg (by intro z; exact hc ((nI_leI (by omega) (by omega)).mp z)), zrd_nI (show k < 10 by omega) (by decide), hT 5 k (by omega)]
        have := ih (k + 1) (by omega) (by omega)
        rw [← nI_add1] at this
        have e : tgS T S (k + 1) = tgS T S k + (if ((nI S >>> (nI k &&& 31)) &&& 1) = 1 then T 5 k else 0) := rfl
        rw [e] at this
        by_cases q : ((nI S >>> (nI k &&& 31)) &&& 1) = 1
        · rw [if_pos q]
          rw [if_pos q] at this
          exact this
        · rw [if_neg q]
          rw [if_neg q] at this
          exact this
  have := go zFu 0 (by omega) (by unfold zFu; omega)
  rw [show nI 0 = (0 : Int32) by decide] at this
  exact this
theorem tgS_hv {T s : zMt} {n : Nat} (hn : n ≤ 7) : ∀ k, k ≤ n → tgS T (hvN s n) k = tg T s k
  | 0, _ => rfl
  | k + 1, hk => by
    show tgS T (hvN s n) k + (if ((nI (hvN s n) >>> (nI k &&& 31)) &&& 1) = 1 then T 5 k else 0) = tg T s k + (if s 0 k = -1 then 0 else T 5 k)
    rw [tgS_hv hn k (by omega)]
    have e : ((nI (hvN s n) >>> (nI k &&& 31)) &&& 1) = 1 ↔ k < n ∧ ¬ s 0 k = -1 := (show bitAt (nI (hvN s n)) k ↔ _ from bitAt_iff (by omega)).trans (hvN_bit n (by omega) k (by omega))
    by_cases q : s 0 k = -1
    · rw [if_pos q, if_neg (fun z => (e.mp z).2 q)]
    · rw [if_neg q, if_pos (e.mpr ⟨by omega, q⟩)]
def fwS (f g : Nat → Int32) : Nat → Int32
  | 0 => 10
  | S + 1 => if f S = 1 then (if g S < fwS f g S then g S else fwS f g S) else fwS f g S
def mwS (f g : Nat → Int32) : Nat → Int32
  | 0 => 0
  | S + 1 => if f S = 1 then (if mwS f g S < g S then g S else mwS f g S) else mwS f g S
theorem i_lo {x y : Int32} : (if x < y then x else y) ≤ x ∧ (if x < y then x else y) ≤ y ∧ ((if x < y then x else y) = x ∨ (if x < y then x else y) = y) := by
  by_cases q : x < y
  · rw [if_pos q]
    exact ⟨Int32.le_refl x, Int32.le_iff_toInt_le.mpr (by have := Int32.lt_iff_toInt_lt.mp q; omega), Or.inl rfl⟩
  · rw [if_neg q]
    exact ⟨Int32.not_lt.mp q, Int32.le_refl y, Or.inr rfl⟩
theorem i_hi {x y : Int32} : x ≤ (if y < x then x else y) ∧ y ≤ (if y < x then x else y) ∧ ((if y < x then x else y) = x ∨ (if y < x then x else y) = y) := by
  by_cases q : y < x
  · rw [if_pos q]
    exact ⟨Int32.le_refl x, Int32.le_iff_toInt_le.mpr (by have := Int32.lt_iff_toInt_lt.mp q; omega), Or.inl rfl⟩
  · rw [if_neg q]
    exact ⟨Int32.not_lt.mp q, Int32.le_refl y, Or.inr rfl⟩
theorem fw_spec {f g : Nat → Int32} : ∀ K, fwS f g K ≤ 10 ∧ (∀ S, S < K → f S = 1 → fwS f g K ≤ g S) ∧ (fwS f g K = 10 ∨ ∃ S, S < K ∧ f S = 1 ∧ fwS f g K = g S)
  | 0 => ⟨Int32.le_refl 10, fun S hS => by omega, Or.inl rfl⟩
  | K + 1 => by
    obtain ⟨h1, h2, h3⟩ := fw_spec (f := f) (g := g) K
    by_cases q : f K = 1
    · rw [show fwS f g (K + 1) = (if g K < fwS f g K then g K else fwS f g K) from if_pos q]
      obtain ⟨l1, l2, l3⟩ := i_lo (x := g K) (y := fwS f g K)
      refine ⟨Int32.le_trans l2 h1, fun S hS hf => ?_, ?_⟩
      · by_cases z : S = K
        · subst z; exact l1
        · exact Int32.le_trans l2 (h2 S (by omega) hf)
      · rcases l3 with z | z
        · exact Or.inr ⟨K, by omega, q, z⟩
        · rw [z]
          rcases h3 with y | ⟨S, y1, y2, y3⟩
          · exact Or.inl y
          · exact Or.inr ⟨S, by omega, y2, y3⟩
    · rw [show fwS f g (K + 1) = fwS f g K from if_neg q]
      refine ⟨h1, fun S hS hf => ?_, ?_⟩
      · by_cases z : S = K
        · subst z; exact absurd hf q
        · exact h2 S (by omega) hf
      · rcases h3 with y | ⟨S, y1, y2, y3⟩
        · exact Or.inl y
        · exact Or.inr ⟨S, by omega, y2, y3⟩
theorem mw_spec {f g : Nat → Int32} : ∀ K, 0 ≤ mwS f g K ∧ (∀ S, S < K → f S = 1 → g S ≤ mwS f g K) ∧ (mwS f g K = 0 ∨ ∃ S, S < K ∧ f S = 1 ∧ mwS f g K = g S)
  | 0 => ⟨Int32.le_refl 0, fun S hS => by omega, Or.inl rfl⟩
  | K + 1 => by
    obtain ⟨h1, h2, h3⟩ := mw_spec (f := f) (g := g) K
    by_cases q : f K = 1
    · rw [show mwS f g (K + 1) = (if mwS f g K < g K then g K else mwS f g K) from if_pos q]
      obtain ⟨l1, l2, l3⟩ := i_hi (x := g K) (y := mwS f g K)
      refine ⟨Int32.le_trans h1 l2, fun S hS hf => ?_, ?_⟩
      · by_cases z : S = K
        · subst z; exact l1
        · exact Int32.le_trans (h2 S (by omega) hf) l2
      · rcases l3 with z | z
        · exact Or.inr ⟨K, by omega, q, z⟩
        · rw [z]
          rcases h3 with y | ⟨S, y1, y2, y3⟩
          · exact Or.inl y
          · exact Or.inr ⟨S, by omega, y2, y3⟩
    · rw [show mwS f g (K + 1) = mwS f g K from if_neg q]
      refine ⟨h1, fun S hS hf => ?_, ?_⟩
      · by_cases z : S = K
        · subst z; exact absurd hf q
        · exact h2 S (by omega) hf
      · rcases h3 with y | ⟨S, y1, y2, y3⟩
        · exact Or.inl y
        · exact Or.inr ⟨S, by omega, y2, y3⟩
theorem fl_spec {v : lY → Int32} : ∀ (L : List lY) (c : Int32), L.foldl (fun c y => if v y < c then v y else c) c ≤ c ∧ (∀ y, y ∈ L → L.foldl (fun c y => if v y < c then v y else c) c ≤ v y) ∧ (L.foldl (fun c y => if v y < c then v y else c) c = c ∨ ∃ y, y ∈ L ∧ L.foldl (fun c y => if v y < c then v y else c) c = v y)
  | [], c => ⟨Int32.le_refl c, fun y hy => absurd hy List.not_mem_nil, Or.inl rfl⟩
  | y :: L, c => by
    obtain ⟨h1, h2, h3⟩ := fl_spec (v := v) L (if v y < c then v y else c)
    obtain ⟨l1, l2, l3⟩ := i_lo (x := v y) (y := c)
    refine ⟨Int32.le_trans h1 l2, fun w hw => ?_, ?_⟩
    · rcases List.mem_cons.mp hw with q | q
      · subst q; exact Int32.le_trans h1 l1
      · exact h2 w q
    · rcases h3 with z | ⟨w, w1, w2⟩
      · rcases l3 with p | p
        · exact Or.inr ⟨y, List.mem_cons_self, z.trans p⟩
        · exact Or.inl (z.trans p)
      · exact Or.inr ⟨w, List.mem_cons_of_mem y w1, w2⟩
theorem fm_spec {v : lY → Int32} : ∀ (L : List lY) (c : Int32), c ≤ L.foldl (fun c y => if c < v y then v y else c) c ∧ (∀ y, y ∈ L → v y ≤ L.foldl (fun c y => if c < v y then v y else c) c) ∧ (L.foldl (fun c y => if c < v y then v y else c) c = c ∨ ∃ y, y ∈ L ∧ L.foldl (fun c y => if c < v y then v y else c) c = v y)
  | [], c => ⟨Int32.le_refl c, fun y hy => absurd hy List.not_mem_nil, Or.inl rfl⟩
  | y :: L, c => by
    obtain ⟨h1, h2, h3⟩ := fm_spec (v := v) L (if c < v y then v y else c)
    obtain ⟨l1, l2, l3⟩ := i_hi (x := v y) (y := c)
    refine ⟨Int32.le_trans l2 h1, fun w hw => ?_, ?_⟩
    · rcases List.mem_cons.mp hw with q | q
      · subst q; exact Int32.le_trans l1 h1
      · exact h2 w q
    · rcases h3 with z | ⟨w, w1, w2⟩
      · rcases l3 with p | p
        · exact Or.inr ⟨y, List.mem_cons_self, z.trans p⟩
        · exact Or.inl (z.trans p)
      · exact Or.inr ⟨w, List.mem_cons_of_mem y w1, w2⟩
theorem cc_few {Q Ap n U : Nat} {A T : zMt} (hg : gP T n U) (hT : ∀ i j, i < 13 → A (Ap + i) j = T i j) : D_X0_fewestTags Q Ap A = some (fwS (A (Q + 2)) (fun S => tgS T S n) 128) := by
  have go : ∀ (v k : Nat), k ≤ 128 → 128 - k < v → D_X0_fewestTags_5 Q Ap A v (fwS (A (Q + 2)) (fun S => tgS T S n) k) (nI k) = some (fwS (A (Q + 2)) (fun S => tgS T S n) 128) := by
    intro v
    induction v with
    | zero => intro k _ h; omega
    | succ v ih =>
      intro k hk hv
      rw [D_X0_fewestTags_5]
      by_cases hc : 128 ≤ k
      · rw [if_pos (by exact (leL (x := 128) (a := 128) (by decide) (by decide) (by omega)).mpr hc), show k = 128 by omega]
      · rw [if_neg (by intro z; exact hc ((leL (x := 128) (a := 128) (by decide) (by decide) (by omega)).mp z)), zrd_nI (show k < 128 by omega) (by decide)]
        have := ih (k + 1) (by omega) (by omega)
        rw [← nI_add1] at this
        by_cases q : A (Q + 2) k = 1
        · rw [if_pos q, zB_s (cc_tagsOf hg hT)]
          rw [show fwS (A (Q + 2)) (fun S => tgS T S n) (k + 1) = (if tgS T k n < fwS (A (Q + 2)) (fun S => tgS T S n) k then tgS T k n else fwS (A (Q + 2)) (fun S => tgS T S n) k) from if_pos q] at this
          exact this
        · rw [if_neg q]
          rw [show fwS (A (Q + 2)) (fun S => tgS T S n) (k + 1) = fwS (A (Q + 2)) (fun S => tgS T S n) k from if_neg q] at this
          exact this
  have := go zFu 0 (by omega) (by unfold zFu; omega)
  rw [show nI 0 = (0 : Int32) by decide] at this
  exact this
theorem cc_most {Q Ap n U : Nat} {A T : zMt} (hg : gP T n U) (hT : ∀ i j, i < 13 → A (Ap + i) j = T i j) : D_X0_mostTags Q Ap A = some (mwS (A (Q + 2)) (fun S => tgS T S n) 128) := by
  have go : ∀ (v k : Nat), k ≤ 128 → 128 - k < v → D_X0_mostTags_4 Q Ap A v (mwS (A (Q + 2)) (fun S => tgS T S n) k) (nI k) = some (mwS (A (Q + 2)) (fun S => tgS T S n) 128) := by
    intro v
    induction v with
    | zero => intro k _ h; omega
    | succ v ih =>
      intro k hk hv
      rw [D_X0_mostTags_4]
      by_cases hc : 128 ≤ k
      · rw [if_pos (by exact (leL (x := 128) (a := 128) (by decide) (by decide) (by omega)).mpr hc), show k = 128 by omega]
      · rw [if_neg (by intro z; exact hc ((leL (x := 128) (a := 128) (by decide) (by decide) (by omega)).mp z)), zrd_nI (show k < 128 by omega) (by decide)]
        have := ih (k + 1) (by omega) (by omega)
        rw [← nI_add1] at this
        by_cases q : A (Q + 2) k = 1
        · rw [if_pos q, zB_s (cc_tagsOf hg hT)]
          rw [show mwS (A (Q + 2)) (fun S => tgS T S n) (k + 1) = (if mwS (A (Q + 2)) (fun S => tgS T S n) k < tgS T k n then tgS T k n else mwS (A (Q + 2)) (fun S => tgS T S n) k) from if_pos q] at this
          exact this
        · rw [if_neg q]
          rw [show mwS (A (Q + 2)) (fun S => tgS T S n) (k + 1) = mwS (A (Q + 2)) (fun S => tgS T S n) k from if_neg q] at this
          exact this
  have := go zFu 0 (by omega) (by unfold zFu; omega)
  rw [show nI 0 = (0 : Int32) by decide] at this
  exact this
theorem t_given {C P : Nat} {A B : zMt} {NA NB : zNt} {v0 : Int32} (w0 : eqE C P A B) (hD : oD C A NA) (_hJ : jJ P B) : two (D_X7_given C v0 A NA) (D_X8_given P v0 B NB) (fun a b => a.1 = b.1 ∧ oD C a.2.1 a.2.2) := by
  obtain ⟨r, g, U, H, G, K, w⟩ := w0
  have c2 := w.2.2.2.2.2.1.1.2.1
  have c3 := w.2.2.2.2.2.1.1.2.2.1
  have w8 := w.2.2.2.2.2.2.2.1
  unfold D_X7_given D_X8_given
  rcases t_rng (v := v0) (x := 1) (y := 1) (by decide) with ⟨g1, g2, g3, g4, g5⟩ | ⟨gn, g5⟩
  · rw [if_neg g1, if_pos g2, zB_s g5, if_neg n10]
    obtain ⟨n, B2, hn, hn10, e91, hO⟩ := t_odds (NB := NB) w hD
    rw [e91]
    rcases hO with ⟨h7, m1, A', N', T, B', N2, p1, p2, p3, p4, p5, p6, p7, p8, p9, p10⟩ | ⟨h7, m1⟩
    · rw [if_pos ((nI_7i hn10).mpr h7)]
      refine two.l p1 (two.r m1 ?_)
      rw [if_pos rfl]
      refine two.r p2 ?_
      have hT5 : ∀ a, a < n → T 5 a = nI (cnt r H a H) := fun a ha => by
        rw [← p3 5 a (by omega), p10 _ _ (by omega) (by omega), show A (C + 91 + 5) a = sN r H a from (w8.2.2 a (by omega)).2.2.2.1]
        exact sm_one H
      have hsum := cS_le (r := r) (H := H) (n := n) (by omega) H
      have hv : ∀ y : lY, ∃ v, v ≤ 10 ∧ tg T (rs T 10 U n y.1) n = nI v := fun y => by
        obtain ⟨v, v1, v2⟩ := tg_rng (T := T) (s := rs T 10 U n y.1) n (by omega) hT5
        exact ⟨v, by omega, v2⟩
      have hh : ∀ y : lY, hvN (rs T 10 U n y.1) n < 128 := fun y => by
        have hlt := hvN_lt (s := rs T 10 U n y.1) n
        have hp : 2 ^ n ≤ 2 ^ 7 := Nat.pow_le_pow_right (by omega) h7
        omega
      have hseen : ∀ S, S < 128 → (A' (C + 114) S = 1 ↔ ∃ y, y ∈ lvA T n ∧ hvN (rs T 10 U n y.1) n = S) := fun S hS => by
        rw [show A' (C + 114) S = seenF (fun y => hvN (rs T 10 U n y.1) n) S (lvA T n) from p6.2.1 S hS]
        rcases seenF_01 (g := fun y => hvN (rs T 10 U n y.1) n) (S := S) (lvA T n) with ⟨h1, h2⟩ | ⟨h1, h2⟩
        · rw [h1]
          exact ⟨fun z => absurd z (by decide), fun z => absurd z h2⟩
        · exact ⟨fun _ => h2, fun _ => h1⟩
      obtain ⟨y0, L', hL⟩ := List.exists_cons_of_ne_nil (lv_ne (t := T 8) (n := n) (by omega) n 0 0 (fun j => j) 1000000000000 (by omega) (cn_0 n))
      have hy0 : y0 ∈ lvA T n := by
        show y0 ∈ lv (T 8) n n 0 0 (fun j => j) 1000000000000
        rw [hL]
        exact List.mem_cons_self
      have e1 : fwS (A' (C + 114)) (fun S => tgS T S n) 128 = B' P 56 := by
        rw [p8.2.2.2.2.2.2.2.2.2.1]
        obtain ⟨a1, a2, a3⟩ := fw_spec (f := A' (C + 114)) (g := fun S => tgS T S n) 128
        obtain ⟨b1, b2, b3⟩ := fl_spec (v := fun y => tg T (rs T 10 U n y.1) n) (lvA T n) 1000
        have le1 : ∀ y, y ∈ lvA T n → fwS (A' (C + 114)) (fun S => tgS T S n) 128 ≤ tg T (rs T 10 U n y.1) n := fun y hy => by
          have := a2 _ (hh y) ((hseen _ (hh y)).mpr ⟨y, hy, rfl⟩)
          rw [tgS_hv (s := rs T 10 U n y.1) h7 n (Nat.le_refl n)] at this
          exact this
        refine Int32.le_antisymm ?_ ?_
        · rcases b3 with z | ⟨y, y1, y2⟩
          · obtain ⟨v, v1, v2⟩ := hv y0
            have h1 := Int32.le_iff_toInt_le.mp (b2 y0 hy0)
            rw [z] at h1
            rw [show (1000 : Int32).toInt = 1000 by decide, v2, nI_toInt (by omega)] at h1
            omega
          · rw [y2]
            exact le1 y y1
        · rcases a3 with z | ⟨S, s1, s2, s3⟩
          · rw [z]
            obtain ⟨v, v1, v2⟩ := hv y0
            have h1 := b2 y0 hy0
            rw [v2] at h1
            exact Int32.le_trans h1 (Int32.le_iff_toInt_le.mpr (by rw [nI_toInt (by omega), show (10 : Int32).toInt = 10 by decide]; omega))
          · obtain ⟨y, hy, e⟩ := (hseen S s1).mp s2
            rw [s3, ← e, tgS_hv (s := rs T 10 U n y.1) h7 n (Nat.le_refl n)]
            exact b2 y hy
      have e2 : mwS (A' (C + 114)) (fun S => tgS T S n) 128 = B' P 57 := by
        rw [p8.2.2.2.2.2.2.2.2.2.2]
        obtain ⟨a1, a2, a3⟩ := mw_spec (f := A' (C + 114)) (g := fun S => tgS T S n) 128
        obtain ⟨b1, b2, b3⟩ := fm_spec (v := fun y => tg T (rs T 10 U n y.1) n) (lvA T n) 0
        refine Int32.le_antisymm ?_ ?_
        · rcases a3 with z | ⟨S, s1, s2, s3⟩
          · rw [z]
            exact b1
          · obtain ⟨y, hy, e⟩ := (hseen S s1).mp s2
            rw [s3, ← e, tgS_hv (s := rs T 10 U n y.1) h7 n (Nat.le_refl n)]
            exact b2 y hy
        · rcases b3 with z | ⟨y, y1, y2⟩
          · rw [z]
            exact a1
          · rw [y2]
            have := a2 _ (hh y) ((hseen _ (hh y)).mpr ⟨y, y1, rfl⟩)
            rw [tgS_hv (s := rs T 10 U n y.1) h7 n (Nat.le_refl n)] at this
            exact this
      have o1 : (1 : Int32).toInt = 1 := by decide
      have hc : v0 = 0 ∨ v0 = 1 := by
        have : v0.toInt = 0 ∨ v0.toInt = 1 := by omega
        rcases this with q | q
        · exact Or.inl (i_of (k := 0) q (by omega))
        · exact Or.inr (i_of (k := 1) q (by omega))
      rcases hc with q | q <;> subst q
      · rw [if_pos (show (0 : Int32) = 0 from rfl), if_pos (show (0 : Int32) = 0 from rfl)]
        exact two.l (cc_few (Q := C + 112) p4 p3) (t_ansO p7 e1)
      · rw [if_neg n10, if_neg n10]
        exact two.l (cc_most (Q := C + 112) p4 p3) (t_ansO p7 e2)
    · rw [if_neg (fun z => h7 ((nI_7i hn10).mp z))]
      refine two.r m1 ?_
      rw [if_neg n10]
      exact t_rfsO hD
  · rw [zB_s g5, if_pos rfl]
    rcases gn with z | ⟨z, z2⟩
    · rw [if_pos z]
      exact t_rfsO hD
    · rw [if_neg z, if_neg z2]
      exact t_rfsO hD
