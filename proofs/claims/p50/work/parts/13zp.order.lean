/-! THE ORDER of a seed, both side by side -/
theorem St_find {t : Nat → Int32} {b : Int32} {L : Int} : ∀ n, 0 ≤ L → L < St t b n → ∃ y, y < n ∧ St t b y ≤ L ∧ L < St t b (y + 1)
  | 0, h0, h1 => by
    have : St t b 0 = 0 := rfl
    omega
  | n + 1, h0, h1 => by
    by_cases q : L < St t b n
    · obtain ⟨y, h2, h3, h4⟩ := St_find n h0 q
      exact ⟨y, by omega, h3, h4⟩
    · exact ⟨n, by omega, by omega, h1⟩
theorem St_s {t : Nat → Int32} {b : Int32} {n : Nat} : St t b (n + 1) = St t b n + (if ((b >>> (nI n &&& 31)) &&& 1) = 1 then 0 else (t n).toInt) := rfl
theorem cc_hold {Q n y : Nat} {A : zMt} {t : Nat → Int32} {b w d : Int32} (hn : n ≤ 10) (h1 : A Q 1 = nI n) (ht : ∀ a, a < n → A (Q + 8) a = t a ∧ 1 ≤ (t a).toInt ∧ (t a).toInt ≤ 401) (hw : ∀ a, a < n → (bitAt w a ↔ ¬ bitAt b a)) (hy : y < n) (h2 : St t b y ≤ d.toInt) (h3 : d.toInt < St t b (y + 1)) : ∀ (u x : Nat) (above : Int32), x ≤ y → y - x < u → above.toInt = St t b x → D_X5_holderOf_5 Q A u w d above (nI x) = some (nI y) := by
  intro u
  induction u with
  | zero => intro x above _ h; omega
  | succ u ih =>
    intro x above hx hu hab
    have hSx := St_le (t := t) (b := b) x (fun a ha => (ht a (by omega)).2)
    have hm : ∀ m, m ≤ y → St t b m ≤ St t b y := fun m hm => St_mono (fun a ha => (ht a (by omega)).2.1) m hm
    rw [D_X5_holderOf_5, h1, if_neg (by intro z; exact absurd ((nI_leI (by omega) (by omega)).mp z) (by omega))]
    have hwx := hw x (by omega)
    have hss := St_s (t := t) (b := b) (n := x)
    by_cases hb : bitAt b x
    · rw [if_neg (by intro z; exact hwx.mp z hb)]
      rw [if_pos (by exact hb)] at hss
      have hxy : x ≠ y := fun z => by
        subst z
        omega
      unfold D_X5_holderOf_44
      rw [nI_add1]
      exact ih (x + 1) above (by omega) (by omega) (by rw [hab, hss]; omega)
    · rw [if_neg (by exact hb)] at hss
      have htx := ht x (by omega)
      have ea : (above + t x).toInt = St t b (x + 1) := by rw [z_add (by omega) (by omega), hab, hss]
      rw [if_pos (by exact hwx.mpr hb), zrd_nI (show x < 10 by omega) (by decide), htx.1]
      by_cases q : x = y
      · subst q
        rw [if_neg (by intro z; have := Int32.le_iff_toInt_le.mp z; omega)]
      · rw [if_pos (by
          have := hm (x + 1) (by omega)
          exact Int32.le_iff_toInt_le.mpr (by omega))]
        unfold D_X5_holderOf_44
        rw [nI_add1]
        exact ih (x + 1) (above + t x) (by omega) (by omega) ea
theorem mm_hold {P n y i : Nat} {M : zMt} {N : zNt} {t : Nat → Int32} {b sum : Int32} {d : Int64} {k45 : Int32 → Int32 → Int32 → zMt → zNt → Option (zMt × zNt)} (hn : n ≤ 10) (hi : i < 10) (ht : ∀ a, a < n → M (P + 17) a = t a ∧ 1 ≤ (t a).toInt ∧ (t a).toInt ≤ 401) (hy : y < n) (h2 : St t b y ≤ d.toInt) (h3 : d.toInt < St t b (y + 1)) : ∀ (v x : Nat) (a : Int32) (up : Int64), x ≤ y + 1 → y + 1 - x < v → a.toInt = (x : Int) - 1 → up.toInt = St t b x → D_X8_laysOrder_67 P k45 v b sum (nI i) d a up M N = k45 (b ||| ((1 : Int32) <<< (nI y &&& 31))) (sum - t y) (nI (i + 1)) (zu M (P + 18) i (nI y)) N := by
  intro v
  induction v with
  | zero => intro x a up _ h; omega
  | succ v ih =>
    intro x a up hx hv ha hup
    have hm : ∀ m, m ≤ y → St t b m ≤ St t b y := fun m hm => St_mono (fun a ha => (ht a (by omega)).2.1) m hm
    rw [D_X8_laysOrder_67]
    by_cases q : x = y + 1
    · subst q
      have hay : a = nI y := Int32.toInt_inj.mp (by rw [nI_toInt (by omega)]; omega)
      subst hay
      rw [if_pos (by exact lgc_gt.mpr (by omega))]
      unfold zI
      rw [if_neg (vp_in_nI hi (by decide)), nI_clamp (by omega), zLt_eq, if_neg (vp_in_nI (by omega) (by decide)), nI_clamp (by omega), nI_add1, zu_ne (by omega), (ht y hy).1]
    · have hSx := St_le (t := t) (b := b) x (fun a ha => (ht a (by omega)).2)
      have h5 := hm x (by omega)
      have o1 : (1 : Int32).toInt = 1 := by decide
      have ea : (a + 1).toInt = x := by rw [z_add (by omega) (by omega), o1, ha]; omega
      have hax : a + 1 = nI x := Int32.toInt_inj.mp (by rw [nI_toInt (by omega)]; omega)
      have hnx : (nI x).toInt = ((x + 1 : Nat) : Int) - 1 := by rw [nI_toInt (by omega)]; omega
      have hss := St_s (t := t) (b := b) (n := x)
      rw [if_neg (by intro z; have := lgc_gt.mp z; omega), hax]
      obtain ⟨e, he, hq⟩ := v_X8_has (v0 := b) (v1 := nI x)
      rw [zB_s he]
      have htx := ht x (by omega)
      by_cases hb : bitAt b x
      · have he0 : ¬ e = 0 := fun z => by
          rcases hq.2 with ⟨w, _⟩ | ⟨_, w⟩
          · rw [z] at w; exact absurd w (by decide)
          · exact w hb
        rw [if_neg he0]
        rw [if_pos (by exact hb)] at hss
        unfold D_X8_laysOrder_101
        rw [Int64.add_zero]
        exact ih (x + 1) (nI x) up (by omega) (by omega) hnx (by rw [hup, hss]; omega)
      · have he0 : e = 0 := by
          rcases hq.2 with ⟨_, w⟩ | ⟨w, _⟩
          · exact absurd w hb
          · exact w
        rw [if_pos he0]
        rw [if_neg (by exact hb)] at hss
        unfold zI
        rw [if_neg (vp_in_nI (by omega) (by decide)), nI_clamp (by omega), htx.1]
        unfold D_X8_laysOrder_101
        exact ih (x + 1) (nI x) _ (by omega) (by omega) hnx (by rw [Int64.toInt_add, Int32.toInt_toInt64, hup, Int.bmod_def, hss]; omega)
/-- the line that is laid, as far as i -/
def lnO (i n : Nat) (f g : Nat → Int32) (l : Nat → Nat) : Prop := (∀ k, k < i → l k < n ∧ f k = nI (l k) ∧ g k = nI (l k)) ∧ (∀ k k', k < i → k' < i → l k = l k' → k = k')
/-- the next x, and what is drawn -/
def xN (x : Int64) : Int64 := ((1103515245 : Int64) * x + 12345) - ((1103515245 : Int64) * x + 12345) / 2147483648 * 2147483648
def xD (x : Int64) (s : Int32) : Int64 := xN x / 65536 - xN x / 65536 / s.toInt64 * s.toInt64
theorem xN_rng {x : Int64} (h0 : 0 ≤ x.toInt) (h1 : x.toInt < 2147483648) : 0 ≤ (xN x).toInt ∧ (xN x).toInt < 2147483648 := by
  have e0 : ((1103515245 : Int64) * x).toInt = 1103515245 * x.toInt := by
    rw [Int64.toInt_mul, show (1103515245 : Int64).toInt = 1103515245 by decide, Int.bmod_def]
    omega
  have e1 : 0 ≤ ((1103515245 : Int64) * x + 12345).toInt := by
    rw [Int64.toInt_add, e0, show (12345 : Int64).toInt = 12345 by decide, Int.bmod_def]
    have hp : 0 ≤ 1103515245 * x.toInt ∧ 1103515245 * x.toInt ≤ 2369780945000000000 := by omega
    generalize 1103515245 * x.toInt = pp at hp
    omega
  have h2 := l_modr (y := 2147483648) e1 (by decide)
  rw [show (2147483648 : Int64).toInt = 2147483648 by decide] at h2
  exact h2
theorem xD_rng {x : Int64} {s : Int32} (h0 : 0 ≤ x.toInt) (h1 : x.toInt < 2147483648) (hs : 1 ≤ s.toInt) : 0 ≤ (xD x s).toInt ∧ (xD x s).toInt < s.toInt := by
  have h2 := xN_rng h0 h1
  have e0 : s.toInt64.toInt = s.toInt := Int32.toInt_toInt64 s
  have h3 := l_modr (x := xN x / 65536) (y := s.toInt64) (l_div0 h2.1) (by omega)
  exact ⟨h3.1, by rw [← e0]; exact h3.2⟩
theorem bitK_not {w : Int32} {k h : Nat} (hk : k < 10) (hh : h < 10) : bitAt (w &&& (((1 : Int32) <<< (nI k &&& 31)) ^^^ (-1 : Int32))) h ↔ bitAt w h ∧ ¬ k = h := by
  have h1 := bitK_one hk hh
  rw [bitAt_iff hh] at h1 ⊢
  rw [bitAt_iff hh]
  show ((w.toBitVec &&& (((1 : Int32) <<< (nI k &&& 31)).toBitVec ^^^ (-1 : Int32).toBitVec)).getLsbD h = true) ↔ _
  have hm1 : (-1 : Int32).toBitVec.getLsbD h = true := (show ∀ h, h < 10 → (-1 : Int32).toBitVec.getLsbD h = true by decide) h hh
  rw [BitVec.getLsbD_and, BitVec.getLsbD_xor, hm1]
  cases w.toBitVec.getLsbD h <;> cases q : ((1 : Int32) <<< (nI k &&& 31)).toBitVec.getLsbD h <;> rw [q] at h1 <;> simp_all
/-- the loop, side by side -/
theorem t_ord45 {Q S P n : Nat} {t : Nat → Int32} (hn : n ≤ 10) (hd : S + 8 ≤ Q ∨ Q + 13 ≤ S) (ht : ∀ a, a < n → 1 ≤ (t a).toInt ∧ (t a).toInt ≤ 401) : ∀ (c u v i : Nat) (x : Int64) (s w b : Int32) (A B : zMt) (N : zNt) (l : Nat → Nat), i + c = n → c < u → c < v → N P 46 = x → 0 ≤ x.toInt → x.toInt < 2147483648 → s.toInt = St t b n → (∀ a, a < n → (bitAt w a ↔ ¬ bitAt b a)) → cn b n = i → A Q 1 = nI n → (∀ a, a < n → A (Q + 8) a = t a) → B P 33 = nI n → (∀ a, a < n → B (P + 17) a = t a) → lnO i n (A (S + 1)) (B (P + 18)) l → (∀ k, k < i → bitAt b (l k)) → two (D_X5_lineUp_22 S Q u x s w (nI i) A) (D_X8_laysOrder_45 P v b s (nI i) B N) (fun A' r => (∃ l', lnO n n (A' (S + 1)) (r.1 (P + 18)) l') ∧ (∀ i j, ¬ i = S + 1 → A' i j = A i j) ∧ (∀ i j, ¬ i = P + 18 → r.1 i j = B i j) ∧ (∀ i j, ¬ (i = P ∧ j = 46) → r.2 i j = N i j)) := by
  intro c
  induction c with
  | zero =>
    intro u v i x s w b A B N l hi hu hv _ _ _ _ _ _ h1 _ h33 _ hl _
    obtain ⟨u, rfl⟩ : ∃ y, u = y + 1 := ⟨u - 1, by omega⟩
    obtain ⟨v, rfl⟩ : ∃ y, v = y + 1 := ⟨v - 1, by omega⟩
    have : i = n := by omega
    subst this
    rw [D_X5_lineUp_22, h1, if_pos (by exact (nI_leI (by omega) (by omega)).mpr (Nat.le_refl i)), D_X8_laysOrder_45, h33, if_pos (by exact (nI_leI (by omega) (by omega)).mpr (Nat.le_refl i))]
    exact two.mk ⟨⟨l, hl⟩, fun _ _ _ => rfl, fun _ _ _ => rfl, fun _ _ _ => rfl⟩
  | succ c ih =>
    intro u v i x s w b A B N l hi hu hv hN hx0 hx1 hs hw hc h1 ht1 h33 ht8 hl hlb
    obtain ⟨u, rfl⟩ : ∃ y, u = y + 1 := ⟨u - 1, by omega⟩
    obtain ⟨v, rfl⟩ : ∃ y, v = y + 1 := ⟨v - 1, by omega⟩
    have hSg := St_ge (t := t) (b := b) n (fun a ha => (ht a ha).1)
    rw [hc] at hSg
    have hs1 : 1 ≤ s.toInt := by omega
    have hS64 : ¬ Int32.toInt64 s = 0 := fun z => by
      have e0 : s.toInt64.toInt = s.toInt := Int32.toInt_toInt64 s
      rw [z, show (0 : Int64).toInt = 0 by decide] at e0
      omega
    have dd := xD_rng hx0 hx1 hs1
    have xx := xN_rng hx0 hx1
    obtain ⟨d, hd1⟩ : ∃ d, d = xD x s := ⟨_, rfl⟩
    obtain ⟨xn, hxn⟩ : ∃ y, y = xN x := ⟨_, rfl⟩
    rw [← hd1, hs] at dd
    rw [← hxn] at xx
    obtain ⟨d0, d1⟩ := dd
    obtain ⟨x0, x1⟩ := xx
    obtain ⟨y, hy, hy1, hy2⟩ := St_find n d0 d1
    have hTm := St_le (t := t) (b := b) n ht
    have e32 : (Int64.toInt32 d).toInt = d.toInt := by
      have hb : 0 ≤ d.toInt ∧ d.toInt < 2147483648 := by omega
      rw [Int64.toInt_toInt32]
      generalize d.toInt = z at hb
      rw [show (2 : Nat) ^ 32 = 4294967296 by decide, Int.bmod_def]
      omega
    have hby : ¬ bitAt b y := fun z => by
      have := St_s (t := t) (b := b) (n := y)
      rw [if_pos (by exact z)] at this
      omega
    have e0 : D_X5_holderOf Q A w (Int64.toInt32 d) = some (nI y) := by
      have := cc_hold (Q := Q) (A := A) (t := t) (b := b) (w := w) (d := Int64.toInt32 d) hn h1 (fun a ha => ⟨ht1 a ha, ht a ha⟩) hw hy (by rw [e32]; exact hy1) (by rw [e32]; exact hy2) zFu 0 0 (by omega) (by unfold zFu; omega) (by show (0 : Int32).toInt = 0; decide)
      rw [show nI 0 = (0 : Int32) by decide] at this
      exact this
    have ed : D_X8_draws P s N = some (xD x s, zu N P 46 (xN x)) := by
      unfold D_X8_draws
      rw [hN, zLt_eq]
      unfold zZl
      rw [if_neg hS64, zu_eq]
      rfl
    rw [D_X5_lineUp_22, h1, if_neg (by intro z; exact absurd ((nI_leI (by omega) (by omega)).mp z) (by omega)), if_neg (by intro z; have := Int32.le_iff_toInt_le.mp z; rw [show (0 : Int32).toInt = 0 by decide] at this; omega), D_X8_laysOrder_45, h33, if_neg (by intro z; exact absurd ((nI_leI (by omega) (by omega)).mp z) (by omega))]
    unfold zZl
    rw [if_neg hS64]
    refine two.l (e := nI y) (by rw [hd1] at e0; exact e0) ?_
    refine two.r ed ?_
    show two (zLt (zwr A (S + 1) 10 (nI i) (nI y)) fun M => D_X5_lineUp_22 S Q u (xN x) (s - (zrd 0 (M (Q + 8)) 10 (nI y))) (w &&& (((1 : Int32) <<< (nI y &&& 31)) ^^^ (-1 : Int32))) (nI i + 1) M) (D_X8_laysOrder_67 P (D_X8_laysOrder_45 P v) zFu b s (nI i) (xD x s) (-1 : Int32) (0 : Int64) B (zu N P 46 (xN x))) _
    rw [← hd1, ← hxn]
    rw [mm_hold (t := t) hn (by omega) (fun a ha => ⟨ht8 a ha, ht a ha⟩) hy hy1 hy2 zFu 0 (-1) 0 (by omega) (by unfold zFu; omega) (by decide) (by rw [show (0 : Int64).toInt = 0 by decide]; rfl)]
    rw [zwr_nI (show i < 10 by omega) (by decide), zLt_eq, zrd_nI (show y < 10 by omega) (by decide), zu_ne (by omega), ht1 y hy, nI_add1]
    have hso := St_or (t := t) (a := y) (by omega) hby n (by omega)
    have hco := cn_or (a := y) (by omega) hby n (by omega)
    rw [if_pos (by omega)] at hso hco
    have hTy := ht y hy
    have hbo : ∀ a, a < n → (bitAt (b ||| ((1 : Int32) <<< (nI y &&& 31))) a ↔ bitAt b a ∨ y = a) := fun a ha => bitK_or (by omega) (by omega)
    refine (ih u v (i + 1) xn (s - t y) (w &&& (((1 : Int32) <<< (nI y &&& 31)) ^^^ (-1 : Int32))) (b ||| ((1 : Int32) <<< (nI y &&& 31))) (zu A (S + 1) i (nI y)) (zu B (P + 18) i (nI y)) (zu N P 46 xn) (fun k => if k = i then y else l k) (by omega) (by omega) (by omega) zu_eq x0 x1 ?_ (fun a ha => ?_) (by rw [hco, hc]) ((zu_ne (by omega)).trans h1) (fun a ha => (zu_ne (by omega)).trans (ht1 a ha)) ((zu_ne (by omega)).trans h33) (fun a ha => (zu_ne (by omega)).trans (ht8 a ha)) ⟨fun k hk => ?_, fun k k' hk hk' he => ?_⟩ (fun k hk => ?_)).imp (fun A' r h => ⟨h.1, fun i' j h' => (h.2.1 i' j h').trans (zu_ne (by omega)), fun i' j h' => (h.2.2.1 i' j h').trans (zu_ne (by omega)), fun i' j h' => (h.2.2.2 i' j h').trans (zu_ne h')⟩)
    · rw [hso, z_sub (by omega) (by omega), hs]
    · rw [bitK_not (by omega) (by omega), hw a ha, hbo a ha]
      constructor
      · rintro ⟨z1, z2⟩ (z | z)
        · exact z1 z
        · exact z2 z
      · intro z
        exact ⟨fun q => z (Or.inl q), fun q => z (Or.inr q)⟩
    · show (if k = i then y else l k) < n ∧ _ = nI (if k = i then y else l k) ∧ _ = nI (if k = i then y else l k)
      by_cases q : k = i
      · subst q
        rw [if_pos rfl, zu_eq, zu_eq]
        exact ⟨hy, rfl, rfl⟩
      · rw [if_neg q, zu_ne (by omega), zu_ne (by omega)]
        exact hl.1 k (by omega)
    · have he2 : (if k = i then y else l k) = (if k' = i then y else l k') := he
      by_cases q : k = i
      · by_cases q' : k' = i
        · omega
        · rw [if_pos q, if_neg q'] at he2
          exact absurd (hlb k' (by omega)) (by rw [← he2]; exact hby)
      · by_cases q' : k' = i
        · rw [if_neg q, if_pos q'] at he2
          exact absurd (hlb k (by omega)) (by rw [he2]; exact hby)
        · rw [if_neg q, if_neg q'] at he2
          exact hl.2 k k' (by omega) (by omega) he2
    · show bitAt _ (if k = i then y else l k)
      by_cases q : k = i
      · rw [if_pos q]
        exact (hbo y hy).mpr (Or.inr rfl)
      · rw [if_neg q]
        exact (hbo _ (hl.1 k (by omega)).1).mpr (Or.inl (hlb k (by omega)))
theorem bits_all : ∀ n, n ≤ 10 → ∀ a, a < n → ((((((1 : Int32) <<< (nI n &&& 31)) - 1) >>> (nI a &&& 31)) &&& 1) = 1) := by decide +kernel
/-- the reference adds the tickets -/
theorem mm_ord17 {P n : Nat} {t : Nat → Int32} {B : zMt} {N : zNt} {tot : Int32} (hn : n ≤ 10) (ht : ∀ a, a < n → B (P + 17) a = t a ∧ 1 ≤ (t a).toInt ∧ (t a).toInt ≤ 401) (h33 : B P 33 = nI n) (htot : tot.toInt = St t 0 n) : ∀ (u i : Nat) (sum : Int32), i ≤ n → n - i < u → sum.toInt = St t 0 i → D_X8_laysOrder_17 P u (0 : Int32) sum (nI i) B N = D_X8_laysOrder_45 P zFu (0 : Int32) tot (0 : Int32) B N := by
  intro u
  induction u with
  | zero => intro i sum _ h; omega
  | succ u ih =>
    intro i sum hi hu hs
    rw [D_X8_laysOrder_17, h33]
    by_cases hc : n ≤ i
    · have : i = n := by omega
      subst this
      rw [if_pos (by exact (nI_leI (by omega) (by omega)).mpr hc)]
      rw [show sum = tot from Int32.toInt_inj.mp (hs.trans htot.symm)]
    · rw [if_neg (by intro z; exact hc ((nI_leI (by omega) (by omega)).mp z))]
      unfold zI
      have hti := ht i (by omega)
      have hSi := St_le (t := t) (b := 0) i (fun a ha => (ht a (by omega)).2)
      rw [if_neg (vp_in_nI (by omega) (by decide)), nI_clamp (by omega), hti.1, nI_add1]
      refine ih (i + 1) _ (by omega) (by omega) ?_
      show _ = St t 0 i + _
      rw [if_neg bit_0, z_add (by omega) (by omega), hs]
theorem t_order {Q S P n U : Nat} {A B B1 T : zMt} {N : zNt} {seed : Int32} (hg : gP T n U) (h1 : A Q 1 = T 0 1) (h2 : A Q 2 = T 0 2) (h8 : ∀ a, a < n → A (Q + 8) a = T 8 a) (hd : S + 8 ≤ Q ∨ Q + 13 ≤ S) (hB : D_X8_laysApplicants P B = some B1) (hm : mP P B1 T n U) (hs : 0 ≤ seed.toInt) : two (D_X5_lineUp S Q seed A) (D_X8_laysOrder P seed B N) (fun A' r => (∃ l, lnO n n (A' (S + 1)) (r.1 (P + 18)) l) ∧ (∀ i j, ¬ i = S + 1 → A' i j = A i j) ∧ (∀ i j, ¬ i = P + 18 → r.1 i j = B1 i j) ∧ (∀ i j, ¬ (i = P ∧ j = 46) → r.2 i j = N i j)) := by
  obtain ⟨g1, g2, g3, g4, g5, g6, g7⟩ := hg
  obtain ⟨m1, m2, m3, m4⟩ := hm
  have ht : ∀ a, a < n → 1 ≤ (T 8 a).toInt ∧ (T 8 a).toInt ≤ 401 := fun a ha => by
    have := (g5 a ha).2.2.1.i (by omega)
    omega
  unfold D_X5_lineUp D_X8_laysOrder
  refine two.r hB ?_
  rw [zLt_eq, h1, g3, h2]
  have e := mm_ord17 (P := P) (t := T 8) (B := B1) (N := zu N P 46 (Int32.toInt64 seed)) (tot := T 0 2) g1 (fun a ha => ⟨(m3 a ha).2.2.2.2.2.1, ht a ha⟩) m1 g6 zFu 0 0 (by omega) (by unfold zFu; omega) (by show (0 : Int32).toInt = 0; decide)
  rw [show nI 0 = (0 : Int32) by decide] at e
  rw [e]
  have hlt := Int32.toInt_lt seed
  have := t_ord45 (Q := Q) (S := S) (P := P) (t := T 8) g1 hd ht n zFu zFu 0 (Int32.toInt64 seed) (T 0 2) (((1 : Int32) <<< (nI n &&& 31)) - 1) 0 A B1 (zu N P 46 (Int32.toInt64 seed)) (fun _ => 0) (by omega) (by unfold zFu; omega) (by unfold zFu; omega) zu_eq (by rw [Int32.toInt_toInt64]; exact hs) (by rw [Int32.toInt_toInt64]; omega) g6 (fun a ha => ⟨fun _ => bitAt_0, fun _ => bits_all n g1 a ha⟩) (cn_0 n) (h1.trans g3) h8 m1 (fun a ha => (m3 a ha).2.2.2.2.2.1) ⟨fun k hk => absurd hk (Nat.not_lt_zero k), fun k k' hk => absurd hk (Nat.not_lt_zero k)⟩ (fun k hk => absurd hk (Nat.not_lt_zero k))
  rw [show nI 0 = (0 : Int32) by decide] at this
  exact this.imp (fun A' r h => ⟨h.1, h.2.1, h.2.2.1, fun i j hj => (h.2.2.2 i j hj).trans (zu_ne hj)⟩)
