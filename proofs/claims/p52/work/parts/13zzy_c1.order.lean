/-! p52: the order of a seed, told for itself -/
/-- from the i-th place on, c of them: each is where the draw falls among the tickets of those not yet drawn (b) -/
def LOs (t : Nat → Int32) (n : Nat) (l : Nat → Nat) : Nat → Nat → Int64 → Int32 → Int32 → Prop
  | 0, _, _, _, _ => True
  | c + 1, i, x, s, b => l i < n ∧ ¬ bitAt b (l i) ∧ St t b (l i) ≤ (xD x s).toInt ∧ (xD x s).toInt < St t b (l i + 1) ∧ LOs t n l c (i + 1) (xN x) (s - t (l i)) (b ||| ((1 : Int32) <<< (nI (l i) &&& 31)))
theorem LOs.congr {t : Nat → Int32} {n : Nat} {l l' : Nat → Nat} : ∀ (c i : Nat) (x : Int64) (s b : Int32), (∀ k, i ≤ k → k < i + c → l' k = l k) → LOs t n l c i x s b → LOs t n l' c i x s b
  | 0, _, _, _, _, _, _ => trivial
  | c + 1, i, x, s, b, he, h => by
    obtain ⟨h1, h2, h3, h4, h5⟩ := h
    have e := he i (Nat.le_refl i) (by omega)
    show l' i < n ∧ ¬ bitAt b (l' i) ∧ St t b (l' i) ≤ (xD x s).toInt ∧ (xD x s).toInt < St t b (l' i + 1) ∧ LOs t n l' c (i + 1) (xN x) (s - t (l' i)) (b ||| ((1 : Int32) <<< (nI (l' i) &&& 31)))
    rw [e]
    exact ⟨h1, h2, h3, h4, h5.congr c (i + 1) _ _ _ (fun k k1 k2 => he k (by omega) (by omega))⟩
/-- there is one alone -/
theorem LOs.one {t : Nat → Int32} {n : Nat} {l l' : Nat → Nat} (ht : ∀ a, a < n → 1 ≤ (t a).toInt) : ∀ (c i : Nat) (x : Int64) (s b : Int32), LOs t n l c i x s b → LOs t n l' c i x s b → ∀ k, i ≤ k → k < i + c → l k = l' k
  | 0, i, _, _, _, _, _, k, k1, k2 => by omega
  | c + 1, i, x, s, b, h, h', k, k1, k2 => by
    obtain ⟨h1, h2, h3, h4, h5⟩ := h
    obtain ⟨g1, g2, g3, g4, g5⟩ := h'
    have e : l i = l' i := by
      rcases Nat.lt_trichotomy (l i) (l' i) with z | z | z
      · have : St t b (l i + 1) ≤ St t b (l' i) := St_mono (fun a ha => ht a (by omega)) (l i + 1) (by omega)
        omega
      · exact z
      · have : St t b (l' i + 1) ≤ St t b (l i) := St_mono (fun a ha => ht a (by omega)) (l' i + 1) (by omega)
        omega
    by_cases z : k = i
    · subst z; exact e
    · rw [e] at h5
      exact h5.one ht c (i + 1) _ _ _ g5 k (by omega) (by omega)
theorem LOs.lt {t : Nat → Int32} {n : Nat} {l : Nat → Nat} : ∀ (c i : Nat) (x : Int64) (s b : Int32), LOs t n l c i x s b → ∀ k, i ≤ k → k < i + c → l k < n
  | 0, i, _, _, _, _, k, k1, k2 => by omega
  | c + 1, i, x, s, b, h, k, k1, k2 => by
    obtain ⟨h1, -, -, -, h5⟩ := h
    by_cases z : k = i
    · subst z; exact h1
    · exact h5.lt c (i + 1) _ _ _ k (by omega) (by omega)
/-- the class's lineUp -/
theorem cc_ord22 {Q S n : Nat} {t : Nat → Int32} (hn : n ≤ 10) (hd : S + 8 ≤ Q ∨ Q + 13 ≤ S) (ht : ∀ a, a < n → 1 ≤ (t a).toInt ∧ (t a).toInt ≤ 401) : ∀ (c u i : Nat) (x : Int64) (s w b : Int32) (A : zMt), i + c = n → c < u → 0 ≤ x.toInt → x.toInt < 2147483648 → s.toInt = St t b n → (∀ a, a < n → (bitAt w a ↔ ¬ bitAt b a)) → cn b n = i → A Q 1 = nI n → (∀ a, a < n → A (Q + 8) a = t a) → ∃ A', D_X5_lineUp_22 S Q u x s w (nI i) A = some A' ∧ ∃ l, LOs t n l c i x s b ∧ (∀ k, i ≤ k → k < n → A' (S + 1) k = nI (l k)) ∧ (∀ i' j, ¬ (i' = S + 1 ∧ i ≤ j) → A' i' j = A i' j) := by
  intro c
  induction c with
  | zero =>
    intro u i x s w b A hi hu _ _ _ _ _ h1 _
    obtain ⟨u, rfl⟩ : ∃ y, u = y + 1 := ⟨u - 1, by omega⟩
    have : i = n := by omega
    subst this
    rw [D_X5_lineUp_22, h1, if_pos (by exact (nI_leI (by omega) (by omega)).mpr (Nat.le_refl i))]
    exact ⟨A, rfl, fun _ => 0, trivial, fun k k1 k2 => by omega, fun _ _ _ => rfl⟩
  | succ c ih =>
    intro u i x s w b A hi hu hx0 hx1 hs hw hc h1 ht1
    obtain ⟨u, rfl⟩ : ∃ y, u = y + 1 := ⟨u - 1, by omega⟩
    have hSg := St_ge (t := t) (b := b) n (fun a ha => (ht a ha).1)
    rw [hc] at hSg
    have hs1 : 1 ≤ s.toInt := by omega
    have hS64 : ¬ Int32.toInt64 s = 0 := fun z => by
      have e0 : s.toInt64.toInt = s.toInt := Int32.toInt_toInt64 s
      rw [z, show (0 : Int64).toInt = 0 by decide] at e0
      omega
    have dd := xD_rng hx0 hx1 hs1
    have xx := xN_rng hx0 hx1
    obtain ⟨d, hd1⟩ : ∃ d, d = xD x s := ⟨_, rfl⟩
    obtain ⟨xn, hxn⟩ : ∃ y, y = xN x := ⟨_, rfl⟩
    rw [← hd1, hs] at dd
    rw [← hxn] at xx
    obtain ⟨d0, d1⟩ := dd
    obtain ⟨x0, x1⟩ := xx
    obtain ⟨y, hy, hy1, hy2⟩ := St_find n d0 d1
    have hTm := St_le (t := t) (b := b) n ht
    have e32 : (Int64.toInt32 d).toInt = d.toInt := by
      have hb : 0 ≤ d.toInt ∧ d.toInt < 2147483648 := by omega
      rw [Int64.toInt_toInt32]
      generalize d.toInt = z at hb
      rw [show (2 : Nat) ^ 32 = 4294967296 by decide, Int.bmod_def]
      omega
    have hby : ¬ bitAt b y := fun z => by
      have := St_s (t := t) (b := b) (n := y)
      rw [if_pos (by exact z)] at this
      omega
    have e0 : D_X5_holderOf Q A w (Int64.toInt32 d) = some (nI y) := by
      have := cc_hold (Q := Q) (A := A) (t := t) (b := b) (w := w) (d := Int64.toInt32 d) hn h1 (fun a ha => ⟨ht1 a ha, ht a ha⟩) hw hy (by rw [e32]; exact hy1) (by rw [e32]; exact hy2) zFu 0 0 (by omega) (by unfold zFu; omega) (by show (0 : Int32).toInt = 0; decide)
      rw [show nI 0 = (0 : Int32) by decide] at this
      exact this
    rw [D_X5_lineUp_22, h1, if_neg (by intro z; exact absurd ((nI_leI (by omega) (by omega)).mp z) (by omega)), if_neg (by intro z; have := Int32.le_iff_toInt_le.mp z; rw [show (0 : Int32).toInt = 0 by decide] at this; omega)]
    unfold zZl
    rw [if_neg hS64, zB_s (e := nI y) (by rw [hd1] at e0; exact e0)]
    have hso := St_or (t := t) (a := y) (by omega) hby n (by omega)
    have hco := cn_or (a := y) (by omega) hby n (by omega)
    rw [if_pos (by omega)] at hso hco
    have hTy := ht y hy
    have hbo : ∀ a, a < n → (bitAt (b ||| ((1 : Int32) <<< (nI y &&& 31))) a ↔ bitAt b a ∨ y = a) := fun a ha => bitK_or (by omega) (by omega)
    obtain ⟨A', e, l, l1, l2, l3⟩ := ih u (i + 1) xn (s - t y) (w &&& (((1 : Int32) <<< (nI y &&& 31)) ^^^ (-1 : Int32))) (b ||| ((1 : Int32) <<< (nI y &&& 31))) (zu A (S + 1) i (nI y)) (by omega) (by omega) x0 x1 (by rw [hso, z_sub (by omega) (by omega), hs]) (fun a ha => by
      rw [bitK_not (by omega) (by omega), hw a ha, hbo a ha]
      constructor
      · rintro ⟨z1, z2⟩ (z | z)
        · exact z1 z
        · exact z2 z
      · intro z
        exact ⟨fun q => z (Or.inl q), fun q => z (Or.inr q)⟩) (by rw [hco, hc]) ((zu_ne (by omega)).trans h1) (fun a ha => (zu_ne (by omega)).trans (ht1 a ha))
    refine ⟨A', ?_, fun k => if k = i then y else l k, ?_, fun k k1 k2 => ?_, fun i' j z => (l3 i' j (by omega)).trans (zu_ne (by omega))⟩
    · show (zLt (zwr A (S + 1) 10 (nI i) (nI y)) fun M => D_X5_lineUp_22 S Q u (xN x) (s - (zrd 0 (M (Q + 8)) 10 (nI y))) (w &&& (((1 : Int32) <<< (nI y &&& 31)) ^^^ (-1 : Int32))) (nI i + 1) M) = _
      rw [← hxn, zwr_nI (show i < 10 by omega) (by decide), zLt_eq, zrd_nI (show y < 10 by omega) (by decide), zu_ne (by omega), ht1 y hy, nI_add1]
      exact e
    · have ei : (fun k => if k = i then y else l k) i = y := if_pos rfl
      show (fun k => if k = i then y else l k) i < n ∧ ¬ bitAt b ((fun k => if k = i then y else l k) i) ∧ St t b ((fun k => if k = i then y else l k) i) ≤ (xD x s).toInt ∧ (xD x s).toInt < St t b ((fun k => if k = i then y else l k) i + 1) ∧ LOs t n (fun k => if k = i then y else l k) c (i + 1) (xN x) (s - t ((fun k => if k = i then y else l k) i)) (b ||| ((1 : Int32) <<< (nI ((fun k => if k = i then y else l k) i) &&& 31)))
      rw [ei, ← hd1, ← hxn]
      exact ⟨hy, hby, hy1, hy2, l1.congr c (i + 1) _ _ _ (fun k k1 k2 => if_neg (by omega))⟩
    · show A' (S + 1) k = nI (if k = i then y else l k)
      by_cases q : k = i
      · subst q
        rw [if_pos rfl, l3 _ _ (by omega), zu_eq]
      · rw [if_neg q]; exact l2 k (by omega) k2
theorem cc_lineUp {Q S n U : Nat} {A T : zMt} {seed : Int32} (hg : gP T n U) (hT : ∀ i j, i < 13 → A (Q + i) j = T i j) (hd : S + 8 ≤ Q ∨ Q + 13 ≤ S) (hs : 0 ≤ seed.toInt) : ∃ A', D_X5_lineUp S Q seed A = some A' ∧ ∃ l, LOs (T 8) n l n 0 (Int32.toInt64 seed) (T 0 2) 0 ∧ (∀ k, k < n → A' (S + 1) k = nI (l k)) ∧ (∀ i j, ¬ i = S + 1 → A' i j = A i j) := by
  obtain ⟨g1, g2, g3, g4, g5, g6, g7⟩ := hg
  have ht : ∀ a, a < n → 1 ≤ (T 8 a).toInt ∧ (T 8 a).toInt ≤ 401 := fun a ha => by
    have := (g5 a ha).2.2.1.i (by omega)
    omega
  have hlt := Int32.toInt_lt seed
  have h1 : A Q 1 = nI n := (hT 0 1 (by omega)).trans g3
  have h2 : A Q 2 = T 0 2 := hT 0 2 (by omega)
  unfold D_X5_lineUp
  rw [h1, h2]
  obtain ⟨A', e, l, l1, l2, l3⟩ := cc_ord22 (Q := Q) (S := S) (t := T 8) g1 hd ht n zFu 0 (Int32.toInt64 seed) (T 0 2) (((1 : Int32) <<< (nI n &&& 31)) - 1) 0 A (by omega) (by unfold zFu; omega) (by rw [Int32.toInt_toInt64]; exact hs) (by rw [Int32.toInt_toInt64]; omega) g6 (fun a ha => ⟨fun _ => bitAt_0, fun _ => bits_all n g1 a ha⟩) (cn_0 n) h1 (fun a ha => hT 8 a (by omega))
  exact ⟨A', e, l, l1, fun k hk => l2 k (by omega) hk, fun i j z => l3 i j (by omega)⟩
/-- the class's draw by a seed -/
theorem cc_bySeed {Q S n U : Nat} {A T : zMt} {seed : Int32} (hg : gP T n U) (hT : ∀ i j, i < 13 → A (Q + i) j = T i j) (hd : S + 8 ≤ Q ∨ Q + 13 ≤ S) (hs : 0 ≤ seed.toInt) : ∃ A', D_X5_bySeed S Q seed A = some A' ∧ ∃ l, LOs (T 8) n l n 0 (Int32.toInt64 seed) (T 0 2) 0 ∧ (∀ k, k < n → l k < n) ∧ rC S A' (rs T 10 U n l) n U ∧ (∀ i j, ¬ (S + 1 ≤ i ∧ i ≤ S + 7) → A' i j = A i j) := by
  obtain ⟨A1, e1, l, l1, l2, l3⟩ := cc_lineUp hg hT hd hs
  have hl : ∀ k, k < n → l k < n := fun k hk => l1.lt n 0 _ _ _ k (by omega) (by omega)
  obtain ⟨A2, e2, r2, k2⟩ := cc_settle (A := A1) (l := l) hg hd (fun i j hi => (l3 _ _ (by omega)).trans (hT i j hi)) (fun k hk => ⟨hl k hk, l2 k hk⟩)
  unfold D_X5_bySeed
  rw [zB_s e1, zB_s e2]
  exact ⟨A2, rfl, l, l1, hl, r2, fun i j z => (k2 i j (by omega)).trans (l3 i j (by omega))⟩

