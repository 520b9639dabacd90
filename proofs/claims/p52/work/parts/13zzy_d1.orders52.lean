/-! p52: the law's order, told of the class that it asks -/
theorem o_b01 (y : Int32) : y &&& 1 = 0 ∨ y &&& 1 = 1 := by
  rw [← Int32.toBitVec_inj, ← Int32.toBitVec_inj, Int32.toBitVec_and]
  show y.toBitVec &&& 1#32 = 0#32 ∨ y.toBitVec &&& 1#32 = 1#32
  rw [BitVec.and_one_eq_setWidth_ofBool_getLsbD]
  cases y.toBitVec.getLsbD 0 <;> decide
theorem o_bit0 {b : Int32} {a : Nat} (h : ¬ bitAt b a) : ((b >>> (nI a &&& 31)) &&& 1) = 0 := by
  rcases o_b01 (b >>> (nI a &&& 31)) with z | z
  · exact z
  · exact absurd z h
theorem o_bit1 {b : Int32} {a : Nat} (h : bitAt b a) : ¬ ((b >>> (nI a &&& 31)) &&& 1) = 0 := fun z => by
  have h' : ((b >>> (nI a &&& 31)) &&& 1) = 1 := h
  rw [z] at h'
  exact absurd h' (by decide)
theorem zI_nI {β : Type} {a n : Nat} {o : Option β} (h : a < n) (hn : n < 2 ^ 31) : zI (nI a) n o = o := by
  unfold zI
  rw [if_neg (vp_in_nI h hn)]
theorem ap3 {C n U H a : Nat} {A T : zMt} (w : cS C A T n U H) (ha : a < n) : D_X7_applicant C (nI a) (3 : Int32) A = some (T 8 a, zu A C 0 0) := by
  have e := rd_app (f := 3) w ha (by omega)
  exact e
theorem ap0 {C n U H a : Nat} {A T : zMt} (w : cS C A T n U H) (ha : a < n) : D_X7_applicant C (nI a) (0 : Int32) A = some (T 5 a, zu A C 0 0) := by
  have e := rd_app (f := 0) w ha (by omega)
  exact e
theorem ap1 {C n U H a : Nat} {A T : zMt} (w : cS C A T n U H) (ha : a < n) : D_X7_applicant C (nI a) (1 : Int32) A = some (T 6 a, zu A C 0 0) := by
  have e := rd_app (f := 1) w ha (by omega)
  exact e
theorem ap2 {C n U H a : Nat} {A T : zMt} (w : cS C A T n U H) (ha : a < n) : D_X7_applicant C (nI a) (2 : Int32) A = some (T 7 a, zu A C 0 0) := by
  have e := rd_app (f := 2) w ha (by omega)
  exact e
theorem ap4 {C n U H a : Nat} {A T : zMt} (w : cS C A T n U H) (ha : a < n) : D_X7_applicant C (nI a) (4 : Int32) A = some (T 11 a, zu A C 0 0) := by
  have e := rd_app (f := 4) w ha (by omega)
  exact e
theorem ap5 {C n U H a : Nat} {A T : zMt} (w : cS C A T n U H) (ha : a < n) : D_X7_applicant C (nI a) (5 : Int32) A = some (T 9 a, zu A C 0 0) := by
  have e := rd_app (f := 5) w ha (by omega)
  exact e
theorem cS.t8 {C n U H : Nat} {A T : zMt} (w : cS C A T n U H) : ∀ a, a < n → 1 ≤ (T 8 a).toInt ∧ (T 8 a).toInt ≤ 401 := fun a ha => by
  have := (w.1.2.2.2.2.1 a ha).2.2.1.i (by omega)
  omega
/-- the tickets of those who are not in yet are added -/
theorem o_sum {P C n U H i : Nat} {T : zMt} {b : Int32} {x : Int64} {k9 : Int64 → Int32 → Int32 → zMt → Option zMt} (hP : P + 5 ≤ C) (hn : n ≤ 8) : ∀ (u a : Nat) (v : Int32) (A : zMt), a ≤ n → n - a < u → cS C A T n U H → A P 2 = nI n → v.toInt = St (T 8) b a → ∃ A' v', D_L_orders_24 P C k9 u x b (nI i) v (nI a) A = (zZl (Int32.toInt64 v') <| D_L_orders_93 P C k9 zFu (xN x) b (nI i) (xD x v') (0 : Int32) A') ∧ v'.toInt = St (T 8) b n ∧ kR C A A' := by
  intro u
  induction u with
  | zero => intro a v A _ h; omega
  | succ u ih =>
    intro a v A ha hu w h2 hv
    have ht := w.t8
    rw [D_L_orders_24, h2]
    by_cases c : n ≤ a
    · have : a = n := by omega
      subst this
      rw [if_pos (by exact (nI_leI (by omega) (by omega)).mpr (Nat.le_refl a))]
      exact ⟨A, v, rfl, hv, kR.rf⟩
    · rw [if_neg (nle (by omega) (by omega) c)]
      have hss := St_s (t := T 8) (b := b) (n := a)
      have hSa := St_le (t := T 8) (b := b) a (fun a ha => ht a (by omega))
      have hta := ht a (by omega)
      by_cases q : bitAt b a
      · rw [if_neg (o_bit1 q)]
        rw [if_pos (by exact q)] at hss
        unfold D_L_orders_56
        rw [nI_add1, Int32.add_zero]
        exact ih (a + 1) v A (by omega) (by omega) w h2 (by rw [hv, hss]; omega)
      · rw [if_pos (o_bit0 q), zB_s (ap3 w (by omega))]
        rw [if_neg (by exact q)] at hss
        unfold D_L_orders_56
        rw [nI_add1]
        obtain ⟨A', v', e1, e2, e3⟩ := ih (a + 1) (v + T 8 a) (zu A C 0 0) (by omega) (by omega) (w.k kR.s) ((zu_ne (by omega)).trans h2) (by rw [z_add (by omega) (by omega), hv, hss])
        exact ⟨A', v', e1, e2, kR.s.tr e3⟩
/-- where the draw falls -/
theorem o_find {P C n U H i y : Nat} {T : zMt} {b : Int32} {x : Int64} {k9 : Int64 → Int32 → Int32 → zMt → Option zMt} {Lf : Int} (hn : n ≤ 8) (hi : i < 8) (hy : y < n) (hL0 : 0 ≤ Lf) (h2 : St (T 8) b y ≤ Lf) (h3 : Lf < St (T 8) b (y + 1)) : ∀ (u a : Nat) (v : Int64) (A : zMt), a ≤ y → y - a < u → cS C A T n U H → v.toInt = Lf - St (T 8) b a → ∃ A', D_L_orders_93 P C k9 u x b (nI i) v (nI a) A = k9 x (b ||| ((1 : Int32) <<< (nI y &&& 31))) (nI (i + 1)) (zu A' (P + 2) i (nI y)) ∧ kR C A A' := by
  intro u
  induction u with
  | zero => intro a v A _ h; omega
  | succ u ih =>
    intro a v A ha hu w hv
    have ht := w.t8
    have hS1 := St_le (t := T 8) (b := b) (y + 1) (fun a ha => ht a (by omega))
    have hSa := St_le (t := T 8) (b := b) a (fun a ha => ht a (by omega))
    have hm : ∀ m, m ≤ y → St (T 8) b m ≤ St (T 8) b y := fun m hm => St_mono (fun a ha => (ht a (by omega)).1) m hm
    have hss := St_s (t := T 8) (b := b) (n := a)
    have hta := ht a (by omega)
    have e0 : (T 8 a).toInt64.toInt = (T 8 a).toInt := Int32.toInt_toInt64 (T 8 a)
    have hma := hm a ha
    rw [D_L_orders_93]
    by_cases q : bitAt b a
    · have q' : ((b >>> (nI a &&& 31)) &&& 1) = 1 := q
      rw [if_pos q']
      rw [if_pos (by exact q)] at hss
      have hay : ¬ a = y := fun z => by subst z; omega
      unfold D_L_orders_118
      rw [if_neg (o_bit1 q)]
      unfold D_L_orders_142
      rw [nI_add1]
      exact ih (a + 1) (v - 0) A (by omega) (by omega) w (by rw [Int64.sub_zero, hv, hss]; omega)
    · have q' : ¬ ((b >>> (nI a &&& 31)) &&& 1) = 1 := q
      rw [if_neg q', zB_s (ap3 w (by omega))]
      rw [if_neg (by exact q)] at hss
      by_cases z : a = y
      · subst z
        rw [if_pos (by exact lgc_lt.mpr (by rw [e0, hv]; omega)), zI_nI hi (by decide), zLt_eq, nI_clamp (by omega), nI_add1]
        exact ⟨_, rfl, kR.s⟩
      · have := hm (a + 1) (by omega)
        rw [if_neg (by intro p; have := lgc_lt.mp p; rw [e0, hv] at this; omega)]
        unfold D_L_orders_118
        rw [if_pos (o_bit0 q), zB_s (ap3 (w.k kR.s) (by omega))]
        unfold D_L_orders_142
        rw [nI_add1]
        obtain ⟨A', f1, f2⟩ := ih (a + 1) (v - Int32.toInt64 (T 8 a)) (zu (zu A C 0 0) C 0 0) (by omega) (by omega) ((w.k kR.s).k kR.s) (by
          have e1 : (v - Int32.toInt64 (T 8 a)).toInt = v.toInt - (T 8 a).toInt := by
            rw [Int64.toInt_sub, e0, hv, Int.bmod_def]
            omega
          rw [e1, hv, hss]
          omega)
        exact ⟨A', f1, (kR.s.tr kR.s).tr f2⟩
/-- what the order leaves: all but STATUS, the last draw's result and its own row from i on -/
def kO (P C i : Nat) (A A' : zMt) : Prop := ∀ a j, ¬ (a = C ∧ j = 0) → ¬ (C + 105 ≤ a ∧ a ≤ C + 111) → ¬ (a = P + 2 ∧ i ≤ j) → A' a j = A a j
theorem o_main {P C n U H : Nat} {T : zMt} (hP : P + 5 ≤ C) (hn : n ≤ 8) : ∀ (c u i : Nat) (x : Int64) (b s : Int32) (A : zMt), i + c = n → c < u → 0 ≤ x.toInt → x.toInt < 2147483648 → s.toInt = St (T 8) b n → cn b n = i → cS C A T n U H → A P 2 = nI n → ∃ A', D_L_orders_9 P C u x b (nI i) A = some A' ∧ ∃ l, LOs (T 8) n l c i x s b ∧ (∀ k, i ≤ k → k < n → A' (P + 2) k = nI (l k)) ∧ kO P C i A A' := by
  intro c
  induction c with
  | zero =>
    intro u i x b s A hi hu _ _ _ _ w h2
    obtain ⟨u, rfl⟩ : ∃ y, u = y + 1 := ⟨u - 1, by omega⟩
    have : i = n := by omega
    subst this
    rw [D_L_orders_9, h2, if_pos (by exact (nI_leI (by omega) (by omega)).mpr (Nat.le_refl i))]
    exact ⟨A, rfl, fun _ => 0, trivial, fun k k1 k2 => by omega, fun _ _ _ _ _ => rfl⟩
  | succ c ih =>
    intro u i x b s A hi hu hx0 hx1 hs hc w h2
    obtain ⟨u, rfl⟩ : ∃ y, u = y + 1 := ⟨u - 1, by omega⟩
    have ht := w.t8
    have hSg := St_ge (t := T 8) (b := b) n (fun a ha => (ht a ha).1)
    rw [hc] at hSg
    have hs1 : 1 ≤ s.toInt := by omega
    have hS64 : ¬ Int32.toInt64 s = 0 := fun z => by
      have e0 : s.toInt64.toInt = s.toInt := Int32.toInt_toInt64 s
      rw [z, show (0 : Int64).toInt = 0 by decide] at e0
      omega
    have dd := xD_rng hx0 hx1 hs1
    have xx := xN_rng hx0 hx1
    obtain ⟨d, hd1⟩ : ∃ d, d = xD x s := ⟨_, rfl⟩
    obtain ⟨xn, hxn⟩ : ∃ y, y = xN x := ⟨_, rfl⟩
    rw [← hd1, hs] at dd
    rw [← hxn] at xx
    obtain ⟨d0, d1⟩ := dd
    obtain ⟨x0, x1⟩ := xx
    obtain ⟨y, hy, hy1, hy2⟩ := St_find n d0 d1
    have hby : ¬ bitAt b y := fun z => by
      have := St_s (t := T 8) (b := b) (n := y)
      rw [if_pos (by exact z)] at this
      omega
    rw [D_L_orders_9, h2, if_neg (nle (by omega) (by omega) (by omega))]
    obtain ⟨A1, v, e1, e2, e3⟩ := o_sum (P := P) (C := C) (i := i) (b := b) (x := x) (k9 := D_L_orders_9 P C u) hP hn zFu 0 0 A (by omega) (by unfold zFu; omega) w h2 (by show (0 : Int32).toInt = 0; decide)
    have ev : v = s := Int32.toInt_inj.mp (e2.trans hs.symm)
    subst ev
    have e1' : D_L_orders_24 P C (D_L_orders_9 P C u) zFu x b (nI i) (0 : Int32) (0 : Int32) A = _ := e1
    rw [e1']
    unfold zZl
    rw [if_neg hS64, ← hd1, ← hxn]
    obtain ⟨A2, f1, f2⟩ := o_find (P := P) (C := C) (b := b) (x := xn) (k9 := D_L_orders_9 P C u) (i := i) hn (by omega) hy d0 hy1 hy2 zFu 0 d A1 (by omega) (by unfold zFu; omega) (w.k e3) (by show d.toInt = d.toInt - (0 : Int); omega)
    have f1' : D_L_orders_93 P C (D_L_orders_9 P C u) zFu xn b (nI i) d (0 : Int32) A1 = _ := f1
    rw [f1']
    have hso := St_or (t := T 8) (a := y) (by omega) hby n (by omega)
    have hco := cn_or (a := y) (by omega) hby n (by omega)
    rw [if_pos (by omega)] at hso hco
    have hTy := ht y hy
    have hTm := St_le (t := T 8) (b := b) n ht
    have k2 : kR C A A2 := e3.tr f2
    have w2 : cS C (zu A2 (P + 2) i (nI y)) T n U H := by
      obtain ⟨w1, w2, w3, w4, w5, w6, w7, w8⟩ := w.k k2
      exact ⟨w1, w2, w3, fun i j hi => (zu_ne (by omega)).trans (w4 i j hi), (zu_ne (by omega)).trans w5, (zu_ne (by omega)).trans w6, fun u hu => (zu_ne (by omega)).trans (w7 u hu), fun h hh => by rw [zu_ne (by omega)]; exact w8 h hh⟩
    obtain ⟨A', g1, l, g2, g3, g4⟩ := ih u (i + 1) xn (b ||| ((1 : Int32) <<< (nI y &&& 31))) (v - T 8 y) (zu A2 (P + 2) i (nI y)) (by omega) (by omega) x0 x1 (by rw [hso, z_sub (by omega) (by omega), hs]) (by rw [hco, hc]) w2 ((zu_ne (by omega)).trans ((k2 _ _ (by omega) (by omega)).trans h2))
    refine ⟨A', g1, fun k => if k = i then y else l k, ?_, fun k k1 k2 => ?_, fun a j z1 z2 z3 => (g4 a j z1 z2 (by omega)).trans ((zu_ne (by omega)).trans (k2 a j z1 z2))⟩
    · have ei : (fun k => if k = i then y else l k) i = y := if_pos rfl
      show (fun k => if k = i then y else l k) i < n ∧ ¬ bitAt b ((fun k => if k = i then y else l k) i) ∧ St (T 8) b ((fun k => if k = i then y else l k) i) ≤ (xD x v).toInt ∧ (xD x v).toInt < St (T 8) b ((fun k => if k = i then y else l k) i + 1) ∧ LOs (T 8) n (fun k => if k = i then y else l k) c (i + 1) (xN x) (v - T 8 ((fun k => if k = i then y else l k) i)) (b ||| ((1 : Int32) <<< (nI ((fun k => if k = i then y else l k) i) &&& 31)))
      rw [ei, ← hd1, ← hxn]
      exact ⟨hy, hby, hy1, hy2, g2.congr c (i + 1) _ _ _ (fun k k1 k2 => if_neg (by omega))⟩
    · show A' (P + 2) k = nI (if k = i then y else l k)
      by_cases q : k = i
      · subst q
        rw [if_pos rfl, g4 _ _ (by omega) (by omega) (by omega), zu_eq]
      · rw [if_neg q]; exact g3 k (by omega) k2
theorem cc_orders {P C n U H : Nat} {A T : zMt} {seed : Int32} (hP : P + 5 ≤ C) (hn : n ≤ 8) (w : cS C A T n U H) (h2 : A P 2 = nI n) (hs : 0 ≤ seed.toInt) : ∃ A', D_L_orders P C seed A = some A' ∧ ∃ l, LOs (T 8) n l n 0 (Int32.toInt64 seed) (T 0 2) 0 ∧ (∀ k, k < n → A' (P + 2) k = nI (l k)) ∧ kO P C 0 A A' := by
  have hlt := Int32.toInt_lt seed
  have g6 := w.1.2.2.2.2.2.1
  unfold D_L_orders
  obtain ⟨A', e, l, l1, l2, l3⟩ := o_main (P := P) (C := C) (T := T) hP hn n zFu 0 (Int32.toInt64 seed) 0 (T 0 2) A (by omega) (by unfold zFu; omega) (by rw [Int32.toInt_toInt64]; exact hs) (by rw [Int32.toInt_toInt64]; omega) g6 (cn_0 n) w h2
  exact ⟨A', e, l, l1, fun k hk => l2 k (by omega) hk, l3⟩

