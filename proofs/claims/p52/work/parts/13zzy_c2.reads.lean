/-! p52: what the class's reads answer, told for itself -/
/-- the class with a list: its pool's view T, n applicants, U units, H hunters -/
def cS (C : Nat) (A T : zMt) (n U H : Nat) : Prop := gP T n U ∧ gH T n H ∧ H ≤ 10 ∧ (∀ i j, i < 13 → A (C + 91 + i) j = T i j) ∧ A (C + 17) 0 = nI U ∧ A (C + 17) 1 = nI H ∧ (∀ u, u < U → A (C + 18) u = T 1 u) ∧ (∀ h, h < H → isN (A (C + 19) h) 0 20)
/-- a read leaves all but STATUS and the result of the last draw -/
def kR (C : Nat) (A A' : zMt) : Prop := ∀ i j, ¬ (i = C ∧ j = 0) → ¬ (C + 105 ≤ i ∧ i ≤ C + 111) → A' i j = A i j
theorem kR.rf {C : Nat} {A : zMt} : kR C A A := fun _ _ _ _ => rfl
theorem kR.tr {C : Nat} {A A' A2 : zMt} (h : kR C A A') (g : kR C A' A2) : kR C A A2 := fun i j q z => (g i j q z).trans (h i j q z)
theorem kR.s {C : Nat} {v : Int32} {A : zMt} : kR C A (zu A C 0 v) := fun i j q _ => zu_ne (by omega)
theorem cS.k {C n U H : Nat} {A A' T : zMt} (w : cS C A T n U H) (k : kR C A A') : cS C A' T n U H := by
  obtain ⟨w1, w2, w3, w4, w5, w6, w7, w8⟩ := w
  exact ⟨w1, w2, w3, fun i j hi => (k _ _ (by omega) (by omega)).trans (w4 i j hi), (k _ _ (by omega) (by omega)).trans w5, (k _ _ (by omega) (by omega)).trans w6, fun u hu => (k _ _ (by omega) (by omega)).trans (w7 u hu), fun h hh => by rw [k _ _ (by omega) (by omega)]; exact w8 h hh⟩
theorem nn0 {k : Nat} (h : k < 2147483648) : ¬ nI k < (0 : Int32) := fun q => by have := (nI_ltI (a := k) (b := 0) (by omega) (by omega)).mp q; omega
theorem nle {a b : Nat} (ha : a < 2147483648) (hb : b < 2147483648) (h : ¬ a ≤ b) : ¬ nI a ≤ nI b := fun q => h ((nI_leI (by omega) (by omega)).mp q)
theorem is_app {C n U H a : Nat} {A T : zMt} (w : cS C A T n U H) (ha : a < n) : D_X7_isApplicant C A (nI a) = some 1 := by
  obtain ⟨⟨g1, g2, g3, g4, -⟩, -, -, w4, -⟩ := w
  unfold D_X7_isApplicant
  rw [if_neg (nn0 (by omega)), show A (C + 91) 1 = nI n from (w4 0 1 (by omega)).trans g3, if_neg (nle (by omega) (by omega) (by omega))]
  rfl
theorem is_unit {C n U H u : Nat} {A T : zMt} (w : cS C A T n U H) (hu : u < U) : D_X7_isUnit C A (nI u) = some 1 := by
  obtain ⟨⟨g1, g2, g3, g4, -⟩, -, -, w4, w5, -⟩ := w
  unfold D_X7_isUnit
  rw [if_neg (nn0 (by omega)), w5, if_neg (nle (by omega) (by omega) (by omega))]
  rfl
theorem is_hun {C n U H h : Nat} {A T : zMt} (w : cS C A T n U H) (hh : h < H) : D_X7_isHunter C A (nI h) = some 1 := by
  obtain ⟨-, -, w3, -, -, w6, -⟩ := w
  unfold D_X7_isHunter
  rw [if_neg (nn0 (by omega)), w6, if_neg (nle (by omega) (by omega) (by omega))]
  rfl
theorem is_seed {v : Int32} (h0 : 0 ≤ v.toInt) (h1 : v.toInt ≤ 999999999) : D_X7_isSeed v = some 1 := by
  rcases t_isS (v := v) with ⟨q, -⟩ | ⟨q, -⟩
  · exact q
  · exfalso
    unfold D_X7_isSeed at q
    rw [if_neg (fun z => by have := Int32.lt_iff_toInt_lt.mp z; rw [show (0 : Int32).toInt = 0 by decide] at this; omega), if_neg (fun z => by have := Int32.lt_iff_toInt_lt.mp z; rw [show (999999999 : Int32).toInt = 999999999 by decide] at this; omega)] at q
    exact absurd q (by unfold D_X7_isSeed_16; decide)
theorem rd_many0 {C n U H : Nat} {A T : zMt} (w : cS C A T n U H) : D_X7_many C 0 A = some (nI U, zu A C 0 0) := by
  unfold D_X7_many
  rw [if_pos (by decide), w.2.2.2.2.1]
  rfl
theorem rd_many3 {C n U H : Nat} {A T : zMt} (w : cS C A T n U H) : D_X7_many C 3 A = some (nI n, zu A C 0 0) := by
  unfold D_X7_many
  rw [if_neg (by decide), if_neg (by decide), if_neg (by decide), if_pos (by decide), show A (C + 91) 1 = nI n from (w.2.2.2.1 0 1 (by omega)).trans w.1.2.2.1]
  rfl
/-- what of an applicant -/
def aF (T : zMt) (a f : Nat) : Int32 := if f = 0 then T 5 a else if f = 1 then T 6 a else if f = 2 then T 7 a else if f = 3 then T 8 a else if f = 4 then T 11 a else if f = 5 then T 9 a else T 10 a
theorem rd_app {C n U H a f : Nat} {A T : zMt} (w : cS C A T n U H) (ha : a < n) (hf : f < 7) : D_X7_applicant C (nI a) (nI f) A = some (aF T a f, zu A C 0 0) := by
  have e := is_app w ha
  obtain ⟨⟨g1, g2, g3, g4, -⟩, -, -, w4, -⟩ := w
  unfold D_X7_applicant
  rw [if_neg (nn0 (by omega)), if_pos (show nI f ≤ (6 : Int32) from (nI_leI (a := f) (b := 6) (by omega) (by omega)).mpr (by omega)), zB_s e, if_neg (by decide)]
  have hz : ∀ i, zrd 0 (A (C + i)) 10 (nI a) = A (C + i) a := fun i => zrd_nI (by omega) (by omega)
  rw [hz, hz, hz, hz, hz, hz, hz]
  have q : ∀ i, i < 13 → A (C + 91 + i) a = T i a := fun i hi => w4 i a hi
  rcases (show f = 0 ∨ f = 1 ∨ f = 2 ∨ f = 3 ∨ f = 4 ∨ f = 5 ∨ f = 6 by omega) with rfl | rfl | rfl | rfl | rfl | rfl | rfl
  · rw [if_pos (by decide), q 5 (by omega)]; rfl
  · rw [if_neg (by decide), if_pos (by decide), q 6 (by omega)]; rfl
  · rw [if_neg (by decide), if_neg (by decide), if_pos (by decide), q 7 (by omega)]; rfl
  · rw [if_neg (by decide), if_neg (by decide), if_neg (by decide), if_pos (by decide), q 8 (by omega)]; rfl
  · rw [if_neg (by decide), if_neg (by decide), if_neg (by decide), if_neg (by decide), if_pos (by decide), q 11 (by omega)]; rfl
  · rw [if_neg (by decide), if_neg (by decide), if_neg (by decide), if_neg (by decide), if_neg (by decide), if_pos (by decide), q 9 (by omega)]; rfl
  · rw [if_neg (by decide), if_neg (by decide), if_neg (by decide), if_neg (by decide), if_neg (by decide), if_neg (by decide), q 10 (by omega)]; rfl
def uF (T : zMt) (u f : Nat) : Int32 := if f = 0 then T 1 u else if f = 1 then T 2 u else T 3 u
theorem rd_unit {C n U H u f : Nat} {A T : zMt} (w : cS C A T n U H) (hu : u < U) (hf : f < 3) : D_X7_unit C (nI u) (nI f) A = some (uF T u f, zu A C 0 0) := by
  have e := is_unit w hu
  obtain ⟨⟨g1, g2, g3, g4, -⟩, -, -, w4, -, -, w7, -⟩ := w
  unfold D_X7_unit
  rw [if_neg (nn0 (by omega)), if_pos (show nI f ≤ (5 : Int32) from (nI_leI (a := f) (b := 5) (by omega) (by omega)).mpr (by omega)), zB_s e, if_neg (by decide)]
  have hz : ∀ i, zrd 0 (A (C + i)) 5 (nI u) = A (C + i) u := fun i => zrd_nI (by omega) (by omega)
  rw [hz, hz, hz]
  have q : ∀ i, i < 13 → A (C + 91 + i) u = T i u := fun i hi => w4 i u hi
  rcases (show f = 0 ∨ f = 1 ∨ f = 2 by omega) with rfl | rfl | rfl
  · rw [if_pos (by decide), w7 u hu]; rfl
  · rw [if_neg (by decide), if_pos (by decide), q 2 (by omega)]; rfl
  · rw [if_neg (by decide), if_neg (by decide), if_pos (by decide), q 3 (by omega)]; rfl
/-- a wish; none behind the last one -/
theorem rd_choice {C n U H a k : Nat} {A T : zMt} (w : cS C A T n U H) (ha : a < n) (hk : k < 3) : ∃ v, D_X7_choice C (nI a) (nI k) A = some (T 12 (3 * a + k), zu A C 0 v) := by
  have e := is_app w ha
  obtain ⟨⟨g1, g2, g3, g4, g5, -⟩, -, -, w4, -⟩ := w
  obtain ⟨-, -, -, c, c3, c4, c5, c6⟩ := g5 a ha
  unfold D_X7_choice
  rw [if_pos (show (0 : Int32) ≤ nI k from (nI_leI (a := 0) (b := k) (by omega) (by omega)).mpr (by omega)), zB_s e, if_neg (by decide), zrd_nI (by omega) (by omega), show A (C + 102) a = nI c from (w4 11 a (by omega)).trans c4]
  by_cases z : k < c
  · rw [if_pos ((nI_ltI (by omega) (by omega)).mpr z)]
    unfold D_X2_wish
    rw [nI_m3k a (by omega) k hk, zrd_nI (by omega) (by omega), show A (C + 91 + 12) (3 * a + k) = T 12 (3 * a + k) from w4 12 _ (by omega)]
    exact ⟨0, rfl⟩
  · rw [if_neg (fun q => z ((nI_ltI (by omega) (by omega)).mp q)), c6 k (by omega) hk]
    exact ⟨5, rfl⟩
theorem rd_hun3 {C n U H h : Nat} {A T : zMt} (w : cS C A T n U H) (hh : h < H) : D_X7_hunter C (nI h) 3 A = some (nI (aOf T h), zu A C 0 0) := by
  have e := is_hun w hh
  obtain ⟨-, w2, w3, w4, -⟩ := w
  unfold D_X7_hunter
  rw [if_neg (by decide), if_pos (by decide), zB_s e, if_neg (by decide), if_neg (by decide), if_neg (by decide), if_neg (by decide), if_pos (by decide), zrd_nI (by omega) (by omega), show A (C + 95) h = T 4 h from w4 4 h (by omega), (w2 h hh).2.1]
  rfl
theorem rd_hun0 {C n U H h : Nat} {A T : zMt} (w : cS C A T n U H) (hh : h < H) : D_X7_hunter C (nI h) 0 A = some (A (C + 19) h, zu A C 0 0) := by
  have e := is_hun w hh
  obtain ⟨-, w2, w3, w4, -⟩ := w
  unfold D_X7_hunter
  rw [if_neg (by decide), if_pos (by decide), zB_s e, if_neg (by decide), if_pos (by decide), zrd_nI (by omega) (by omega)]
  rfl
/-- the draw by a seed, told of the class -/
theorem cS.draw {C n U H : Nat} {A T : zMt} {seed : Int32} (w : cS C A T n U H) (hs : 0 ≤ seed.toInt) {l : Nat → Nat} (hl : LOs (T 8) n l n 0 (Int32.toInt64 seed) (T 0 2) 0) : ∃ A', D_X5_bySeed (C + 104) (C + 91) seed A = some A' ∧ rC (C + 104) A' (rs T 10 U n l) n U ∧ kR C A A' := by
  obtain ⟨w1, w2, w3, w4, -⟩ := w
  obtain ⟨A', e, l', l1, l2, r1, k1⟩ := cc_bySeed (Q := C + 91) (S := C + 104) w1 w4 (by omega) hs
  obtain ⟨g1, g2, g3, g4, g5, g6, g7⟩ := w1
  have el : ∀ k, k < n → l' k = l k := fun k hk => LOs.one (fun a ha => by have := (g5 a ha).2.2.1.i (by omega); omega) n 0 _ _ _ l1 hl k (by omega) (by omega)
  have ers : rs T 10 U n l' = rs T 10 U n l := by
    have : ∀ m, m ≤ n → lp l' m = lp l m := fun m => by
      induction m with
      | zero => intro _; rfl
      | succ m ih =>
        intro hm
        show lp l' m ++ [l' m] = lp l m ++ [l m]
        rw [ih (by omega), el m (by omega)]
    unfold rs
    rw [this n (Nat.le_refl n)]
  rw [ers] at r1
  exact ⟨A', e, r1, fun i j q1 q2 => k1 i j (by omega)⟩
theorem rd_order {C n U H i : Nat} {A T : zMt} {seed : Int32} (w : cS C A T n U H) (hs : 0 ≤ seed.toInt) (hs2 : seed.toInt ≤ 999999999) {l : Nat → Nat} (hl : LOs (T 8) n l n 0 (Int32.toInt64 seed) (T 0 2) 0) (hi : i < n) : ∃ A', D_X7_order C seed (nI i) A = some (nI (l i), A') ∧ kR C A A' := by
  obtain ⟨w1, w2, w3, w4, -⟩ := id w
  obtain ⟨A', e, l', l1, l2, k1⟩ := cc_lineUp (Q := C + 91) (S := C + 104) w1 w4 (by omega) hs
  obtain ⟨g1, g2, g3, g4, g5, g6, g7⟩ := w1
  have el : l' i = l i := LOs.one (fun a ha => by have := (g5 a ha).2.2.1.i (by omega); omega) n 0 _ _ _ l1 hl i (by omega) (by omega)
  unfold D_X7_order
  rw [zB_s (is_seed hs hs2), if_neg (by decide), if_pos (show (0 : Int32) ≤ nI i from (nI_leI (a := 0) (b := i) (by omega) (by omega)).mpr (by omega)), show A (C + 91) 1 = nI n from (w4 0 1 (by omega)).trans g3, if_pos ((nI_ltI (by omega) (by omega)).mpr hi), zB_s e, zrd_nI (by omega) (by omega), show A' (C + 105) i = nI (l i) from (l2 i hi).trans (by rw [el])]
  exact ⟨_, rfl, (show kR C A A' from fun i' j q1 q2 => k1 i' j (by omega)).tr kR.s⟩
theorem rd_orderN {C n U H : Nat} {A T : zMt} (w : cS C A T n U H) : D_X7_order C 0 (nI n) A = some (-1, zu A C 0 5) := by
  obtain ⟨⟨g1, g2, g3, g4, g5, g6, g7⟩, w2, w3, w4, -⟩ := w
  unfold D_X7_order
  rw [zB_s (is_seed (by decide) (by decide)), if_neg (by decide), if_pos (show (0 : Int32) ≤ nI n from (nI_leI (a := 0) (b := n) (by omega) (by omega)).mpr (by omega)), show A (C + 91) 1 = nI n from (w4 0 1 (by omega)).trans g3, if_neg (fun q => by have := (nI_ltI (a := n) (b := n) (by omega) (by omega)).mp q; omega)]
  rfl
theorem rd_drawn {C n U H a : Nat} {A T : zMt} {seed : Int32} (w : cS C A T n U H) (hs : 0 ≤ seed.toInt) (hs2 : seed.toInt ≤ 999999999) {l : Nat → Nat} (hl : LOs (T 8) n l n 0 (Int32.toInt64 seed) (T 0 2) 0) (ha : a < n) : ∃ A', D_X7_drawn C seed (nI a) A = some (rs T 10 U n l 0 a, A') ∧ kR C A A' ∧ (rs T 10 U n l 0 a = -1 → A' C 0 = 5) := by
  obtain ⟨A', e, r1, k1⟩ := w.draw hs hl
  unfold D_X7_drawn
  rw [zB_s (is_seed hs hs2), if_neg (by decide), zB_s (is_app w ha), if_neg (by decide), zB_s e, zrd_nI (by have := w.1.1; omega) (by omega), show A' (C + 106) a = rs T 10 U n l 0 a from (r1.1 a ha).1]
  by_cases z : rs T 10 U n l 0 a = -1
  · rw [if_pos z, z]
    exact ⟨_, rfl, k1.tr kR.s, fun _ => zu_eq⟩
  · rw [if_neg z]
    exact ⟨_, rfl, k1.tr kR.s, fun q => absurd q z⟩
theorem rd_drawnN {C n U H : Nat} {A T : zMt} (w : cS C A T n U H) : D_X7_drawn C 0 (nI n) A = some (-1, zu A C 0 2) := by
  obtain ⟨⟨g1, g2, g3, g4, g5, g6, g7⟩, w2, w3, w4, -⟩ := w
  have e : D_X7_isApplicant C A (nI n) = some 0 := by
    unfold D_X7_isApplicant
    rw [if_neg (nn0 (by omega)), show A (C + 91) 1 = nI n from (w4 0 1 (by omega)).trans g3, if_pos ((nI_leI (by omega) (by omega)).mpr (Nat.le_refl n))]
    rfl
  unfold D_X7_drawn
  rw [zB_s (is_seed (by decide) (by decide)), if_neg (by decide), zB_s e, if_pos rfl]
  rfl
theorem rd_round {C n U H a : Nat} {A T : zMt} {seed : Int32} (w : cS C A T n U H) (hs : 0 ≤ seed.toInt) (hs2 : seed.toInt ≤ 999999999) {l : Nat → Nat} (hl : LOs (T 8) n l n 0 (Int32.toInt64 seed) (T 0 2) 0) (ha : a < n) (hg : ¬ rs T 10 U n l 0 a = -1) : ∃ A', D_X7_round C seed (nI a) A = some (rs T 10 U n l 1 a, A') ∧ kR C A A' := by
  obtain ⟨A', e, r1, k1⟩ := w.draw hs hl
  unfold D_X7_round
  rw [zB_s (is_seed hs hs2), if_neg (by decide), zB_s (is_app w ha), if_neg (by decide), zB_s e, zrd_nI (by have := w.1.1; omega) (by omega), show A' (C + 106) a = rs T 10 U n l 0 a from (r1.1 a ha).1, if_neg hg, zrd_nI (by have := w.1.1; omega) (by omega), show A' (C + 107) a = rs T 10 U n l 1 a from (r1.1 a ha).2]
  exact ⟨_, rfl, k1.tr kR.s⟩
theorem rd_left {C n U H u : Nat} {A T : zMt} {seed : Int32} (w : cS C A T n U H) (hs : 0 ≤ seed.toInt) (hs2 : seed.toInt ≤ 999999999) {l : Nat → Nat} (hl : LOs (T 8) n l n 0 (Int32.toInt64 seed) (T 0 2) 0) (hu : u < U) : ∃ A', D_X7_left C seed (nI u) 0 A = some (rs T 10 U n l 2 u, A') ∧ kR C A A' := by
  obtain ⟨A', e, r1, k1⟩ := w.draw hs hl
  unfold D_X7_left
  rw [zB_s (is_seed hs hs2), if_neg (by decide), if_neg (by decide), if_pos (by decide), zB_s (is_unit w hu), if_neg (by decide), zB_s e, if_pos (by decide), zrd_nI (by have := w.1.2.1; omega) (by omega), show A' (C + 108) u = rs T 10 U n l 2 u from (r1.2 u hu).1]
  exact ⟨_, rfl, k1.tr kR.s⟩
theorem rd_behind {C n U H h : Nat} {A T : zMt} {seed : Int32} (w : cS C A T n U H) (hs : 0 ≤ seed.toInt) (hs2 : seed.toInt ≤ 999999999) {l : Nat → Nat} (hl : LOs (T 8) n l n 0 (Int32.toInt64 seed) (T 0 2) 0) (hh : h < H) : ∃ A', D_X7_behind C seed (nI h) A = some (bh T (rs T 10 U n l) (aOf T h) (A (C + 19) h), A') ∧ kR C A A' := by
  obtain ⟨A', e, r1, k1⟩ := w.draw hs hl
  have w' := w.k k1
  obtain ⟨v1, v2, v3, v4, -⟩ := w'
  unfold D_X7_behind
  rw [zB_s (is_seed hs hs2), if_neg (by decide), zB_s (is_hun w hh), if_neg (by decide), zB_s e, zrd_nI (by omega) (by omega), zrd_nI (by omega) (by omega), show A' (C + 95) h = T 4 h from v4 4 h (by omega), (v2 h hh).2.1, zB_s (cc_behind (n := n) (U := U) (T := T) (s := rs T 10 U n l) v1.1 (v2 h hh).1 v4 r1), k1 _ _ (by omega) (by omega)]
  exact ⟨_, rfl, k1.tr kR.s⟩
/-- the winners' bits -/
def wB (T s : zMt) : Nat → Int32
  | 0 => 0
  | a + 1 => if s 0 a = -1 then wB T s a else wB T s a ||| T 9 a
theorem rd_win29 {C n U : Nat} {A T s : zMt} (hn : n ≤ 10) (h1 : A (C + 91) 1 = nI n) (h9 : ∀ a, a < n → A (C + 100) a = T 9 a) (hr : ∀ a, a < n → A (C + 106) a = s 0 a) : ∀ (u a : Nat), a ≤ n → n - a < u → D_X7_winners_29 C u (wB T s a) (nI a) A = some (wB T s n, zu A C 0 0) := by
  intro u
  induction u with
  | zero => intro a _ h; omega
  | succ u ih =>
    intro a ha hu
    rw [D_X7_winners_29, h1]
    by_cases c : n ≤ a
    · have : a = n := by omega
      subst this
      rw [if_pos ((nI_leI (by omega) (by omega)).mpr (Nat.le_refl a))]
      rfl
    · rw [if_neg (nle (by omega) (by omega) c), zrd_nI (by omega) (by omega), zrd_nI (by omega) (by omega), hr a (by omega), h9 a (by omega)]
      unfold D_X7_winners_69
      rw [nI_add1]
      have q := ih (a + 1) (by omega) (by omega)
      by_cases z : s 0 a = -1
      · rw [if_pos z]
        have e : wB T s (a + 1) = wB T s a := if_pos z
        rw [e] at q; exact q
      · rw [if_neg z]
        have e : wB T s (a + 1) = wB T s a ||| T 9 a := if_neg z
        rw [e] at q; exact q
theorem rd_winners {C n U H : Nat} {A T : zMt} {seed : Int32} (w : cS C A T n U H) (hs : 0 ≤ seed.toInt) (hs2 : seed.toInt ≤ 999999999) {l : Nat → Nat} (hl : LOs (T 8) n l n 0 (Int32.toInt64 seed) (T 0 2) 0) : ∃ A', D_X7_winners C seed A = some (wB T (rs T 10 U n l) n, A') ∧ kR C A A' := by
  obtain ⟨A', e, r1, k1⟩ := w.draw hs hl
  obtain ⟨v1, v2, v3, v4, -⟩ := w.k k1
  unfold D_X7_winners
  rw [zB_s (is_seed hs hs2), if_neg (by decide), zB_s e]
  have q := rd_win29 (C := C) (U := U) (A := A') (T := T) (s := rs T 10 U n l) v1.1 ((v4 0 1 (by omega)).trans v1.2.2.1) (fun a ha => v4 9 a (by omega)) (fun a ha => (r1.1 a ha).1) zFu 0 (by omega) (by have := v1.1; unfold zFu; omega)
  exact ⟨_, q, k1.tr kR.s⟩
theorem rd_winnersN {C : Nat} {A : zMt} : D_X7_winners C (-1) A = some (-1, zu A C 0 1) := by
  unfold D_X7_winners D_X7_isSeed D_X7_isSeed_15 D_X7_isSeed_16
  rw [if_pos (by decide), zB_s rfl, if_pos rfl]
  rfl

