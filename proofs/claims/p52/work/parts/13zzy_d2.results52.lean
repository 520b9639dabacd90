/-! p52: the law's result by hand is the result told for itself -/
/-- the law with its order laid -/
def wR (P C n U H : Nat) (T : zMt) (l : Nat → Nat) (A : zMt) : Prop := cS C A T n U H ∧ A P 2 = nI n ∧ A P 3 = nI U ∧ ∀ k, k < n → A (P + 2) k = nI (l k)
/-- what it leaves while it works a result out -/
def kS (P C F Gs : Nat) (A A' : zMt) : Prop := ∀ i j, ¬ (i = C ∧ j = 0) → ¬ (C + 105 ≤ i ∧ i ≤ C + 111) → ¬ (i = P + 3 ∨ i = P + 4 ∨ i = F ∨ i = Gs) → A' i j = A i j
theorem kS.rf {P C F Gs : Nat} {A : zMt} : kS P C F Gs A A := fun _ _ _ _ _ => rfl
theorem kS.tr {P C F Gs : Nat} {A A' A2 : zMt} (h : kS P C F Gs A A') (g : kS P C F Gs A' A2) : kS P C F Gs A A2 := fun i j q z y => (g i j q z y).trans (h i j q z y)
theorem kR.kS {P C F Gs : Nat} {A A' : zMt} (h : kR C A A') : kS P C F Gs A A' := fun i j q z _ => h i j q z
theorem wR.k {P C F Gs n U H : Nat} {T A A' : zMt} {l : Nat → Nat} (hP : P + 5 ≤ C) (hF : C + 112 ≤ F) (hG : C + 112 ≤ Gs) (w : wR P C n U H T l A) (k : kS P C F Gs A A') : wR P C n U H T l A' := by
  obtain ⟨⟨v1, v2, v3, v4, v5, v6, v7, v8⟩, w2, w3, w4⟩ := w
  exact ⟨⟨v1, v2, v3, fun i j hi => (k _ _ (by omega) (by omega) (by omega)).trans (v4 i j hi), (k _ _ (by omega) (by omega) (by omega)).trans v5, (k _ _ (by omega) (by omega) (by omega)).trans v6, fun u hu => (k _ _ (by omega) (by omega) (by omega)).trans (v7 u hu), fun h hh => by rw [k _ _ (by omega) (by omega) (by omega)]; exact v8 h hh⟩, (k _ _ (by omega) (by omega) (by omega)).trans w2, (k _ _ (by omega) (by omega) (by omega)).trans w3, fun i hi => (k _ _ (by omega) (by omega) (by omega)).trans (w4 i hi)⟩
theorem un0 {C n U H u : Nat} {A T : zMt} (w : cS C A T n U H) (hu : u < U) : D_X7_unit C (nI u) (0 : Int32) A = some (T 1 u, zu A C 0 0) := by
  have e := rd_unit (f := 0) w hu (by omega)
  exact e
theorem un1 {C n U H u : Nat} {A T : zMt} (w : cS C A T n U H) (hu : u < U) : D_X7_unit C (nI u) (1 : Int32) A = some (T 2 u, zu A C 0 0) := by
  have e := rd_unit (f := 1) w hu (by omega)
  exact e
theorem un2 {C n U H u : Nat} {A T : zMt} (w : cS C A T n U H) (hu : u < U) : D_X7_unit C (nI u) (2 : Int32) A = some (T 3 u, zu A C 0 0) := by
  have e := rd_unit (f := 2) w hu (by omega)
  exact e
theorem ch0 {C n U H a : Nat} {A T : zMt} (w : cS C A T n U H) (ha : a < n) : ∃ v, D_X7_choice C (nI a) (0 : Int32) A = some (T 12 (3 * a), zu A C 0 v) := by
  have e := rd_choice (k := 0) w ha (by omega)
  exact e
/-- nobody has anything at the start -/
theorem r_17 {P C F Gs n U H : Nat} {T : zMt} {l : Nat → Nat} (hP : P + 5 ≤ C) (hF : C + 112 ≤ F) (hG : C + 112 ≤ Gs) (hn : n ≤ 8) : ∀ (u a : Nat) (A : zMt), a ≤ n → n - a < u → wR P C n U H T l A → (∀ b, b < a → A (P + 3) b = -1 ∧ A (P + 4) b = 0) → ∃ A', D_L_results_17 P C F U Gs U u (nI a) A = D_L_results_51 P C F U Gs U zFu (0 : Int32) A' ∧ (∀ b, b < n → A' (P + 3) b = -1 ∧ A' (P + 4) b = 0) ∧ kS P C F Gs A A' := by
  intro u
  induction u with
  | zero => intro a A _ h; omega
  | succ u ih =>
    intro a A ha hu w hb
    rw [D_L_results_17, w.2.1]
    by_cases c : n ≤ a
    · have : a = n := by omega
      subst this
      rw [if_pos (by exact (nI_leI (by omega) (by omega)).mpr (Nat.le_refl a))]
      exact ⟨A, rfl, hb, kS.rf⟩
    · have ec : (nI a).toNatClampNeg = a := nI_clamp (by omega)
      rw [if_neg (nle (by omega) (by omega) c), zI_nI (show a < 8 by omega) (by decide), zLt_eq, zI_nI (show a < 8 by omega) (by decide), zLt_eq, ec, nI_add1]
      have k1 : kS P C F Gs A (zu (zu A (P + 3) a (-1)) (P + 4) a 0) := fun i j q1 q2 q3 => (zu_ne (by omega)).trans (zu_ne (by omega))
      obtain ⟨A', e1, e2, e3⟩ := ih (a + 1) (zu (zu A (P + 3) a (-1)) (P + 4) a 0) (by omega) (by omega) (w.k hP hF hG k1) (fun b hb' => by
        by_cases q : b = a
        · subst q
          exact ⟨(zu_ne (by omega)).trans zu_eq, zu_eq⟩
        · exact ⟨(zu_ne (by omega)).trans ((zu_ne (by omega)).trans (hb b (by omega)).1), (zu_ne (by omega)).trans ((zu_ne (by omega)).trans (hb b (by omega)).2)⟩)
      exact ⟨A', e1, e2, k1.tr e3⟩
def bO : Option Nat → Int32
  | none => -1
  | some y => nI y
/-- the best by points among those of the order who are not passed and want v first -/
theorem r_scan {P C F Gs n U H v : Nat} {T : zMt} {l : Nat → Nat} {pk : List Nat} {x5 x6 : Int32} {k51 : Int32 → zMt → Option zMt} {k88 : Int32 → Int32 → Int32 → zMt → Option zMt} (hP : P + 5 ≤ C) (hn : n ≤ 8) (hp : ∀ a, a < n → (bitAt x5 a ↔ a ∈ pk)) (hl : ∀ k, k < n → l k < n) : ∀ (d u i : Nat) (b : Option Nat) (A : zMt), i + d = n → d < u → wR P C n U H T l A → (∀ y, b = some y → y < n) → ∃ A', D_L_results_103 P C F U Gs U k51 k88 u (nI v) x5 x6 (bO b) (nI i) A = D_L_results_103 P C F U Gs U k51 k88 1 (nI v) x5 x6 (bO ((((lr l d i).filter (fun a => decide (T 12 (3 * a) = nI v))).filter (fun a => !pk.contains a)).foldl (sst T) b)) (nI n) A' ∧ kR C A A' := by
  intro d
  induction d with
  | zero =>
    intro u i b A hi hu w _
    obtain ⟨u, rfl⟩ : ∃ y, u = y + 1 := ⟨u - 1, by omega⟩
    have : i = n := by omega
    subst this
    refine ⟨A, ?_, kR.rf⟩
    show D_L_results_103 P C F U Gs U k51 k88 (u + 1) (nI v) x5 x6 (bO b) (nI i) A = D_L_results_103 P C F U Gs U k51 k88 1 (nI v) x5 x6 (bO b) (nI i) A
    have hle : nI i ≤ nI i := (nI_leI (by omega) (by omega)).mpr (Nat.le_refl i)
    rw [D_L_results_103, D_L_results_103, w.2.1, if_pos hle, if_pos hle]
  | succ d ih =>
    intro u i b A hi hu w hb
    obtain ⟨u, rfl⟩ : ∃ y, u = y + 1 := ⟨u - 1, by omega⟩
    have hla := hl i (by omega)
    have ec : (nI i).toNatClampNeg = i := nI_clamp (by omega)
    have elr : lr l (d + 1) i = l i :: lr l d (i + 1) := rfl
    have kw : ∀ {v : Int32}, wR P C n U H T l (zu A C 0 v) := fun {v} => w.k (F := C + 112) (Gs := C + 112) hP (Nat.le_refl _) (Nat.le_refl _) kR.s.kS
    rw [D_L_results_103, w.2.1, if_neg (nle (by omega) (by omega) (by omega)), zI_nI (show i < 8 by omega) (by decide), ec, w.2.2.2 i (by omega), elr]
    by_cases q1 : bitAt x5 (l i)
    · have q1' : ((x5 >>> (nI (l i) &&& 31)) &&& 1) = 1 := q1
      have hm : l i ∈ pk := (hp _ hla).mp q1
      have ef : (((l i :: lr l d (i + 1)).filter (fun a => decide (T 12 (3 * a) = nI v))).filter (fun a => !pk.contains a)) = (((lr l d (i + 1)).filter (fun a => decide (T 12 (3 * a) = nI v))).filter (fun a => !pk.contains a)) := by
        by_cases z : T 12 (3 * l i) = nI v
        · rw [List.filter_cons_of_pos (by rw [decide_eq_true_eq]; exact z), List.filter_cons_of_neg (by simp [hm])]
        · rw [List.filter_cons_of_neg (by rw [decide_eq_true_eq]; exact z)]
      rw [if_pos q1', ef]
      unfold D_L_results_173
      rw [nI_add1]
      exact ih u (i + 1) b A (by omega) (by omega) w hb
    · have q1' : ¬ ((x5 >>> (nI (l i) &&& 31)) &&& 1) = 1 := q1
      have hm : ¬ l i ∈ pk := fun z => q1 ((hp _ hla).mpr z)
      obtain ⟨x, ex⟩ := ch0 w.1 hla
      rw [if_neg q1', zB_s ex]
      by_cases z : T 12 (3 * l i) = nI v
      · have ef : (((l i :: lr l d (i + 1)).filter (fun a => decide (T 12 (3 * a) = nI v))).filter (fun a => !pk.contains a)) = l i :: (((lr l d (i + 1)).filter (fun a => decide (T 12 (3 * a) = nI v))).filter (fun a => !pk.contains a)) := by
          rw [List.filter_cons_of_pos (by rw [decide_eq_true_eq]; exact z), List.filter_cons_of_pos (by simp [hm])]
        rw [if_pos (by exact z), ef, List.foldl_cons]
        cases b with
        | none =>
          rw [if_pos (show bO none < (0 : Int32) by decide)]
          unfold D_L_results_169 D_L_results_173
          rw [nI_add1]
          obtain ⟨A', e1, e2⟩ := ih u (i + 1) (some (l i)) (zu A C 0 x) (by omega) (by omega) kw (fun y hy => by rw [← Option.some.inj hy]; exact hla)
          exact ⟨A', e1, kR.s.tr e2⟩
        | some y =>
          have hy := hb y rfl
          have eb : bO (some y) = nI y := rfl
          rw [eb, if_neg (nn0 (by omega)), zB_s (ap2 kw.1 hla), zB_s (ap2 (kw.1.k kR.s) hy)]
          have k3 : kR C A (zu (zu (zu A C 0 x) C 0 0) C 0 0) := (kR.s.tr kR.s).tr kR.s
          have w3 : wR P C n U H T l (zu (zu (zu A C 0 x) C 0 0) C 0 0) := w.k (F := C + 112) (Gs := C + 112) hP (Nat.le_refl _) (Nat.le_refl _) k3.kS
          by_cases c : T 7 (l i) ≤ T 7 y
          · have es : sst T (some y) (l i) = some y := by
              show (if T 7 y < T 7 (l i) then some (l i) else some y) = some y
              rw [if_neg (fun q => Int32.not_le.mpr q c)]
            rw [if_pos (by exact c), es]
            unfold D_L_results_173
            rw [nI_add1]
            obtain ⟨A', e1, e2⟩ := ih u (i + 1) (some y) (zu (zu (zu A C 0 x) C 0 0) C 0 0) (by omega) (by omega) w3 hb
            exact ⟨A', e1, k3.tr e2⟩
          · have es : sst T (some y) (l i) = some (l i) := by
              show (if T 7 y < T 7 (l i) then some (l i) else some y) = some (l i)
              rw [if_pos (Int32.not_le.mp c)]
            rw [if_neg (by exact c), es]
            unfold D_L_results_169 D_L_results_173
            rw [nI_add1]
            obtain ⟨A', e1, e2⟩ := ih u (i + 1) (some (l i)) (zu (zu (zu A C 0 x) C 0 0) C 0 0) (by omega) (by omega) w3 (fun y hy => by rw [← Option.some.inj hy]; exact hla)
            exact ⟨A', e1, k3.tr e2⟩
      · have ef : (((l i :: lr l d (i + 1)).filter (fun a => decide (T 12 (3 * a) = nI v))).filter (fun a => !pk.contains a)) = (((lr l d (i + 1)).filter (fun a => decide (T 12 (3 * a) = nI v))).filter (fun a => !pk.contains a)) := by
          rw [List.filter_cons_of_neg (by rw [decide_eq_true_eq]; exact z)]
        rw [if_neg (by exact z), ef]
        unfold D_L_results_173
        rw [nI_add1]
        obtain ⟨A', e1, e2⟩ := ih u (i + 1) b (zu A C 0 x) (by omega) (by omega) kw hb
        exact ⟨A', e1, kR.s.tr e2⟩
/-- one takes a place -/
def hTk (P C F Gs : Nat) (T A : zMt) (a v : Nat) (rd : Int32) : zMt := zu (zu (zu (zu (zu (zu (zu (zu A C 0 0) C 0 0) C 0 0) F v ((zu (zu A C 0 0) C 0 0) F v - T 5 a)) C 0 0) Gs v ((zu (zu (zu (zu A C 0 0) C 0 0) C 0 0) F v ((zu (zu A C 0 0) C 0 0) F v - T 5 a)) Gs v - T 6 a)) (P + 3) a (nI v)) (P + 4) a rd
theorem hTk_o {P C F Gs a v i j : Nat} {T A : zMt} {rd : Int32} (h1 : ¬ (i = C ∧ j = 0)) (h2 : ¬ (i = F ∧ j = v)) (h3 : ¬ (i = Gs ∧ j = v)) (h4 : ¬ ((i = P + 3 ∨ i = P + 4) ∧ j = a)) : hTk P C F Gs T A a v rd i j = A i j := by
  unfold hTk
  rw [zu_ne (by omega), zu_ne (by omega), zu_ne (by omega), zu_ne (by omega), zu_ne (by omega), zu_ne (by omega), zu_ne (by omega), zu_ne (by omega)]
theorem hTk_3 {P C F Gs a v : Nat} {T A : zMt} {rd : Int32} : hTk P C F Gs T A a v rd (P + 3) a = nI v := by
  unfold hTk
  rw [zu_ne (by omega), zu_eq]
theorem hTk_4 {P C F Gs a v : Nat} {T A : zMt} {rd : Int32} : hTk P C F Gs T A a v rd (P + 4) a = rd := by
  unfold hTk
  rw [zu_eq]
theorem hTk_F {P C F Gs a v : Nat} {T A : zMt} {rd : Int32} (hP : P + 5 ≤ C) (hF : C + 112 ≤ F) (hFG : ¬ F = Gs) : hTk P C F Gs T A a v rd F v = A F v - T 5 a := by
  unfold hTk
  rw [zu_ne (by omega), zu_ne (by omega), zu_ne (by omega), zu_ne (by omega), zu_eq, zu_ne (by omega), zu_ne (by omega)]
theorem hTk_G {P C F Gs a v : Nat} {T A : zMt} {rd : Int32} (hP : P + 5 ≤ C) (hG : C + 112 ≤ Gs) (hFG : ¬ F = Gs) : hTk P C F Gs T A a v rd Gs v = A Gs v - T 6 a := by
  unfold hTk
  rw [zu_ne (by omega), zu_ne (by omega), zu_eq, zu_ne (by omega), zu_ne (by omega), zu_ne (by omega), zu_ne (by omega)]
theorem hTk_k {P C F Gs a v : Nat} {T A : zMt} {rd : Int32} : kS P C F Gs A (hTk P C F Gs T A a v rd) := fun i j q1 _ q3 => hTk_o q1 (by omega) (by omega) (by omega)
/-- the result so far, v being the unit under way -/
def rU (P F Gs n v : Nat) (T A s : zMt) : Prop := (∀ a, a < n → A (P + 3) a = s 0 a ∧ A (P + 4) a = s 1 a) ∧ (∀ u, u < v → A F u = s 2 u ∧ A Gs u = s 3 u) ∧ A F v = s 2 v - T 1 v + T 2 v ∧ A Gs v = s 3 v
def rF (P F Gs n v : Nat) (A s : zMt) : Prop := (∀ a, a < n → A (P + 3) a = s 0 a ∧ A (P + 4) a = s 1 a) ∧ (∀ u, u < v → A F u = s 2 u ∧ A Gs u = s 3 u)
theorem rU.k {P C F Gs n v : Nat} {T A A' s : zMt} (hP : P + 5 ≤ C) (hF : C + 112 ≤ F) (hG : C + 112 ≤ Gs) (h : rU P F Gs n v T A s) (k : kR C A A') : rU P F Gs n v T A' s := by
  obtain ⟨h1, h2, h3, h4⟩ := h
  exact ⟨fun a ha => ⟨(k _ _ (by omega) (by omega)).trans (h1 a ha).1, (k _ _ (by omega) (by omega)).trans (h1 a ha).2⟩, fun u hu => ⟨(k _ _ (by omega) (by omega)).trans (h2 u hu).1, (k _ _ (by omega) (by omega)).trans (h2 u hu).2⟩, (k _ _ (by omega) (by omega)).trans h3, (k _ _ (by omega) (by omega)).trans h4⟩
theorem rF.k {P C F Gs n v : Nat} {A A' s : zMt} (hP : P + 5 ≤ C) (hF : C + 112 ≤ F) (hG : C + 112 ≤ Gs) (h : rF P F Gs n v A s) (k : kR C A A') : rF P F Gs n v A' s := by
  obtain ⟨h1, h2⟩ := h
  exact ⟨fun a ha => ⟨(k _ _ (by omega) (by omega)).trans (h1 a ha).1, (k _ _ (by omega) (by omega)).trans (h1 a ha).2⟩, fun u hu => ⟨(k _ _ (by omega) (by omega)).trans (h2 u hu).1, (k _ _ (by omega) (by omega)).trans (h2 u hu).2⟩⟩
theorem r_none {P C F Gs n U H v : Nat} {T A : zMt} {l : Nat → Nat} {x5 x6 : Int32} {k51 : Int32 → zMt → Option zMt} {k88 : Int32 → Int32 → Int32 → zMt → Option zMt} (hn : n ≤ 8) (w : wR P C n U H T l A) : D_L_results_103 P C F U Gs U k51 k88 1 (nI v) x5 x6 (bO none) (nI n) A = D_L_results_278 P C F U Gs U k51 (nI v) A := by
  rw [D_L_results_103, w.2.1, if_pos (by exact (nI_leI (by omega) (by omega)).mpr (Nat.le_refl n)), if_neg (show ¬ (0 : Int32) ≤ bO none by decide)]
theorem r_take {P C F Gs n U H v a : Nat} {T A s : zMt} {l : Nat → Nat} {x5 x6 : Int32} {k51 : Int32 → zMt → Option zMt} {k88 : Int32 → Int32 → Int32 → zMt → Option zMt} (hP : P + 5 ≤ C) (hF : C + 112 ≤ F) (hG : C + 112 ≤ Gs) (hFG : ¬ F = Gs) (hn : n ≤ 8) (w : wR P C n U H T l A) (hv : v < U) (ha : a < n) (hc : T 12 (3 * a) = nI v) (hr : rU P F Gs n v T A s) : ∃ A', D_L_results_103 P C F U Gs U k51 k88 1 (nI v) x5 x6 (bO (some a)) (nI n) A = k88 (nI v) (x5 ||| ((1 : Int32) <<< (nI a &&& 31))) (x6 + 1) A' ∧ rU P F Gs n v T A' (f1 T 10 v s a) ∧ kS P C F Gs A A' := by
  have hU := w.1.1.2.1
  have ev : (nI v).toNatClampNeg = v := nI_clamp (by omega)
  have ea : (nI a).toNatClampNeg = a := nI_clamp (by omega)
  have eb : bO (some a) = nI a := rfl
  have w1 := w.1.k (kR.s (v := 0))
  have w2 := w1.k (kR.s (v := 0))
  have w3 : cS C (zu (zu (zu (zu A C 0 0) C 0 0) C 0 0) F v ((zu (zu A C 0 0) C 0 0) F v - T 5 a)) T n U H := (w.k (F := F) (Gs := Gs) hP hF hG (fun i j q1 q2 q3 => (zu_ne (by omega)).trans ((zu_ne (by omega)).trans ((zu_ne (by omega)).trans (zu_ne (by omega)))))).1
  have f1' : zu A C 0 0 F v = s 2 v - T 1 v + T 2 v := (zu_ne (by omega)).trans hr.2.2.1
  have f2' : zu (zu A C 0 0) C 0 0 Gs v = s 3 v := (zu_ne (by omega)).trans ((zu_ne (by omega)).trans hr.2.2.2)
  rw [D_L_results_103, w.2.1, if_pos (by exact (nI_leI (by omega) (by omega)).mpr (Nat.le_refl n)), eb, if_pos (show (0 : Int32) ≤ nI a from (nI_leI (a := 0) (b := a) (by omega) (by omega)).mpr (by omega)), zB_s (ap0 w.1 ha), zI_nI hv (by omega), ev]
  by_cases q1 : T 5 a ≤ s 2 v - T 1 v + T 2 v
  · rw [if_neg (show ¬ zu A C 0 0 F v < T 5 a from fun z => by rw [f1'] at z; exact Int32.not_le.mpr z q1), zB_s (ap1 w1 ha), zI_nI hv (by omega)]
    by_cases q2 : T 6 a ≤ s 3 v
    · rw [if_pos (show T 6 a ≤ zu (zu A C 0 0) C 0 0 Gs v by rw [f2']; exact q2), zI_nI hv (by omega), zB_s (ap0 w2 ha), zI_nI hv (by omega), zLt_eq, zI_nI hv (by omega), zB_s (ap1 w3 ha), zI_nI hv (by omega), zLt_eq, zI_nI (show a < 8 by omega) (by decide), zLt_eq, zI_nI (show a < 8 by omega) (by decide), zLt_eq, ea]
      unfold D_L_results_272
      refine ⟨hTk P C F Gs T A a v 1, rfl, ?_, hTk_k⟩
      unfold f1
      rw [if_pos ⟨by omega, hc, q1, q2⟩]
      obtain ⟨h1, h2, h3, h4⟩ := hr
      refine ⟨fun b hb => ?_, fun u hu => ?_, ?_, ?_⟩
      · by_cases q : b = a
        · subst q
          rw [gT_0, gT_1]
          exact ⟨hTk_3, hTk_4⟩
        · rw [gT_out (by omega) (by omega), gT_out (by omega) (by omega)]
          exact ⟨(hTk_o (by omega) (by omega) (by omega) (by omega)).trans (h1 b hb).1, (hTk_o (by omega) (by omega) (by omega) (by omega)).trans (h1 b hb).2⟩
      · rw [gT_out (by omega) (by omega), gT_out (by omega) (by omega)]
        exact ⟨(hTk_o (by omega) (by omega) (by omega) (by omega)).trans (h2 u hu).1, (hTk_o (by omega) (by omega) (by omega) (by omega)).trans (h2 u hu).2⟩
      · rw [hTk_F hP hF hFG, h3, gT_2, i_lp]
      · rw [hTk_G hP hG hFG, h4, gT_3]
    · rw [if_neg (show ¬ T 6 a ≤ zu (zu A C 0 0) C 0 0 Gs v by rw [f2']; exact q2)]
      unfold D_L_results_272
      refine ⟨_, rfl, ?_, (kR.s.tr kR.s).kS⟩
      unfold f1
      rw [if_neg (fun z => q2 z.2.2.2)]
      exact hr.k hP hF hG (kR.s.tr kR.s)
  · rw [if_pos (show zu A C 0 0 F v < T 5 a by rw [f1']; exact Int32.not_le.mp q1)]
    unfold D_L_results_272
    refine ⟨_, rfl, ?_, kR.s.kS⟩
    unfold f1
    rw [if_neg (fun z => q1 z.2.2.1)]
    exact hr.k hP hF hG kR.s
theorem lp_lr0 {l : Nat → Nat} {n : Nat} : lr l n 0 = lp l n := by
  have := lp_lr (l := l) n 0
  rw [show (0 : Nat) + n = n by omega] at this
  exact this
theorem fl_mem {T : zMt} {n v x : Nat} {L : List Nat} (hm : ∀ x, x ∈ L → x < n) (hx : x ∈ bk T (L.filter (fun a => decide (T 12 (3 * a) = nI v))) 21) : x < n ∧ T 12 (3 * x) = nI v := by
  have h := (bk_mem 21 x hx).1
  obtain ⟨h1, h2⟩ := List.mem_filter.mp h
  exact ⟨hm x h1, of_decide_eq_true h2⟩
/-- the first round at one unit -/
theorem r_88 {P C F Gs n U H v : Nat} {T : zMt} {l : Nat → Nat} {Lf : List Nat} {k51 : Int32 → zMt → Option zMt} (hP : P + 5 ≤ C) (hF : C + 112 ≤ F) (hG : C + 112 ≤ Gs) (hFG : ¬ F = Gs) (hn : n ≤ 8) (hl : ∀ k, k < n → l k < n) (hd : (lp l n).Nodup) (hpt : pOk T (lp l n)) (hv : v < U) (hLf : Lf = bk T ((lp l n).filter (fun a => decide (T 12 (3 * a) = nI v))) 21) (hlen : Lf.length ≤ n) : ∀ (r : List Nat) (k u : Nat) (x5 : Int32) (A s : zMt), Lf.drop k = r → r.length < u → k ≤ n → (∀ a, a < n → (bitAt x5 a ↔ a ∈ Lf.take k)) → wR P C n U H T l A → rU P F Gs n v T A s → ∃ A', D_L_results_88 P C F U Gs U k51 u (nI v) x5 (nI k) A = D_L_results_278 P C F U Gs U k51 (nI v) A' ∧ rU P F Gs n v T A' (fL T 10 v r s) ∧ kS P C F Gs A A' := by
  have hm := lp_mem (l := l) (n := n) n hl
  intro r
  induction r with
  | nil =>
    intro k u x5 A s hr hu hk hb w hs
    have : ([] : List Nat).length = 0 := rfl
    obtain ⟨u, rfl⟩ : ∃ y, u = y + 1 := ⟨u - 1, by omega⟩
    rw [D_L_results_88, w.2.1]
    by_cases c : n ≤ k
    · rw [if_pos (by exact (nI_leI (by omega) (by omega)).mpr c)]
      exact ⟨A, rfl, hs, kS.rf⟩
    · rw [if_neg (nle (by omega) (by omega) c)]
      obtain ⟨A1, e1, e2⟩ := r_scan (P := P) (C := C) (F := F) (Gs := Gs) (U := U) (H := H) (v := v) (T := T) (l := l) (pk := Lf.take k) (x5 := x5) (x6 := nI k) (k51 := k51) (k88 := D_L_results_88 P C F U Gs U k51 u) hP hn hb hl n zFu 0 none A (by omega) (by unfold zFu; omega) w (fun y hy => nomatch hy)
      have ep := pick (T := T) (L := lp l n) (q := fun a => decide (T 12 (3 * a) = nI v)) hd hpt k
      rw [← hLf, ← List.head?_drop, hr] at ep
      rw [lp_lr0, ep] at e1
      have e1' : D_L_results_103 P C F U Gs U k51 (D_L_results_88 P C F U Gs U k51 u) zFu (nI v) x5 (nI k) (-1 : Int32) (0 : Int32) A = _ := e1
      have w1 : wR P C n U H T l A1 := w.k (F := F) (Gs := Gs) hP hF hG e2.kS
      rw [e1', show (([] : List Nat).head?) = none from rfl, r_none hn w1]
      exact ⟨A1, rfl, hs.k hP hF hG e2, e2.kS⟩
  | cons a r ih =>
    intro k u x5 A s hr hu hk hb w hs
    rw [List.length_cons] at hu
    obtain ⟨u, rfl⟩ : ∃ y, u = y + 1 := ⟨u - 1, by omega⟩
    have eh : Lf[k]? = some a := by
      have := List.head?_drop (l := Lf) (i := k)
      rw [hr] at this
      exact this.symm
    have hkl := (List.getElem?_eq_some_iff.mp eh).1
    have hr2 : Lf.drop (k + 1) = r := by
      rw [← List.tail_drop, hr]
      rfl
    have ht2 : Lf.take (k + 1) = Lf.take k ++ [a] := by
      rw [List.take_succ, eh]
      rfl
    have haL := List.mem_of_getElem? eh
    rw [hLf] at haL
    obtain ⟨han, hc⟩ := fl_mem hm haL
    rw [D_L_results_88, w.2.1, if_neg (nle (by omega) (by omega) (by omega))]
    obtain ⟨A1, e1, e2⟩ := r_scan (P := P) (C := C) (F := F) (Gs := Gs) (U := U) (H := H) (v := v) (T := T) (l := l) (pk := Lf.take k) (x5 := x5) (x6 := nI k) (k51 := k51) (k88 := D_L_results_88 P C F U Gs U k51 u) hP hn hb hl n zFu 0 none A (by omega) (by unfold zFu; omega) w (fun y hy => nomatch hy)
    have ep := pick (T := T) (L := lp l n) (q := fun a => decide (T 12 (3 * a) = nI v)) hd hpt k
    rw [← hLf, eh] at ep
    rw [lp_lr0, ep] at e1
    have e1' : D_L_results_103 P C F U Gs U k51 (D_L_results_88 P C F U Gs U k51 u) zFu (nI v) x5 (nI k) (-1 : Int32) (0 : Int32) A = _ := e1
    have w1 : wR P C n U H T l A1 := w.k (F := F) (Gs := Gs) hP hF hG e2.kS
    rw [e1']
    obtain ⟨A2, g1, g2, g3⟩ := r_take (x5 := x5) (x6 := nI k) (k51 := k51) (k88 := D_L_results_88 P C F U Gs U k51 u) hP hF hG hFG hn w1 hv han hc (hs.k hP hF hG e2)
    rw [g1, nI_add1]
    obtain ⟨A', h1, h2, h3⟩ := ih (k + 1) u (x5 ||| ((1 : Int32) <<< (nI a &&& 31))) A2 (f1 T 10 v s a) hr2 (by omega) (by omega) (fun b hb' => by
      rw [bitK_or (by omega) (by omega), hb b hb', ht2, List.mem_append, List.mem_singleton]
      constructor
      · rintro (z | z)
        · exact Or.inl z
        · exact Or.inr z.symm
      · rintro (z | z)
        · exact Or.inl z
        · exact Or.inr z.symm) (w1.k hP hF hG g3) g2
    exact ⟨A', h1, h2, (e2.kS.tr g3).tr h3⟩
theorem i_pq {x p q : Int32} : x - p + q + (p - q) = x := by
  rw [Int32.sub_eq_add_neg, Int32.sub_eq_add_neg]
  have : x + -p + q + (p + -q) = x + (p + -p) + (q + -q) := by ac_rfl
  rw [this, Int32.add_right_neg, Int32.add_right_neg, Int32.add_zero, Int32.add_zero]
/-- the rest of a unit's quota comes in -/
theorem r_278 {P C F Gs n U H v : Nat} {T A s : zMt} {l : Nat → Nat} {k51 : Int32 → zMt → Option zMt} (hP : P + 5 ≤ C) (hF : C + 112 ≤ F) (hG : C + 112 ≤ Gs) (hFG : ¬ F = Gs) (w : wR P C n U H T l A) (hv : v < U) (hr : rU P F Gs n v T A s) : ∃ A', D_L_results_278 P C F U Gs U k51 (nI v) A = k51 (nI (v + 1)) A' ∧ rF P F Gs n (v + 1) A' s ∧ kS P C F Gs A A' := by
  have hU := w.1.1.2.1
  have ev : (nI v).toNatClampNeg = v := nI_clamp (by omega)
  have w1 := w.1.k (kR.s (v := 0))
  unfold D_L_results_278
  rw [zI_nI hv (by omega), zB_s (un0 w.1 hv), zB_s (un1 w1 hv), zI_nI hv (by omega), zLt_eq, nI_add1, ev]
  obtain ⟨h1, h2, h3, h4⟩ := hr
  refine ⟨zu (zu (zu A C 0 0) C 0 0) F v (A F v + (T 1 v - T 2 v)), rfl, ⟨fun a ha => ?_, fun u hu => ?_⟩, fun i j q1 q2 q3 => (zu_ne (by omega)).trans ((zu_ne (by omega)).trans (zu_ne (by omega)))⟩
  · exact ⟨(zu_ne (by omega)).trans ((zu_ne (by omega)).trans ((zu_ne (by omega)).trans (h1 a ha).1)), (zu_ne (by omega)).trans ((zu_ne (by omega)).trans ((zu_ne (by omega)).trans (h1 a ha).2))⟩
  · by_cases q : u = v
    · subst q
      exact ⟨zu_eq.trans (by rw [h3, i_pq]), (zu_ne (by omega)).trans ((zu_ne (by omega)).trans ((zu_ne (by omega)).trans h4))⟩
    · exact ⟨(zu_ne (by omega)).trans ((zu_ne (by omega)).trans ((zu_ne (by omega)).trans (h2 u (by omega)).1)), (zu_ne (by omega)).trans ((zu_ne (by omega)).trans ((zu_ne (by omega)).trans (h2 u (by omega)).2))⟩
theorem fL_out {T : zMt} {wo u i j : Nat} (h0 : i = 2 ∨ i = 3) (h : ¬ j = u) : ∀ (L : List Nat) (s : zMt), fL T wo u L s i j = s i j
  | [], _ => rfl
  | a :: L, s => by
    show fL T wo u L (f1 T wo u s a) i j = s i j
    rw [fL_out h0 h L, f1_out (by omega) (by omega)]
theorem fU_out {T : zMt} {wo i w : Nat} {L : List Nat} {s : zMt} (h0 : i = 2 ∨ i = 3) : ∀ u, u ≤ w → fU T wo L u s i w = s i w
  | 0, _ => rfl
  | u + 1, h => by
    show fL T wo u L (fU T wo L u s) i w = s i w
    rw [fL_out h0 (by omega), fU_out h0 u (by omega)]
/-- the first rounds, unit by unit -/
theorem r_51 {P C F Gs n U H : Nat} {T : zMt} {l : Nat → Nat} (hP : P + 5 ≤ C) (hF : C + 112 ≤ F) (hG : C + 112 ≤ Gs) (hFG : ¬ F = Gs) (hn : n ≤ 8) (hl : ∀ k, k < n → l k < n) (hd : (lp l n).Nodup) (hpt : ∀ a, a < n → ∃ p, p < 21 ∧ T 7 a = nI p) : ∀ (d u v : Nat) (A : zMt), v + d = U → d < u → wR P C n U H T l A → rF P F Gs n v A (fU T 10 (bk T (lp l n) 21) v (s0 T)) → ∃ A', D_L_results_51 P C F U Gs U u (nI v) A = D_L_results_309 P C F U Gs U zFu (0 : Int32) A' ∧ rF P F Gs n U A' (fU T 10 (bk T (lp l n) 21) U (s0 T)) ∧ kS P C F Gs A A' := by
  have hm := lp_mem (l := l) (n := n) n hl
  intro d
  induction d with
  | zero =>
    intro u v A hv hu w hs
    obtain ⟨u, rfl⟩ : ∃ y, u = y + 1 := ⟨u - 1, by omega⟩
    have hU := w.1.1.2.1
    have : v = U := by omega
    subst this
    rw [D_L_results_51, w.2.2.1, if_pos (by exact (nI_leI (by omega) (by omega)).mpr (Nat.le_refl v))]
    exact ⟨A, rfl, hs, kS.rf⟩
  | succ d ih =>
    intro u v A hv hu w hs
    obtain ⟨u, rfl⟩ : ∃ y, u = y + 1 := ⟨u - 1, by omega⟩
    have hU := w.1.1.2.1
    have hvU : v < U := by omega
    have ev : (nI v).toNatClampNeg = v := nI_clamp (by omega)
    have k1 : kS P C F Gs A (zu (zu A C 0 0) F v (T 2 v)) := fun i j q1 q2 q3 => (zu_ne (by omega)).trans (zu_ne (by omega))
    have w1 := w.k hP hF hG k1
    have k2 : kS P C F Gs A (zu (zu (zu (zu A C 0 0) F v (T 2 v)) C 0 0) Gs v (T 3 v)) := k1.tr (fun i j q1 q2 q3 => (zu_ne (by omega)).trans (zu_ne (by omega)))
    have w2 := w.k hP hF hG k2
    rw [D_L_results_51, w.2.2.1, if_neg (nle (by omega) (by omega) (by omega)), zB_s (un1 w.1 hvU), zI_nI hvU (by omega), zLt_eq, ev, zB_s (un2 w1.1 hvU), zI_nI hvU (by omega), zLt_eq]
    obtain ⟨s, hse⟩ : ∃ s, s = fU T 10 (bk T (lp l n) 21) v (s0 T) := ⟨_, rfl⟩
    rw [← hse] at hs
    have hs2 : rU P F Gs n v T (zu (zu (zu (zu A C 0 0) F v (T 2 v)) C 0 0) Gs v (T 3 v)) s := by
      obtain ⟨h1, h2⟩ := hs
      refine ⟨fun a ha => ?_, fun x hx => ?_, ?_, ?_⟩
      · exact ⟨(zu_ne (by omega)).trans ((zu_ne (by omega)).trans ((zu_ne (by omega)).trans ((zu_ne (by omega)).trans (h1 a ha).1))), (zu_ne (by omega)).trans ((zu_ne (by omega)).trans ((zu_ne (by omega)).trans ((zu_ne (by omega)).trans (h1 a ha).2)))⟩
      · exact ⟨(zu_ne (by omega)).trans ((zu_ne (by omega)).trans ((zu_ne (by omega)).trans ((zu_ne (by omega)).trans (h2 x hx).1))), (zu_ne (by omega)).trans ((zu_ne (by omega)).trans ((zu_ne (by omega)).trans ((zu_ne (by omega)).trans (h2 x hx).2)))⟩
      · rw [zu_ne (by omega), zu_ne (by omega), zu_eq, hse, fU_out (Or.inl rfl) v (Nat.le_refl v)]
        show T 2 v = T 1 v - T 1 v + T 2 v
        rw [Int32.sub_self, Int32.zero_add]
      · rw [zu_eq, hse, fU_out (Or.inr rfl) v (Nat.le_refl v)]
        rfl
    have hpk : pOk T (lp l n) := fun x hx => hpt x (hm x hx)
    have hlen : (bk T ((lp l n).filter (fun a => decide (T 12 (3 * a) = nI v))) 21).length ≤ n := by
      rw [bk_filter]
      have h1 := List.length_filter_le (fun a => decide (T 12 (3 * a) = nI v)) (bk T (lp l n) 21)
      rw [bk_len (T := T) (l := l) n (fun i hi => hpt _ (hl i hi))] at h1
      exact h1
    obtain ⟨A2, e1, e2, e3⟩ := r_88 (k51 := D_L_results_51 P C F U Gs U u) hP hF hG hFG hn hl hd hpk hvU rfl hlen (bk T ((lp l n).filter (fun a => decide (T 12 (3 * a) = nI v))) 21) 0 zFu 0 (zu (zu (zu (zu A C 0 0) F v (T 2 v)) C 0 0) Gs v (T 3 v)) s rfl (by unfold zFu; omega) (by omega) (fun a ha => by
      rw [List.take_zero]
      exact ⟨fun z => absurd z bitAt_0, fun z => absurd z List.not_mem_nil⟩) w2 hs2
    have e1' : D_L_results_88 P C F U Gs U (D_L_results_51 P C F U Gs U u) zFu (nI v) (0 : Int32) (0 : Int32) (zu (zu (zu (zu A C 0 0) F v (T 2 v)) C 0 0) Gs v (T 3 v)) = _ := e1
    have w3 := w2.k hP hF hG e3
    obtain ⟨A3, g1, g2, g3⟩ := r_278 (k51 := D_L_results_51 P C F U Gs U u) hP hF hG hFG w3 hvU e2
    have efl : fL T 10 v (bk T ((lp l n).filter (fun a => decide (T 12 (3 * a) = nI v))) 21) s = fU T 10 (bk T (lp l n) 21) (v + 1) (s0 T) := by
      rw [bk_filter, fL_filter, hse]
      rfl
    rw [efl] at g2
    obtain ⟨A', h1, h2, h3⟩ := ih u (v + 1) A3 (by omega) (by omega) (w3.k hP hF hG g3) g2
    refine ⟨A', ?_, h2, ((k2.tr e3).tr g3).tr h3⟩
    exact e1'.trans (g1.trans h1)
/-- who has something already is left alone -/
theorem r_had {P C F Gs n U H a i c w0 : Nat} {T A s : zMt} {l : Nat → Nat} {x k : Int32} {k309 : Int32 → zMt → Option zMt} (hn : n ≤ 8) (w : wR P C n U H T l A) (ha : a < n) (ex : x = nI i) (hs : A (P + 3) a = nI w0) (hw0 : w0 < 5) (hC : P + 5 ≤ C) (u : Nat) : D_L_results_330 P C F U Gs U k309 (u + 1) x (nI a) k A = k309 (nI (i + 1)) (zu A C 0 0) := by
  subst ex
  have ea : (nI a).toNatClampNeg = a := nI_clamp (by omega)
  have eg : zu A C 0 0 (P + 3) a = nI w0 := (zu_ne (by omega)).trans hs
  rw [D_L_results_330, zB_s (ap4 w.1 ha)]
  by_cases q : T 11 a ≤ k
  · rw [if_pos (by exact q)]
    unfold D_L_results_444
    rw [nI_add1]
  · rw [if_neg (by exact q), zI_nI (show a < 8 by omega) (by decide), ea, if_pos (show (0 : Int32) ≤ zu A C 0 0 (P + 3) a by rw [eg]; exact (nI_leI (a := 0) (b := w0) (by omega) (by omega)).mpr (by omega))]
    unfold D_L_results_444
    rw [nI_add1]
/-- the second round: one -/
theorem r_330 {P C F Gs n U H a i c : Nat} {T : zMt} {l : Nat → Nat} {k309 : Int32 → zMt → Option zMt} (hP : P + 5 ≤ C) (hF : C + 112 ≤ F) (hG : C + 112 ≤ Gs) (hFG : ¬ F = Gs) (hn : n ≤ 8) (ha : a < n) (hc4 : T 11 a = nI c) (hc3 : c ≤ 3) (hc : ∀ k, k < c → ∃ u, u < U ∧ T 12 (3 * a + k) = nI u) : ∀ (d u k : Nat) (A s : zMt), k + d = c → d < u → wR P C n U H T l A → rF P F Gs n U A s → s 0 a = -1 → ∃ A', D_L_results_330 P C F U Gs U k309 u (nI i) (nI a) (nI k) A = k309 (nI (i + 1)) A' ∧ rF P F Gs n U A' (s2 T s a d k) ∧ kS P C F Gs A A' := by
  have ea : (nI a).toNatClampNeg = a := nI_clamp (by omega)
  intro d
  induction d with
  | zero =>
    intro u k A s hk hu w hs hg
    obtain ⟨u, rfl⟩ : ∃ y, u = y + 1 := ⟨u - 1, by omega⟩
    rw [D_L_results_330, zB_s (ap4 w.1 ha), if_pos (show T 11 a ≤ nI k by rw [hc4]; exact (nI_leI (by omega) (by omega)).mpr (by omega))]
    unfold D_L_results_444
    rw [nI_add1]
    exact ⟨_, rfl, hs.k hP hF hG kR.s, kR.s.kS⟩
  | succ d ih =>
    intro u k A s hk hu w hs hg
    obtain ⟨u, rfl⟩ : ∃ y, u = y + 1 := ⟨u - 1, by omega⟩
    have hU := w.1.1.2.1
    obtain ⟨v, hv, ew⟩ := hc k (by omega)
    have ev : (nI v).toNatClampNeg = v := nI_clamp (by omega)
    have ewu : wu T a k = v := by
      unfold wu
      rw [ew, ev]
    have w0 := w.1.k (kR.s (v := 0))
    obtain ⟨x, ex⟩ := rd_choice (k := k) w0 ha (by omega)
    rw [ew] at ex
    have k1 : kR C A (zu (zu A C 0 0) C 0 x) := kR.s.tr kR.s
    have w1 := w.1.k k1
    have w2 := w1.k (kR.s (v := 0))
    have w3 := w2.k (kR.s (v := 0))
    have wr1 : wR P C n U H T l (zu (zu A C 0 0) C 0 x) := w.k hP hF hG k1.kS
    have hs1 := hs.k hP hF hG k1
    have g0 : zu A C 0 0 (P + 3) a = -1 := (zu_ne (by omega)).trans (((hs.1 a ha).1).trans hg)
    have f1' : zu (zu (zu A C 0 0) C 0 x) C 0 0 F v = s 2 v := (zu_ne (by omega)).trans (hs1.2 v hv).1
    have f2' : zu (zu (zu (zu A C 0 0) C 0 x) C 0 0) C 0 0 Gs v = s 3 v := (zu_ne (by omega)).trans ((zu_ne (by omega)).trans (hs1.2 v hv).2)
    rw [D_L_results_330, zB_s (ap4 w.1 ha), if_neg (show ¬ T 11 a ≤ nI k by rw [hc4]; exact nle (by omega) (by omega) (by omega)), zI_nI (show a < 8 by omega) (by decide), ea, if_neg (show ¬ (0 : Int32) ≤ zu A C 0 0 (P + 3) a by rw [g0]; decide), zB_s ex, zB_s (ap0 w1 ha), zI_nI hv (by omega), ev]
    show ∃ A', _ = _ ∧ rF P F Gs n U A' (if T 5 a ≤ s 2 (wu T a k) ∧ T 6 a ≤ s 3 (wu T a k) then gT T s a (wu T a k) 2 else s2 T s a d (k + 1)) ∧ _
    rw [ewu]
    by_cases q1 : T 5 a ≤ s 2 v
    · rw [if_neg (show ¬ zu (zu (zu A C 0 0) C 0 x) C 0 0 F v < T 5 a from fun z => by rw [f1'] at z; exact Int32.not_le.mpr z q1), zB_s (ap1 w2 ha), zI_nI hv (by omega)]
      by_cases q2 : T 6 a ≤ s 3 v
      · have w4 : cS C (zu (zu (zu (zu (zu (zu A C 0 0) C 0 x) C 0 0) C 0 0) C 0 0) F v (zu (zu (zu (zu A C 0 0) C 0 x) C 0 0) C 0 0 F v - T 5 a)) T n U H := (wr1.k (F := F) (Gs := Gs) hP hF hG (fun i j q1 q2 q3 => (zu_ne (by omega)).trans ((zu_ne (by omega)).trans ((zu_ne (by omega)).trans (zu_ne (by omega)))))).1
        rw [if_pos (show T 6 a ≤ zu (zu (zu (zu A C 0 0) C 0 x) C 0 0) C 0 0 Gs v by rw [f2']; exact q2), zI_nI hv (by omega), zB_s (ap0 w3 ha), zI_nI hv (by omega), zLt_eq, zI_nI hv (by omega), zB_s (ap1 w4 ha), zI_nI hv (by omega), zLt_eq, zI_nI (show a < 8 by omega) (by decide), zLt_eq, zI_nI (show a < 8 by omega) (by decide), zLt_eq, if_pos ⟨q1, q2⟩]
        unfold D_L_results_438
        obtain ⟨u, rfl⟩ : ∃ y, u = y + 1 := ⟨u - 1, by omega⟩
        obtain ⟨A1, hA1⟩ : ∃ A1, A1 = zu (zu A C 0 0) C 0 x := ⟨_, rfl⟩
        have kk : kS P C F Gs A (hTk P C F Gs T A1 a v 2) := by
          rw [hA1]
          exact k1.kS.tr hTk_k
        have wt : wR P C n U H T l (hTk P C F Gs T A1 a v 2) := w.k hP hF hG kk
        have et := r_had (P := P) (C := C) (F := F) (Gs := Gs) (i := i) (c := c) (s := s) (k309 := k309) (k := nI k + 1) hn wt ha rfl hTk_3 (by omega) hP u
        rw [hA1] at et kk
        rw [← hA1] at hs1
        refine ⟨_, et, ?_, kk.tr kR.s.kS⟩
        rw [← hA1]
        obtain ⟨h1, h2⟩ := hs1
        refine rF.k hP hF hG ⟨fun b hb => ?_, fun y hy => ?_⟩ kR.s
        · by_cases q : b = a
          · subst q
            rw [gT_0, gT_1]
            exact ⟨hTk_3, hTk_4⟩
          · rw [gT_out (by omega) (by omega), gT_out (by omega) (by omega)]
            exact ⟨(hTk_o (by omega) (by omega) (by omega) (by omega)).trans (h1 b hb).1, (hTk_o (by omega) (by omega) (by omega) (by omega)).trans (h1 b hb).2⟩
        · by_cases q : y = v
          · subst q
            rw [gT_2, gT_3, hTk_F hP hF hFG, hTk_G hP hG hFG, (h2 y hy).1, (h2 y hy).2]
            exact ⟨rfl, rfl⟩
          · rw [gT_out (by omega) (by omega), gT_out (by omega) (by omega)]
            exact ⟨(hTk_o (by omega) (by omega) (by omega) (by omega)).trans (h2 y hy).1, (hTk_o (by omega) (by omega) (by omega) (by omega)).trans (h2 y hy).2⟩
      · have k3 : kR C A (zu (zu (zu (zu A C 0 0) C 0 x) C 0 0) C 0 0) := (k1.tr kR.s).tr kR.s
        rw [if_neg (show ¬ T 6 a ≤ zu (zu (zu (zu A C 0 0) C 0 x) C 0 0) C 0 0 Gs v by rw [f2']; exact q2), if_neg (fun z => q2 z.2)]
        unfold D_L_results_438
        rw [nI_add1]
        obtain ⟨A', e1, e2, e3⟩ := ih u (k + 1) _ s (by omega) (by omega) (w.k hP hF hG k3.kS) (hs.k hP hF hG k3) hg
        exact ⟨A', e1, e2, k3.kS.tr e3⟩
    · have k3 : kR C A (zu (zu (zu A C 0 0) C 0 x) C 0 0) := k1.tr kR.s
      rw [if_pos (show zu (zu (zu A C 0 0) C 0 x) C 0 0 F v < T 5 a by rw [f1']; exact Int32.not_le.mp q1), if_neg (fun z => q1 z.1)]
      unfold D_L_results_438
      rw [nI_add1]
      obtain ⟨A', e1, e2, e3⟩ := ih u (k + 1) _ s (by omega) (by omega) (w.k hP hF hG k3.kS) (hs.k hP hF hG k3) hg
      exact ⟨A', e1, e2, k3.kS.tr e3⟩
theorem okS_f2 {T s : zMt} {n U a : Nat} (hg : gP T n U) (ha : a < n) (h : okS T s n U) : okS T (f2 T 10 s a) n U := by
  unfold f2
  by_cases q : s 0 a = -1 ∧ ¬ a = 10
  · rw [if_pos q]
    exact okS_s2 hg ha h _ 0 (by omega)
  · rw [if_neg q]; exact h
/-- the second rounds, in the order -/
theorem r_309 {P C F Gs n U H : Nat} {T : zMt} {l : Nat → Nat} (hP : P + 5 ≤ C) (hF : C + 112 ≤ F) (hG : C + 112 ≤ Gs) (hFG : ¬ F = Gs) (hn : n ≤ 8) (hl : ∀ k, k < n → l k < n) : ∀ (d u i : Nat) (A s : zMt), i + d = n → d < u → wR P C n U H T l A → rF P F Gs n U A s → okS T s n U → ∃ A', D_L_results_309 P C F U Gs U u (nI i) A = some A' ∧ rF P F Gs n U A' (fS T 10 (lr l d i) s) ∧ kS P C F Gs A A' := by
  intro d
  induction d with
  | zero =>
    intro u i A s hi hu w hs _
    obtain ⟨u, rfl⟩ : ∃ y, u = y + 1 := ⟨u - 1, by omega⟩
    rw [D_L_results_309, w.2.1, if_pos (by exact (nI_leI (by omega) (by omega)).mpr (by omega))]
    exact ⟨A, rfl, hs, kS.rf⟩
  | succ d ih =>
    intro u i A s hi hu w hs ho
    obtain ⟨u, rfl⟩ : ∃ y, u = y + 1 := ⟨u - 1, by omega⟩
    have hU := w.1.1.2.1
    have hla := hl i (by omega)
    have ei : (nI i).toNatClampNeg = i := nI_clamp (by omega)
    obtain ⟨c, c1, c2, c3, c4⟩ := (w.1.1.2.2.2.2.1 (l i) hla).2.2.2
    rw [D_L_results_309, w.2.1, if_neg (nle (by omega) (by omega) (by omega)), zI_nI (show i < 8 by omega) (by decide), ei, w.2.2.2 i (by omega)]
    show ∃ A', _ = some A' ∧ rF P F Gs n U A' (fS T 10 (lr l d (i + 1)) (f2 T 10 s (l i))) ∧ _
    have hstep : ∃ A1, D_L_results_330 P C F U Gs U (D_L_results_309 P C F U Gs U u) zFu (nI i) (nI (l i)) (0 : Int32) A = D_L_results_309 P C F U Gs U u (nI (i + 1)) A1 ∧ rF P F Gs n U A1 (f2 T 10 s (l i)) ∧ kS P C F Gs A A1 := by
      by_cases q : s 0 (l i) = -1
      · obtain ⟨A1, e1, e2, e3⟩ := r_330 (i := i) (k309 := D_L_results_309 P C F U Gs U u) hP hF hG hFG hn hla c2 c1 c3 c zFu 0 A s (by omega) (by unfold zFu; omega) w hs q
        refine ⟨A1, e1, ?_, e3⟩
        have ef : f2 T 10 s (l i) = s2 T s (l i) c 0 := by
          unfold f2
          rw [if_pos ⟨q, by omega⟩, c2, nI_clamp (by omega)]
        rw [ef]
        exact e2
      · have ef : f2 T 10 s (l i) = s := by
          unfold f2
          rw [if_neg (fun z => q z.1)]
        rcases ho (l i) hla with z | ⟨k, w0, z1, z2, z3, z4⟩
        · exact absurd z q
        · have et := r_had (P := P) (C := C) (F := F) (Gs := Gs) (i := i) (c := c) (s := s) (k309 := D_L_results_309 P C F U Gs U u) (k := 0) hn w hla rfl (((hs.1 _ hla).1).trans z4) (by omega) hP (zFu - 1)
          rw [show zFu - 1 + 1 = zFu by unfold zFu; omega] at et
          refine ⟨_, et, ?_, kR.s.kS⟩
          rw [ef]
          exact hs.k hP hF hG kR.s
    obtain ⟨A1, e1, e2, e3⟩ := hstep
    obtain ⟨A', g1, g2, g3⟩ := ih u (i + 1) A1 (f2 T 10 s (l i)) (by omega) (by omega) (w.k hP hF hG e3) e2 (okS_f2 w.1.1 hla ho)
    exact ⟨A', e1.trans g1, g2, e3.tr g3⟩
theorem cc_results {P C F Gs n U H : Nat} {T A : zMt} {l : Nat → Nat} (hP : P + 5 ≤ C) (hF : C + 112 ≤ F) (hG : C + 112 ≤ Gs) (hFG : ¬ F = Gs) (hn : n ≤ 8) (hl : ∀ k, k < n → l k < n) (hd : (lp l n).Nodup) (w : wR P C n U H T l A) : ∃ A', D_L_results P C F U Gs U A = some A' ∧ (∀ a, a < n → A' (P + 3) a = rs T 10 U n l 0 a ∧ A' (P + 4) a = rs T 10 U n l 1 a) ∧ kS P C F Gs A A' := by
  have hg := w.1.1
  have hU := hg.2.1
  have hm := lp_mem (l := l) (n := n) n hl
  have hpt : ∀ a, a < n → ∃ p, p < 21 ∧ T 7 a = nI p := fun a ha => by
    obtain ⟨p, _, h2, h3⟩ := (hg.2.2.2.2.1 a ha).2.1
    exact ⟨p, by omega, h3⟩
  unfold D_L_results
  obtain ⟨A1, a1, a2, a3⟩ := r_17 (F := F) (Gs := Gs) hP hF hG hn zFu 0 A (by omega) (by unfold zFu; omega) w (fun b hb => absurd hb (Nat.not_lt_zero b))
  have w1 := w.k hP hF hG a3
  obtain ⟨A2, b1, b2, b3⟩ := r_51 hP hF hG hFG hn hl hd hpt U zFu 0 A1 (by omega) (by unfold zFu; omega) w1 ⟨fun a ha => a2 a ha, fun u hu => absurd hu (Nat.not_lt_zero u)⟩
  have w2 := w1.k hP hF hG b3
  rw [fU_fC (by omega)] at b2
  obtain ⟨A3, c1, c2, c3⟩ := r_309 hP hF hG hFG hn hl n zFu 0 A2 _ (by omega) (by unfold zFu; omega) w2 b2 (okS_fC hg _ _ (fun x hx => hm x (bk_mem 21 x hx).1) (fun a _ => Or.inl rfl))
  rw [lp_lr0] at c2
  exact ⟨A3, a1.trans (b1.trans c1), c2.1, (a3.tr b3).tr c3⟩

