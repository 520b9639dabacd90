/-! the odds: sure, both sides -/
theorem lvL_ne {f : Nat → List lY} {a : Nat} : ∀ n, a < n → ¬ f a = [] → ¬ lvL f n = []
  | 0, h, _ => by omega
  | n + 1, h, hf => by
    intro z
    have e := List.append_eq_nil_iff.mp (show lvL f n ++ f n = [] from z)
    by_cases q : a = n
    · subst q
      exact hf e.2
    · exact lvL_ne n (by omega) hf e.1
theorem lv_ne {t : Nat → Int32} {n : Nat} (hn : n ≤ 10) : ∀ (d k : Nat) (b : Int32) (l : Nat → Nat) (x : Int64), k + d = n → cn b n = k → ¬ lv t n d k b l x = []
  | 0, k, b, l, x, _, _ => List.cons_ne_nil _ _
  | d + 1, k, b, l, x, hk, hc => by
    have hex : ∃ a, a < n ∧ ¬ ((b >>> (nI a &&& 31)) &&& 1) = 1 := Classical.byContradiction fun h => by
      have := cn_full (b := b) n (fun i hi => Classical.byContradiction fun q => h ⟨i, hi, q⟩)
      omega
    obtain ⟨a, ha, q⟩ := hex
    refine lvL_ne n ha ?_
    show ¬ (if ((b >>> (nI a &&& 31)) &&& 1) = 1 then [] else _) = []
    rw [if_neg q]
    have hcn := cn_or (show a < 10 by omega) q n (by omega)
    rw [if_pos ha] at hcn
    exact lv_ne hn d (k + 1) _ _ _ (by omega) (by omega)
theorem i_ext {x y : Int32} (h : ∀ i, i < 32 → (x.toBitVec.getLsbD i = true ↔ y.toBitVec.getLsbD i = true)) : x = y := by
  rw [← Int32.toBitVec_inj]
  apply BitVec.eq_of_getLsbD_eq
  intro i hi
  have := h i hi
  cases q : x.toBitVec.getLsbD i <;> cases p : y.toBitVec.getLsbD i <;> rw [q, p] at this <;> simp_all
def alS (f : Nat → Int32) : Nat → Int32
  | 0 => 127
  | S + 1 => if f S = 1 then alS f S &&& nI S else alS f S
def evS (f : Nat → Int32) : Nat → Int32
  | 0 => 0
  | S + 1 => if f S = 1 then evS f S ||| nI S else evS f S
theorem b127 : ∀ i, i < 32 → (127 : Int32).toBitVec.getLsbD i = decide (i < 7) := by decide +kernel
theorem alS_bit {f : Nat → Int32} {i : Nat} (hi : i < 32) : ∀ K, (alS f K).toBitVec.getLsbD i = true ↔ i < 7 ∧ ∀ S, S < K → f S = 1 → (nI S).toBitVec.getLsbD i = true
  | 0 => by
    rw [show alS f 0 = 127 from rfl, b127 i hi, decide_eq_true_iff]
    exact ⟨fun z => ⟨z, fun S hS => by omega⟩, fun z => z.1⟩
  | K + 1 => by
    have ih := alS_bit (f := f) hi K
    by_cases q : f K = 1
    · rw [show alS f (K + 1) = alS f K &&& nI K from if_pos q, Int32.toBitVec_and, BitVec.getLsbD_and, Bool.and_eq_true, ih]
      constructor
      · rintro ⟨⟨z1, z2⟩, z3⟩
        refine ⟨z1, fun S hS hf => ?_⟩
        by_cases y : S = K
        · subst y; exact z3
        · exact z2 S (by omega) hf
      · rintro ⟨z1, z2⟩
        exact ⟨⟨z1, fun S hS hf => z2 S (by omega) hf⟩, z2 K (by omega) q⟩
    · rw [show alS f (K + 1) = alS f K from if_neg q, ih]
      constructor
      · rintro ⟨z1, z2⟩
        refine ⟨z1, fun S hS hf => ?_⟩
        by_cases y : S = K
        · subst y; exact absurd hf q
        · exact z2 S (by omega) hf
      · rintro ⟨z1, z2⟩
        exact ⟨z1, fun S hS hf => z2 S (by omega) hf⟩
theorem evS_bit {f : Nat → Int32} {i : Nat} : ∀ K, (evS f K).toBitVec.getLsbD i = true ↔ ∃ S, S < K ∧ f S = 1 ∧ (nI S).toBitVec.getLsbD i = true
  | 0 => by
    rw [show evS f 0 = 0 from rfl, show (0 : Int32).toBitVec = 0#32 from rfl, BitVec.getLsbD_zero]
    exact ⟨fun z => absurd z (by decide), fun ⟨S, hS, _⟩ => by omega⟩
  | K + 1 => by
    have ih := evS_bit (f := f) (i := i) K
    by_cases q : f K = 1
    · rw [show evS f (K + 1) = evS f K ||| nI K from if_pos q, Int32.toBitVec_or, BitVec.getLsbD_or, Bool.or_eq_true, ih]
      constructor
      · rintro (⟨S, h1, h2, h3⟩ | z)
        · exact ⟨S, by omega, h2, h3⟩
        · exact ⟨K, by omega, q, z⟩
      · rintro ⟨S, h1, h2, h3⟩
        by_cases y : S = K
        · subst y; exact Or.inr h3
        · exact Or.inl ⟨S, by omega, h2, h3⟩
    · rw [show evS f (K + 1) = evS f K from if_neg q, ih]
      constructor
      · rintro ⟨S, h1, h2, h3⟩
        exact ⟨S, by omega, h2, h3⟩
      · rintro ⟨S, h1, h2, h3⟩
        by_cases y : S = K
        · subst y; exact absurd h2 q
        · exact ⟨S, by omega, h2, h3⟩
theorem fand_bit {h : lY → Nat} {i : Nat} : ∀ (L : List lY) (c : Int32), (L.foldl (fun c y => c &&& nI (h y)) c).toBitVec.getLsbD i = true ↔ c.toBitVec.getLsbD i = true ∧ ∀ y, y ∈ L → (nI (h y)).toBitVec.getLsbD i = true
  | [], c => ⟨fun z => ⟨z, fun y hy => absurd hy List.not_mem_nil⟩, fun z => z.1⟩
  | y :: L, c => by
    show (L.foldl _ (c &&& nI (h y))).toBitVec.getLsbD i = true ↔ _
    rw [fand_bit L, Int32.toBitVec_and, BitVec.getLsbD_and, Bool.and_eq_true]
    constructor
    · rintro ⟨⟨z1, z2⟩, z3⟩
      refine ⟨z1, fun w hw => ?_⟩
      rcases List.mem_cons.mp hw with q | q
      · rw [q]; exact z2
      · exact z3 w q
    · rintro ⟨z1, z2⟩
      exact ⟨⟨z1, z2 y List.mem_cons_self⟩, fun w hw => z2 w (List.mem_cons_of_mem y hw)⟩
theorem for_bit {h : lY → Nat} {i : Nat} : ∀ (L : List lY) (c : Int32), (L.foldl (fun c y => c ||| nI (h y)) c).toBitVec.getLsbD i = true ↔ c.toBitVec.getLsbD i = true ∨ ∃ y, y ∈ L ∧ (nI (h y)).toBitVec.getLsbD i = true
  | [], c => ⟨fun z => Or.inl z, fun z => z.elim id (fun ⟨y, hy, _⟩ => absurd hy List.not_mem_nil)⟩
  | y :: L, c => by
    show (L.foldl _ (c ||| nI (h y))).toBitVec.getLsbD i = true ↔ _
    rw [for_bit L, Int32.toBitVec_or, BitVec.getLsbD_or, Bool.or_eq_true]
    constructor
    · rintro ((z | z) | ⟨w, w1, w2⟩)
      · exact Or.inl z
      · exact Or.inr ⟨y, List.mem_cons_self, z⟩
      · exact Or.inr ⟨w, List.mem_cons_of_mem y w1, w2⟩
    · rintro (z | ⟨w, w1, w2⟩)
      · exact Or.inl (Or.inl z)
      · rcases List.mem_cons.mp w1 with q | q
        · subst q; exact Or.inl (Or.inr w2)
        · exact Or.inr ⟨w, q, w2⟩
theorem cc_always {Q : Nat} {A : zMt} : D_X0_always Q A = some (alS (A (Q + 2)) 128) := by
  have go : ∀ (v k : Nat), k ≤ 128 → 128 - k < v → D_X0_always_5 Q A v (alS (A (Q + 2)) k) (nI k) = some (alS (A (Q + 2)) 128) := by
    intro v
    induction v with
    | zero => intro k _ h; omega
    | succ v ih =>
      intro k hk hv
      rw [D_X0_always_5]
      by_cases hc : 128 ≤ k
      · rw [if_pos (by exact (leL (x := 128) (a := 128) (by decide) (by decide) (by omega)).mpr hc), show k = 128 by omega]
      · rw [if_neg (by intro z; exact hc ((leL (x := 128) (a := 128) (by decide) (by decide) (by omega)).mp z)), zrd_nI (show k < 128 by omega) (by decide)]
        have := ih (k + 1) (by omega) (by omega)
        rw [← nI_add1] at this
        by_cases q : A (Q + 2) k = 1
        · rw [if_pos q]
          rw [show alS (A (Q + 2)) (k + 1) = alS (A (Q + 2)) k &&& nI k from if_pos q] at this
          exact this
        · rw [if_neg q]
          rw [show alS (A (Q + 2)) (k + 1) = alS (A (Q + 2)) k from if_neg q] at this
          exact this
  have := go zFu 0 (by omega) (by unfold zFu; omega)
  rw [show nI 0 = (0 : Int32) by decide] at this
  exact this
theorem cc_ever {Q : Nat} {A : zMt} : D_X0_ever Q A = some (evS (A (Q + 2)) 128) := by
  have go : ∀ (v k : Nat), k ≤ 128 → 128 - k < v → D_X0_ever_4 Q A v (evS (A (Q + 2)) k) (nI k) = some (evS (A (Q + 2)) 128) := by
    intro v
    induction v with
    | zero => intro k _ h; omega
    | succ v ih =>
      intro k hk hv
      rw [D_X0_ever_4]
      by_cases hc : 128 ≤ k
      · rw [if_pos (by exact (leL (x := 128) (a := 128) (by decide) (by decide) (by omega)).mpr hc), show k = 128 by omega]
      · rw [if_neg (by intro z; exact hc ((leL (x := 128) (a := 128) (by decide) (by decide) (by omega)).mp z)), zrd_nI (show k < 128 by omega) (by decide)]
        have := ih (k + 1) (by omega) (by omega)
        rw [← nI_add1] at this
        by_cases q : A (Q + 2) k = 1
        · rw [if_pos q]
          rw [show evS (A (Q + 2)) (k + 1) = evS (A (Q + 2)) k ||| nI k from if_pos q] at this
          exact this
        · rw [if_neg q]
          rw [show evS (A (Q + 2)) (k + 1) = evS (A (Q + 2)) k from if_neg q] at this
          exact this
  have := go zFu 0 (by omega) (by unfold zFu; omega)
  rw [show nI 0 = (0 : Int32) by decide] at this
  exact this
theorem t_sure {C P : Nat} {A B : zMt} {NA NB : zNt} {v0 : Int32} (w0 : eqE C P A B) (hD : oD C A NA) (_hJ : jJ P B) : two (D_X7_sure C v0 A NA) (D_X8_sure P v0 B NB) (fun a b => a.1 = b.1 ∧ oD C a.2.1 a.2.2) := by
  obtain ⟨r, g, U, H, G, K, w⟩ := w0
  unfold D_X7_sure D_X8_sure
  rcases t_rng (v := v0) (x := 1) (y := 1) (by decide) with ⟨g1, g2, g3, g4, g5⟩ | ⟨gn, g5⟩
  · rw [if_neg g1, if_pos g2, zB_s g5, if_neg n10]
    obtain ⟨n, B2, hn, hn10, e91, hO⟩ := t_odds (NB := NB) w hD
    rw [e91]
    rcases hO with ⟨h7, m1, A', N', T, B', N2, p1, p2, p3, p4, p5, p6, p7, p8, p9, p10⟩ | ⟨h7, m1⟩
    · rw [if_pos ((nI_7i hn10).mpr h7)]
      refine two.l p1 (two.r m1 ?_)
      rw [if_pos rfl]
      refine two.r p2 ?_
      have hh : ∀ y : lY, hvN (rs T 10 U n y.1) n < 128 := fun y => by
        have hlt := hvN_lt (s := rs T 10 U n y.1) n
        have hp : 2 ^ n ≤ 2 ^ 7 := Nat.pow_le_pow_right (by omega) h7
        omega
      have hseen : ∀ S, S < 128 → (A' (C + 114) S = 1 ↔ ∃ y, y ∈ lvA T n ∧ hvN (rs T 10 U n y.1) n = S) := fun S hS => by
        rw [show A' (C + 114) S = seenF (fun y => hvN (rs T 10 U n y.1) n) S (lvA T n) from p6.2.1 S hS]
        rcases seenF_01 (g := fun y => hvN (rs T 10 U n y.1) n) (S := S) (lvA T n) with ⟨h1, h2⟩ | ⟨h1, h2⟩
        · rw [h1]
          exact ⟨fun z => absurd z (by decide), fun z => absurd z h2⟩
        · exact ⟨fun _ => h2, fun _ => h1⟩
      have hb : ∀ i, i < 32 → ((((1 : Int32) <<< (nI n &&& 31)) - 1).toBitVec.getLsbD i = true ↔ i < n) := fun i hi => by
        rw [wB_0 n (by omega) i hi, decide_eq_true_iff]
      have eal : alS (A' (C + 114)) 128 = B' P 54 := by
        rw [p8.2.2.2.2.2.2.2.1]
        refine i_ext (fun i hi => ?_)
        rw [alS_bit hi 128, fand_bit, hb i hi]
        constructor
        · rintro ⟨z1, z2⟩
          have z3 : ∀ y, y ∈ lvA T n → (nI (hvN (rs T 10 U n y.1) n)).toBitVec.getLsbD i = true := fun y hy => z2 _ (hh y) ((hseen _ (hh y)).mpr ⟨y, hy, rfl⟩)
          refine ⟨?_, z3⟩
          obtain ⟨y, L', hL⟩ := List.exists_cons_of_ne_nil (lv_ne (t := T 8) (n := n) (by omega) n 0 0 (fun j => j) 1000000000000 (by omega) (cn_0 n))
          have := z3 y (by show y ∈ lv (T 8) n n 0 0 (fun j => j) 1000000000000; rw [hL]; exact List.mem_cons_self)
          exact ((hvN_bit n (by omega) i hi).mp this).1
        · rintro ⟨z1, z2⟩
          refine ⟨by omega, fun S hS hf => ?_⟩
          obtain ⟨y, hy, e⟩ := (hseen S hS).mp hf
          rw [← e]
          exact z2 y hy
      have eev : evS (A' (C + 114)) 128 = B' P 55 := by
        rw [p8.2.2.2.2.2.2.2.2.1]
        refine i_ext (fun i hi => ?_)
        rw [evS_bit 128, for_bit]
        constructor
        · rintro ⟨S, h1, h2, h3⟩
          obtain ⟨y, hy, e⟩ := (hseen S h1).mp h2
          exact Or.inr ⟨y, hy, by rw [e]; exact h3⟩
        · rintro (z | ⟨y, hy, h3⟩)
          · rw [show (0 : Int32).toBitVec = 0#32 from rfl, BitVec.getLsbD_zero] at z
            exact absurd z (by decide)
          · exact ⟨_, hh y, (hseen _ (hh y)).mpr ⟨y, hy, rfl⟩, h3⟩
      have e91' : A' (C + 91) 1 = nI n := (p3 0 1 (by omega)).trans p4.2.2.1
      have o1 : (1 : Int32).toInt = 1 := by decide
      have hc : v0 = 0 ∨ v0 = 1 := by
        have : v0.toInt = 0 ∨ v0.toInt = 1 := by omega
        rcases this with q | q
        · exact Or.inl (i_of (k := 0) q (by omega))
        · exact Or.inr (i_of (k := 1) q (by omega))
      rcases hc with q | q <;> subst q
      · rw [if_pos (show (0 : Int32) = 0 from rfl), if_pos (show (0 : Int32) = 0 from rfl)]
        exact two.l (cc_always (Q := C + 112)) (t_ansO p7 eal)
      · rw [if_neg n10, if_neg n10]
        refine two.l (cc_ever (Q := C + 112)) (t_ansO p7 ?_)
        show ((1 : Int32) <<< ((A' (C + 91) 1) &&& 31)) - 1 &&& (evS (A' (C + 114)) 128 ^^^ (-1 : Int32)) = ((1 : Int32) <<< ((B' P 33) &&& 31)) - 1 &&& (B' P 55 ^^^ (-1 : Int32))
        rw [eev, e91', p9.1]
    · rw [if_neg (fun z => h7 ((nI_7i hn10).mp z))]
      refine two.r m1 ?_
      rw [if_neg n10]
      exact t_rfsO hD
  · rw [zB_s g5, if_pos rfl]
    rcases gn with z | ⟨z, z2⟩
    · rw [if_pos z]
      exact t_rfsO hD
    · rw [if_neg z, if_neg z2]
      exact t_rfsO hD
