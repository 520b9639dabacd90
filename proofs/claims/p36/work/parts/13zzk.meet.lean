/-! the odds: where the sums meet -/
theorem mask_iff {z m : Int32} : (z &&& m) = m ↔ ∀ i, i < 32 → m.toBitVec.getLsbD i = true → z.toBitVec.getLsbD i = true := by
  rw [← Int32.toBitVec_inj, Int32.toBitVec_and]
  constructor
  · intro h i hi hm
    have := congrArg (fun b => b.getLsbD i) h
    simp only [BitVec.getLsbD_and] at this
    rw [hm, Bool.and_true] at this
    exact this
  · intro h
    apply BitVec.eq_of_getLsbD_eq
    intro i hi
    rw [BitVec.getLsbD_and]
    cases q : m.toBitVec.getLsbD i
    · rw [Bool.and_false]
    · rw [h i hi q]
      rfl
theorem mask_iff0 {z m : Int32} : (m &&& (z ^^^ (-1 : Int32))) = 0 ↔ ∀ i, i < 32 → m.toBitVec.getLsbD i = true → z.toBitVec.getLsbD i = true := by
  rw [← Int32.toBitVec_inj, Int32.toBitVec_and, Int32.toBitVec_xor]
  constructor
  · intro h i hi hm
    have := congrArg (fun b => b.getLsbD i) h
    simp only [BitVec.getLsbD_and, BitVec.getLsbD_xor] at this
    rw [hm, bitm1 i hi, Bool.true_and, Bool.xor_true, show (0 : Int32).toBitVec = 0#32 from rfl, BitVec.getLsbD_zero] at this
    cases q : z.toBitVec.getLsbD i
    · rw [q] at this
      exact absurd this (by decide)
    · rfl
  · intro h
    apply BitVec.eq_of_getLsbD_eq
    intro i hi
    rw [BitVec.getLsbD_and, BitVec.getLsbD_xor, bitm1 i hi, Bool.xor_true, show (0 : Int32).toBitVec = 0#32 from rfl, BitVec.getLsbD_zero]
    cases q : m.toBitVec.getLsbD i
    · rfl
    · rw [h i hi q]
      rfl
theorem hvN_bit {s : zMt} : ∀ n, n ≤ 10 → ∀ i, i < 32 → ((nI (hvN s n)).toBitVec.getLsbD i = true ↔ i < n ∧ ¬ s 0 i = -1)
  | 0, _, i, hi => by
    rw [show nI (hvN s 0) = (0 : Int32) by show nI 0 = 0; decide, show (0 : Int32).toBitVec = 0#32 from rfl, BitVec.getLsbD_zero]
    exact ⟨fun z => absurd z (by decide), fun z => by omega⟩
  | n + 1, hn, i, hi => by
    have ih := hvN_bit (s := s) n (by omega) i hi
    by_cases q : s 0 n = -1
    · have e : hvN s (n + 1) = hvN s n := by
        show hvN s n + (if s 0 n = -1 then 0 else 2 ^ n) = hvN s n
        rw [if_pos q]
        rfl
      rw [e, ih]
      refine ⟨fun z => ⟨by omega, z.2⟩, fun z => ⟨?_, z.2⟩⟩
      have : ¬ i = n := fun y => z.2 (y ▸ q)
      omega
    · rw [← hvN_or (show n < 10 by omega) q, Int32.toBitVec_or, BitVec.getLsbD_or, bit1 n (by omega) i hi, Bool.or_eq_true, ih, decide_eq_true_iff]
      constructor
      · rintro (⟨z1, z2⟩ | z)
        · exact ⟨by omega, z2⟩
        · exact ⟨by omega, z ▸ q⟩
      · rintro ⟨z1, z2⟩
        by_cases y : i = n
        · exact Or.inr y
        · exact Or.inl ⟨by omega, z2⟩
theorem hv_one {s : zMt} {n a : Nat} (hn : n ≤ 7) (ha : a < n) : (nI (hvN s n) &&& ((1 : Int32) <<< (nI a &&& 31))) = ((1 : Int32) <<< (nI a &&& 31)) ↔ ¬ s 0 a = -1 := by
  rw [mask_iff]
  constructor
  · intro h
    exact ((hvN_bit n (by omega) a (by omega)).mp (h a (by omega) (by rw [bit1 a (by omega) a (by omega)]; exact decide_eq_true rfl))).2
  · intro h i hi hb
    rw [bit1 a (by omega) i hi, decide_eq_true_iff] at hb
    subst hb
    exact (hvN_bit n (by omega) i hi).mpr ⟨ha, h⟩
theorem hv_two {s : zMt} {n a o : Nat} (hn : n ≤ 7) (ha : a < n) (ho : o < n) : (nI (hvN s n) &&& (((1 : Int32) <<< (nI a &&& 31)) ||| ((1 : Int32) <<< (nI o &&& 31)))) = (((1 : Int32) <<< (nI a &&& 31)) ||| ((1 : Int32) <<< (nI o &&& 31))) ↔ ¬ s 0 a = -1 ∧ ¬ s 0 o = -1 := by
  have hb : ∀ i, i < 32 → ((((1 : Int32) <<< (nI a &&& 31)) ||| ((1 : Int32) <<< (nI o &&& 31))).toBitVec.getLsbD i = true ↔ i = a ∨ i = o) := fun i hi => by
    rw [Int32.toBitVec_or, BitVec.getLsbD_or, bit1 a (by omega) i hi, bit1 o (by omega) i hi, Bool.or_eq_true, decide_eq_true_iff, decide_eq_true_iff]
  rw [mask_iff]
  constructor
  · intro h
    exact ⟨((hvN_bit n (by omega) a (by omega)).mp (h a (by omega) ((hb a (by omega)).mpr (Or.inl rfl)))).2, ((hvN_bit n (by omega) o (by omega)).mp (h o (by omega) ((hb o (by omega)).mpr (Or.inr rfl)))).2⟩
  · intro h i hi y
    rcases (hb i hi).mp y with z | z
    · subst z
      exact (hvN_bit n (by omega) i hi).mpr ⟨ha, h.1⟩
    · subst z
      exact (hvN_bit n (by omega) i hi).mpr ⟨ho, h.2⟩
def aS (f : Nat → Int64) (m : Int32) : Nat → Int64
  | 0 => 0
  | S + 1 => aS f m S + (if (nI S &&& m) = m then f S else 0)
theorem aS_lsum {f : Nat → Int64} {m : Int32} {h : lY → Nat} {L : List lY} : ∀ K, (∀ S, S < K → f S = lsum (fun y => if h y = S then y.2 else 0) L) → aS f m K = lsum (fun y => if h y < K ∧ (nI (h y) &&& m) = m then y.2 else 0) L
  | 0, _ => by
    show (0 : Int64) = _
    rw [lsum_cg (g := fun _ => 0) L (fun y _ => if_neg (fun z => Nat.not_lt_zero _ z.1)), lsum_0]
  | K + 1, hf => by
    show aS f m K + (if (nI K &&& m) = m then f K else 0) = _
    rw [aS_lsum K (fun S hS => hf S (by omega)), hf K (by omega)]
    have e : (if (nI K &&& m) = m then lsum (fun y => if h y = K then y.2 else 0) L else 0) = lsum (fun y => if h y = K ∧ (nI (h y) &&& m) = m then y.2 else 0) L := by
      by_cases q : (nI K &&& m) = m
      · rw [if_pos q]
        refine lsum_cg L (fun y _ => ?_)
        by_cases z : h y = K
        · rw [if_pos z, if_pos ⟨z, by rw [z]; exact q⟩]
        · rw [if_neg z, if_neg (fun w => z w.1)]
      · rw [if_neg q, lsum_cg (g := fun _ => 0) L (fun y _ => if_neg (fun z => q (by rw [← z.1]; exact z.2))), lsum_0]
    rw [e, ← lsum_add]
    refine lsum_cg L (fun y _ => ?_)
    by_cases q : (nI (h y) &&& m) = m
    · by_cases z : h y < K
      · rw [if_pos ⟨z, q⟩, if_neg (fun w => by omega), if_pos ⟨by omega, q⟩, Int64.add_zero]
      · rw [if_neg (fun w => z w.1), Int64.zero_add]
        by_cases t : h y = K
        · rw [if_pos ⟨t, q⟩, if_pos ⟨by omega, q⟩]
        · rw [if_neg (fun w => t w.1), if_neg (fun w => by omega)]
    · rw [if_neg (fun w => q w.2), if_neg (fun w => q w.2), if_neg (fun w => q w.2), Int64.add_zero]
theorem cc_allOf {Q U n : Nat} {A T : zMt} {N : zNt} {L : List lY} {m : Int32} (hn : n ≤ 7) (hI : cI Q A N T U n L) : D_X0_allOf Q N m = some (lsum (fun y => if (nI (hvN (rs T 10 U n y.1) n) &&& m) = m then y.2 else 0) L) := by
  have go : ∀ (v k : Nat), k ≤ 128 → 128 - k < v → D_X0_allOf_5 Q N v m (aS (N (Q + 1)) m k) (nI k) = some (aS (N (Q + 1)) m 128) := by
    intro v
    induction v with
    | zero => intro k _ h; omega
    | succ v ih =>
      intro k hk hv
      rw [D_X0_allOf_5]
      by_cases hc : 128 ≤ k
      · rw [if_pos (by exact (leL (x := 128) (a := 128) (by decide) (by decide) (by omega)).mpr hc), show k = 128 by omega]
      · rw [if_neg (by intro z; exact hc ((leL (x := 128) (a := 128) (by decide) (by decide) (by omega)).mp z)), zrd_nI (show k < 128 by omega) (by decide)]
        have := ih (k + 1) (by omega) (by omega)
        rw [← nI_add1] at this
        have e : aS (N (Q + 1)) m (k + 1) = aS (N (Q + 1)) m k + (if (nI k &&& m) = m then N (Q + 1) k else 0) := rfl
        rw [e] at this
        by_cases q : (nI k &&& m) = m
        · rw [if_pos q]
          rw [if_pos q] at this
          exact this
        · rw [if_neg q]
          rw [if_neg q, Int64.add_zero] at this
          exact this
  have := go zFu 0 (by omega) (by unfold zFu; omega)
  rw [show nI 0 = (0 : Int32) by decide, aS_lsum (h := fun y => hvN (rs T 10 U n y.1) n) (L := L) 128 hI.1] at this
  unfold D_X0_allOf
  refine this.trans (congrArg some (lsum_cg L (fun y _ => ?_)))
  have hlt := hvN_lt (s := rs T 10 U n y.1) n
  have hp : 2 ^ n ≤ 2 ^ 7 := Nat.pow_le_pow_right (by omega) hn
  by_cases q : (nI (hvN (rs T 10 U n y.1) n) &&& m) = m
  · rw [if_pos ⟨by omega, q⟩, if_pos q]
  · rw [if_neg (fun w => q w.2), if_neg q]
theorem cc_any {Q U n a : Nat} {A T : zMt} {N : zNt} {L : List lY} (hn : n ≤ 7) (ha : a < n) (hI : cI Q A N T U n L) : D_X0_anyUnit Q N (nI a) = some (lsum (fun y => if ¬ rs T 10 U n y.1 0 a = -1 then y.2 else 0) L) := by
  unfold D_X0_anyUnit
  rw [zB_s (cc_allOf hn hI)]
  refine congrArg some (lsum_cg L (fun y _ => ?_))
  have e := hv_one (s := rs T 10 U n y.1) hn ha
  by_cases q : ¬ rs T 10 U n y.1 0 a = -1
  · rw [if_pos q, if_pos (e.mpr q)]
  · rw [if_neg q, if_neg (fun z => q (e.mp z))]
/-- every leaf is an order -/
theorem lvL_mem {f : Nat → List lY} {y : lY} : ∀ n, y ∈ lvL f n → ∃ a, a < n ∧ y ∈ f a
  | 0, h => absurd h List.not_mem_nil
  | n + 1, h => by
    rcases List.mem_append.mp (show y ∈ lvL f n ++ f n from h) with z | z
    · obtain ⟨a, h1, h2⟩ := lvL_mem n z
      exact ⟨a, by omega, h2⟩
    · exact ⟨n, by omega, z⟩
theorem lv_mem {t : Nat → Int32} {n : Nat} {y : lY} : ∀ (d k : Nat) (b : Int32) (l : Nat → Nat) (x : Int64), k + d = n → (∀ j, j < k → l j < n) → y ∈ lv t n d k b l x → ∀ j, j < n → y.1 j < n
  | 0, k, b, l, x, hk, hl, h => by
    have e : y = (l, x) := List.mem_singleton.mp h
    rw [e]
    exact fun j hj => hl j (by omega)
  | d + 1, k, b, l, x, hk, hl, h => by
    obtain ⟨a, h1, h2⟩ := lvL_mem n h
    by_cases q : ((b >>> (nI a &&& 31)) &&& 1) = 1
    · rw [if_pos q] at h2
      exact absurd h2 List.not_mem_nil
    · rw [if_neg q] at h2
      refine lv_mem d (k + 1) _ _ _ (by omega) (fun j hj => ?_) h2
      show (if j = k then a else l j) < n
      by_cases z : j = k
      · rw [if_pos z]; exact h1
      · rw [if_neg z]; exact hl j (by omega)
theorem lvA_ok {T : zMt} {n U : Nat} {y : lY} (hg : gP T n U) (h : y ∈ lvA T n) : okS T (rs T 10 U n y.1) n U := rs_ok hg (lv_mem n 0 0 _ _ (by omega) (fun j hj => by omega) h)
def z64 (f : Nat → Int64) : Nat → Int64
  | 0 => 0
  | u + 1 => z64 f u + f u
theorem z64_lsum {f : Nat → Int64} {g : Nat → lY → Int64} {L : List lY} : ∀ u, (∀ i, i < u → f i = lsum (g i) L) → z64 f u = lsum (fun y => z64 (fun i => g i y) u) L
  | 0, _ => (lsum_0 L).symm
  | u + 1, h => by
    show z64 f u + f u = lsum (fun y => z64 (fun i => g i y) u + g u y) L
    rw [z64_lsum u (fun i hi => h i (by omega)), h u (by omega), lsum_add]
theorem z64_no {v : Int32} {x : Int64} : ∀ u, (∀ i, i < u → ¬ v = nI i) → z64 (fun i => if v = nI i then x else 0) u = 0
  | 0, _ => rfl
  | u + 1, h => by
    show z64 _ u + (if v = nI u then x else 0) = 0
    rw [z64_no u (fun i hi => h i (by omega)), if_neg (h u (by omega))]
    exact Int64.add_zero 0
theorem z64_one {w : Nat} {x : Int64} : ∀ u, u ≤ 5 → w < u → z64 (fun i => if nI w = nI i then x else 0) u = x
  | 0, _, h => by omega
  | u + 1, hu, h => by
    show z64 _ u + (if nI w = nI u then x else 0) = x
    by_cases q : w = u
    · subst q
      rw [if_pos rfl, z64_no w (fun i hi z => by have := nI_inj (by omega) (by omega) z; omega), Int64.zero_add]
    · rw [z64_one u (by omega) (by omega), if_neg (fun z => q (nI_inj (by omega) (by omega) z)), Int64.add_zero]
theorem mm_chance {P n U a : Nat} {B T : zMt} {N : zNt} (hg : gP T n U) (hn : n ≤ 7) (ha : a < n) (hm : mP P B T n U) (hI : rI P B N T U n (lvA T n)) : D_X8_chanceOf P B N (nI a) = some (lsum (fun y => if ¬ rs T 10 U n y.1 0 a = -1 then y.2 else 0) (lvA T n)) := by
  have hU := hg.2.1
  have go : ∀ (v u : Nat), u ≤ U → U - u < v → D_X8_chanceOf_5 P B N v (nI a) (z64 (fun i => N (P + 24) (5 * a + i)) u) (nI u) = some (z64 (fun i => N (P + 24) (5 * a + i)) U) := by
    intro v
    induction v with
    | zero => intro u _ h; omega
    | succ v ih =>
      intro u hu hv
      rw [D_X8_chanceOf_5, hm.2.1]
      by_cases hc : U ≤ u
      · rw [if_pos (by exact (nI_leI (by omega) (by omega)).mpr hc), show u = U by omega]
      · rw [if_neg (by intro z; exact hc ((nI_leI (by omega) (by omega)).mp z))]
        unfold zI
        rw [nI_5m a (by omega) u (by omega), if_neg (vp_in_nI (show 5 * a + u < 35 by omega) (by decide)), nI_clamp (by omega), nI_add1]
        exact ih (u + 1) (by omega) (by omega)
  have := go zFu 0 (by omega) (by unfold zFu; omega)
  rw [show nI 0 = (0 : Int32) by decide, z64_lsum (g := fun i y => if rs T 10 U n y.1 0 a = nI i then y.2 else 0) (L := lvA T n) U (fun i hi => hI.1 a i ha hi)] at this
  unfold D_X8_chanceOf
  refine this.trans (congrArg some (lsum_cg _ (fun y hy => ?_)))
  rcases lvA_ok hg hy a ha with q | ⟨k, w, w1, w2, w3, w4⟩
  · rw [if_neg (fun z => z q)]
    exact z64_no U (fun i hi z => nI_ne (k := i) (by omega) (z.symm.trans q))
  · rw [w4, if_pos (nI_ne (by omega))]
    exact z64_one U hU w2
