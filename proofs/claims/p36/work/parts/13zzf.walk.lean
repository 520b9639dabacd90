/-! the odds: the class's walk through all orders -/
def cI (Q : Nat) (A : zMt) (N : zNt) (T : zMt) (U n : Nat) (L : List lY) : Prop := (∀ S, S < 128 → N (Q + 1) S = lsum (fun y => if hvN (rs T 10 U n y.1) n = S then y.2 else 0) L) ∧ (∀ S, S < 128 → A (Q + 2) S = seenF (fun y => hvN (rs T 10 U n y.1) n) S L) ∧ (∀ a u, a < n → u < U → N (Q + 3) (5 * a + u) = lsum (fun y => if rs T 10 U n y.1 0 a = nI u then y.2 else 0) L) ∧ (∀ a, a < n → N (Q + 4) a = lsum (fun y => if ¬ rs T 10 U n y.1 0 a = -1 ∧ rs T 10 U n y.1 1 a = 1 then y.2 else 0) L)
theorem cI.k {Q U n : Nat} {A A' T : zMt} {N N' : zNt} {L : List lY} (h : cI Q A N T U n L) (a : ∀ j, A' (Q + 2) j = A (Q + 2) j) (b : ∀ i j, Q + 1 ≤ i → i ≤ Q + 4 → N' i j = N i j) : cI Q A' N' T U n L :=
  ⟨fun S hS => (b _ _ (by omega) (by omega)).trans (h.1 S hS), fun S hS => (a S).trans (h.2.1 S hS), fun a u ha hu => (b _ _ (by omega) (by omega)).trans (h.2.2.1 a u ha hu), fun a ha => (b _ _ (by omega) (by omega)).trans (h.2.2.2 a ha)⟩
theorem cn_le {b : Int32} : ∀ n, cn b n ≤ n
  | 0 => Nat.le_refl 0
  | n + 1 => by
    have := cn_le (b := b) n
    show cn b n + (if _ then 1 else 0) ≤ n + 1
    by_cases q : ((b >>> (nI n &&& 31)) &&& 1) = 1
    · rw [if_pos q]; omega
    · rw [if_neg q]; omega
theorem cn_all {b : Int32} : ∀ n, cn b n = n → ∀ i, i < n → ((b >>> (nI i &&& 31)) &&& 1) = 1
  | 0, _, i, hi => by omega
  | n + 1, h, i, hi => by
    have hl := cn_le (b := b) n
    have e : cn b (n + 1) = cn b n + (if ((b >>> (nI n &&& 31)) &&& 1) = 1 then 1 else 0) := rfl
    rw [e] at h
    by_cases q : ((b >>> (nI n &&& 31)) &&& 1) = 1
    · rw [if_pos q] at h
      by_cases z : i = n
      · subst z; exact q
      · exact cn_all n (by omega) i (by omega)
    · rw [if_neg q] at h
      omega
theorem cn_full {b : Int32} : ∀ n, (∀ i, i < n → ((b >>> (nI i &&& 31)) &&& 1) = 1) → cn b n = n
  | 0, _ => rfl
  | n + 1, h => by
    show cn b n + (if ((b >>> (nI n &&& 31)) &&& 1) = 1 then 1 else 0) = n + 1
    rw [if_pos (h n (by omega)), cn_full n (fun i hi => h i (by omega))]
/-- who waits still, as bits -/
def wB (x b : Int32) (n : Nat) : Prop := ∀ i, i < 32 → (x.toBitVec.getLsbD i = true ↔ i < n ∧ ¬ ((b >>> (nI i &&& 31)) &&& 1) = 1)
theorem wB.z {x b : Int32} {n : Nat} (hn : n ≤ 10) (h : wB x b n) : x = 0 ↔ cn b n = n := by
  constructor
  · intro z
    subst z
    refine cn_full n (fun i hi => Classical.byContradiction fun q => ?_)
    have := (h i (by omega)).mpr ⟨hi, q⟩
    rw [show (0 : Int32).toBitVec = 0#32 from rfl, BitVec.getLsbD_zero] at this
    exact absurd this (by decide)
  · intro z
    rw [← Int32.toBitVec_inj]
    apply BitVec.eq_of_getLsbD_eq
    intro i hi
    rw [show (0 : Int32).toBitVec = 0#32 from rfl, BitVec.getLsbD_zero]
    cases q : x.toBitVec.getLsbD i
    · rfl
    · obtain ⟨y1, y2⟩ := (h i hi).mp q
      exact absurd (cn_all n z i y1) y2
theorem wB.s {x b : Int32} {n a : Nat} (hn : n ≤ 10) (ha : a < n) (h : wB x b n) : wB (x &&& (((1 : Int32) <<< (nI a &&& 31)) ^^^ (-1 : Int32))) (b ||| ((1 : Int32) <<< (nI a &&& 31))) n := by
  intro i hi
  rw [Int32.toBitVec_and, Int32.toBitVec_xor, BitVec.getLsbD_and, BitVec.getLsbD_xor, bit1 a (by omega) i hi, bitm1 i hi, Bool.xor_true]
  have hh := h i hi
  by_cases z : i = a
  · subst z
    rw [decide_eq_true rfl]
    constructor
    · intro y
      simp at y
    · rintro ⟨y1, y2⟩
      exact absurd ((bitK_or (s := b) (show i < 10 by omega) (show i < 10 by omega)).mpr (Or.inr rfl)) y2
  · rw [decide_eq_false z, Bool.not_false, Bool.and_true, hh]
    constructor
    · rintro ⟨y1, y2⟩
      refine ⟨y1, fun y => ?_⟩
      rcases (bitK_or (s := b) (show a < 10 by omega) (show i < 10 by omega)).mp y with w | w
      · exact y2 w
      · exact z w.symm
    · rintro ⟨y1, y2⟩
      exact ⟨y1, fun y => y2 ((bitK_or (s := b) (show a < 10 by omega) (show i < 10 by omega)).mpr (Or.inl y))⟩
theorem wB.b {x b : Int32} {n a : Nat} (hn : n ≤ 10) (ha : a < n) (h : wB x b n) : ((x >>> (nI a &&& 31)) &&& 1) = 1 ↔ ¬ ((b >>> (nI a &&& 31)) &&& 1) = 1 := by
  have e : bitAt x a ↔ x.toBitVec.getLsbD a = true := bitAt_iff (by omega)
  have hh := h a (by omega)
  constructor
  · intro z
    exact (hh.mp (e.mp z)).2
  · intro z
    exact e.mpr (hh.mpr ⟨ha, z⟩)
theorem wB_0 : ∀ n, n < 8 → ∀ i, i < 32 → ((((1 : Int32) <<< (nI n &&& 31)) - 1).toBitVec.getLsbD i = decide (i < n)) := by decide +kernel
theorem t_i64 {x : Int32} {m : Int} (h : x.toInt = m) : Int32.toInt64 x = Int64.ofInt m := by
  apply Int64.toInt_inj.mp
  have h1 := Int32.toInt_lt x
  have h2 := Int32.le_toInt x
  have hs : (Int64.size : Int) = 18446744073709551616 := by decide
  rw [Int32.toInt_toInt64, Int64.toInt_ofInt, Int.bmod_def, hs, h]
  omega
theorem cc_walk {Q Ap n U : Nat} {T : zMt} (hg : gP T n U) (hn : n ≤ 7) (hd : Q + 13 ≤ Ap ∨ Ap + 13 ≤ Q) : ∀ (d k w : Nat) (b x3 x4 : Int32) (l : Nat → Nat) (x : Int64) (A : zMt) (N : zNt) (L : List lY), k + d = n → d < w → (∀ j, j < k → l j < n ∧ A (Q + 6) j = nI (l j)) → cn b n = k → wB x3 b n → x4.toInt = St (T 8) b n → (∀ i j, i < 13 → A (Ap + i) j = T i j) → cI Q A N T U n L → ∃ A' N', D_X0_walk Q Ap w (nI k) x3 x4 x A N = some (A', N') ∧ cI Q A' N' T U n (L ++ lv (T 8) n d k b l x) ∧ (∀ j, j < k → A' (Q + 6) j = A (Q + 6) j) ∧ (∀ i j, ¬ i = Q + 2 → ¬ (Q + 6 ≤ i ∧ i ≤ Q + 12) → A' i j = A i j) ∧ (∀ i j, ¬ (Q + 1 ≤ i ∧ i ≤ Q + 4) → N' i j = N i j) := by
  have hU := hg.2.1
  have ht : ∀ a, a < n → 1 ≤ (T 8 a).toInt ∧ (T 8 a).toInt ≤ 401 := fun a ha => (hg.2.2.2.2.1 a ha).2.2.1.i (by omega)
  intro d
  induction d with
  | zero =>
    intro k w b x3 x4 l x A N L hk hw hl hc hx3 hx4 hT hI
    obtain ⟨w, rfl⟩ : ∃ y, w = y + 1 := ⟨w - 1, by omega⟩
    have : k = n := by omega
    subst this
    obtain ⟨A1, e1, hC, k1⟩ := cc_settle (Q := Ap) (S := Q + 5) (A := A) (l := l) hg (by omega) hT hl
    have ok := rs_ok (wo := 10) hg (fun j hj => (hl j hj).1)
    have a1 : A1 Ap 1 = nI k := (k1 _ _ (by omega)).trans ((hT 0 1 (by omega)).trans hg.2.2.1)
    obtain ⟨A2, N2, e2, f1, f2, f3, f4, f5, f6⟩ := cc_record (Q := Q) (Ap := Ap) (N := N) (x := x) hn hU ok a1 hC
    refine ⟨A2, N2, ?_, ⟨fun S hS => ?_, fun S hS => ?_, fun a u ha hu => ?_, fun a ha => ?_⟩, fun j hj => (f5 _ _ (by omega)).trans (k1 _ _ (by omega)), fun i j h1 h2 => (f5 _ _ h1).trans (k1 _ _ (by omega)), fun i j h => f6 i j (by omega) (by omega) (by omega)⟩
    · rw [D_X0_walk, if_pos ((hx3.z (by omega)).mpr hc), zB_s e1, zB_s e2]
    · show N2 (Q + 1) S = lsum _ (L ++ [(l, x)])
      rw [lsum_1, f1 S hS, hI.1 S hS]
    · show A2 (Q + 2) S = seenF _ S (L ++ [(l, x)])
      rw [seenF_1, f2 S hS, k1 _ _ (by omega), hI.2.1 S hS]
    · show N2 (Q + 3) (5 * a + u) = lsum _ (L ++ [(l, x)])
      rw [lsum_1, f3 a u ha hu, hI.2.2.1 a u ha hu]
    · show N2 (Q + 4) a = lsum _ (L ++ [(l, x)])
      rw [lsum_1, f4 a ha, hI.2.2.2 a ha]
  | succ d ih =>
    intro k w b x3 x4 l x A N L hk hw hl hc hx3 hx4 hT hI
    obtain ⟨w, rfl⟩ : ∃ y, w = y + 1 := ⟨w - 1, by omega⟩
    have hge := St_ge (t := T 8) (b := b) n (fun a ha => (ht a ha).1)
    have hle := St_le (t := T 8) (b := b) n ht
    have o0 : (0 : Int32).toInt = 0 := by decide
    have h64 : Int32.toInt64 x4 = Int64.ofInt (St (T 8) b n) := t_i64 hx4
    have hz : ¬ Int32.toInt64 x4 = 0 := fun z => by
      have := congrArg Int64.toInt z
      rw [Int32.toInt_toInt64, show (0 : Int64).toInt = 0 by decide] at this
      omega
    rw [D_X0_walk, if_neg (fun z => by have := (hx3.z (by omega)).mp z; omega), if_neg (by intro z; exact absurd ((leL (x := 7) (a := 7) (by decide) (by decide) (by omega)).mp z) (by omega)), if_pos (Int32.lt_iff_toInt_lt.mpr (by rw [o0]; omega))]
    have inner : ∀ (v a : Nat) (A1 : zMt) (N1 : zNt), a ≤ n → n - a < v → (∀ j, j < k → A1 (Q + 6) j = A (Q + 6) j) → (∀ i j, i < 13 → A1 (Ap + i) j = T i j) → cI Q A1 N1 T U n (L ++ lvL (fun a => if ((b >>> (nI a &&& 31)) &&& 1) = 1 then [] else lv (T 8) n d (k + 1) (b ||| ((1 : Int32) <<< (nI a &&& 31))) (fun j => if j = k then a else l j) ((x * Int32.toInt64 (T 8 a)) / Int64.ofInt (St (T 8) b n))) a) → ∃ A' N', D_X0_walk_35 Q Ap (D_X0_walk Q Ap w) v (nI k) x3 x4 x (nI a) A1 N1 = some (A', N') ∧ cI Q A' N' T U n (L ++ lvL (fun a => if ((b >>> (nI a &&& 31)) &&& 1) = 1 then [] else lv (T 8) n d (k + 1) (b ||| ((1 : Int32) <<< (nI a &&& 31))) (fun j => if j = k then a else l j) ((x * Int32.toInt64 (T 8 a)) / Int64.ofInt (St (T 8) b n))) n) ∧ (∀ j, j < k → A' (Q + 6) j = A (Q + 6) j) ∧ (∀ i j, ¬ i = Q + 2 → ¬ (Q + 6 ≤ i ∧ i ≤ Q + 12) → A' i j = A1 i j) ∧ (∀ i j, ¬ (Q + 1 ≤ i ∧ i ≤ Q + 4) → N' i j = N1 i j) := by
      intro v
      induction v with
      | zero => intro a A1 N1 _ h; omega
      | succ v ihv =>
        intro a A1 N1 ha hv hl1 hT1 hI1
        rw [D_X0_walk_35, show A1 Ap 1 = nI n from (hT1 0 1 (by omega)).trans hg.2.2.1]
        by_cases hca : n ≤ a
        · have : a = n := by omega
          subst this
          rw [if_pos (by exact (nI_leI (by omega) (by omega)).mpr (Nat.le_refl a))]
          exact ⟨A1, N1, rfl, hI1, hl1, fun _ _ _ _ => rfl, fun _ _ _ => rfl⟩
        · rw [if_neg (by intro z; exact hca ((nI_leI (by omega) (by omega)).mp z))]
          have hwb := hx3.b (by omega) (show a < n by omega)
          by_cases q : ((b >>> (nI a &&& 31)) &&& 1) = 1
          · rw [if_neg (fun z => (hwb.mp z) q)]
            unfold D_X0_walk_109
            rw [nI_add1]
            refine ihv (a + 1) A1 N1 (by omega) (by omega) hl1 hT1 ?_
            have e : lvL (fun a => if ((b >>> (nI a &&& 31)) &&& 1) = 1 then [] else lv (T 8) n d (k + 1) (b ||| ((1 : Int32) <<< (nI a &&& 31))) (fun j => if j = k then a else l j) ((x * Int32.toInt64 (T 8 a)) / Int64.ofInt (St (T 8) b n))) (a + 1) = lvL (fun a => if ((b >>> (nI a &&& 31)) &&& 1) = 1 then [] else lv (T 8) n d (k + 1) (b ||| ((1 : Int32) <<< (nI a &&& 31))) (fun j => if j = k then a else l j) ((x * Int32.toInt64 (T 8 a)) / Int64.ofInt (St (T 8) b n))) a := by
              show lvL _ a ++ (if ((b >>> (nI a &&& 31)) &&& 1) = 1 then [] else _) = _
              rw [if_pos q, List.append_nil]
            rw [e]
            exact hI1
          · have e8 : A1 (Ap + 8) a = T 8 a := hT1 8 a (by omega)
            rw [if_pos (hwb.mpr q), zwr_nI (show k < 10 by omega) (by decide), zLt_eq, zrd_nI (show a < 10 by omega) (by decide), e8]
            unfold zZl
            rw [if_neg hz, nI_add1, h64]
            have kz : ∀ i j, ¬ (i = Q + 6 ∧ j = k) → zu A1 (Q + 6) k (nI a) i j = A1 i j := fun i j h => zu_ne h
            have ez : zu A1 (Q + 6) k (nI a) (Q + 6) k = nI a := zu_eq
            generalize zu A1 (Q + 6) k (nI a) = A2 at kz ez
            have hst := St_or (t := T 8) (show a < 10 by omega) q n (by omega)
            have hcn := cn_or (show a < 10 by omega) q n (by omega)
            rw [if_pos (show a < n by omega)] at hst hcn
            obtain ⟨t1, t2⟩ := ht a (by omega)
            obtain ⟨A3, N3, f1, f2, f3, f4, f5⟩ := ih (k + 1) w (b ||| ((1 : Int32) <<< (nI a &&& 31))) (x3 &&& (((1 : Int32) <<< (nI a &&& 31)) ^^^ (-1 : Int32))) (x4 - T 8 a) (fun j => if j = k then a else l j) ((x * Int32.toInt64 (T 8 a)) / Int64.ofInt (St (T 8) b n)) A2 N1 _ (by omega) (by omega) (fun j hj => by
              by_cases z : j = k
              · subst z
                exact ⟨by show (if j = j then a else l j) < n; rw [if_pos rfl]; omega, by show A2 (Q + 6) j = nI (if j = j then a else l j); rw [if_pos rfl]; exact ez⟩
              · refine ⟨by show (if j = k then a else l j) < n; rw [if_neg z]; exact (hl j (by omega)).1, ?_⟩
                show A2 (Q + 6) j = nI (if j = k then a else l j)
                rw [if_neg z, kz _ _ (by omega), hl1 j (by omega)]
                exact (hl j (by omega)).2) (by omega) (hx3.s (by omega) (by omega)) (by rw [z_sub (by omega) (by omega)]; omega) (fun i j hi => (kz _ _ (by omega)).trans (hT1 i j hi)) (hI1.k (fun j => kz _ _ (by omega)) (fun _ _ _ _ => rfl))
            rw [zB_s f1]
            unfold D_X0_walk_109
            rw [nI_add1]
            have e : L ++ lvL (fun a => if ((b >>> (nI a &&& 31)) &&& 1) = 1 then [] else lv (T 8) n d (k + 1) (b ||| ((1 : Int32) <<< (nI a &&& 31))) (fun j => if j = k then a else l j) ((x * Int32.toInt64 (T 8 a)) / Int64.ofInt (St (T 8) b n))) (a + 1) = (L ++ lvL (fun a => if ((b >>> (nI a &&& 31)) &&& 1) = 1 then [] else lv (T 8) n d (k + 1) (b ||| ((1 : Int32) <<< (nI a &&& 31))) (fun j => if j = k then a else l j) ((x * Int32.toInt64 (T 8 a)) / Int64.ofInt (St (T 8) b n))) a) ++ lv (T 8) n d (k + 1) (b ||| ((1 : Int32) <<< (nI a &&& 31))) (fun j => if j = k then a else l j) ((x * Int32.toInt64 (T 8 a)) / Int64.ofInt (St (T 8) b n)) := by
              show L ++ (lvL _ a ++ (if ((b >>> (nI a &&& 31)) &&& 1) = 1 then [] else _)) = _
              rw [if_neg q, List.append_assoc]
            obtain ⟨A4, N4, g1, g2, g3, g4, g5⟩ := ihv (a + 1) A3 N3 (by omega) (by omega) (fun j hj => (f3 j (by omega)).trans ((kz _ _ (by omega)).trans (hl1 j hj))) (fun i j hi => (f4 _ _ (by omega) (by omega)).trans ((kz _ _ (by omega)).trans (hT1 i j hi))) (by rw [e]; exact f2)
            exact ⟨A4, N4, g1, g2, g3, fun i j h1 h2 => (g4 i j h1 h2).trans ((f4 i j h1 h2).trans (kz i j (by omega))), fun i j h => (g5 i j h).trans (f5 i j h)⟩
    obtain ⟨A', N', f1, f2, f3, f4, f5⟩ := inner zFu 0 A N (by omega) (by unfold zFu; omega) (fun _ _ => rfl) hT (by
      show cI Q A N T U n (L ++ [])
      rw [List.append_nil]
      exact hI)
    rw [show nI 0 = (0 : Int32) by decide] at f1
    exact ⟨A', N', f1, f2, f3, f4, f5⟩
theorem zfJ {α : Type} {M : Nat → Nat → α} {P n j : Nat} {v : α} (h : j < n) : zfil M P n v P j = v := if_pos ⟨rfl, h⟩
theorem zfK {α : Type} {M : Nat → Nat → α} {P n i j : Nat} {v : α} (h : ¬ i = P) : zfil M P n v i j = M i j := if_neg (fun z => h z.1)
/-- all leaves -/
def lvA (T : zMt) (n : Nat) : List lY := lv (T 8) n n 0 0 (fun j => j) 1000000000000
theorem cc_reckon {Q Ap n U : Nat} {A T : zMt} {N : zNt} (hg : gP T n U) (hn : n ≤ 7) (hd : Q + 13 ≤ Ap ∨ Ap + 13 ≤ Q) (hT : ∀ i j, i < 13 → A (Ap + i) j = T i j) : ∃ A' N', D_X0_reckon Q Ap A N = some (A', N') ∧ cI Q A' N' T U n (lvA T n) ∧ (∀ i j, ¬ i = Q + 2 → ¬ (Q + 6 ≤ i ∧ i ≤ Q + 12) → A' i j = A i j) ∧ (∀ i j, ¬ (Q + 1 ≤ i ∧ i ≤ Q + 4) → N' i j = N i j) := by
  have e1 : zfil A (Q + 2) 128 (0 : Int32) Ap 1 = nI n := (zfK (by omega)).trans ((hT 0 1 (by omega)).trans hg.2.2.1)
  have e2 : zfil A (Q + 2) 128 (0 : Int32) Ap 2 = T 0 2 := (zfK (by omega)).trans (hT 0 2 (by omega))
  have hU := hg.2.1
  have h0 : cI Q (zfil A (Q + 2) 128 (0 : Int32)) (zfil (zfil (zfil N (Q + 1) 128 (0 : Int64)) (Q + 3) 35 (0 : Int64)) (Q + 4) 7 (0 : Int64)) T U n [] := ⟨fun S hS => (zfK (by omega)).trans ((zfK (by omega)).trans (zfJ hS)), fun S hS => zfJ hS, fun a u ha hu => (zfK (by omega)).trans (zfJ (by omega)), fun a ha => zfJ (by omega)⟩
  obtain ⟨A', N', f1, f2, f3, f4, f5⟩ := cc_walk (Q := Q) (Ap := Ap) hg hn hd n 0 zRec 0 (((1 : Int32) <<< (nI n &&& 31)) - 1) (T 0 2) (fun j => j) 1000000000000 (zfil A (Q + 2) 128 (0 : Int32)) (zfil (zfil (zfil N (Q + 1) 128 (0 : Int64)) (Q + 3) 35 (0 : Int64)) (Q + 4) 7 (0 : Int64)) [] (by omega) (by unfold zRec; omega) (fun j hj => by omega) (cn_0 n) (fun i hi => by
    rw [wB_0 n (by omega) i hi, decide_eq_true_iff]
    exact ⟨fun z => ⟨z, bit_0⟩, fun z => z.1⟩) hg.2.2.2.2.2.1 (fun i j hi => (zfK (by omega)).trans (hT i j hi)) h0
  · rw [show nI 0 = (0 : Int32) by decide] at f1
    refine ⟨A', N', ?_, f2, fun i j h1 h2 => (f4 i j h1 h2).trans (zfK h1), fun i j h => (f5 i j h).trans ((zfK (by omega)).trans ((zfK (by omega)).trans (zfK (by omega))))⟩
    unfold D_X0_reckon
    rw [zLt_eq, zLt_eq, zLt_eq, zLt_eq, e1, if_neg (fun z => by
      have h1 := Int32.lt_iff_toInt_lt.mp z
      rw [nI_toInt (by omega), show (7 : Int32).toInt = 7 by decide] at h1
      omega), e2, zB_s f1]
    rfl
