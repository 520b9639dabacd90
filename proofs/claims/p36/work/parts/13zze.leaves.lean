/-! the odds: the leaves of all orders, and what the class notes of one -/
abbrev lY : Type := (Nat → Nat) × Int64
def lsum (f : lY → Int64) : List lY → Int64
  | [] => 0
  | y :: L => f y + lsum f L
theorem lsum_app {f : lY → Int64} : ∀ L L' : List lY, lsum f (L ++ L') = lsum f L + lsum f L'
  | [], L' => (Int64.zero_add (lsum f L')).symm
  | y :: L, L' => by
    show f y + lsum f (L ++ L') = f y + lsum f L + lsum f L'
    rw [lsum_app L L', Int64.add_assoc]
theorem lsum_1 {f : lY → Int64} {y : lY} {L : List lY} : lsum f (L ++ [y]) = lsum f L + f y := by
  rw [lsum_app]
  show lsum f L + (f y + 0) = _
  rw [Int64.add_zero]
theorem lsum_add {f g : lY → Int64} : ∀ L : List lY, lsum (fun y => f y + g y) L = lsum f L + lsum g L
  | [] => (Int64.add_zero 0).symm
  | y :: L => by
    show f y + g y + lsum (fun y => f y + g y) L = f y + lsum f L + (g y + lsum g L)
    rw [lsum_add L, Int64.add_assoc, Int64.add_assoc, ← Int64.add_assoc (g y), Int64.add_comm (g y) (lsum f L), Int64.add_assoc]
theorem lsum_cg {f g : lY → Int64} : ∀ L : List lY, (∀ y, y ∈ L → f y = g y) → lsum f L = lsum g L
  | [], _ => rfl
  | y :: L, h => by
    show f y + lsum f L = g y + lsum g L
    rw [h y List.mem_cons_self, lsum_cg L (fun z hz => h z (List.mem_cons_of_mem y hz))]
theorem lsum_0 : ∀ L : List lY, lsum (fun _ => 0) L = 0
  | [] => rfl
  | _ :: L => by
    show (0 : Int64) + lsum (fun _ => 0) L = 0
    rw [lsum_0 L]
    exact Int64.add_zero 0
def seenF (g : lY → Nat) (S : Nat) : List lY → Int32
  | [] => 0
  | y :: L => if g y = S then 1 else seenF g S L
theorem seenF_1 {g : lY → Nat} {S : Nat} {y : lY} : ∀ L : List lY, seenF g S (L ++ [y]) = if g y = S then 1 else seenF g S L
  | [] => rfl
  | z :: L => by
    show (if g z = S then 1 else seenF g S (L ++ [y])) = if g y = S then 1 else (if g z = S then 1 else seenF g S L)
    rw [seenF_1 L]
    by_cases q : g z = S
    · rw [if_pos q, if_pos q]
      by_cases p : g y = S
      · rw [if_pos p]
      · rw [if_neg p]
    · rw [if_neg q, if_neg q]
/-- all orders: d more to be laid behind k, b who has been -/
def lvL (f : Nat → List lY) : Nat → List lY
  | 0 => []
  | a + 1 => lvL f a ++ f a
def lv (t : Nat → Int32) (n : Nat) : Nat → Nat → Int32 → (Nat → Nat) → Int64 → List lY
  | 0, _, _, l, x => [(l, x)]
  | d + 1, k, b, l, x => lvL (fun a => if ((b >>> (nI a &&& 31)) &&& 1) = 1 then [] else lv t n d (k + 1) (b ||| ((1 : Int32) <<< (nI a &&& 31))) (fun j => if j = k then a else l j) ((x * Int32.toInt64 (t a)) / Int64.ofInt (St t b n))) n
/-- who has a unit, as a set -/
def hvN (s : zMt) : Nat → Nat
  | 0 => 0
  | a + 1 => hvN s a + (if s 0 a = -1 then 0 else 2 ^ a)
theorem hvN_lt {s : zMt} : ∀ n, hvN s n < 2 ^ n
  | 0 => by show 0 < 1; omega
  | n + 1 => by
    have ih := hvN_lt (s := s) n
    have e : 2 ^ (n + 1) = 2 ^ n * 2 := Nat.pow_succ 2 n
    show hvN s n + (if s 0 n = -1 then 0 else 2 ^ n) < 2 ^ (n + 1)
    by_cases q : s 0 n = -1
    · rw [if_pos q]; omega
    · rw [if_neg q]; omega
theorem hvN_or {s : zMt} {a : Nat} (ha : a < 10) (q : ¬ s 0 a = -1) : nI (hvN s a) ||| ((1 : Int32) <<< (nI a &&& 31)) = nI (hvN s (a + 1)) := by
  rw [(or_add a ha (hvN s a) (hvN_lt a)).2]
  show _ = nI (hvN s a + (if s 0 a = -1 then 0 else 2 ^ a))
  rw [if_neg q]
theorem nI_m5 : ∀ a, a < 7 → ∀ u, u < 5 → nI a * (5 : Int32) + nI u = nI (5 * a + u) := by decide
theorem cc_rec6 {Q Ap n U : Nat} {T s : zMt} {x : Int64} (hn : n ≤ 7) (hU : U ≤ 5) (ok : okS T s n U) : ∀ (v k : Nat) (A : zMt) (N : zNt), k ≤ n → n - k < v → A Ap 1 = nI n → rC (Q + 5) A s n U → ∃ A' N', D_X0_record_6 Q Ap v x (nI (hvN s k)) (nI k) A N = some (A', N') ∧ (∀ S, S < 128 → N' (Q + 1) S = N (Q + 1) S + (if hvN s n = S then x else 0)) ∧ (∀ S, S < 128 → A' (Q + 2) S = if hvN s n = S then 1 else A (Q + 2) S) ∧ (∀ a u, a < n → u < U → N' (Q + 3) (5 * a + u) = N (Q + 3) (5 * a + u) + (if k ≤ a ∧ s 0 a = nI u then x else 0)) ∧ (∀ a, a < n → N' (Q + 4) a = N (Q + 4) a + (if k ≤ a ∧ ¬ s 0 a = -1 ∧ s 1 a = 1 then x else 0)) ∧ (∀ i j, ¬ i = Q + 2 → A' i j = A i j) ∧ (∀ i j, ¬ i = Q + 1 → ¬ i = Q + 3 → ¬ i = Q + 4 → N' i j = N i j) := by
  intro v
  induction v with
  | zero => intro k A N _ h; omega
  | succ v ih =>
    intro k A N hk hv h1 hs
    rw [D_X0_record_6, h1]
    by_cases hc : n ≤ k
    · have : k = n := by omega
      subst this
      have hlt := hvN_lt (s := s) k
      have hp : 2 ^ k ≤ 2 ^ 7 := Nat.pow_le_pow_right (by omega) hn
      have h128 : hvN s k < 128 := by omega
      rw [if_pos (by exact (nI_leI (by omega) (by omega)).mpr (Nat.le_refl k)), zrd_nI h128 (by decide), zwr_nI h128 (by decide), zLt_eq, zwr_nI h128 (by decide), zLt_eq]
      refine ⟨_, _, rfl, fun S hS => ?_, fun S hS => ?_, fun a u ha hu => ?_, fun a ha => ?_, fun i j h => zu_ne (by omega), fun i j h2 h3 h4 => zu_ne (by omega)⟩
      · by_cases q : hvN s k = S
        · subst q
          rw [if_pos rfl, zu_eq]
        · rw [if_neg q, zu_ne (by omega), Int64.add_zero]
      · by_cases q : hvN s k = S
        · subst q
          rw [if_pos rfl, zu_eq]
        · rw [if_neg q, zu_ne (by omega)]
      · rw [if_neg (by omega), zu_ne (by omega), Int64.add_zero]
      · rw [if_neg (by omega), zu_ne (by omega), Int64.add_zero]
    · have o1 : A (Q + 7) k = s 0 k := (hs.1 k (by omega)).1
      have o2 : A (Q + 8) k = s 1 k := (hs.1 k (by omega)).2
      rw [if_neg (by intro z; exact hc ((nI_leI (by omega) (by omega)).mp z)), zrd_nI (show k < 10 by omega) (by decide), zrd_nI (show k < 10 by omega) (by decide), o1, o2]
      by_cases q : s 0 k = -1
      · rw [if_pos q]
        unfold D_X0_record_88
        rw [nI_add1]
        have e : hvN s (k + 1) = hvN s k := by
          show hvN s k + (if s 0 k = -1 then 0 else 2 ^ k) = hvN s k
          rw [if_pos q]
          rfl
        obtain ⟨A', N', f1, f2, f3, f4, f5, f6, f7⟩ := ih (k + 1) A N (by omega) (by omega) h1 hs
        rw [e] at f1
        refine ⟨A', N', f1, f2, f3, fun a u ha hu => ?_, fun a ha => ?_, f6, f7⟩
        · rw [f4 a u ha hu]
          by_cases z : a = k
          · subst z
            rw [if_neg (by omega), if_neg (fun y => nI_ne (k := u) (by omega) (y.2.symm.trans q))]
          · by_cases y : k ≤ a ∧ s 0 a = nI u
            · rw [if_pos y, if_pos ⟨by omega, y.2⟩]
            · rw [if_neg y, if_neg (fun w => y ⟨by omega, w.2⟩)]
        · rw [f5 a ha]
          by_cases z : a = k
          · subst z
            rw [if_neg (by omega), if_neg (fun y => y.2.1 q)]
          · by_cases y : k ≤ a ∧ ¬ s 0 a = -1 ∧ s 1 a = 1
            · rw [if_pos y, if_pos ⟨by omega, y.2⟩]
            · rw [if_neg y, if_neg (fun w => y ⟨by omega, w.2⟩)]
      · obtain ⟨j, w, w1, w2, w3, w4⟩ := (ok k (by omega)).resolve_left q
        have hor := hvN_or (s := s) (show k < 10 by omega) q
        rw [if_neg q, w4, nI_m5 k (by omega) w (by omega), zrd_nI (show 5 * k + w < 35 by omega) (by decide), zwr_nI (show 5 * k + w < 35 by omega) (by decide), zLt_eq]
        have kz : ∀ i j, ¬ (i = Q + 3 ∧ j = 5 * k + w) → zu N (Q + 3) (5 * k + w) (N (Q + 3) (5 * k + w) + x) i j = N i j := fun i j h => zu_ne h
        have ez : zu N (Q + 3) (5 * k + w) (N (Q + 3) (5 * k + w) + x) (Q + 3) (5 * k + w) = N (Q + 3) (5 * k + w) + x := zu_eq
        generalize zu N (Q + 3) (5 * k + w) (N (Q + 3) (5 * k + w) + x) = N1 at kz ez
        have st : ∀ N2 : zNt, (∀ i j, ¬ (i = Q + 4 ∧ j = k) → N2 i j = N1 i j) → N2 (Q + 4) k = N1 (Q + 4) k + (if s 1 k = 1 then x else 0) → ∃ A' N', D_X0_record_88 Q Ap (D_X0_record_6 Q Ap v) x (nI (hvN s k) ||| ((1 : Int32) <<< (nI k &&& 31))) (nI k) A N2 = some (A', N') ∧ (∀ S, S < 128 → N' (Q + 1) S = N (Q + 1) S + (if hvN s n = S then x else 0)) ∧ (∀ S, S < 128 → A' (Q + 2) S = if hvN s n = S then 1 else A (Q + 2) S) ∧ (∀ a u, a < n → u < U → N' (Q + 3) (5 * a + u) = N (Q + 3) (5 * a + u) + (if k ≤ a ∧ s 0 a = nI u then x else 0)) ∧ (∀ a, a < n → N' (Q + 4) a = N (Q + 4) a + (if k ≤ a ∧ ¬ s 0 a = -1 ∧ s 1 a = 1 then x else 0)) ∧ (∀ i j, ¬ i = Q + 2 → A' i j = A i j) ∧ (∀ i j, ¬ i = Q + 1 → ¬ i = Q + 3 → ¬ i = Q + 4 → N' i j = N i j) := fun N2 n1 n2 => by
          unfold D_X0_record_88
          rw [hor, nI_add1]
          obtain ⟨A', N', f1, f2, f3, f4, f5, f6, f7⟩ := ih (k + 1) A N2 (by omega) (by omega) h1 hs
          refine ⟨A', N', f1, fun S hS => ?_, f3, fun a u ha hu => ?_, fun a ha => ?_, f6, fun i j g1 g2 g3 => (f7 i j g1 g2 g3).trans ((n1 _ _ (by omega)).trans (kz _ _ (by omega)))⟩
          · rw [f2 S hS, n1 _ _ (by omega), kz _ _ (by omega)]
          · rw [f4 a u ha hu, n1 _ _ (by omega)]
            by_cases z : a = k
            · subst z
              rw [if_neg (by omega), Int64.add_zero]
              by_cases y : u = w
              · subst y
                rw [ez, if_pos ⟨Nat.le_refl a, w4⟩]
              · rw [kz _ _ (by omega), if_neg (fun p => y (nI_inj (by omega) (by omega) (p.2.symm.trans w4))), Int64.add_zero]
            · rw [kz _ _ (by omega)]
              by_cases y : k ≤ a ∧ s 0 a = nI u
              · rw [if_pos y, if_pos ⟨by omega, y.2⟩]
              · rw [if_neg y, if_neg (fun p => y ⟨by omega, p.2⟩)]
          · rw [f5 a ha]
            by_cases z : a = k
            · subst z
              rw [if_neg (by omega), Int64.add_zero, n2, kz _ _ (by omega)]
              by_cases y : s 1 a = 1
              · rw [if_pos y, if_pos ⟨Nat.le_refl a, q, y⟩]
              · rw [if_neg y, if_neg (fun p => y p.2.2)]
            · rw [n1 _ _ (by omega), kz _ _ (by omega)]
              by_cases y : k ≤ a ∧ ¬ s 0 a = -1 ∧ s 1 a = 1
              · rw [if_pos y, if_pos ⟨by omega, y.2⟩]
              · rw [if_neg y, if_neg (fun p => y ⟨by omega, p.2⟩)]
        by_cases y : s 1 k = 1
        · rw [if_pos y, zrd_nI (show k < 7 by omega) (by decide), zwr_nI (show k < 7 by omega) (by decide), zLt_eq]
          exact st _ (fun i j h => zu_ne h) (by rw [zu_eq, if_pos y])
        · rw [if_neg y]
          exact st _ (fun i j h => rfl) (by rw [if_neg y, Int64.add_zero])
theorem cc_record {Q Ap n U : Nat} {A T s : zMt} {N : zNt} {x : Int64} (hn : n ≤ 7) (hU : U ≤ 5) (ok : okS T s n U) (h1 : A Ap 1 = nI n) (hs : rC (Q + 5) A s n U) : ∃ A' N', D_X0_record Q Ap x A N = some (A', N') ∧ (∀ S, S < 128 → N' (Q + 1) S = N (Q + 1) S + (if hvN s n = S then x else 0)) ∧ (∀ S, S < 128 → A' (Q + 2) S = if hvN s n = S then 1 else A (Q + 2) S) ∧ (∀ a u, a < n → u < U → N' (Q + 3) (5 * a + u) = N (Q + 3) (5 * a + u) + (if s 0 a = nI u then x else 0)) ∧ (∀ a, a < n → N' (Q + 4) a = N (Q + 4) a + (if ¬ s 0 a = -1 ∧ s 1 a = 1 then x else 0)) ∧ (∀ i j, ¬ i = Q + 2 → A' i j = A i j) ∧ (∀ i j, ¬ i = Q + 1 → ¬ i = Q + 3 → ¬ i = Q + 4 → N' i j = N i j) := by
  obtain ⟨A', N', f1, f2, f3, f4, f5, f6, f7⟩ := cc_rec6 (Q := Q) (Ap := Ap) (x := x) hn hU ok zFu 0 A N (by omega) (by unfold zFu; omega) h1 hs
  rw [show nI 0 = (0 : Int32) by decide, show nI (hvN s 0) = (0 : Int32) by show nI 0 = 0; decide] at f1
  refine ⟨A', N', f1, f2, f3, fun a u ha hu => ?_, fun a ha => ?_, f6, f7⟩
  · rw [f4 a u ha hu]
    by_cases q : s 0 a = nI u
    · rw [if_pos q, if_pos ⟨Nat.zero_le a, q⟩]
    · rw [if_neg q, if_neg (fun z => q z.2)]
  · rw [f5 a ha]
    by_cases q : ¬ s 0 a = -1 ∧ s 1 a = 1
    · rw [if_pos q, if_pos ⟨Nat.zero_le a, q⟩]
    · rw [if_neg q, if_neg (fun z => q z.2)]
