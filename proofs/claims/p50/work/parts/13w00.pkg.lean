/-! THE MODEL'S PACKAGES: what its state keeps between calls, and what its methods lay -/
theorem vp_of {i : Int32} {n : Nat} (h0 : 0 ≤ i.toInt) (h1 : i.toInt < n) : vp_in i n := by
  intro q
  have e1 : i.toNatClampNeg = i.toInt.toNat := rfl
  have e0 : (0 : Int32).toInt = 0 := by decide
  rcases q with q | q
  · have := Int32.lt_iff_toInt_lt.mp q
    omega
  · rw [e1] at q
    omega
theorem z_ne0 {y : Int32} (h : ¬ y.toInt = 0) : ¬ y = 0 := fun q => h (by rw [q]; decide)
def jB (P : Nat) (M : zMt) : Prop := 0 ≤ (M P 7).toInt ∧ (M P 7).toInt ≤ 5 ∧ 0 ≤ (M P 8).toInt ∧ (M P 8).toInt ≤ 10 ∧ 0 ≤ (M P 33).toInt ∧ (M P 33).toInt ≤ 10
theorem jB.mono {P : Nat} {M M' : zMt} (h : jB P M) (hf : ∀ a j, (a = P ∧ (j = 7 ∨ j = 8 ∨ j = 33)) → M' a j = M a j) : jB P M' := by
  unfold jB
  rw [hf P 7 (by omega), hf P 8 (by omega), hf P 33 (by omega)]
  exact h
/-- a row of the model that stands for a list with U units and H hunters -/
def jRow (r : Nat → Int32) (U H : Int) : Prop :=
  (∀ h : Nat, h < 10 → 0 ≤ (r h).toInt ∧ (r h).toInt ≤ 20) ∧
  (∀ h : Nat, h < 10 → -1 ≤ (r (10 + h)).toInt ∧ (r (10 + h)).toInt < (r 70).toInt ∧ ((h : Int) < H ∨ (r (10 + h)).toInt = -1)) ∧
  (∀ k : Nat, 20 ≤ k → k < 62 → -1 ≤ (r k).toInt ∧ (r k).toInt < U) ∧
  (∀ u : Nat, u < 5 → 0 ≤ (r (62 + u)).toInt ∧ (r (62 + u)).toInt ≤ 20) ∧
  (0 ≤ (r 67).toInt ∧ (r 67).toInt ≤ 2 ∧ 0 ≤ (r 68).toInt ∧ (r 68).toInt ≤ 100 ∧ 0 ≤ (r 69).toInt ∧ (r 69).toInt ≤ 100 ∧ 0 ≤ (r 70).toInt ∧ (r 70).toInt ≤ 4) ∧
  (∀ p : Nat, (p : Int) < (r 70).toInt → ∃ h : Nat, (h : Int) < H ∧ (r (10 + h)).toInt = p)
def jS (P : Nat) (M : zMt) : Prop := jRow (M (P + 1)) (M P 7).toInt (M P 8).toInt
theorem jS.mono {P : Nat} {M M' : zMt} (h : jS P M) (hf : ∀ a j, (a = P + 1 ∨ (a = P ∧ (j = 7 ∨ j = 8))) → M' a j = M a j) : jS P M' := by
  unfold jS
  rw [hf P 7 (by omega), hf P 8 (by omega), show M' (P + 1) = M (P + 1) from funext fun j => hf (P + 1) j (by omega)]
  exact h
def bitAt (b : Int32) (h : Nat) : Prop := ((b >>> (nI h &&& 31)) &&& 1) = 1
/-- the applicants are laid -/
def jL (P : Nat) (M : zMt) : Prop := ∀ a : Nat, (a : Int) < (M P 33).toInt → 20 ≤ (M (P + 13) a).toInt ∧ (M (P + 13) a).toInt ≤ 59 ∧ 1 ≤ (M (P + 14) a).toInt ∧ (M (P + 14) a).toInt ≤ 10 ∧ 1 ≤ (M (P + 17) a).toInt ∧ (M (P + 17) a).toInt ≤ 401
theorem jL.mono {P : Nat} {M M' : zMt} (h : jL P M) (hf : ∀ a j, ((a = P ∧ j = 33) ∨ a = P + 13 ∨ a = P + 14 ∨ a = P + 17) → M' a j = M a j) : jL P M' := by
  intro a ha
  rw [hf P 33 (by omega)] at ha
  rw [hf (P + 13) a (by omega), hf (P + 14) a (by omega), hf (P + 17) a (by omega)]
  exact h a ha
/-- every hunter stands in an applicant -/
def jH (P : Nat) (M : zMt) : Prop := ∀ h : Nat, (h : Int) < (M P 8).toInt → ∃ a : Nat, (a : Int) < (M P 33).toInt ∧ bitAt (M (P + 11) a) h
theorem jH.mono {P : Nat} {M M' : zMt} (h : jH P M) (hf : ∀ a j, ((a = P ∧ (j = 8 ∨ j = 33)) ∨ a = P + 11) → M' a j = M a j) : jH P M' := by
  intro x hx
  rw [hf P 8 (by omega)] at hx
  obtain ⟨a, h1, h2⟩ := h x hx
  refine ⟨a, ?_, ?_⟩
  · rw [hf P 33 (by omega)]; exact h1
  · rw [hf (P + 11) a (by omega)]; exact h2
/-- an order is laid -/
def jO (P : Nat) (M : zMt) : Prop := ∀ a : Nat, (a : Int) < (M P 33).toInt → 0 ≤ (M (P + 18) a).toInt ∧ (M (P + 18) a).toInt < (M P 33).toInt
theorem jO.mono {P : Nat} {M M' : zMt} (h : jO P M) (hf : ∀ a j, ((a = P ∧ j = 33) ∨ a = P + 18) → M' a j = M a j) : jO P M' := by
  intro a ha
  rw [hf P 33 (by omega)] at ha ⊢
  rw [hf (P + 18) a (by omega)]
  exact h a ha
/-- what the applicants have -/
def jR (P : Nat) (M : zMt) : Prop := ∀ a : Nat, a < 10 → -1 ≤ (M (P + 19) a).toInt ∧ (M (P + 19) a).toInt ≤ 4
theorem jR.mono {P : Nat} {M M' : zMt} (h : jR P M) (hf : ∀ a j, a = P + 19 → M' a j = M a j) : jR P M' := by
  intro a ha
  rw [hf (P + 19) a (by omega)]
  exact h a ha
theorem z_cl {x : Int32} (h0 : 0 ≤ x.toInt) : (x.toNatClampNeg : Int) = x.toInt := by
  have e1 : x.toNatClampNeg = x.toInt.toNat := rfl
  omega
theorem jO.el {P : Nat} {M : zMt} (h : jO P M) {x : Int32} (h0 : 0 ≤ x.toInt) (h1 : x.toInt < (M P 33).toInt) : 0 ≤ (M (P + 18) x.toNatClampNeg).toInt ∧ (M (P + 18) x.toNatClampNeg).toInt < (M P 33).toInt := h _ (by rw [z_cl h0]; exact h1)
theorem jR.el {P : Nat} {M : zMt} (h : jR P M) {x : Int32} (h0 : 0 ≤ x.toInt) (h1 : x.toInt < 10) : -1 ≤ (M (P + 19) x.toNatClampNeg).toInt ∧ (M (P + 19) x.toNatClampNeg).toInt ≤ 4 := h _ (by have := z_cl h0; omega)
theorem jL.el {P : Nat} {M : zMt} (h : jL P M) {x : Int32} (h0 : 0 ≤ x.toInt) (h1 : x.toInt < (M P 33).toInt) : 20 ≤ (M (P + 13) x.toNatClampNeg).toInt ∧ (M (P + 13) x.toNatClampNeg).toInt ≤ 59 ∧ 1 ≤ (M (P + 14) x.toNatClampNeg).toInt ∧ (M (P + 14) x.toNatClampNeg).toInt ≤ 10 ∧ 1 ≤ (M (P + 17) x.toNatClampNeg).toInt ∧ (M (P + 17) x.toNatClampNeg).toInt ≤ 401 := h _ (by rw [z_cl h0]; exact h1)
theorem jS.ch {P : Nat} {M : zMt} (h : jS P M) {x : Int32} (h0 : 20 ≤ x.toInt) (h1 : x.toInt < 62) : -1 ≤ (M (P + 1) x.toNatClampNeg).toInt ∧ (M (P + 1) x.toNatClampNeg).toInt < (M P 7).toInt := h.2.2.1 _ (by have := z_cl (x := x) (by omega); omega) (by have := z_cl (x := x) (by omega); omega)
theorem jS.ints {P : Nat} {M : zMt} (h : jS P M) : 0 ≤ (M (P + 1) 67).toInt ∧ (M (P + 1) 67).toInt ≤ 2 ∧ 0 ≤ (M (P + 1) 68).toInt ∧ (M (P + 1) 68).toInt ≤ 100 ∧ 0 ≤ (M (P + 1) 69).toInt ∧ (M (P + 1) 69).toInt ≤ 100 ∧ 0 ≤ (M (P + 1) 70).toInt ∧ (M (P + 1) 70).toInt ≤ 4 := h.2.2.2.2.1
/-! how many applicants there are -/
def fr (r : Nat → Int32) : Nat → Nat
  | 0 => 0
  | n + 1 => fr r n + (if r (10 + n) = -1 then 1 else 0)
def nA (P : Nat) (M : zMt) : Int := (fr (M (P + 1)) (M P 8).toInt.toNat : Int) + (M (P + 1) 70).toInt
theorem nA_congr {P : Nat} {M M' : zMt} (hf : ∀ a j, (a = P + 1 ∨ (a = P ∧ j = 8)) → M' a j = M a j) : nA P M' = nA P M := by
  unfold nA
  rw [hf P 8 (by omega), show M' (P + 1) = M (P + 1) from funext fun j => hf (P + 1) j (by omega)]
theorem fr_congr {r r' : Nat → Int32} : ∀ n : Nat, (∀ h, h < n → (r' (10 + h) = -1 ↔ r (10 + h) = -1)) → fr r' n = fr r n
  | 0, _ => rfl
  | n + 1, h => by
    show fr r' n + _ = fr r n + _
    rw [fr_congr n (fun x hx => h x (by omega))]
    have := h n (by omega)
    by_cases q : r (10 + n) = -1
    · rw [if_pos q, if_pos (this.mpr q)]
    · rw [if_neg q, if_neg (fun z => q (this.mp z))]
theorem nA_zu {P k : Nat} {M M' : zMt} {v : Int32} (f : zu M (P + 1) k v = M') (hk : (k < 10 ∨ 20 ≤ k) ∧ k ≠ 70) (hH : (M P 8).toInt ≤ 10) : nA P M' = nA P M := by
  subst f
  unfold nA
  rw [congrFun (zu_row (show P ≠ P + 1 by omega)) 8, zu_ne (by omega)]
  rw [fr_congr]
  intro h hh
  rw [zu_ne (by omega)]
theorem fr_le (r : Nat → Int32) : ∀ n, fr r n ≤ n
  | 0 => Nat.le_refl 0
  | n + 1 => by
    have := fr_le r n
    show fr r n + _ ≤ _
    split <;> omega
/-- pigeons: the parties of s have members apart from the free ones -/
theorem fr_pig (r : Nat → Int32) : ∀ (n : Nat) (s : Nat → Bool), (∀ p, p < 4 → s p = true → ∃ h, h < n ∧ (r (10 + h)).toInt = (p : Int)) → fr r n + ((if s 0 then 1 else 0) + (if s 1 then 1 else 0) + (if s 2 then 1 else 0) + (if s 3 then 1 else 0)) ≤ n
  | 0, s, h => by
    have hz : ∀ p, p < 4 → s p = false := fun p hp => by
      cases q : s p with
      | false => rfl
      | true => obtain ⟨x, hx, _⟩ := h p hp q; omega
    rw [hz 0 (by omega), hz 1 (by omega), hz 2 (by omega), hz 3 (by omega)]
    exact Nat.le_refl 0
  | n + 1, s, h => by
    show fr r n + (if r (10 + n) = -1 then 1 else 0) + _ ≤ n + 1
    by_cases q : r (10 + n) = -1
    · rw [if_pos q]
      have ih := fr_pig r n s (fun p hp hs => by
        obtain ⟨x, hx, he⟩ := h p hp hs
        refine ⟨x, ?_, he⟩
        have : x ≠ n := fun z => by
          rw [z, q] at he
          have : (-1 : Int32).toInt = -1 := by decide
          omega
        omega)
      omega
    · rw [if_neg q]
      have ih := fr_pig r n (fun p => s p && !decide ((r (10 + n)).toInt = (p : Int))) (fun p hp hs => by
        rw [Bool.and_eq_true, Bool.not_eq_true', decide_eq_false_iff_not] at hs
        obtain ⟨x, hx, he⟩ := h p hp hs.1
        refine ⟨x, ?_, he⟩
        have : x ≠ n := fun z => hs.2 (by rw [← z]; exact he)
        omega)
      generalize (r (10 + n)).toInt = v at ih
      revert ih
      cases s 0 <;> cases s 1 <;> cases s 2 <;> cases s 3 <;> simp only [Bool.false_and, Bool.true_and, Bool.not_eq_true', decide_eq_false_iff_not, if_true, if_false, Bool.false_eq_true] <;> intro ih <;> (repeat' split at ih) <;> omega
theorem nA_le {P : Nat} {M : zMt} (hB : jB P M) (hS : jS P M) : 0 ≤ nA P M ∧ nA P M ≤ (M P 8).toInt := by
  obtain ⟨b1, b2, b3, b4, b5, b6⟩ := hB
  have hi := hS.ints
  obtain ⟨-, -, -, -, -, h6⟩ := hS
  unfold nA
  have hp := fr_pig (M (P + 1)) (M P 8).toInt.toNat (fun p => decide ((p : Int) < (M (P + 1) 70).toInt)) (fun p _ hs => by
    obtain ⟨h, h1, h2⟩ := h6 p (of_decide_eq_true hs)
    exact ⟨h, by omega, h2⟩)
  simp only [decide_eq_true_eq] at hp
  refine ⟨by omega, ?_⟩
  revert hp
  (repeat' split) <;> intro hp <;> omega
/-! bits -/
theorem bitAt_iff {b : Int32} {h : Nat} (hh : h < 10) : bitAt b h ↔ b.toBitVec.getLsbD h = true := by
  unfold bitAt
  have key : ∀ s : Int32, ∀ k : Nat, k < 10 → s = nI k → (((b >>> (s &&& 31)) &&& 1) = 1 ↔ b.toBitVec.getLsbD k = true) := by
    intro s k hk hs
    subst hs
    rw [← Int32.toBitVec_inj]
    have e : (nI k &&& 31).toBitVec.smod 32 = BitVec.ofNat 32 k := by
      revert k; decide
    rw [Int32.toBitVec_and, Int32.toBitVec_shiftRight, e]
    show (b.toBitVec.sshiftRight' (BitVec.ofNat 32 k)) &&& 1#32 = 1#32 ↔ _
    rw [BitVec.and_one_eq_setWidth_ofBool_getLsbD, BitVec.sshiftRight_eq', BitVec.toNat_ofNat, BitVec.getLsbD_sshiftRight]
    have hm : k % 2 ^ 32 = k := by omega
    rw [hm]
    rw [show (!decide (32 ≤ 0) && if k + 0 < 32 then b.toBitVec.getLsbD (k + 0) else b.toBitVec.msb) = b.toBitVec.getLsbD k by rw [if_pos (show k + 0 < 32 by omega)]; exact Bool.true_and _]
    cases b.toBitVec.getLsbD k <;> decide
  exact key _ h hh rfl
theorem bitAt_or {x y : Int32} {h : Nat} (hh : h < 10) : bitAt (x ||| y) h ↔ bitAt x h ∨ bitAt y h := by
  rw [bitAt_iff hh, bitAt_iff hh, bitAt_iff hh, Int32.toBitVec_or, BitVec.getLsbD_or, Bool.or_eq_true]
theorem bitAt_one : ∀ k, k < 10 → ∀ h, h < 10 → (((((1 : Int32) <<< (nI k &&& 31)) >>> (nI h &&& 31)) &&& 1) = 1 ↔ k = h) := by decide +kernel
theorem bitAt_0 {h : Nat} : ¬ bitAt 0 h := by
  unfold bitAt
  have : (0 : Int32) >>> (nI h &&& 31) = 0 := by simp
  rw [this]
  decide
