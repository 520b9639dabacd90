/-! WORDS AS NUMBERS: the class counts their letters by 27, the reference by 32 -/
def eC (b : Int) (f : Nat → Int) : Nat → Int
  | 0 => 0
  | k + 1 => eC b f k * b + f k
theorem eC_0 (b : Int) (f : Nat → Int) : eC b f 0 = 0 := rfl
theorem eC_s (b : Int) (f : Nat → Int) (k : Nat) : eC b f (k + 1) = eC b f k * b + f k := rfl
def dgs (f : Nat → Int) (k : Nat) : Prop := ∀ i, i < k → 1 ≤ f i ∧ f i ≤ 26
theorem dgs.dn {f : Nat → Int} {k : Nat} (h : dgs f (k + 1)) : dgs f k := fun i hi => h i (by omega)
theorem eC_congr {b : Int} {f g : Nat → Int} : ∀ {k : Nat}, (∀ i, i < k → f i = g i) → eC b f k = eC b g k
  | 0, _ => rfl
  | k + 1, h => by rw [eC_s, eC_s, eC_congr (fun i hi => h i (by omega)), h k (by omega)]
theorem eC_pos {b : Int} (hb : b = 27 ∨ b = 32) {f : Nat → Int} : ∀ {k : Nat}, dgs f k → 0 ≤ eC b f k
  | 0, _ => Int.le_refl 0
  | k + 1, h => by
    have h1 := eC_pos hb h.dn
    have h2 := h k (by omega)
    rw [eC_s]
    rcases hb with rfl | rfl <;> omega
theorem eC_inj {b : Int} (hb : b = 27 ∨ b = 32) {f g : Nat → Int} : ∀ {k k' : Nat}, dgs f k → dgs g k' → eC b f k = eC b g k' → k = k' ∧ ∀ i, i < k → f i = g i
  | 0, 0, _, _, _ => ⟨rfl, fun i hi => by omega⟩
  | 0, k' + 1, _, h2, e => by
    have h3 := eC_pos hb h2.dn
    have h4 := h2 k' (by omega)
    rw [eC_s, eC_0] at e
    rcases hb with rfl | rfl <;> omega
  | k + 1, 0, h2, _, e => by
    have h3 := eC_pos hb h2.dn
    have h4 := h2 k (by omega)
    rw [eC_s, eC_0] at e
    rcases hb with rfl | rfl <;> omega
  | k + 1, k' + 1, h1, h2, e => by
    have p1 := eC_pos hb h1.dn
    have p2 := eC_pos hb h2.dn
    have d1 := h1 k (by omega)
    have d2 := h2 k' (by omega)
    rw [eC_s, eC_s] at e
    have e1 : f k = g k' := by rcases hb with rfl | rfl <;> omega
    have e2 : eC b f k = eC b g k' := by rcases hb with rfl | rfl <;> omega
    obtain ⟨q1, q2⟩ := eC_inj hb h1.dn h2.dn e2
    subst q1
    refine ⟨rfl, fun i hi => ?_⟩
    by_cases q : i = k
    · subst q; exact e1
    · exact q2 i (by omega)
theorem eC_eq {b : Int} (hb : b = 27 ∨ b = 32) {f g : Nat → Int} {k k' : Nat} (h1 : dgs f k) (h2 : dgs g k') : eC b f k = eC b g k' ↔ (k = k' ∧ ∀ i, i < k → f i = g i) :=
  ⟨eC_inj hb h1 h2, fun h => by obtain ⟨q, r⟩ := h; subst q; exact eC_congr r⟩
theorem eC_iff {f g : Nat → Int} {k k' : Nat} (h1 : dgs f k) (h2 : dgs g k') : eC 27 f k = eC 27 g k' ↔ eC 32 f k = eC 32 g k' := (eC_eq (Or.inl rfl) h1 h2).trans (eC_eq (Or.inr rfl) h1 h2).symm
def p32 : Nat → Int
  | 0 => 1
  | k + 1 => p32 k * 32
theorem eC_lt {b : Int} (hb : b = 27 ∨ b = 32) {f : Nat → Int} : ∀ {k : Nat}, dgs f k → eC b f k < p32 k
  | 0, _ => by show (0 : Int) < 1; decide
  | k + 1, h => by
    have h1 := eC_lt hb h.dn
    have h2 := h k (by omega)
    have h3 := eC_pos hb h.dn
    rw [eC_s]
    show _ < p32 k * 32
    rcases hb with rfl | rfl <;> omega
theorem p32_le : ∀ k, k ≤ 8 → p32 k ≤ 1099511627776 := by decide
theorem eC_lt8 {b : Int} (hb : b = 27 ∨ b = 32) {f : Nat → Int} {k : Nat} (h : dgs f k) (hk : k ≤ 8) : eC b f k < 1099511627776 := by
  have h1 := eC_lt hb h
  have h2 := p32_le k hk
  omega
theorem l_27 {x : Int64} {y : Int32} (h0 : 0 ≤ x.toInt) (h1 : x.toInt < 1099511627776) (y0 : 97 ≤ y.toInt) (y1 : y.toInt ≤ 122) : (x * (27 : Int64) + Int32.toInt64 ((y - (97 : Int32)) + (1 : Int32))).toInt = x.toInt * 27 + (y.toInt - 96) := by
  have o97 : (97 : Int32).toInt = 97 := by decide
  have o1 : (1 : Int32).toInt = 1 := by decide
  have o27 : (27 : Int64).toInt = 27 := by decide
  have e1 : (y - (97 : Int32)).toInt = y.toInt - 97 := by rw [z_sub (by omega) (by omega), o97]
  have e2 : ((y - (97 : Int32)) + (1 : Int32)).toInt = y.toInt - 96 := by rw [z_add (by omega) (by omega), e1, o1]; omega
  rw [Int64.toInt_add, Int64.toInt_mul, Int32.toInt_toInt64, e2, o27, Int.bmod_def, Int.bmod_def]
  omega
theorem l_32 {x : Int64} {y : Int32} (h0 : 0 ≤ x.toInt) (h1 : x.toInt < 1099511627776) (y0 : 97 ≤ y.toInt) (y1 : y.toInt ≤ 122) : ((x <<< (Int32.toInt64 (5 : Int32) &&& 63)) ||| ((Int32.toInt64 y) - (96 : Int64))).toInt = x.toInt * 32 + (y.toInt - 96) := by
  have o96 : (96 : Int64).toInt = 96 := by decide
  have ed : ((Int32.toInt64 y) - (96 : Int64)).toInt = y.toInt - 96 := by
    rw [Int64.toInt_sub, Int32.toInt_toInt64, o96, Int.bmod_def]
    omega
  generalize ((Int32.toInt64 y) - (96 : Int64)) = d at ed
  have hs : (Int32.toInt64 (5 : Int32) &&& 63).toBitVec.smod 64 = 5#64 := by decide
  have hx : (x.toBitVec.toNat : Int) = x.toInt := by
    have := x.toBitVec.toInt_eq_toNat_cond
    rw [show x.toBitVec.toInt = x.toInt from rfl] at this
    have := x.toBitVec.isLt
    split at * <;> omega
  have hd : (d.toBitVec.toNat : Int) = d.toInt := by
    have := d.toBitVec.toInt_eq_toNat_cond
    rw [show d.toBitVec.toInt = d.toInt from rfl] at this
    have := d.toBitVec.isLt
    split at * <;> omega
  have hn : ((x <<< (Int32.toInt64 (5 : Int32) &&& 63)) ||| d).toBitVec.toNat = x.toBitVec.toNat * 32 + d.toBitVec.toNat := by
    rw [Int64.toBitVec_or, Int64.toBitVec_shiftLeft, hs, BitVec.toNat_or, BitVec.shiftLeft_eq', BitVec.toNat_shiftLeft, show (5#64).toNat = 5 by decide, Nat.mod_eq_of_lt (by rw [Nat.shiftLeft_eq]; omega), ← Nat.shiftLeft_add_eq_or_of_lt (by omega : d.toBitVec.toNat < 2 ^ 5), Nat.shiftLeft_eq]
  show ((x <<< (Int32.toInt64 (5 : Int32) &&& 63)) ||| d).toBitVec.toInt = _
  rw [BitVec.toInt_eq_toNat_cond, hn]
  split <;> omega
