/-! THE APPLICANTS, told out of the row: the free hunters in their order, then the parties -/
abbrev memb (r : Nat → Int32) (H a h : Nat) : Prop := h < H ∧ ((r (10 + h) = -1 ∧ fr r h = a) ∨ (fr r H ≤ a ∧ r (10 + h) = nI (a - fr r H)))
theorem fr_mono (r : Nat → Int32) : ∀ n k, fr r n ≤ fr r (n + k)
  | _, 0 => Nat.le_refl _
  | n, k + 1 => by
    have := fr_mono r n k
    show fr r n ≤ fr r (n + k) + _
    omega
theorem fr_lt {r : Nat → Int32} {h n : Nat} (hh : h < n) (e : r (10 + h) = -1) : fr r h < fr r n := by
  have h1 : fr r (h + 1) = fr r h + 1 := by
    show fr r h + (if r (10 + h) = -1 then 1 else 0) = _
    rw [if_pos e]
  have h2 := fr_mono r (h + 1) (n - (h + 1))
  rw [show h + 1 + (n - (h + 1)) = n by omega, h1] at h2
  omega
theorem fr_inj {r : Nat → Int32} {h h' : Nat} (e : r (10 + h) = -1) (e' : r (10 + h') = -1) (q : fr r h = fr r h') : h = h' := by
  by_cases z : h < h'
  · have := fr_lt z e; omega
  · by_cases z2 : h' < h
    · have := fr_lt z2 e'; omega
    · omega
/-- who stands in a free hunter's application: that hunter alone -/
theorem memb_free {r : Nat → Int32} {H h h' : Nat} (hh : h < H) (e : r (10 + h) = -1) : memb r H (fr r h) h' ↔ h' = h := by
  have hlt := fr_lt hh e
  constructor
  · rintro ⟨h1, ⟨h2, h3⟩ | ⟨h2, h3⟩⟩
    · exact fr_inj h2 e h3
    · omega
  · intro q
    subst q
    exact ⟨hh, Or.inl ⟨e, rfl⟩⟩
theorem memb_party {r : Nat → Int32} {H p h : Nat} (hp : p < 4) (hh : h < H) : memb r H (fr r H + p) h ↔ r (10 + h) = nI p := by
  constructor
  · rintro ⟨h1, ⟨h2, h3⟩ | ⟨h2, h3⟩⟩
    · have := fr_lt hh h2; omega
    · rw [Nat.add_sub_cancel_left] at h3; exact h3
  · intro q
    exact ⟨hh, Or.inr ⟨by omega, by rw [Nat.add_sub_cancel_left]; exact q⟩⟩
/-- its bits, as far as the hunter n -/
def bv (r : Nat → Int32) (H a : Nat) : Nat → Int32
  | 0 => 0
  | h + 1 => if memb r H a h then bv r H a h ||| ((1 : Int32) <<< (nI h &&& 31)) else bv r H a h
/-- a sum over its hunters -/
def sm (f : Nat → Int32) (r : Nat → Int32) (H a : Nat) : Nat → Int32
  | 0 => 0
  | h + 1 => if memb r H a h then sm f r H a h + f h else sm f r H a h
theorem bv_bit {r : Nat → Int32} {H a : Nat} : ∀ n, n ≤ 10 → ∀ h, h < 10 → (bitAt (bv r H a n) h ↔ h < n ∧ memb r H a h)
  | 0, _, h, _ => ⟨fun z => absurd z bitAt_0, fun z => absurd z.1 (Nat.not_lt_zero h)⟩
  | n + 1, hn, h, hh => by
    have ih := bv_bit (r := r) (H := H) (a := a) n (by omega) h hh
    show bitAt (if memb r H a n then bv r H a n ||| ((1 : Int32) <<< (nI n &&& 31)) else bv r H a n) h ↔ _
    by_cases q : memb r H a n
    · rw [if_pos q, bitK_or (by omega) hh, ih]
      constructor
      · rintro (⟨z1, z2⟩ | z)
        · exact ⟨by omega, z2⟩
        · subst z; exact ⟨by omega, q⟩
      · rintro ⟨z1, z2⟩
        by_cases y : n = h
        · exact Or.inr y
        · exact Or.inl ⟨by omega, z2⟩
    · rw [if_neg q, ih]
      constructor
      · rintro ⟨z1, z2⟩; exact ⟨by omega, z2⟩
      · rintro ⟨z1, z2⟩
        have : h ≠ n := fun y => q (y ▸ z2)
        exact ⟨by omega, z2⟩
theorem or_0k : ∀ h, h < 10 → (0 : Int32) ||| ((1 : Int32) <<< (nI h &&& 31)) = (1 : Int32) <<< (nI h &&& 31) := by decide
theorem bv_free {r : Nat → Int32} {H h : Nat} (hH : H ≤ 10) (hh : h < H) (e : r (10 + h) = -1) : ∀ n, n ≤ H → bv r H (fr r h) n = if h < n then (1 : Int32) <<< (nI h &&& 31) else 0
  | 0, _ => by rw [if_neg (by omega)]; rfl
  | n + 1, hn => by
    have ih := bv_free hH hh e n (by omega)
    show (if memb r H (fr r h) n then bv r H (fr r h) n ||| ((1 : Int32) <<< (nI n &&& 31)) else bv r H (fr r h) n) = _
    by_cases q : n = h
    · subst q
      rw [if_pos ((memb_free hh e).mpr rfl), ih, if_neg (by omega), if_pos (by omega)]
      exact or_0k n (by omega)
    · rw [if_neg (fun z => q ((memb_free hh e).mp z)), ih]
      by_cases z : h < n
      · rw [if_pos z, if_pos (by omega)]
      · rw [if_neg z, if_neg (by omega)]
theorem sm_free {f r : Nat → Int32} {H h : Nat} (hh : h < H) (e : r (10 + h) = -1) : ∀ n, n ≤ H → sm f r H (fr r h) n = if h < n then f h else 0
  | 0, _ => by rw [if_neg (by omega)]; rfl
  | n + 1, hn => by
    have ih := sm_free (f := f) hh e n (by omega)
    show (if memb r H (fr r h) n then sm f r H (fr r h) n + f n else sm f r H (fr r h) n) = _
    by_cases q : n = h
    · subst q
      rw [if_pos ((memb_free hh e).mpr rfl), ih, if_neg (by omega), if_pos (by omega), Int32.zero_add]
    · rw [if_neg (fun z => q ((memb_free hh e).mp z)), ih]
      by_cases z : h < n
      · rw [if_pos z, if_pos (by omega)]
      · rw [if_neg z, if_neg (by omega)]
/-- bits that don't meet: to add them is to join them -/
theorem or_add : ∀ k, k < 10 → ∀ v, v < 2 ^ k → nI v + ((1 : Int32) <<< (nI k &&& 31)) = nI v ||| ((1 : Int32) <<< (nI k &&& 31)) ∧ nI v ||| ((1 : Int32) <<< (nI k &&& 31)) = nI (v + 2 ^ k) := by decide +kernel
theorem bv_nI {r : Nat → Int32} {H a : Nat} : ∀ n, n ≤ 10 → ∃ v, v < 2 ^ n ∧ bv r H a n = nI v
  | 0, _ => ⟨0, by decide, show (0 : Int32) = nI 0 by decide⟩
  | n + 1, hn => by
    obtain ⟨v, h1, h2⟩ := bv_nI (r := r) (H := H) (a := a) n (by omega)
    have hp : 2 ^ (n + 1) = 2 ^ n * 2 := Nat.pow_succ 2 n
    show ∃ v, v < 2 ^ (n + 1) ∧ (if memb r H a n then bv r H a n ||| ((1 : Int32) <<< (nI n &&& 31)) else bv r H a n) = nI v
    by_cases q : memb r H a n
    · rw [if_pos q, h2, (or_add n (by omega) v h1).2]
      exact ⟨v + 2 ^ n, by omega, rfl⟩
    · rw [if_neg q]
      exact ⟨v, by omega, h2⟩
theorem bv_add {r : Nat → Int32} {H a n : Nat} (hn : n < 10) : bv r H a n + ((1 : Int32) <<< (nI n &&& 31)) = bv r H a n ||| ((1 : Int32) <<< (nI n &&& 31)) := by
  obtain ⟨v, h1, h2⟩ := bv_nI (r := r) (H := H) (a := a) n (by omega)
  rw [h2]
  exact (or_add n hn v h1).1
def sN (r : Nat → Int32) (H a : Nat) : Int32 := sm (fun _ => 1) r H a H
def sG (g r : Nat → Int32) (H a : Nat) : Int32 := sm g r H a H
def sP (r : Nat → Int32) (H a : Nat) : Int32 := sm r r H a H / sN r H a
def sT (r : Nat → Int32) (H a : Nat) : Int32 := if r 67 = 0 then 1 else if r 67 = 1 then 1 + sP r H a else 1 + sP r H a * sP r H a
/-- where its choices stand -/
abbrev isBase (r : Nat → Int32) (H a base : Nat) : Prop := (∃ h, h < H ∧ r (10 + h) = -1 ∧ fr r h = a ∧ base = 20 + 3 * h) ∨ (fr r H ≤ a ∧ base = 50 + 3 * (a - fr r H))
/-- what the reference has laid -/
def mL (P : Nat) (B : zMt) (r g : Nat → Int32) (H G : Nat) : Prop :=
  B P 33 = nI (fr r H + G) ∧ ∀ a, a < fr r H + G → B (P + 11) a = bv r H a H ∧ B (P + 12) a = (if a < fr r H then -1 else nI (a - fr r H)) ∧ (∃ base, isBase r H a base ∧ base < 62 ∧ B (P + 13) a = nI base) ∧ B (P + 14) a = sN r H a ∧ B (P + 15) a = sG g r H a ∧ B (P + 16) a = sP r H a ∧ B (P + 17) a = sT r H a
/-- what the class has gathered -/
def wsC (Q : Nat) (A : zMt) (r : Nat → Int32) (a base : Nat) : Prop := ∃ c, c ≤ 3 ∧ A (Q + 11) a = nI c ∧ (∀ k, k < 3 → A (Q + 12) (3 * a + k) = r (base + k)) ∧ (∀ k, k < 3 → (k < c ↔ ¬ r (base + k) = -1))
def sTs (r : Nat → Int32) (H : Nat) : Nat → Int32
  | 0 => 0
  | a + 1 => sTs r H a + sT r H a
def cL (Q : Nat) (A : zMt) (r g : Nat → Int32) (H G : Nat) : Prop :=
  A Q 1 = nI (fr r H + G) ∧ A Q 2 = sTs r H (fr r H + G) ∧ ∀ a, a < fr r H + G → A (Q + 9) a = bv r H a H ∧ A (Q + 10) a = (if a < fr r H then -1 else nI (a - fr r H)) ∧ (∀ base, isBase r H a base → wsC Q A r a base) ∧ A (Q + 5) a = sN r H a ∧ A (Q + 6) a = sG g r H a ∧ A (Q + 7) a = sP r H a ∧ A (Q + 8) a = sT r H a ∧ (∀ h, memb r H a h → A (Q + 4) h = nI a)
def cU (Q : Nat) (A : zMt) (r : Nat → Int32) (U : Nat) : Prop :=
  A Q 0 = nI U ∧ (∀ u, u < U → A (Q + 1) u = r (62 + u) ∧ A (Q + 2) u = r (62 + u) * r 68 / 100 ∧ A (Q + 3) u = r (62 + u) * r 69 / 100) ∧ ((A Q 3 = 0 ∧ ∀ u, u < U → A (Q + 2) u ≤ 0) ∨ (A Q 3 = 1 ∧ ∃ u, u < U ∧ ¬ A (Q + 2) u ≤ 0))
