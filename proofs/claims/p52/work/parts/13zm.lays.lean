/-! the reference lays the applicants -/
def cnt (r : Nat → Int32) (H a : Nat) : Nat → Nat
  | 0 => 0
  | h + 1 => if memb r H a h then cnt r H a h + 1 else cnt r H a h
theorem cnt_le (r : Nat → Int32) (H a : Nat) : ∀ n, cnt r H a n ≤ n
  | 0 => Nat.le_refl 0
  | n + 1 => by
    have := cnt_le r H a n
    show (if memb r H a n then cnt r H a n + 1 else cnt r H a n) ≤ n + 1
    split <;> omega
theorem sm_one {r : Nat → Int32} {H a : Nat} : ∀ n, sm (fun _ => 1) r H a n = nI (cnt r H a n)
  | 0 => by show (0 : Int32) = nI 0; decide
  | n + 1 => by
    show (if memb r H a n then sm (fun _ => 1) r H a n + 1 else sm (fun _ => 1) r H a n) = nI (if memb r H a n then cnt r H a n + 1 else cnt r H a n)
    rw [sm_one n]
    by_cases q : memb r H a n
    · rw [if_pos q, if_pos q]; exact nI_add1
    · rw [if_neg q, if_neg q]
theorem cnt_pos {r : Nat → Int32} {H a h : Nat} (hm : memb r H a h) : ∀ n, h < n → 1 ≤ cnt r H a n
  | 0, hn => absurd hn (Nat.not_lt_zero h)
  | n + 1, hn => by
    show 1 ≤ (if memb r H a n then cnt r H a n + 1 else cnt r H a n)
    by_cases q : h = n
    · subst q; rw [if_pos hm]; omega
    · have := cnt_pos hm n (by omega)
      split <;> omega
theorem sN_ne {r : Nat → Int32} {H a h : Nat} (hm : memb r H a h) (hH : H ≤ 10) : ¬ sN r H a = 0 := by
  unfold sN
  rw [sm_one]
  have h1 := cnt_pos hm H hm.1
  have h2 := cnt_le r H a H
  exact fun z => absurd (nI_inj (b := 0) (by omega) (by omega) z) (by omega)
/-- bits, party and place of one applicant -/
def mF (P : Nat) (B : zMt) (r : Nat → Int32) (H a : Nat) : Prop := B (P + 11) a = bv r H a H ∧ B (P + 12) a = (if a < fr r H then -1 else nI (a - fr r H)) ∧ ∃ base, isBase r H a base ∧ base < 62 ∧ B (P + 13) a = nI base
theorem mF.k {P : Nat} {B B' : zMt} {r : Nat → Int32} {H a : Nat} (h : mF P B r H a) (k : ∀ i, (P + 11 ≤ i ∧ i ≤ P + 13) → B' i a = B i a) : mF P B' r H a := by
  obtain ⟨h1, h2, base, h3, h4, h5⟩ := h
  exact ⟨(k _ (by omega)).trans h1, (k _ (by omega)).trans h2, base, h3, h4, (k _ (by omega)).trans h5⟩
