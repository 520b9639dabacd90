/-! THE ORDER of a seed, both side by side -/
theorem St_find {t : Nat → Int32} {b : Int32} {L : Int} : ∀ n, 0 ≤ L → L < St t b n → ∃ y, y < n ∧ St t b y ≤ L ∧ L < St t b (y + 1)
  | 0, h0, h1 => by
    have : St t b 0 = 0 := rfl
    omega
  | n + 1, h0, h1 => by
    by_cases q : L < St t b n
    · obtain ⟨y, h2, h3, h4⟩ := St_find n h0 q
      exact ⟨y, by omega, h3, h4⟩
    · exact ⟨n, by omega, by omega, h1⟩
theorem St_s {t : Nat → Int32} {b : Int32} {n : Nat} : St t b (n + 1) = St t b n + (if ((b >>> (nI n &&& 31)) &&& 1) = 1 then 0 else (t n).toInt) := rfl
theorem cc_hold {Q n y : Nat} {A : zMt} {t : Nat → Int32} {b w d : Int32} (hn : n ≤ 10) (h1 : A Q 1 = nI n) (ht : ∀ a, a < n → A (Q + 8) a = t a ∧ 1 ≤ (t a).toInt ∧ (t a).toInt ≤ 401) (hw : ∀ a, a < n → (bitAt w a ↔ ¬ bitAt b a)) (hy : y < n) (h2 : St t b y ≤ d.toInt) (h3 : d.toInt < St t b (y + 1)) : ∀ (u x : Nat) (above : Int32), x ≤ y → y - x < u → above.toInt = St t b x → D_X5_holderOf_5 Q A u w d above (nI x) = some (nI y) := by
  intro u
  induction u with
  | zero => intro x above _ h; omega
  | succ u ih =>
    intro x above hx hu hab
    have hSx := St_le (t := t) (b := b) x (fun a ha => (ht a (by omega)).2)
    have hm : ∀ m, m ≤ y → St t b m ≤ St t b y := fun m hm => St_mono (fun a ha => (ht a (by omega)).2.1) m hm
    rw [D_X5_holderOf_5, h1, if_neg (by intro z; exact absurd ((nI_leI (by omega) (by omega)).mp z) (by omega))]
    have hwx := hw x (by omega)
    have hss := St_s (t := t) (b := b) (n := x)
    by_cases hb : bitAt b x
    · rw [if_neg (by intro z; exact hwx.mp z hb)]
      rw [if_pos (by exact hb)] at hss
      have hxy : x ≠ y := fun z => by
        subst z
        omega
      unfold D_X5_holderOf_44
      rw [nI_add1]
      exact ih (x + 1) above (by omega) (by omega) (by rw [hab, hss]; omega)
    · rw [if_neg (by exact hb)] at hss
      have htx := ht x (by omega)
      have ea : (above + t x).toInt = St t b (x + 1) := by rw [z_add (by omega) (by omega), hab, hss]
      rw [if_pos (by exact hwx.mpr hb), zrd_nI (show x < 10 by omega) (by decide), htx.1]
      by_cases q : x = y
      · subst q
        rw [if_neg (by intro z; have := Int32.le_iff_toInt_le.mp z; omega)]
      · rw [if_pos (by
          have := hm (x + 1) (by omega)
          exact Int32.le_iff_toInt_le.mpr (by omega))]
        unfold D_X5_holderOf_44
        rw [nI_add1]
        exact ih (x + 1) (above + t x) (by omega) (by omega) ea
/-- the next x, and what is drawn -/
def xN (x : Int64) : Int64 := ((1103515245 : Int64) * x + 12345) - ((1103515245 : Int64) * x + 12345) / 2147483648 * 2147483648
def xD (x : Int64) (s : Int32) : Int64 := xN x / 65536 - xN x / 65536 / s.toInt64 * s.toInt64
theorem xN_rng {x : Int64} (h0 : 0 ≤ x.toInt) (h1 : x.toInt < 2147483648) : 0 ≤ (xN x).toInt ∧ (xN x).toInt < 2147483648 := by
  have e0 : ((1103515245 : Int64) * x).toInt = 1103515245 * x.toInt := by
    rw [Int64.toInt_mul, show (1103515245 : Int64).toInt = 1103515245 by decide, Int.bmod_def]
    omega
  have e1 : 0 ≤ ((1103515245 : Int64) * x + 12345).toInt := by
    rw [Int64.toInt_add, e0, show (12345 : Int64).toInt = 12345 by decide, Int.bmod_def]
    have hp : 0 ≤ 1103515245 * x.toInt ∧ 1103515245 * x.toInt ≤ 2369780945000000000 := by omega
    generalize 1103515245 * x.toInt = pp at hp
    omega
  have h2 := l_modr (y := 2147483648) e1 (by decide)
  rw [show (2147483648 : Int64).toInt = 2147483648 by decide] at h2
  exact h2
theorem xD_rng {x : Int64} {s : Int32} (h0 : 0 ≤ x.toInt) (h1 : x.toInt < 2147483648) (hs : 1 ≤ s.toInt) : 0 ≤ (xD x s).toInt ∧ (xD x s).toInt < s.toInt := by
  have h2 := xN_rng h0 h1
  have e0 : s.toInt64.toInt = s.toInt := Int32.toInt_toInt64 s
  have h3 := l_modr (x := xN x / 65536) (y := s.toInt64) (l_div0 h2.1) (by omega)
  exact ⟨h3.1, by rw [← e0]; exact h3.2⟩
theorem bitK_not {w : Int32} {k h : Nat} (hk : k < 10) (hh : h < 10) : bitAt (w &&& (((1 : Int32) <<< (nI k &&& 31)) ^^^ (-1 : Int32))) h ↔ bitAt w h ∧ ¬ k = h := by
  have h1 := bitK_one hk hh
  rw [bitAt_iff hh] at h1 ⊢
  rw [bitAt_iff hh]
  show ((w.toBitVec &&& (((1 : Int32) <<< (nI k &&& 31)).toBitVec ^^^ (-1 : Int32).toBitVec)).getLsbD h = true) ↔ _
  have hm1 : (-1 : Int32).toBitVec.getLsbD h = true := (show ∀ h, h < 10 → (-1 : Int32).toBitVec.getLsbD h = true by decide) h hh
  rw [BitVec.getLsbD_and, BitVec.getLsbD_xor, hm1]
  cases w.toBitVec.getLsbD h <;> cases q : ((1 : Int32) <<< (nI k &&& 31)).toBitVec.getLsbD h <;> rw [q] at h1 <;> simp_all
theorem bits_all : ∀ n, n ≤ 10 → ∀ a, a < n → ((((((1 : Int32) <<< (nI n &&& 31)) - 1) >>> (nI a &&& 31)) &&& 1) = 1) := by decide +kernel
