/-! TOKENS: what the two readers make of the same text -/
theorem zB_s {α β : Type} {o : Option α} {e : α} {f : α → Option β} (h : o = some e) : zB o f = f e := by rw [h]; rfl
def isB (v : Int32) : Bool := decide (v = 10) || decide (v = 32)
def isL (v : Int32) : Bool := decide (97 ≤ v.toInt) && decide (v.toInt ≤ 122)
def isD (v : Int32) : Bool := decide (48 ≤ v.toInt) && decide (v.toInt ≤ 57)
theorem isB_iff {v : Int32} : isB v = true ↔ v = 10 ∨ v = 32 := by unfold isB; rw [Bool.or_eq_true, decide_eq_true_eq, decide_eq_true_eq]
theorem isL_iff {v : Int32} : isL v = true ↔ 97 ≤ v.toInt ∧ v.toInt ≤ 122 := by unfold isL; rw [Bool.and_eq_true, decide_eq_true_eq, decide_eq_true_eq]
theorem isD_iff {v : Int32} : isD v = true ↔ 48 ≤ v.toInt ∧ v.toInt ≤ 57 := by unfold isD; rw [Bool.and_eq_true, decide_eq_true_eq, decide_eq_true_eq]
theorem l_bl {v : Int32} : D_X3_isBlank v = some (if isB v then 1 else 0) := by
  unfold D_X3_isBlank D_X3_isBlank_12 D_X3_isBlank_17
  by_cases h : v = 10
  · rw [if_pos h, if_pos (isB_iff.mpr (Or.inl h))]
  · rw [if_neg h]
    by_cases h2 : v = 32
    · rw [if_pos h2, if_pos (isB_iff.mpr (Or.inr h2))]
    · rw [if_neg h2, if_neg (fun q => (isB_iff.mp q).elim h h2)]
theorem l_ran {v lo hi : Int32} {a b : Int} (ha : lo.toInt = a) (hb : hi.toInt = b) : (if v < lo then some (0 : Int32) else if hi < v then some (0 : Int32) else some (1 : Int32)) = some (if decide (a ≤ v.toInt) && decide (v.toInt ≤ b) then 1 else 0) := by
  by_cases h : v < lo
  · have := Int32.lt_iff_toInt_lt.mp h
    rw [if_pos h, if_neg (by rw [Bool.and_eq_true, decide_eq_true_eq, decide_eq_true_eq]; omega)]
  · have h1 := Int32.le_iff_toInt_le.mp (Int32.not_lt.mp h)
    rw [if_neg h]
    by_cases h2 : hi < v
    · have := Int32.lt_iff_toInt_lt.mp h2
      rw [if_pos h2, if_neg (by rw [Bool.and_eq_true, decide_eq_true_eq, decide_eq_true_eq]; omega)]
    · have h3 := Int32.le_iff_toInt_le.mp (Int32.not_lt.mp h2)
      rw [if_neg h2, if_pos (by rw [Bool.and_eq_true, decide_eq_true_eq, decide_eq_true_eq]; omega)]
theorem l_let3 {v : Int32} : D_X3_isLetter v = some (if isL v then 1 else 0) := l_ran (by decide) (by decide)
theorem l_dig3 {v : Int32} : D_X3_isDigit v = some (if isD v then 1 else 0) := l_ran (by decide) (by decide)
theorem l_let8 {v : Int32} : D_X8_isLetter v = some (if isL v then 1 else 0) := l_ran (by decide) (by decide)
theorem l_dig8 {v : Int32} : D_X8_isDigit v = some (if isD v then 1 else 0) := l_ran (by decide) (by decide)
theorem if01 {c : Bool} : ((if c then (1 : Int32) else 0) = 0) ↔ c = false := by cases c <;> decide
/-- how far a run goes -/
def rn' (p : Int32 → Bool) (t : Nat → Int32) (n : Nat) : Nat → Nat → Nat
  | 0, x => x
  | u + 1, x => if x < n ∧ p (t x) = true then rn' p t n u (x + 1) else x
def rn (p : Int32 → Bool) (t : Nat → Int32) (n x : Nat) : Nat := rn' p t n (n - x) x
theorem rn_go {p : Int32 → Bool} {t : Nat → Int32} {n x : Nat} (h : x < n) (hp : p (t x) = true) : rn p t n x = rn p t n (x + 1) := by
  unfold rn
  rw [show n - x = (n - (x + 1)) + 1 by omega]
  show (if _ then _ else _) = _
  rw [if_pos ⟨h, hp⟩]
theorem rn_stop {p : Int32 → Bool} {t : Nat → Int32} {n x : Nat} (h : ¬ (x < n ∧ p (t x) = true)) : rn p t n x = x := by
  unfold rn
  cases n - x with
  | zero => rfl
  | succ u =>
    show (if _ then _ else _) = _
    rw [if_neg h]
theorem rn_spec {p : Int32 → Bool} {t : Nat → Int32} {n : Nat} : ∀ (d x : Nat), n - x ≤ d → x ≤ n → x ≤ rn p t n x ∧ rn p t n x ≤ n ∧ (∀ i, x ≤ i → i < rn p t n x → p (t i) = true) ∧ (rn p t n x < n → p (t (rn p t n x)) = false) := by
  intro d
  induction d with
  | zero =>
    intro x h hx
    rw [rn_stop (by omega)]
    exact ⟨Nat.le_refl x, hx, fun i h1 h2 => by omega, fun q => by omega⟩
  | succ d ih =>
    intro x h hx
    by_cases q : x < n ∧ p (t x) = true
    · obtain ⟨h1, h2, h3, h4⟩ := ih (x + 1) (by omega) (by omega)
      rw [rn_go q.1 q.2]
      refine ⟨by omega, h2, fun i h5 h6 => ?_, h4⟩
      by_cases z : i = x
      · subst z; exact q.2
      · exact h3 i (by omega) h6
    · rw [rn_stop q]
      refine ⟨Nat.le_refl x, hx, fun i h1 h2 => by omega, fun h5 => ?_⟩
      cases hp : p (t x) with
      | false => rfl
      | true => exact absurd ⟨h5, hp⟩ q
/-- the text, in the class's row and in the reference's -/
def tx (Q n : Nat) (t : Nat → Int32) (A : zMt) : Prop := n ≤ 700 ∧ A Q 4 = nI n ∧ ∀ k, k < n → A (Q + 9) k = t k
def ty (P n : Nat) (t : Nat → Int32) (B : zMt) : Prop := n ≤ 700 ∧ B P 15 = nI n ∧ ∀ k, k < n → B (P + 7) k = t k ∧ 0 ≤ (t k).toInt
theorem tx.mono {Q n : Nat} {t : Nat → Int32} {A A' : zMt} (h : tx Q n t A) (hf : ∀ a j, (a = Q ∧ j = 4) ∨ a = Q + 9 → A' a j = A a j) : tx Q n t A' := ⟨h.1, by rw [hf Q 4 (by omega)]; exact h.2.1, fun k hk => by rw [hf (Q + 9) k (by omega)]; exact h.2.2 k hk⟩
theorem ty.mono {P n : Nat} {t : Nat → Int32} {B B' : zMt} (h : ty P n t B) (hf : ∀ a j, (a = P ∧ j = 15) ∨ a = P + 7 → B' a j = B a j) : ty P n t B' := ⟨h.1, by rw [hf P 15 (by omega)]; exact h.2.1, fun k hk => by rw [hf (P + 7) k (by omega)]; exact h.2.2 k hk⟩
theorem leL {a k : Nat} {x : Int32} (hx : x = nI a) (ha : a < 2147483648) (hk : k < 2147483648) : x ≤ nI k ↔ a ≤ k := by rw [hx]; exact nI_leI (by omega) (by omega)
theorem leR {b k : Nat} {x : Int32} (hx : x = nI b) (hb : b < 2147483648) (hk : k < 2147483648) : nI k ≤ x ↔ k ≤ b := by rw [hx]; exact nI_leI (by omega) (by omega)
theorem ltL {a k : Nat} {x : Int32} (hx : x = nI a) (ha : a < 2147483648) (hk : k < 2147483648) : x < nI k ↔ a < k := by rw [hx]; exact nI_ltI (by omega) (by omega)
theorem ltR {b k : Nat} {x : Int32} (hx : x = nI b) (hb : b < 2147483648) (hk : k < 2147483648) : nI k < x ↔ k < b := by rw [hx]; exact nI_ltI (by omega) (by omega)
theorem nI_add1 {k : Nat} : nI k + 1 = nI (k + 1) := nI_1 k
/-! the class's step -/
theorem c_blank {Q n : Nat} {t : Nat → Int32} {N : zNt} : ∀ (u x : Nat) (A : zMt), tx Q n t A → A Q 5 = nI x → x ≤ n → n - x < u → ∃ A', D_X3_step_0 Q u A N = D_X3_step_41 Q A' N ∧ A' Q 5 = nI (rn isB t n x) ∧ (∀ a j, ¬ (a = Q ∧ j = 5) → A' a j = A a j) := by
  intro u
  induction u with
  | zero => intro x A _ _ _ h; omega
  | succ u ih =>
    intro x A hT h5 hx hu
    obtain ⟨hn, h4, ht⟩ := id hT
    rw [D_X3_step_0, h4, h5]
    by_cases hc : n ≤ x
    · rw [if_pos ((nI_leI (by omega) (by omega)).mpr hc)]
      exact ⟨A, rfl, by rw [rn_stop (by omega)]; exact h5, fun _ _ _ => rfl⟩
    · rw [if_neg (fun q => hc ((nI_leI (by omega) (by omega)).mp q)), zrd_nI (by omega) (by decide), ht x (by omega), zB_s l_bl]
      by_cases hb : isB (t x) = true
      · rw [if_neg (by rw [if01, hb]; decide)]
        show ∃ A', D_X3_step_0 Q u (zu A Q 5 (nI x + 1)) N = _ ∧ _
        rw [nI_add1]
        have k1 : ∀ a j, ¬ (a = Q ∧ j = 5) → zu A Q 5 (nI (x + 1)) a j = A a j := fun a j h => zu_ne h
        obtain ⟨A', e1, e2, e3⟩ := ih (x + 1) (zu A Q 5 (nI (x + 1))) (hT.mono (fun a j h => k1 a j (by omega))) zu_eq (by omega) (by omega)
        exact ⟨A', e1, by rw [rn_go (by omega) hb]; exact e2, fun a j h => (e3 a j h).trans (k1 a j h)⟩
      · have hb : isB (t x) = false := by cases h : isB (t x) with
          | false => rfl
          | true => exact absurd h hb
        rw [if_pos (by rw [if01]; exact hb)]
        exact ⟨A, rfl, by rw [rn_stop (by rw [hb]; rintro ⟨_, q⟩; cases q)]; exact h5, fun _ _ _ => rfl⟩
def wv (t : Nat → Int32) (s : Nat) : Nat → Int64
  | 0 => 0
  | k + 1 => (wv t s k * (27 : Int64)) + (Int32.toInt64 ((t (s + k) - (97 : Int32)) + (1 : Int32)))
theorem c_word {Q n s : Nat} {t : Nat → Int32} : ∀ (u k : Nat) (A : zMt) (N : zNt), tx Q n t A → A Q 5 = nI (s + k) → s + k ≤ n → N Q 8 = wv t s k → n - (s + k) < u → ∃ A' N', D_X3_stepWord_5 Q u A N = D_X3_stepWord_76 Q A' N' ∧ A' Q 5 = nI (rn isL t n (s + k)) ∧ N' Q 8 = wv t s (rn isL t n (s + k) - s) ∧ (∀ a j, ¬ (a = Q ∧ j = 5) → A' a j = A a j) ∧ (∀ a j, ¬ (a = Q ∧ j = 8) → N' a j = N a j) := by
  intro u
  induction u with
  | zero => intro k A N _ _ _ _ h; omega
  | succ u ih =>
    intro k A N hT h5 hx h8 hu
    obtain ⟨hn, h4, ht⟩ := id hT
    have fin : rn isL t n (s + k) = s + k → ∃ A' N', D_X3_stepWord_76 Q A N = D_X3_stepWord_76 Q A' N' ∧ A' Q 5 = nI (rn isL t n (s + k)) ∧ N' Q 8 = wv t s (rn isL t n (s + k) - s) ∧ (∀ a j, ¬ (a = Q ∧ j = 5) → A' a j = A a j) ∧ (∀ a j, ¬ (a = Q ∧ j = 8) → N' a j = N a j) := fun e => ⟨A, N, rfl, by rw [e]; exact h5, by rw [e, Nat.add_sub_cancel_left]; exact h8, fun _ _ _ => rfl, fun _ _ _ => rfl⟩
    rw [D_X3_stepWord_5, h4, h5]
    by_cases hc : n ≤ s + k
    · rw [if_pos ((nI_leI (by omega) (by omega)).mpr hc)]
      exact fin (rn_stop (by omega))
    · rw [if_neg (fun q => hc ((nI_leI (by omega) (by omega)).mp q)), zrd_nI (by omega) (by decide), ht (s + k) (by omega), zB_s l_let3]
      by_cases hb : isL (t (s + k)) = true
      · rw [if_neg (by rw [if01, hb]; decide)]
        show ∃ A' N', D_X3_stepWord_5 Q u (zu A Q 5 (nI (s + k) + 1)) (zu N Q 8 (((N Q 8) * (27 : Int64)) + (Int32.toInt64 ((t (s + k) - (97 : Int32)) + (1 : Int32))))) = _ ∧ _
        rw [nI_add1, h8]
        have k1 : ∀ a j, ¬ (a = Q ∧ j = 5) → zu A Q 5 (nI (s + k + 1)) a j = A a j := fun a j h => zu_ne h
        obtain ⟨A', N', e1, e2, e3, e4, e5⟩ := ih (k + 1) (zu A Q 5 (nI (s + k + 1))) (zu N Q 8 (wv t s (k + 1))) (hT.mono (fun a j h => k1 a j (by omega))) zu_eq (by omega) zu_eq (by omega)
        rw [rn_go (by omega) hb]
        exact ⟨A', N', e1, e2, e3, fun a j h => (e4 a j h).trans (k1 a j h), fun a j h => (e5 a j h).trans (zu_ne h)⟩
      · have hb : isL (t (s + k)) = false := by cases h : isL (t (s + k)) with
          | false => rfl
          | true => exact absurd h hb
        rw [if_pos (by rw [if01]; exact hb)]
        exact fin (rn_stop (by rw [hb]; rintro ⟨_, q⟩; cases q))
def nv (t : Nat → Int32) (s : Nat) : Nat → Int32
  | 0 => 0
  | k + 1 => (nv t s k * (10 : Int32)) + (t (s + k) - (48 : Int32))
theorem c_num {Q n s : Nat} {t : Nat → Int32} : ∀ (u k : Nat) (A : zMt), tx Q n t A → A Q 5 = nI (s + k) → s + k ≤ n → A Q 9 = nv t s k → n - (s + k) < u → ∃ A', D_X3_stepNumber_5 Q u A = D_X3_stepNumber_72 Q A' ∧ A' Q 5 = nI (rn isD t n (s + k)) ∧ A' Q 9 = nv t s (rn isD t n (s + k) - s) ∧ (∀ a j, ¬ (a = Q ∧ (j = 5 ∨ j = 9)) → A' a j = A a j) := by
  intro u
  induction u with
  | zero => intro k A _ _ _ _ h; omega
  | succ u ih =>
    intro k A hT h5 hx h9 hu
    obtain ⟨hn, h4, ht⟩ := id hT
    have fin : rn isD t n (s + k) = s + k → ∃ A', D_X3_stepNumber_72 Q A = D_X3_stepNumber_72 Q A' ∧ A' Q 5 = nI (rn isD t n (s + k)) ∧ A' Q 9 = nv t s (rn isD t n (s + k) - s) ∧ (∀ a j, ¬ (a = Q ∧ (j = 5 ∨ j = 9)) → A' a j = A a j) := fun e => ⟨A, rfl, by rw [e]; exact h5, by rw [e, Nat.add_sub_cancel_left]; exact h9, fun _ _ _ => rfl⟩
    rw [D_X3_stepNumber_5, h4, h5]
    by_cases hc : n ≤ s + k
    · rw [if_pos ((nI_leI (by omega) (by omega)).mpr hc)]
      exact fin (rn_stop (by omega))
    · rw [if_neg (fun q => hc ((nI_leI (by omega) (by omega)).mp q)), zrd_nI (by omega) (by decide), ht (s + k) (by omega), zB_s l_dig3]
      by_cases hb : isD (t (s + k)) = true
      · rw [if_neg (by rw [if01, hb]; decide)]
        have e5 : ∀ v : Int32, zu A Q 9 v Q 5 = nI (s + k) := fun v => (zu_ne (by omega)).trans h5
        show ∃ A', D_X3_stepNumber_5 Q u (zu (zu A Q 9 (((A Q 9) * (10 : Int32)) + (t (s + k) - (48 : Int32)))) Q 5 (zu A Q 9 (((A Q 9) * (10 : Int32)) + (t (s + k) - (48 : Int32))) Q 5 + 1)) = _ ∧ _
        rw [e5, nI_add1, h9]
        have k1 : ∀ a j, ¬ (a = Q ∧ (j = 5 ∨ j = 9)) → zu (zu A Q 9 (nv t s (k + 1))) Q 5 (nI (s + k + 1)) a j = A a j := fun a j h => (zu_ne (by omega)).trans (zu_ne (by omega))
        obtain ⟨A', e1, e2, e3, e4⟩ := ih (k + 1) (zu (zu A Q 9 (nv t s (k + 1))) Q 5 (nI (s + k + 1))) (hT.mono (fun a j h => k1 a j (by omega))) zu_eq (by omega) ((zu_ne (by omega)).trans zu_eq) (by omega)
        rw [rn_go (by omega) hb]
        exact ⟨A', e1, e2, e3, fun a j h => (e4 a j h).trans (k1 a j h)⟩
      · have hb : isD (t (s + k)) = false := by cases h : isD (t (s + k)) with
          | false => rfl
          | true => exact absurd h hb
        rw [if_pos (by rw [if01]; exact hb)]
        exact fin (rn_stop (by rw [hb]; rintro ⟨_, q⟩; cases q))
