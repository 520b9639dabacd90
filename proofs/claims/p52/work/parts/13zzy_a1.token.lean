/-! p52: the text of the law is read by the class: pieces of text, tokens -/
/-- the word w stands at x -/
def pc (t : Nat → Int32) (x : Nat) (w : List Nat) : Prop := ∀ i c, w[i]? = some c → t (x + i) = nI c
theorem pc.app {t : Nat → Int32} {x : Nat} {u v : List Nat} (h : pc t x (u ++ v)) : pc t x u ∧ pc t (x + u.length) v := by
  refine ⟨fun i c hc => h i c ?_, fun i c hc => ?_⟩
  · have hi : i < u.length := (List.getElem?_eq_some_iff.mp hc).1
    rw [List.getElem?_append_left hi]; exact hc
  · have := h (u.length + i) c (by rw [List.getElem?_append_right (by omega)]; rw [show u.length + i - u.length = i by omega]; exact hc)
    rw [← this, Nat.add_assoc]
theorem pc.sub {t : Nat → Int32} {x i : Nat} {w : List Nat} {c : Nat} (h : pc t x w) (hc : w[i]? = some c) : t (x + i) = nI c := h i c hc
theorem isL_c : ∀ c, c < 128 → isL (nI c) = decide (97 ≤ c ∧ c ≤ 122) := by decide
theorem isD_c : ∀ c, c < 128 → isD (nI c) = decide (48 ≤ c ∧ c ≤ 57) := by decide
theorem isB_c : ∀ c, c < 128 → isB (nI c) = decide (c = 10 ∨ c = 32) := by decide
theorem rn_run {p : Int32 → Bool} {t : Nat → Int32} {n : Nat} : ∀ (k x : Nat), x + k ≤ n → (∀ i, i < k → p (t (x + i)) = true) → ¬ (x + k < n ∧ p (t (x + k)) = true) → rn p t n x = x + k
  | 0, x, _, _, h => rn_stop h
  | k + 1, x, hk, h, g => by
    rw [rn_go (x := x) (by omega) (show p (t x) = true from h 0 (by omega)), rn_run k (x + 1) (by omega) (fun i hi => by rw [show x + 1 + i = x + (i + 1) by omega]; exact h (i + 1) (by omega)) (by rw [show x + 1 + k = x + (k + 1) by omega]; exact g)]
    omega
/-- the token that begins at s has been read -/
def kG (Q n s : Nat) (t : Nat → Int32) (A : zMt) (N : zNt) : Prop := A Q 7 = nI s ∧
  (¬ s < n → A Q 6 = 0) ∧
  (s < n → isL (t s) = true → (rn isL t n s - s ≤ 8 → A Q 6 = 1 ∧ A Q 5 = nI (rn isL t n s) ∧ N Q 8 = wv t s (rn isL t n s - s)) ∧ (¬ rn isL t n s - s ≤ 8 → A Q 6 = 4)) ∧
  (s < n → isL (t s) = false → isD (t s) = true → (rn isD t n s - s ≤ 3 → A Q 6 = 2 ∧ A Q 5 = nI (rn isD t n s) ∧ A Q 9 = nv t s (rn isD t n s - s)) ∧ (¬ rn isD t n s - s ≤ 3 → A Q 6 = 4)) ∧
  (s < n → isL (t s) = false → isD (t s) = false → (t s = 59 → A Q 6 = 3 ∧ A Q 5 = nI (s + 1)) ∧ (¬ t s = 59 → A Q 6 = 4))
theorem kG.k {Q n s : Nat} {t : Nat → Int32} {A A' : zMt} {N N' : zNt} (h : kG Q n s t A N) (a : ∀ j, (j = 5 ∨ j = 6 ∨ j = 7 ∨ j = 9) → A' Q j = A Q j) (b : N' Q 8 = N Q 8) : kG Q n s t A' N' := by
  unfold kG
  rw [a 5 (by omega), a 6 (by omega), a 7 (by omega), a 9 (by omega), b]
  exact h
theorem k_step {Q n x : Nat} {t : Nat → Int32} {A : zMt} {N : zNt} (hT : tx Q n t A) (h5 : A Q 5 = nI x) (hx : x ≤ n) : ∃ a, D_X3_step Q A N = some a ∧ fq Q A a.1 ∧ fqn Q N a.2 ∧ kG Q n (rn isB t n x) t a.1 a.2 ∧ (a.1 Q 9 = A Q 9 ∨ a.1 Q 6 = 2 ∨ a.1 Q 6 = 4) := by
  obtain ⟨a, e, g1, g2, g3, g4, g5, g6, g7, g8⟩ := c_step (N := N) hT h5 hx
  exact ⟨a, e, g1, g2, ⟨g3, g4, g5, g6, g7⟩, g8⟩
theorem kG.word {Q n s k : Nat} {t : Nat → Int32} {A : zMt} {N : zNt} (h : kG Q n s t A N) (hk1 : 1 ≤ k) (hk : k ≤ 8) (hn : s + k ≤ n) (l : ∀ i, i < k → isL (t (s + i)) = true) (st : ¬ (s + k < n ∧ isL (t (s + k)) = true)) : A Q 6 = 1 ∧ A Q 7 = nI s ∧ A Q 5 = nI (s + k) ∧ N Q 8 = wv t s k := by
  obtain ⟨h7, -, hl, -⟩ := h
  have e := rn_run k s hn l st
  obtain ⟨q, -⟩ := hl (by omega) (l 0 (by omega))
  rw [e, show s + k - s = k by omega] at q
  obtain ⟨q1, q2, q3⟩ := q hk
  exact ⟨q1, h7, q2, q3⟩
theorem kG.num {Q n s k : Nat} {t : Nat → Int32} {A : zMt} {N : zNt} (h : kG Q n s t A N) (hk1 : 1 ≤ k) (hk : k ≤ 3) (hn : s + k ≤ n) (l : ∀ i, i < k → isD (t (s + i)) = true) (l0 : isL (t s) = false) (st : ¬ (s + k < n ∧ isD (t (s + k)) = true)) : A Q 6 = 2 ∧ A Q 5 = nI (s + k) ∧ A Q 9 = nv t s k := by
  obtain ⟨-, -, -, hl, -⟩ := h
  have e := rn_run k s hn l st
  obtain ⟨q, -⟩ := hl (by omega) l0 (l 0 (by omega))
  rw [e, show s + k - s = k by omega] at q
  exact q hk
theorem kG.semi {Q n s : Nat} {t : Nat → Int32} {A : zMt} {N : zNt} (h : kG Q n s t A N) (hn : s < n) (e : t s = nI 59) : A Q 6 = 3 ∧ A Q 5 = nI (s + 1) := by
  obtain ⟨-, -, -, -, hl⟩ := h
  exact (hl hn (by rw [e]; decide) (by rw [e]; decide)).1 (by rw [e]; decide)
theorem kG.end {Q n s : Nat} {t : Nat → Int32} {A : zMt} {N : zNt} (h : kG Q n s t A N) (hn : ¬ s < n) : A Q 6 = 0 := h.2.1 hn
/-- a word's value -/
def wV : List Nat → Nat
  | [] => 0
  | w => w.foldl (fun a c => a * 27 + (c - 96)) 0
def sayB (w : List Nat) (j : Nat) : Bool := decide (w.length = zLen.getD j 0) && (List.range w.length).all (fun i => decide (nI (w.getD i 0) = zCh j i))
theorem say_pc {t : Nat → Int32} {s j : Nat} {w : List Nat} (h : pc t s w) : say t s w.length j ↔ sayB w j = true := by
  have hg : ∀ i, i < w.length → t (s + i) = nI (w.getD i 0) := fun i hi => by
    rw [h i (w[i]) (List.getElem?_eq_getElem hi), List.getD_eq_getElem?_getD, List.getElem?_eq_getElem hi]; rfl
  unfold say sayB
  rw [Bool.and_eq_true, decide_eq_true_eq, List.all_eq_true]
  refine and_congr Iff.rfl ⟨fun q i hi => ?_, fun q i hi => ?_⟩
  · have hi2 := List.mem_range.mp hi
    rw [decide_eq_true_eq, ← hg i hi2]; exact q i hi2
  · have := q i (List.mem_range.mpr hi)
    rw [decide_eq_true_eq] at this
    rw [hg i hi]; exact this
theorem k_says {Q n s j : Nat} {t : Nat → Int32} {A : zMt} {w : List Nat} {k : Nat} (hw : w.length = k) (hT : tx Q n t A) (h6 : A Q 6 = 1) (h7 : A Q 7 = nI s) (h5 : A Q 5 = nI (s + k)) (hsk : s + k ≤ n) (hj : j < 11) (h : pc t s w) : D_X3_says Q j A = some (if sayB w j then 1 else 0) := by
  subst hw
  obtain ⟨r, e, q⟩ := c_says hT h6 h7 h5 hsk hj
  rw [e]
  rcases q with ⟨q1, q2⟩ | ⟨q1, q2⟩
  · rw [if_pos ((say_pc h).mp q2), q1]
  · rw [if_neg (fun z => q2 ((say_pc h).mpr z)), q1]
theorem k_isName {Q n s : Nat} {t : Nat → Int32} {A : zMt} {w : List Nat} {k : Nat} (hw : w.length = k) (hT : tx Q n t A) (h6 : A Q 6 = 1) (h7 : A Q 7 = nI s) (h5 : A Q 5 = nI (s + k)) (hsk : s + k ≤ n) (h : pc t s w) (hk : k < 3) : D_X3_isName Q A = some 1 := by
  subst hw
  obtain ⟨r, e, q⟩ := c_isName hT h6 h7 h5 hsk
  rw [e]
  rcases q with ⟨q1, -⟩ | ⟨-, j, hj, q2⟩
  · rw [q1]
  · exfalso
    have := q2.1
    have h3 : ∀ j, j < 8 → 3 ≤ zLen.getD j 0 := by decide
    have := h3 j hj
    omega

