/-! p52: names, numbers, ends of lines that the class takes -/
def nm (v : Nat) : Int64 := Int32.toInt64 (nI v)
theorem nm_inj {a b : Nat} (ha : a < 2147483648) (hb : b < 2147483648) (h : nm a = nm b) : a = b := by
  have q := congrArg Int64.toInt h
  unfold nm at q
  rw [Int32.toInt_toInt64, Int32.toInt_toInt64] at q
  exact nI_inj ha hb (Int32.toInt_inj.mp q)
theorem wv2_u : ∀ u, u < 5 → ((((0 : Int64) * (27 : Int64)) + Int32.toInt64 ((nI 117 - (97 : Int32)) + (1 : Int32))) * (27 : Int64)) + Int32.toInt64 ((nI (97 + u) - (97 : Int32)) + (1 : Int32)) = nm (568 + u) := by decide
theorem wv2_h : ∀ u, u < 5 → ((((0 : Int64) * (27 : Int64)) + Int32.toInt64 ((nI 104 - (97 : Int32)) + (1 : Int32))) * (27 : Int64)) + Int32.toInt64 ((nI (97 + u) - (97 : Int32)) + (1 : Int32)) = nm (217 + u) := by decide
theorem wv1_p : ((0 : Int64) * (27 : Int64)) + Int32.toInt64 ((nI 112 - (97 : Int32)) + (1 : Int32)) = nm 16 := by decide
theorem nm_u {t : Nat → Int32} {s u : Nat} (h : pc t s [117, 97 + u]) (hu : u < 5) : wv t s 2 = nm (568 + u) := by
  show ((((0 : Int64) * (27 : Int64)) + Int32.toInt64 ((t (s + 0) - (97 : Int32)) + (1 : Int32))) * (27 : Int64)) + Int32.toInt64 ((t (s + 1) - (97 : Int32)) + (1 : Int32)) = _
  rw [h 0 117 rfl, h 1 (97 + u) rfl]
  exact wv2_u u hu
theorem nm_h {t : Nat → Int32} {s u : Nat} (h : pc t s [104, 97 + u]) (hu : u < 5) : wv t s 2 = nm (217 + u) := by
  show ((((0 : Int64) * (27 : Int64)) + Int32.toInt64 ((t (s + 0) - (97 : Int32)) + (1 : Int32))) * (27 : Int64)) + Int32.toInt64 ((t (s + 1) - (97 : Int32)) + (1 : Int32)) = _
  rw [h 0 104 rfl, h 1 (97 + u) rfl]
  exact wv2_h u hu
theorem nm_p {t : Nat → Int32} {s : Nat} (h : pc t s [112]) : wv t s 1 = nm 16 := by
  show ((0 : Int64) * (27 : Int64)) + Int32.toInt64 ((t (s + 0) - (97 : Int32)) + (1 : Int32)) = _
  rw [h 0 112 rfl]
  exact wv1_p
/-- what is read so far, as far as the reader asks for it -/
def iv (Q n : Nat) (t : Nat → Int32) (A : zMt) (N : zNt) (U H G : Nat) : Prop := tx Q n t A ∧ U ≤ 5 ∧ H ≤ 5 ∧ G ≤ 1 ∧ A (Q + 1) 0 = nI U ∧ A (Q + 1) 1 = nI H ∧ A (Q + 1) 2 = nI G ∧ (∀ u, u < U → N (Q + 10) u = nm (568 + u)) ∧ (∀ h, h < H → N (Q + 11) h = nm (217 + h)) ∧ (∀ g, g < G → N (Q + 12) g = nm 16)
theorem iv.k {Q n U H G : Nat} {t : Nat → Int32} {A A' : zMt} {N N' : zNt} (w : iv Q n t A N U H G) (a : kA Q A A') (b : kNA Q N N') : iv Q n t A' N' U H G := by
  obtain ⟨w0, w1, w2, w3, w4, w5, w6, w7, w8, w9⟩ := w
  exact ⟨w0.k a, w1, w2, w3, (a _ _ (by omega) (by omega)).trans w4, (a _ _ (by omega) (by omega)).trans w5, (a _ _ (by omega) (by omega)).trans w6, fun u hu => (b _ _ (by omega)).trans (w7 u hu), fun u hu => (b _ _ (by omega)).trans (w8 u hu), fun u hu => (b _ _ (by omega)).trans (w9 u hu)⟩
theorem k_findL {Qr nQ c : Nat} {N : zNt} {w : Int64} (hQ : c ≤ nQ) (hQ2 : nQ < 1000) : ∀ (u i : Nat), i ≤ c → c - i < u → (∀ i', i' < i → ¬ N Qr i' = w) → ∃ r, D_X3_find_3 Qr nQ N u (nI c) w (nI i) = some r ∧ cFind Qr N c w r := by
  intro u
  induction u with
  | zero => intro i _ h; omega
  | succ u ih =>
    intro i hi hu hp
    rw [D_X3_find_3]
    by_cases hc : c ≤ i
    · rw [if_pos ((nI_leI (by omega) (by omega)).mpr hc)]
      exact ⟨_, rfl, Or.inl ⟨rfl, fun i' h => hp i' (by omega)⟩⟩
    · have hne : ¬ nI c ≤ nI i := fun q => hc ((nI_leI (by omega) (by omega)).mp q)
      rw [if_neg hne, zrd_nI (by omega) (by omega), nI_add1]
      by_cases q : N Qr i = w
      · rw [if_pos ((lg_cmp_eq _ _).mpr q)]
        exact ⟨_, rfl, Or.inr ⟨i, by omega, rfl, q⟩⟩
      · rw [if_neg (fun z => q ((lg_cmp_eq _ _).mp z))]
        exact ih (i + 1) (by omega) (by omega) (fun i' h => by
          by_cases z : i' = i
          · subst z; exact q
          · exact hp i' (by omega))
theorem k_find {Qr nQ c : Nat} {N : zNt} {w : Int64} (hQ : c ≤ nQ) (hQ2 : nQ < 1000) : ∃ r, D_X3_find Qr nQ N (nI c) w = some r ∧ cFind Qr N c w r := k_findL hQ hQ2 zFu 0 (Nat.zero_le c) (by unfold zFu; omega) (fun i' h => by omega)
/-- not among them -/
theorem k_find0 {Qr nQ c : Nat} {N : zNt} {w : Int64} (hQ : c ≤ nQ) (hQ2 : nQ < 1000) (h : ∀ i, i < c → ¬ N Qr i = w) : D_X3_find Qr nQ N (nI c) w = some (-1) := by
  obtain ⟨r, e, q⟩ := k_find (Qr := Qr) (N := N) (w := w) hQ hQ2
  rcases q with ⟨q, -⟩ | ⟨i, hi, -, q⟩
  · rw [e, q]
  · exact absurd q (h i hi)
/-- the i-th of them -/
theorem k_find1 {Qr nQ c i : Nat} {N : zNt} {w : Int64} (hQ : c ≤ nQ) (hQ2 : nQ < 1000) (hi : i < c) (h : N Qr i = w) (g : ∀ j, j < c → N Qr j = w → j = i) : D_X3_find Qr nQ N (nI c) w = some (nI i) := by
  obtain ⟨r, e, q⟩ := k_find (Qr := Qr) (N := N) (w := w) hQ hQ2
  rcases q with ⟨-, q⟩ | ⟨j, hj, q1, q⟩
  · exact absurd h (q i hi)
  · rw [e, q1, g j hj q]
theorem k_taken {Q n U H G v : Nat} {t : Nat → Int32} {A : zMt} {N : zNt} (w : iv Q n t A N U H G) (hv : v < 1000) (h1 : ∀ u, u < U → ¬ 568 + u = v) (h2 : ∀ h, h < H → ¬ 217 + h = v) (h3 : 0 < G → ¬ 16 = v) : D_X3_isTaken Q A N (nm v) = some 0 := by
  obtain ⟨w0, w1, w2, w3, w4, w5, w6, w7, w8, w9⟩ := w
  unfold D_X3_isTaken
  rw [w4, w5, w6, zB_s (k_find0 w1 (by omega) (fun i hi q => h1 i hi (nm_inj (by omega) (by omega) ((w7 i hi).symm.trans q)))), if_pos rfl, zB_s (k_find0 (by omega) (by omega) (fun i hi q => h2 i hi (nm_inj (by omega) (by omega) ((w8 i hi).symm.trans q)))), if_pos rfl, zB_s (k_find0 (by omega) (by omega) (fun i hi q => h3 (by omega) (nm_inj (by omega) (by omega) ((w9 i hi).symm.trans q)))), if_pos rfl]
  rfl
/-- a step behind a token that ends at x, the next begins at y -/
theorem k_go {Q n x y U H G : Nat} {t : Nat → Int32} {A : zMt} {N : zNt} (w : iv Q n t A N U H G) (h5 : A Q 5 = nI x) (hx : x ≤ n) (hy : rn isB t n x = y) : ∃ a, D_X3_step Q A N = some a ∧ iv Q n t a.1 a.2 U H G ∧ fq Q A a.1 ∧ fqn Q N a.2 ∧ kG Q n y t a.1 a.2 ∧ (a.1 Q 9 = A Q 9 ∨ a.1 Q 6 = 2 ∨ a.1 Q 6 = 4) := by
  obtain ⟨a, e, g1, g2, g3, g4⟩ := k_step (N := N) w.1 h5 hx
  exact ⟨a, e, w.k g1.kA g2.kNA, g1, g2, hy ▸ g3, g4⟩
theorem rnB1 {t : Nat → Int32} {n x c : Nat} (hx : x < n) (h : t x = nI 32) (hc : c < 128) (h1 : t (x + 1) = nI c) (g : ¬ (c = 10 ∨ c = 32)) : rn isB t n x = x + 1 := rn_run 1 x (by omega) (fun i hi => by
  have : i = 0 := by omega
  subst this
  show isB (t x) = true
  rw [h]; decide) (fun q => by
  have := q.2
  rw [h1, isB_c c hc, decide_eq_true_eq] at this
  exact g this)
theorem rnB0 {t : Nat → Int32} {n x c : Nat} (hc : c < 128) (h1 : x < n → t x = nI c) (g : ¬ (c = 10 ∨ c = 32)) : rn isB t n x = x := rn_stop (fun q => by
  have := q.2
  rw [h1 q.1, isB_c c hc, decide_eq_true_eq] at this
  exact g this)
/-- a new name -/
theorem k_newName {Q n U H G s k y v : Nat} {t : Nat → Int32} {A : zMt} {N : zNt} {wd : List Nat} (w : iv Q n t A N U H G) (hG : kG Q n s t A N) (hk1 : 1 ≤ k) (hk : k < 3) (hl : wd.length = k) (hp : pc t s wd) (hc : ∀ i, i < k → isL (t (s + i)) = true) (hn : s + k ≤ n) (st : ¬ (s + k < n ∧ isL (t (s + k)) = true)) (hy : rn isB t n (s + k) = y) (hv : wv t s k = nm v) (hv2 : v < 1000) (h1 : ∀ u, u < U → ¬ 568 + u = v) (h2 : ∀ h, h < H → ¬ 217 + h = v) (h3 : 0 < G → ¬ 16 = v) : ∃ a, D_X3_readNewName Q A N = some a ∧ a.1 = 1 ∧ iv Q n t a.2.1 a.2.2 U H G ∧ fq Q A a.2.1 ∧ a.2.2 Q 10 = nm v ∧ kG Q n y t a.2.1 a.2.2 := by
  obtain ⟨h6, h7, h5, h8⟩ := hG.word hk1 (by omega) hn hc st
  unfold D_X3_readNewName
  rw [zB_s (k_isName hl w.1 h6 h7 h5 hn hp hk), if_neg (by decide), h8, hv, zB_s (k_taken w hv2 h1 h2 h3), if_pos rfl, zLt_eq]
  have kN : kNA Q N (zu N Q 10 (nm v)) := fun r j h => zu_ne (by omega)
  obtain ⟨a, e, g1, g2, g3, g4, -⟩ := k_go (N := zu N Q 10 (nm v)) (w.k kA.rf kN) h5 hn hy
  rw [zB_s e]
  exact ⟨_, rfl, rfl, g1, g2, (g3 _ _ (by omega)).trans zu_eq, g4⟩
/-- a number -/
theorem k_number {Q n U H G x y : Nat} {m : Int32} {t : Nat → Int32} {A : zMt} {N : zNt} (w : iv Q n t A N U H G) (h6 : A Q 6 = 2) (h5 : A Q 5 = nI x) (hm : A Q 9 ≤ m) (hx : x ≤ n) (hy : rn isB t n x = y) : ∃ a, D_X3_numberUpTo Q m A N = some a ∧ a.1 = 1 ∧ iv Q n t a.2.1 a.2.2 U H G ∧ fq Q A a.2.1 ∧ fqn Q N a.2.2 ∧ kG Q n y t a.2.1 a.2.2 := by
  unfold D_X3_numberUpTo
  rw [if_pos h6, if_pos hm]
  obtain ⟨a, e, g1, g2, g3, g4, -⟩ := k_go (N := N) w h5 hx hy
  rw [zB_s e]
  exact ⟨_, rfl, rfl, g1, g2, g3, g4⟩
/-- the end of a line -/
theorem k_endl {Q n U H G s : Nat} {t : Nat → Int32} {A : zMt} {N : zNt} (w : iv Q n t A N U H G) (hG : kG Q n s t A N) (hn : s < n) (e : t s = nI 59) : ∃ a, D_X3_endOfLine Q A N = some a ∧ a.1 = 1 ∧ iv Q n t a.2.1 a.2.2 U H G ∧ fq Q A a.2.1 ∧ fqn Q N a.2.2 ∧ kG Q n (rn isB t n (s + 1)) t a.2.1 a.2.2 := by
  obtain ⟨h6, h5⟩ := hG.semi hn e
  unfold D_X3_endOfLine
  rw [if_pos h6]
  obtain ⟨a, e, g1, g2, g3, g4, -⟩ := k_go (N := N) w h5 (by omega) rfl
  rw [zB_s e]
  exact ⟨_, rfl, rfl, g1, g2, g3, g4⟩

