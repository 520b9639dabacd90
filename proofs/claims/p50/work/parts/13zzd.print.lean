/-! print and out, both sides -/
def ouR (C P : Nat) (A B : zMt) (m : Nat) : Prop := A C 2 = nI m ∧ B P 64 = nI m ∧ ∀ i, i < m → A (C + 2) i = B (P + 32) i
def oX (C P : Nat) (A B : zMt) : Prop := (A C 2 = -1 ∧ B P 64 = 0) ∨ ∃ m, m ≤ 50 ∧ ouR C P A B m
theorem ouR.k {C P m : Nat} {A A' B B' : zMt} (h : ouR C P A B m) (a : ∀ i j, ((i = C ∧ j = 2) ∨ i = C + 2) → A' i j = A i j) (b : ∀ i j, ((i = P ∧ j = 64) ∨ i = P + 32) → B' i j = B i j) : ouR C P A' B' m :=
  ⟨(a _ _ (by omega)).trans h.1, (b _ _ (by omega)).trans h.2.1, fun i hi => (a _ _ (by omega)).trans ((h.2.2 i hi).trans (b _ _ (by omega)).symm)⟩
theorem oX.k {C P : Nat} {A A' B B' : zMt} (h : oX C P A B) (a : ∀ i j, ((i = C ∧ j = 2) ∨ i = C + 2) → A' i j = A i j) (b : ∀ i j, ((i = P ∧ j = 64) ∨ i = P + 32) → B' i j = B i j) : oX C P A' B' := by
  rcases h with ⟨h1, h2⟩ | ⟨m, h1, h2⟩
  · exact Or.inl ⟨(a _ _ (by omega)).trans h1, (b _ _ (by omega)).trans h2⟩
  · exact Or.inr ⟨m, h1, h2.k a b⟩
theorem t_wrs {C P m : Nat} {A B : zMt} {v : Int32} (h : ouR C P A B m) (hm : m < 50) : ∃ A' B', D_X7_write C v A = some A' ∧ D_X8_prints P v B = some B' ∧ ouR C P A' B' (m + 1) ∧ (∀ i j, ¬ (i = C ∧ j = 2) → ¬ i = C + 2 → A' i j = A i j) ∧ (∀ i j, ¬ (i = P ∧ j = 64) → ¬ i = P + 32 → B' i j = B i j) := by
  obtain ⟨h1, h2, h3⟩ := h
  have ea : D_X7_write C v A = some (zu (zu A (C + 2) m v) C 2 (nI (m + 1))) := by
    unfold D_X7_write
    rw [h1, zwr_nI hm (by decide), zLt_eq, zLt_eq, zu_ne (show ¬ (C = C + 2 ∧ 2 = m) by omega), h1, nI_add1]
  have eb : D_X8_prints P v B = some (zu (zu B (P + 32) m v) P 64 (nI (m + 1))) := by
    unfold D_X8_prints zI
    rw [h2, if_neg (vp_in_nI (show m < 64 by omega) (by decide)), nI_clamp (by omega), zLt_eq, zLt_eq, zu_ne (show ¬ (P = P + 32 ∧ 64 = m) by omega), h2, nI_add1]
  refine ⟨_, _, ea, eb, ⟨zu_eq, zu_eq, fun i hi => ?_⟩, fun i j h1 h2 => (zu_ne (by omega)).trans (zu_ne (by omega)), fun i j h1 h2 => (zu_ne (by omega)).trans (zu_ne (by omega))⟩
  refine (zu_ne (by omega)).trans (Eq.trans ?_ (zu_ne (by omega)).symm)
  by_cases q : i = m
  · subst q
    exact zu_eq.trans zu_eq.symm
  · exact (zu_ne (by omega)).trans ((h3 i (by omega)).trans (zu_ne (by omega)).symm)
theorem t_pr32 {C P n U : Nat} {A0 B0 T s : zMt} {N : zNt} {l : Nat → Nat} (h : sdR C P T A0 B0 n U l s) : ∀ (v k m : Nat) (A B : zMt), k ≤ n → n - k < v → m ≤ 5 * k → (∀ i j, ¬ (i = C ∧ j = 2) → ¬ i = C + 2 → A i j = A0 i j) → (∀ i j, ¬ (i = P ∧ j = 64) → ¬ i = P + 32 → B i j = B0 i j) → ouR C P A B m → two (D_X7_print_32 C v (nI k) A) (D_X8_print_25 P v (nI k) B N) (fun a b => a.1 = b.1 ∧ ∃ m, m ≤ 50 ∧ ouR C P a.2 b.2.1 m) := by
  obtain ⟨s1, s2, s3, s4, s5, s6, s7⟩ := h
  have hn10 := s1.1
  intro v
  induction v with
  | zero => intro k m A B _ h; omega
  | succ v ih =>
    intro k m A B hk hv hm kA kB ho
    have e91 : A (C + 91) 1 = nI n := (kA _ _ (by omega) (by omega)).trans ((s2 0 1 (by omega)).trans s1.2.2.1)
    have e33 : B P 33 = nI n := (kB _ _ (by omega) (by omega)).trans s3.1
    rw [D_X7_print_32, D_X8_print_25, e91, e33]
    by_cases hc : n ≤ k
    · have hle : nI n ≤ nI k := (nI_leI (by omega) (by omega)).mpr hc
      rw [if_pos hle, if_pos hle, ho.1, ho.2.1]
      exact two.l (e := (nI m, zu A C 0 (0 : Int32))) rfl (two.r (e := (nI m, zu (zu B P 6 (0 : Int32)) P 12 (0 : Int32))) rfl (two.mk ⟨rfl, m, by omega, ho.k (fun i j h => zu_ne (by omega)) (fun i j h => (zu_ne (by omega)).trans (zu_ne (by omega)))⟩))
    · have hle : ¬ nI n ≤ nI k := fun z => hc ((nI_leI (by omega) (by omega)).mp z)
      obtain ⟨o1, o2, o3⟩ := s4.1 k (by omega)
      have e105 : A (C + 105) k = nI (l k) := (kA _ _ (by omega) (by omega)).trans o2
      have e18 : B (P + 18) k = nI (l k) := (kB _ _ (by omega) (by omega)).trans o3
      rw [if_neg hle, if_neg hle, zrd_nI (show k < 10 by omega) (by decide), e105]
      refine two.ir (vp_in_nI (by omega) (by decide)) ?_
      rw [nI_clamp (show k < 2147483648 by omega), e18]
      obtain ⟨A1, B1, a1, b1, h1, x1, y1⟩ := t_wrs (v := (48 : Int32) + nI (l k)) ho (by omega)
      obtain ⟨A2, B2, a2, b2, h2, x2, y2⟩ := t_wrs (v := (61 : Int32)) h1 (by omega)
      refine two.l a1 (two.l a2 (two.r b1 (two.r b2 ?_)))
      have q1 : A (C + 106) (l k) = s 0 (l k) := (kA _ _ (by omega) (by omega)).trans (s5.1 _ o1).1
      have q2 : B2 (P + 19) (l k) = s 0 (l k) := (y2 _ _ (by omega) (by omega)).trans ((y1 _ _ (by omega) (by omega)).trans ((kB _ _ (by omega) (by omega)).trans (s6.1 _ o1).1))
      have e105' : A2 (C + 105) k = nI (l k) := (x2 _ _ (by omega) (by omega)).trans ((x1 _ _ (by omega) (by omega)).trans e105)
      have last : ∀ (p : Nat) (A3 B3 : zMt), p < 5 * k + 5 → ouR C P A3 B3 p → (∀ i j, ¬ (i = C ∧ j = 2) → ¬ i = C + 2 → A3 i j = A0 i j) → (∀ i j, ¬ (i = P ∧ j = 64) → ¬ i = P + 32 → B3 i j = B0 i j) → two (D_X7_print_123 C (D_X7_print_32 C v) (nI k) A3) (D_X8_print_98 P (D_X8_print_25 P v) (nI k) B3 N) (fun a b => a.1 = b.1 ∧ ∃ m, m ≤ 50 ∧ ouR C P a.2 b.2.1 m) := fun p A3 B3 hp h3 x3 y3 => by
        obtain ⟨A4, B4, a4, b4, h4, x4, y4⟩ := t_wrs (v := (59 : Int32)) h3 (by omega)
        unfold D_X7_print_123 D_X8_print_98
        refine two.l a4 (two.r b4 ?_)
        rw [nI_add1]
        exact ih (k + 1) (p + 1) A4 B4 (by omega) (by omega) (by omega) (fun i j z1 z2 => (x4 i j z1 z2).trans (x3 i j z1 z2)) (fun i j z1 z2 => (y4 i j z1 z2).trans (y3 i j z1 z2)) h4
      have mid : ∀ c : Int32, two (D_X7_print_99 C (D_X7_print_32 C v) (nI k) (nI (l k)) c A2) (D_X8_print_79 P (D_X8_print_25 P v) (nI k) (nI (l k)) c B2 N) (fun a b => a.1 = b.1 ∧ ∃ m, m ≤ 50 ∧ ouR C P a.2 b.2.1 m) := fun c => by
        obtain ⟨A3, B3, a3, b3, h3, x3, y3⟩ := t_wrs (v := c) h2 (by omega)
        have X3 : ∀ i j, ¬ (i = C ∧ j = 2) → ¬ i = C + 2 → A3 i j = A0 i j := fun i j z1 z2 => (x3 i j z1 z2).trans ((x2 i j z1 z2).trans ((x1 i j z1 z2).trans (kA i j z1 z2)))
        have Y3 : ∀ i j, ¬ (i = P ∧ j = 64) → ¬ i = P + 32 → B3 i j = B0 i j := fun i j z1 z2 => (y3 i j z1 z2).trans ((y2 i j z1 z2).trans ((y1 i j z1 z2).trans (kB i j z1 z2)))
        have q3 : A3 (C + 107) (l k) = s 1 (l k) := (X3 _ _ (by omega) (by omega)).trans (s5.1 _ o1).2
        have q4 : B3 (P + 20) (l k) = s 1 (l k) := (Y3 _ _ (by omega) (by omega)).trans (s6.1 _ o1).2
        unfold D_X7_print_99 D_X8_print_79
        refine two.l a3 (two.r b3 ?_)
        rw [zrd_nI (show l k < 10 by omega) (by decide), q3]
        refine two.ir (vp_in_nI (by omega) (by decide)) ?_
        rw [nI_clamp (by omega), q4]
        refine two.ite Iff.rfl (fun _ => ?_) (fun _ => last (m + 1 + 1 + 1) A3 B3 (by omega) h3 X3 Y3)
        obtain ⟨A4, B4, a4, b4, h4, x4, y4⟩ := t_wrs (v := (33 : Int32)) h3 (by omega)
        exact two.l a4 (two.r b4 (last (m + 1 + 1 + 1 + 1) A4 B4 (by omega) h4 (fun i j z1 z2 => (x4 i j z1 z2).trans (X3 i j z1 z2)) (fun i j z1 z2 => (y4 i j z1 z2).trans (Y3 i j z1 z2))))
      rw [zrd_nI (show l k < 10 by omega) (by decide), q1]
      refine two.ir (vp_in_nI (by omega) (by decide)) ?_
      rw [nI_clamp (show l k < 2147483648 by omega), q2]
      exact two.ite Iff.rfl (fun _ => mid _) (fun _ => two.ir (vp_in_nI (by omega) (by decide)) (mid _))
theorem t_printO {C P : Nat} {A B : zMt} {N : zNt} {v0 : Int32} (w0 : eqE C P A B) (_hJ : jJ P B) : two (D_X7_print C v0 A) (D_X8_print P v0 B N) (fun a b => a.1 = b.1 ∧ (oX C P A B → oX C P a.2 b.2.1)) := by
  obtain ⟨r, g, U, H, G, K, w⟩ := w0
  unfold D_X7_print D_X8_print
  rcases t_isS (v := v0) with ⟨e1, e2, hs, hs2⟩ | ⟨e1, e2⟩
  · rw [zB_s e1, zB_s e2, if_neg n10, if_neg n10]
    refine two.bind (t_seed w hs) (fun A' b hb => ?_)
    obtain ⟨n, l, hm, h3, hd, k1, k2⟩ := hb
    refine two.letl (two.letr ?_)
    have hn10 := hd.1.1
    have := t_pr32 (N := b.2) hd zFu 0 0 (zu A' C 2 (0 : Int32)) (zu b.1 P 64 (0 : Int32)) (by omega) (by unfold zFu; omega) (by omega) (fun i j h1 h2 => zu_ne h1) (fun i j h1 h2 => zu_ne h1) ⟨zu_eq, zu_eq, fun i hi => by omega⟩
    rw [show nI 0 = (0 : Int32) by decide] at this
    exact this.imp (fun a b h => ⟨h.1, fun _ => Or.inr h.2⟩)
  · rw [zB_s e1, zB_s e2, if_pos rfl, if_pos rfl]
    exact two.l (e := ((-1 : Int32), zu A C 0 1)) rfl (two.r (e := ((-1 : Int32), zu (zu B P 6 (0 : Int32)) P 12 1)) rfl (two.mk ⟨rfl, fun h => h.k (fun i j h => zu_ne (by omega)) (fun i j h => (zu_ne (by omega)).trans (zu_ne (by omega)))⟩))
theorem t_print {C P : Nat} {A B : zMt} {N : zNt} {v0 : Int32} (w0 : eqE C P A B) (hJ : jJ P B) : two (D_X7_print C v0 A) (D_X8_print P v0 B N) (fun a b => a.1 = b.1) := (t_printO w0 hJ).imp (fun _ _ h => h.1)
theorem t_out {C P : Nat} {A B : zMt} {v0 : Int32} (w0 : oX C P A B) : two (D_X7_out C v0 A) (D_X8_out P v0 B) (fun a b => a.1 = b.1) := by
  unfold D_X7_out D_X8_out
  refine two.ite Iff.rfl (fun hge => ?_) (fun _ => t_rfs)
  have hge2 := Int32.le_iff_toInt_le.mp hge
  rw [show (0 : Int32).toInt = 0 by decide] at hge2
  rcases w0 with ⟨h1, h2⟩ | ⟨m, hm, h1, h2, h3⟩
  · rw [h1, h2, if_neg (fun z => by
      have := Int32.lt_iff_toInt_lt.mp z
      rw [z_m1] at this
      omega), if_pos hge]
    exact t_rfs
  · have hk : v0 = nI v0.toInt.toNat := z_toN hge2
    have hlt := Int32.toInt_lt v0
    have hkk : v0.toInt.toNat < 2147483648 := by omega
    generalize v0.toInt.toNat = k at hk hkk
    subst hk
    rw [h1, h2]
    by_cases q : k < m
    · rw [if_pos (by exact (nI_ltI (by omega) (by omega)).mpr q), if_neg (by intro z; exact absurd ((nI_leI (by omega) (by omega)).mp z) (by omega)), zrd_nI (show k < 50 by omega) (by decide), h3 k q]
      refine two.ir (vp_in_nI (by omega) (by decide)) ?_
      rw [nI_clamp (by omega)]
      exact t_ans rfl
    · rw [if_neg (by intro z; exact q ((nI_ltI (by omega) (by omega)).mp z)), if_pos (by exact (nI_leI (by omega) (by omega)).mpr (by omega))]
      exact t_rfs
