/-! THE TOKEN that both stand at -/
def cdg (t : Nat → Int32) (s : Nat) : Nat → Int := fun i => (t (s + i)).toInt - 96
theorem cdg_dgs {t : Nat → Int32} {s k : Nat} (h : ∀ i, i < k → isL (t (s + i)) = true) : dgs (cdg t s) k := fun i hi => by
  have := isL_iff.mp (h i hi)
  unfold cdg
  omega
theorem wv_eC {t : Nat → Int32} {s : Nat} : ∀ {k : Nat}, k ≤ 8 → (∀ i, i < k → isL (t (s + i)) = true) → (wv t s k).toInt = eC 27 (cdg t s) k
  | 0, _, _ => by show (0 : Int64).toInt = 0; decide
  | k + 1, hk, h => by
    have ih := wv_eC (t := t) (s := s) (k := k) (by omega) (fun i hi => h i (by omega))
    have hd := cdg_dgs (t := t) (s := s) (k := k) (fun i hi => h i (by omega))
    have h1 := eC_pos (Or.inl rfl) hd
    have h2 := eC_lt8 (Or.inl rfl) hd (by omega)
    have h3 := isL_iff.mp (h k (by omega))
    show ((wv t s k * (27 : Int64)) + (Int32.toInt64 ((t (s + k) - (97 : Int32)) + (1 : Int32)))).toInt = eC 27 (cdg t s) k * 27 + cdg t s k
    rw [l_27 (by omega) (by omega) h3.1 h3.2, ih]
    rfl
theorem xv_eC {t : Nat → Int32} {s : Nat} : ∀ {k : Nat}, k ≤ 8 → (∀ i, i < k → isL (t (s + i)) = true) → (xv t s k).toInt = eC 32 (cdg t s) k
  | 0, _, _ => by show (0 : Int64).toInt = 0; decide
  | k + 1, hk, h => by
    have ih := xv_eC (t := t) (s := s) (k := k) (by omega) (fun i hi => h i (by omega))
    have hd := cdg_dgs (t := t) (s := s) (k := k) (fun i hi => h i (by omega))
    have h1 := eC_pos (Or.inr rfl) hd
    have h2 := eC_lt8 (Or.inr rfl) hd (by omega)
    have h3 := isL_iff.mp (h k (by omega))
    show (if k < 8 then ((xv t s k <<< (Int32.toInt64 (5 : Int32) &&& 63)) ||| ((Int32.toInt64 (t (s + k))) - (96 : Int64))) else xv t s k).toInt = eC 32 (cdg t s) k * 32 + cdg t s k
    rw [if_pos (by omega), l_32 (by omega) (by omega) h3.1 h3.2, ih]
    rfl
theorem n_ring {v c : Int32} : (v * (10 : Int32)) + (c - (48 : Int32)) = (((10 : Int32) * v) + c) - (48 : Int32) := by
  rw [Int32.mul_comm, Int32.sub_eq_add_neg, Int32.sub_eq_add_neg, Int32.add_assoc]
theorem nv_yv {t : Nat → Int32} {s : Nat} : ∀ {k : Nat}, k ≤ 3 → nv t s k = yv t s k
  | 0, _ => rfl
  | k + 1, hk => by
    show (nv t s k * (10 : Int32)) + (t (s + k) - (48 : Int32)) = if k < 3 then _ else _
    rw [if_pos (by omega), nv_yv (by omega), n_ring]
def p10 : Nat → Int
  | 0 => 1
  | k + 1 => p10 k * 10
theorem p10_le : ∀ k, k ≤ 3 → p10 k ≤ 1000 := by decide
theorem nv_le {t : Nat → Int32} {s : Nat} : ∀ {k : Nat}, k ≤ 3 → (∀ i, i < k → isD (t (s + i)) = true) → 0 ≤ (nv t s k).toInt ∧ (nv t s k).toInt < p10 k
  | 0, _, _ => ⟨by show 0 ≤ (0 : Int32).toInt; decide, by show (0 : Int32).toInt < 1; decide⟩
  | k + 1, hk, h => by
    have ih := nv_le (t := t) (s := s) (k := k) (by omega) (fun i hi => h i (by omega))
    have h3 := isD_iff.mp (h k (by omega))
    have h4 := p10_le k (by omega)
    have o48 : (48 : Int32).toInt = 48 := by decide
    have o10 : (10 : Int32).toInt = 10 := by decide
    have e1 : (t (s + k) - (48 : Int32)).toInt = (t (s + k)).toInt - 48 := by rw [z_sub (by omega) (by omega), o48]
    have e2 : (nv t s k * (10 : Int32)).toInt = (nv t s k).toInt * 10 := by rw [z_mul (by rw [o10]; omega) (by rw [o10]; omega), o10]
    show 0 ≤ ((nv t s k * (10 : Int32)) + (t (s + k) - (48 : Int32))).toInt ∧ ((nv t s k * (10 : Int32)) + (t (s + k) - (48 : Int32))).toInt < p10 k * 10
    rw [z_add (by omega) (by omega), e1, e2]
    omega
/-! which of the words that are no names -/
def say (t : Nat → Int32) (s k j : Nat) : Prop := k = zLen.getD j 0 ∧ ∀ i, i < k → t (s + i) = zCh j i
def cdw (j : Nat) : Nat → Int := fun i => (zCh j i).toInt - 96
theorem cdw_dgs : ∀ j, j < 11 → ∀ i, i < zLen.getD j 0 → 1 ≤ cdw j i ∧ cdw j i ≤ 26 := by decide +kernel
theorem say_eC {t : Nat → Int32} {s k j : Nat} (hd : dgs (cdg t s) k) (hj : j < 11) : say t s k j ↔ eC 32 (cdg t s) k = eC 32 (cdw j) (zLen.getD j 0) := by
  rw [eC_eq (Or.inr rfl) hd (cdw_dgs j hj)]
  unfold say
  constructor
  · rintro ⟨h1, h2⟩
    exact ⟨h1, fun i hi => by unfold cdg cdw; rw [h2 i hi]⟩
  · rintro ⟨h1, h2⟩
    refine ⟨h1, fun i hi => Int32.toInt_inj.mp ?_⟩
    have := h2 i hi
    unfold cdg cdw at this
    omega
/-! the reference's lists of words, walked -/
def itv (w : Nat) : Nat → Int64
  | 0 => 0
  | i + 1 => if zCh w i = 32 then 0 else ((itv w i <<< (Int32.toInt64 (5 : Int32) &&& 63)) ||| ((Int32.toInt64 (zCh w i)) - (96 : Int64)))
def spw (w : Nat) : Nat → Nat
  | 0 => 0
  | i + 1 => spw w i + (if zCh w i = 32 then 1 else 0)
theorem m_amongL {P w : Nat} {N : zNt} (hw : zLen.getD w 0 < 1000) : ∀ (u i : Nat), i ≤ zLen.getD w 0 → zLen.getD w 0 - i < u → ∃ r, D_X8_among_7 P w N u (nI (spw w i)) (itv w i) (nI i) = some r ∧ ((∃ i', i ≤ i' ∧ i' < zLen.getD w 0 ∧ zCh w i' = 32 ∧ itv w i' = N P 24 ∧ r = nI (spw w i')) ∨ (r = -1 ∧ ∀ i', i ≤ i' → i' < zLen.getD w 0 → zCh w i' = 32 → ¬ itv w i' = N P 24)) := by
  intro u
  induction u with
  | zero => intro i _ h; omega
  | succ u ih =>
    intro i hi hu
    rw [D_X8_among_7, show Int32.ofNat (zLen.getD w 0) = nI (zLen.getD w 0) from rfl]
    by_cases hc : zLen.getD w 0 ≤ i
    · rw [if_pos ((nI_leI (by omega) (by omega)).mpr hc)]
      exact ⟨_, rfl, Or.inr ⟨rfl, fun i' h1 h2 => by omega⟩⟩
    · rw [if_neg (fun q => hc ((nI_leI (by omega) (by omega)).mp q))]
      unfold zI
      rw [if_neg (vp_in_nI (by omega) (by omega)), nI_clamp (by omega)]
      by_cases h32 : zCh w i = 32
      · have e1 : spw w (i + 1) = spw w i + 1 := by show spw w i + _ = _; rw [if_pos h32]
        have e2 : itv w (i + 1) = 0 := if_pos h32
        rw [if_pos h32]
        by_cases hq : itv w i = N P 24
        · rw [if_pos ((lg_cmp_eq _ _).mpr hq)]
          exact ⟨_, rfl, Or.inl ⟨i, Nat.le_refl i, by omega, h32, hq, rfl⟩⟩
        · rw [if_neg (fun z => hq ((lg_cmp_eq _ _).mp z))]
          show ∃ r, D_X8_among_7 P w N u (nI (spw w i) + 1) (0 : Int64) (nI i + 1) = some r ∧ _
          obtain ⟨r, h1, h2⟩ := ih (i + 1) (by omega) (by omega)
          rw [e1, e2] at h1
          rw [nI_add1, nI_add1]
          refine ⟨r, h1, ?_⟩
          rcases h2 with ⟨i', g1, g2, g3, g4, g5⟩ | ⟨g1, g2⟩
          · exact Or.inl ⟨i', by omega, g2, g3, g4, g5⟩
          · refine Or.inr ⟨g1, fun i' h3 h4 h5 => ?_⟩
            by_cases z : i' = i
            · subst z; exact hq
            · exact g2 i' (by omega) h4 h5
      · have e1 : spw w (i + 1) = spw w i := by show spw w i + _ = _; rw [if_neg h32, Nat.add_zero]
        have e2 : itv w (i + 1) = ((itv w i <<< (Int32.toInt64 (5 : Int32) &&& 63)) ||| ((Int32.toInt64 (zCh w i)) - (96 : Int64))) := if_neg h32
        rw [if_neg h32]
        show ∃ r, D_X8_among_7 P w N u (nI (spw w i)) ((itv w i <<< (Int32.toInt64 (5 : Int32) &&& 63)) ||| ((Int32.toInt64 (zCh w i)) - (96 : Int64))) (nI i + 1) = some r ∧ _
        obtain ⟨r, h1, h2⟩ := ih (i + 1) (by omega) (by omega)
        rw [e1, e2] at h1
        rw [nI_add1]
        refine ⟨r, h1, ?_⟩
        rcases h2 with ⟨i', g1, g2, g3, g4, g5⟩ | ⟨g1, g2⟩
        · exact Or.inl ⟨i', by omega, g2, g3, g4, g5⟩
        · refine Or.inr ⟨g1, fun i' h3 h4 h5 => ?_⟩
          by_cases z : i' = i
          · subst z; exact absurd h5 h32
          · exact g2 i' (by omega) h4 h5
/-- the words of a list, and where their blanks stand -/
def wls (w : Nat) : List Nat := if w = 11 then [0, 1, 2, 3, 4, 5, 6, 7] else [10, 8, 9]
def wps (w : Nat) : List Nat := if w = 11 then [4, 11, 17, 23, 28, 32, 39, 46] else [5, 10, 17]
theorem w_t1 : ∀ w, (w = 11 ∨ w = 12) → ∀ i, i < zLen.getD w 0 → zCh w i = 32 → ∃ m, m < (wls w).length ∧ i = (wps w).getD m 0 := by
  rintro w (rfl | rfl) <;> decide +kernel
theorem w_t2 : ∀ w, (w = 11 ∨ w = 12) → ∀ m, m < (wls w).length → (wps w).getD m 0 < zLen.getD w 0 ∧ zCh w ((wps w).getD m 0) = 32 ∧ spw w ((wps w).getD m 0) = m ∧ (itv w ((wps w).getD m 0)).toInt = eC 32 (cdw ((wls w).getD m 0)) (zLen.getD ((wls w).getD m 0) 0) ∧ (wls w).getD m 0 < 11 := by
  rintro w (rfl | rfl) <;> decide +kernel
theorem w_t3 : ∀ w, (w = 11 ∨ w = 12) → zLen.getD w 0 < 1000 := by
  rintro w (rfl | rfl) <;> decide
theorem m_among {P w s k : Nat} {t : Nat → Int32} {N : zNt} (hw : w = 11 ∨ w = 12) (hd : dgs (cdg t s) k) (he : (N P 24).toInt = eC 32 (cdg t s) k) : ∃ r, D_X8_among P w N = some r ∧ ((∃ m, m < (wls w).length ∧ r = nI m ∧ say t s k ((wls w).getD m 0)) ∨ (r = -1 ∧ ∀ m, m < (wls w).length → ¬ say t s k ((wls w).getD m 0))) := by
  obtain ⟨r, h1, h2⟩ := m_amongL (P := P) (N := N) (w_t3 w hw) zFu 0 (by omega) (by have := w_t3 w hw; unfold zFu; omega)
  refine ⟨r, h1, ?_⟩
  rcases h2 with ⟨i', -, g2, g3, g4, g5⟩ | ⟨g1, g2⟩
  · obtain ⟨m, hm, e⟩ := w_t1 w hw i' g2 g3
    obtain ⟨q1, q2, q3, q4, q5⟩ := w_t2 w hw m hm
    refine Or.inl ⟨m, hm, by rw [g5, e, q3], (say_eC hd q5).mpr ?_⟩
    rw [← he, ← g4, e]
    exact q4
  · refine Or.inr ⟨g1, fun m hm hs => ?_⟩
    obtain ⟨q1, q2, q3, q4, q5⟩ := w_t2 w hw m hm
    refine g2 _ (Nat.zero_le _) q1 q2 (Int64.toInt_inj.mp ?_)
    rw [q4, he]
    exact ((say_eC hd q5).mp hs).symm
