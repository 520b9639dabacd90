/-! load -/
def jW164 (P a j : Nat) : Prop := a = P + 5 ∨ (a = P ∧ (j = 6 ∨ j = 7 ∨ j = 8 ∨ j = 9 ∨ j = 12))
theorem w_load164 {P : Nat} {N : zNt} : ∀ (u k : Nat) (M : zMt), k ≤ 10 → 10 - k < u → ∃ r, D_X8_load_164 P u (nI k) M N = some r ∧ ((∀ a j, ¬ jW164 P a j → r.2.1 a j = M a j) ∧ r.2.2 = N ∧ r.2.1 P 7 = M P 28 ∧ r.2.1 P 8 = M P 29 ∧ r.2.1 P 9 = 0) := by
  intro u
  induction u with
  | zero => intro k M _ h; omega
  | succ u ih =>
    intro k M hk hu
    rw [D_X8_load_164]
    refine vIf (fun hc => ?_) (fun hc => ?_)
    · refine vLm (W := fun a j => a = P ∧ j = 7) (M0 := M) (fun a j (h : ¬ (a = P ∧ j = 7)) => zu_ne h) (fun M1 f1 k1 => ?_)
      refine vLm (W := fun a j => a = P ∧ j = 8) (M0 := M1) (fun a j (h : ¬ (a = P ∧ j = 8)) => zu_ne h) (fun M2 f2 k2 => ?_)
      refine vLm (W := fun a j => a = P ∧ j = 9) (M0 := M2) (fun a j (h : ¬ (a = P ∧ j = 9)) => zu_ne h) (fun M3 f3 k3 => ?_)
      have k1 : ∀ a j, ¬ (a = P ∧ j = 7) → M1 a j = M a j := k1
      have k2 : ∀ a j, ¬ (a = P ∧ j = 8) → M2 a j = M1 a j := k2
      have k3 : ∀ a j, ¬ (a = P ∧ j = 9) → M3 a j = M2 a j := k3
      refine vB v_X8_gives (fun e f q => ?_)
      have k4 : ∀ a j, ¬ (a = P ∧ (j = 6 ∨ j = 12)) → e.2 a j = M3 a j := q
      refine ⟨_, rfl, fun a j h => ?_, rfl, ?_, ?_, ?_⟩
      · unfold jW164 at h
        exact (k4 a j (by omega)).trans ((k3 a j (by omega)).trans ((k2 a j (by omega)).trans (k1 a j (by omega))))
      · show e.2 P 7 = _
        rw [k4 P 7 (by omega), k3 P 7 (by omega), k2 P 7 (by omega), ← f1, zu_eq]
      · show e.2 P 8 = _
        rw [k4 P 8 (by omega), k3 P 8 (by omega), ← f2, zu_eq, k1 P 29 (by omega)]
      · show e.2 P 9 = _
        rw [k4 P 9 (by omega), ← f3, zu_eq]
    · have hlt : k < 10 := Nat.lt_of_not_le (fun q => hc ((nI_leI (a := 10) (b := k) (by decide) (by omega)).mpr q))
      have T : ∀ y : Int32, ∃ r, D_X8_load_197 P (D_X8_load_164 P u) (nI k) (nI k) y M N = some r ∧ ((∀ a j, ¬ jW164 P a j → r.2.1 a j = M a j) ∧ r.2.2 = N ∧ r.2.1 P 7 = M P 28 ∧ r.2.1 P 8 = M P 29 ∧ r.2.1 P 9 = 0) := by
        intro y
        unfold D_X8_load_197
        refine vI (vp_in_nI hlt (by decide)) ?_
        refine vLm (W := fun a j => a = P + 5) (M0 := M) (fun a j (h : ¬ a = P + 5) => zu_ne (by omega)) (fun M1 f1 k1 => ?_)
        have k1 : ∀ a j, ¬ a = P + 5 → M1 a j = M a j := k1
        rw [nI_1]
        obtain ⟨r, h1, h2, h3, h4, h5, h6⟩ := ih (k + 1) M1 (by omega) (by omega)
        exact ⟨r, h1, fun a j h => (h2 a j h).trans (k1 a j (by unfold jW164 at h; omega)), h3, h4.trans (k1 P 28 (by omega)), h5.trans (k1 P 29 (by omega)), h6⟩
      refine vIf (fun _ => T 0) (fun _ => ?_)
      refine vI (vp_in_nI hlt (by decide)) ?_
      exact vIf (fun _ => T 0) (fun _ => T 1)
def jW138 (P a j : Nat) : Prop := a = P + 1 ∨ jW164 P a j
theorem w_load138 {P : Nat} {N : zNt} : ∀ (u k : Nat) (M : zMt), k ≤ 82 → 82 - k < u → (∀ j, j < k → M (P + 1) j = M (P + 2) j) → ∃ r, D_X8_load_138 P u (nI k) M N = some r ∧ ((∀ a j, ¬ jW138 P a j → r.2.1 a j = M a j) ∧ r.2.2 = N ∧ r.2.1 P 7 = M P 28 ∧ r.2.1 P 8 = M P 29 ∧ r.2.1 P 9 = 0 ∧ ∀ j, j < 82 → r.2.1 (P + 1) j = M (P + 2) j) := by
  intro u
  induction u with
  | zero => intro k M _ h; omega
  | succ u ih =>
    intro k M hk hu hj
    rw [D_X8_load_138]
    refine vIf (fun hc => ?_) (fun hc => ?_)
    · have hk2 : 82 ≤ k := (nI_leI (a := 82) (b := k) (by decide) (by omega)).mp hc
      obtain ⟨r, h1, h2, h3, h4, h5, h6⟩ := w_load164 (P := P) (N := N) zFu 0 M (by omega) (by unfold zFu; omega)
      exact ⟨r, h1, fun a j h => h2 a j (fun z => h (Or.inr z)), h3, h4, h5, h6, fun j hj2 => (h2 (P + 1) j (by unfold jW164; omega)).trans (hj j (by omega))⟩
    · have hlt : k < 82 := Nat.lt_of_not_le (fun q => hc ((nI_leI (a := 82) (b := k) (by decide) (by omega)).mpr q))
      refine vI (vp_in_nI hlt (by decide)) (vI (vp_in_nI hlt (by decide)) ?_)
      rw [nI_clamp (by omega), nI_1]
      refine vLm (W := fun a j => a = P + 1 ∧ j = k) (M0 := M) (fun a j (h : ¬ (a = P + 1 ∧ j = k)) => zu_ne h) (fun M1 f1 k1 => ?_)
      have k1 : ∀ a j, ¬ (a = P + 1 ∧ j = k) → M1 a j = M a j := k1
      obtain ⟨r, h1, h2, h3, h4, h5, h6, h7⟩ := ih (k + 1) M1 (by omega) (by omega) (fun j hj2 => by
        rw [k1 (P + 2) j (by omega)]
        by_cases q : j = k
        · subst q; rw [← f1, zu_eq]
        · rw [k1 (P + 1) j (by omega)]; exact hj j (by omega))
      exact ⟨r, h1, fun a j h => (h2 a j h).trans (k1 a j (by unfold jW138 at h; omega)), h3, h4.trans (k1 P 28 (by omega)), h5.trans (k1 P 29 (by omega)), h6, fun j hj2 => (h7 j hj2).trans (k1 (P + 2) j (by omega))⟩
/-- what is kept between calls -/
def jJ (P : Nat) (M : zMt) : Prop := jB P M ∧ jS P M ∧ jR P M ∧ jK P M ∧ jT P M
theorem jJ.mono {P : Nat} {M M' : zMt} (h : jJ P M) (hf : ∀ a j, (a = P + 1 ∨ a = P + 4 ∨ a = P + 19 ∨ (a = P ∧ (j = 7 ∨ j = 8 ∨ j = 9 ∨ j = 11 ∨ j = 33 ∨ j = 64))) → M' a j = M a j) : jJ P M' :=
  ⟨h.1.mono (fun a j q => hf a j (by omega)), h.2.1.mono (fun a j q => hf a j (by omega)), h.2.2.1.mono (fun a j q => hf a j (by omega)), h.2.2.2.1.mono (fun a j q => hf a j (by omega)), h.2.2.2.2.mono (fun a j q => hf a j (by omega))⟩
def jW98 (P a j : Nat) : Prop := a = P + 2 ∨ (a = P ∧ (j = 13 ∨ j = 14)) ∨ jW138 P a j
theorem w_load98 {P : Nat} {N : zNt} {x2 : Int32} {M : zMt} (hJ : jJ P M) (hY : jY P M) (hZ : jZ P M) : ∃ r, D_X8_load_98 P x2 M N = some r ∧ ((∀ a j, ¬ jW98 P a j → r.2.1 a j = M a j) ∧ r.2.2 = N ∧ jJ P r.2.1) := by
  unfold D_X8_load_98
  refine vLm (W := fun a j => a = P ∧ j = 13) (M0 := M) (fun a j (h : ¬ (a = P ∧ j = 13)) => zu_ne h) (fun M1 f1 k1 => ?_)
  refine vLm (W := fun a j => a = P ∧ j = 14) (M0 := M1) (fun a j (h : ¬ (a = P ∧ j = 14)) => zu_ne h) (fun M2 f2 k2 => ?_)
  have k1 : ∀ a j, ¬ (a = P ∧ j = 13) → M1 a j = M a j := k1
  have k2 : ∀ a j, ¬ (a = P ∧ j = 14) → M2 a j = M1 a j := k2
  have k3 : ∀ a j, ¬ (a = P ∧ (j = 13 ∨ j = 14)) → M2 a j = M a j := fun a j h => (k2 a j (by omega)).trans (k1 a j (by omega))
  refine vIf (fun _ => ?_) (fun _ => ?_)
  · refine vB v_X8_refuse (fun e f q => ?_)
    have k4 : ∀ a j, ¬ (a = P ∧ (j = 6 ∨ j = 12)) → e.2 a j = M2 a j := q
    have k5 : ∀ a j, ¬ (a = P ∧ (j = 6 ∨ j = 12 ∨ j = 13 ∨ j = 14)) → e.2 a j = M a j := fun a j h => (k4 a j (by omega)).trans (k3 a j (by omega))
    exact ⟨_, rfl, fun a j h => k5 a j (by unfold jW98 jW138 jW164 at h; omega), rfl, hJ.mono (fun a j h => k5 a j (by omega))⟩
  · refine vI (by unfold vp_in; decide) ?_
    refine vLm (W := fun a j => a = P + 2 ∧ j = 70) (M0 := M2) (fun a j (h : ¬ (a = P + 2 ∧ j = 70)) => zu_ne (by rw [show (70 : Int32).toNatClampNeg = 70 by decide]; omega)) (fun M3 f3 k4 => ?_)
    have k4 : ∀ a j, ¬ (a = P + 2 ∧ j = 70) → M3 a j = M2 a j := k4
    have f70 : M3 (P + 2) 70 = M P 30 := by
      rw [← f3, show (70 : Int32).toNatClampNeg = 70 by decide, zu_eq, k3 P 30 (by omega)]
    have k5 : ∀ a j, ¬ ((a = P + 2 ∧ j = 70) ∨ (a = P ∧ (j = 13 ∨ j = 14))) → M3 a j = M a j := fun a j h => (k4 a j (by omega)).trans (k3 a j (by omega))
    obtain ⟨r, h1, h2, h3, h4, h5, h6, h7⟩ := w_load138 (P := P) (N := N) zFu 0 M3 (by omega) (by unfold zFu; omega) (fun j hj => by omega)
    rw [show nI 0 = (0 : Int32) by decide] at h1
    have k6 : ∀ a j, ¬ jW98 P a j → r.2.1 a j = M a j := fun a j h => (h2 a j (fun z => h (Or.inr (Or.inr z)))).trans (k5 a j (by unfold jW98 at h; omega))
    refine ⟨r, h1, k6, h3, ?_⟩
    obtain ⟨⟨b1, b2, b3, b4, b5, b6⟩, -, hR, -, ⟨t1, t2, t3, t4, t5, t6⟩⟩ := hJ
    obtain ⟨y1, y2, y3, y4, y5, y6⟩ := hY
    have e7 : r.2.1 P 7 = M P 28 := h4.trans (k5 P 28 (by omega))
    have e8 : r.2.1 P 8 = M P 29 := h5.trans (k5 P 29 (by omega))
    have o0 : (0 : Int32).toInt = 0 := by decide
    refine ⟨⟨by rw [e7]; exact y1, by rw [e7]; exact y2, by rw [e8]; exact y3, by rw [e8]; exact y4, ?_, ?_⟩, ?_, hR.mono (fun a j h => k6 a j (by unfold jW98 jW138 jW164; omega)), ?_, by rw [h6, o0]; omega, by rw [h6, o0]; omega, ?_, ?_, ?_, ?_⟩
    · rw [k6 P 33 (by unfold jW98 jW138 jW164; omega)]; exact b5
    · rw [k6 P 33 (by unfold jW98 jW138 jW164; omega)]; exact b6
    · show jRow _ _ _
      rw [e7, e8]
      refine jRowP.done hZ y4 (fun j h1 h2 => (h7 j h1).trans (k5 (P + 2) j (by omega))) (by rw [h7 70 (by omega), f70]) ⟨y5, y6⟩
    · intro k hk
      rw [h6, o0] at hk
      omega
    · rw [k6 P 11 (by unfold jW98 jW138 jW164; omega)]; exact t3
    · rw [k6 P 11 (by unfold jW98 jW138 jW164; omega)]; exact t4
    · rw [k6 P 64 (by unfold jW98 jW138 jW164; omega)]; exact t5
    · rw [k6 P 64 (by unfold jW98 jW138 jW164; omega)]; exact t6
def jWL (P a j : Nat) : Prop := a = P + 1 ∨ a = P + 2 ∨ a = P + 5 ∨ a = P + 6 ∨ (a = P ∧ j ≤ 31 ∧ ¬ j = 11)
theorem w_load79 {P : Nat} : ∀ (u : Nat) (x2 : Int32) (M : zMt) (N : zNt), jJ P M → jX P M → jY P M → jZ P M → ((1 ≤ u ∧ (x2.toInt = 0 ∨ (M P 18).toInt = 0)) ∨ (M P 15).toInt - (M P 17).toInt + 1 < u) → ∃ r, D_X8_load_79 P u x2 M N = some r ∧ ((∀ a j, ¬ jWL P a j → r.2.1 a j = M a j) ∧ (∀ a j, ¬ ((P + 8 ≤ a ∧ a < P + 11) ∨ a = P) → r.2.2 a j = N a j) ∧ jJ P r.2.1) := by
  intro u
  induction u with
  | zero =>
    intro x2 M N _ hX _ _ h
    obtain ⟨-, -, -, h4⟩ := hX
    omega
  | succ u ih =>
    intro x2 M N hJ hX hY hZ hu
    have o0 : (0 : Int32).toInt = 0 := by decide
    rw [D_X8_load_79]
    have T98 : ∃ r, D_X8_load_98 P x2 M N = some r ∧ ((∀ a j, ¬ jWL P a j → r.2.1 a j = M a j) ∧ (∀ a j, ¬ ((P + 8 ≤ a ∧ a < P + 11) ∨ a = P) → r.2.2 a j = N a j) ∧ jJ P r.2.1) := by
      obtain ⟨r, h1, h2, h3, h4⟩ := w_load98 (N := N) (x2 := x2) hJ hY hZ
      exact ⟨r, h1, fun a j h => h2 a j (by unfold jWL at h; unfold jW98 jW138 jW164; omega), fun a j _ => by rw [h3], h4⟩
    refine vIf (fun _ => T98) (fun hx => vIf (fun _ => T98) (fun h18 => ?_))
    have hx : ¬ x2.toInt = 0 := fun z => hx (Int32.toInt_inj.mp (z.trans o0.symm))
    have h18 : ¬ (M P 18).toInt = 0 := fun z => h18 (Int32.toInt_inj.mp (z.trans o0.symm))
    refine vB (v_X8_readLine hX hY hZ) (fun e f q => ?_)
    obtain ⟨k1, kn1, hr, hX1, hY1, hZ1, hl, hg⟩ := q
    have k1 : ∀ a j, ¬ ((P + 2 ≤ a ∧ a < P + 3) ∨ (P + 6 ≤ a ∧ a < P + 7) ∨ (a = P ∧ (j = 16 ∨ j = 17 ∨ j = 18 ∨ j = 19 ∨ j = 20 ∨ j = 21 ∨ j = 22 ∨ j = 23 ∨ j = 28 ∨ j = 29 ∨ j = 30 ∨ j = 31))) → e.2.1 a j = M a j := k1
    have kn1 : ∀ a j, ¬ ((P + 8 ≤ a ∧ a < P + 11) ∨ (a = P ∧ (j = 24 ∨ j = 32))) → e.2.2 a j = N a j := kn1
    have e15 : (e.2.1 P 15).toInt = (M P 15).toInt := by rw [k1 P 15 (by omega)]
    obtain ⟨-, -, -, x4⟩ := id hX
    obtain ⟨r, h1, h2, h3, h4⟩ := ih e.1 e.2.1 e.2.2 (hJ.mono (fun a j h => k1 a j (by omega))) hX1 hY1 hZ1 (by omega)
    exact ⟨r, h1, fun a j h => (h2 a j h).trans (k1 a j (by unfold jWL at h; omega)), fun a j h => (h3 a j h).trans (kn1 a j (by omega)), h4⟩
def ld9 (P : Nat) (v : Int32) (M : zMt) : zMt := zu (zu (zu (zu (zu (zu (zu (zu (zu M P 15 v) P 11 (0 : Int32)) P 17 (0 : Int32)) P 21 (0 : Int32)) P 22 (-1 : Int32)) P 23 (0 : Int32)) P 28 (0 : Int32)) P 29 (0 : Int32)) P 30 (0 : Int32)
theorem ld9_ne {P : Nat} {v : Int32} {M : zMt} {a j : Nat} (h : ¬ (a = P ∧ (j = 15 ∨ j = 11 ∨ j = 17 ∨ j = 21 ∨ j = 22 ∨ j = 23 ∨ j = 28 ∨ j = 29 ∨ j = 30))) : ld9 P v M a j = M a j := by
  unfold ld9
  rw [zu_ne (by omega), zu_ne (by omega), zu_ne (by omega), zu_ne (by omega), zu_ne (by omega), zu_ne (by omega), zu_ne (by omega), zu_ne (by omega), zu_ne (by omega)]
theorem ld9_15 {P : Nat} {v : Int32} {M : zMt} : ld9 P v M P 15 = v := by
  unfold ld9
  rw [zu_ne (by omega), zu_ne (by omega), zu_ne (by omega), zu_ne (by omega), zu_ne (by omega), zu_ne (by omega), zu_ne (by omega), zu_ne (by omega), zu_eq]
theorem ld9_11 {P : Nat} {v : Int32} {M : zMt} : ld9 P v M P 11 = 0 := by
  unfold ld9
  rw [zu_ne (by omega), zu_ne (by omega), zu_ne (by omega), zu_ne (by omega), zu_ne (by omega), zu_ne (by omega), zu_ne (by omega), zu_eq]
theorem ld9_17 {P : Nat} {v : Int32} {M : zMt} : ld9 P v M P 17 = 0 := by
  unfold ld9
  rw [zu_ne (by omega), zu_ne (by omega), zu_ne (by omega), zu_ne (by omega), zu_ne (by omega), zu_ne (by omega), zu_eq]
theorem ld9_28 {P : Nat} {v : Int32} {M : zMt} : ld9 P v M P 28 = 0 := by
  unfold ld9
  rw [zu_ne (by omega), zu_ne (by omega), zu_eq]
theorem ld9_29 {P : Nat} {v : Int32} {M : zMt} : ld9 P v M P 29 = 0 := by
  unfold ld9
  rw [zu_ne (by omega), zu_eq]
theorem ld9_30 {P : Nat} {v : Int32} {M : zMt} : ld9 P v M P 30 = 0 := by
  unfold ld9
  rw [zu_eq]
def WM_X8_load (P a j : Nat) : Prop := a = P + 1 ∨ a = P + 2 ∨ a = P + 5 ∨ a = P + 6 ∨ (a = P ∧ j ≤ 31)
def WN_X8_load (P a _j : Nat) : Prop := (P + 8 ≤ a ∧ a < P + 11) ∨ a = P
theorem ld9_let {P : Nat} {v : Int32} {M : zMt} {f : zMt → Option (Int32 × zMt × zNt)} : (zLt (zu M P 15 v) fun M_22 => zLt (zu M_22 P 11 (0 : Int32)) fun M_27 => zLt (zu M_27 P 17 (0 : Int32)) fun M_32 => zLt (zu M_32 P 21 (0 : Int32)) fun M_37 => zLt (zu M_37 P 22 (-1 : Int32)) fun M_42 => zLt (zu M_42 P 23 (0 : Int32)) fun M_47 => zLt (zu M_47 P 28 (0 : Int32)) fun M_52 => zLt (zu M_52 P 29 (0 : Int32)) fun M_57 => zLt (zu M_57 P 30 (0 : Int32)) f) = f (ld9 P v M) := rfl
theorem v_X8_load {P : Nat} {v0 : Int32} {M0 : zMt} {N0 : zNt} (p_jB : jB P M0) (p_jS : jS P M0) (p_jR : jR P M0) (p_jK : jK P M0) (p_jT : jT P M0) : ∃ r, D_X8_load P v0 M0 N0 = some r ∧ ((∀ a j, ¬ WM_X8_load P a j → r.2.1 a j = M0 a j) ∧ (∀ a j, ¬ WN_X8_load P a j → r.2.2 a j = N0 a j) ∧ jJ P r.2.1 ∧ ((v0 < 0 ∨ ¬ v0 ≤ M0 P 11) ∧ r.2.1 P 11 = M0 P 11 ∨ (¬ v0 < 0 ∧ v0 ≤ M0 P 11) ∧ r.2.1 P 11 = 0)) := by
  have hJ : jJ P M0 := ⟨p_jB, p_jS, p_jR, p_jK, p_jT⟩
  have o0 : (0 : Int32).toInt = 0 := by decide
  have o0l : (0 : Int64).toInt = 0 := by decide
  unfold D_X8_load
  refine vB v_X8_isFrom (fun e f q => ?_)
  rw [Int32.toInt_toInt64, Int32.toInt_toInt64, o0l] at q
  refine vIf (fun h0 => ?_) (fun h0 => ?_)
  · have hv : v0.toInt < 0 ∨ (M0 P 11).toInt < v0.toInt := by
      rcases q.2 with ⟨a, _⟩ | ⟨_, b⟩
      · rw [h0, o0] at a; omega
      · exact b
    refine vB v_X8_refuse (fun e2 f2 q2 => ?_)
    have k2 : ∀ a j, ¬ (a = P ∧ (j = 6 ∨ j = 12)) → e2.2 a j = M0 a j := q2
    refine ⟨_, rfl, fun a j h => k2 a j (by unfold WM_X8_load at h; omega), fun _ _ _ => rfl, hJ.mono (fun a j h => k2 a j (by omega)), Or.inl ⟨?_, k2 P 11 (by omega)⟩⟩
    rcases hv with z | z
    · exact Or.inl (Int32.lt_iff_toInt_lt.mpr (by rw [o0]; exact z))
    · exact Or.inr (fun y => by have := Int32.le_iff_toInt_le.mp y; omega)
  · have hv : 0 ≤ v0.toInt ∧ v0.toInt ≤ (M0 P 11).toInt := by
      rcases q.2 with ⟨_, b⟩ | ⟨a, _⟩
      · exact b
      · exact absurd (Int32.toInt_inj.mp (a.trans o0.symm)) h0
    have hvr : ¬ v0 < 0 ∧ v0 ≤ M0 P 11 := ⟨z_nlt hv.1, Int32.le_iff_toInt_le.mpr hv.2⟩
    obtain ⟨t1, t2, t3, t4, t5, t6⟩ := id p_jT
    rw [ld9_let]
    refine vB w_X8_begins (fun e1 f1 q1 => ?_)
    obtain ⟨b1, b2, b3, b4⟩ := q1
    have g : ∀ a j, ¬ ((a = P + 2 ∧ j < 82) ∨ (a = P ∧ (j = 15 ∨ j = 11 ∨ j = 17 ∨ j = 21 ∨ j = 22 ∨ j = 23 ∨ j = 28 ∨ j = 29 ∨ j = 30))) → e1 a j = M0 a j := fun a j h => (b1 a j (by omega)).trans (ld9_ne (by omega))
    have g15 : e1 P 15 = v0 := (b1 P 15 (by omega)).trans ld9_15
    have g11 : e1 P 11 = 0 := (b1 P 11 (by omega)).trans ld9_11
    have g17 : e1 P 17 = 0 := (b1 P 17 (by omega)).trans ld9_17
    have g28 : e1 P 28 = 0 := (b1 P 28 (by omega)).trans ld9_28
    have g29 : e1 P 29 = 0 := (b1 P 29 (by omega)).trans ld9_29
    have g30 : e1 P 30 = 0 := (b1 P 30 (by omega)).trans ld9_30
    have hX : jX P e1 := by unfold jX; rw [g15, g17, o0]; omega
    have hY : jY P e1 := by unfold jY; rw [g28, g29, g30, o0]; omega
    have hZ : jZ P e1 := jZ.empty b2 b3 b4 g28 g29 g30
    have hJ1 : jJ P e1 := by
      refine ⟨p_jB.mono (fun a j h => g a j (by omega)), p_jS.mono (fun a j h => g a j (by omega)), p_jR.mono (fun a j h => g a j (by omega)), p_jK.mono (fun a j h => g a j (by omega)), ?_⟩
      unfold jT
      rw [g P 9 (by omega), g P 64 (by omega), g11, o0]
      omega
    refine vB (v_X8_next hX) (fun e2 f2 q2 => ?_)
    obtain ⟨k2, kn2, -, hX2, -, -, -⟩ := q2
    have k2 : ∀ a j, ¬ (a = P ∧ (j = 16 ∨ j = 17 ∨ j = 18 ∨ j = 19 ∨ j = 20)) → e2.2.1 a j = e1 a j := k2
    have kn2 : ∀ a j, ¬ (a = P ∧ (j = 24)) → e2.2.2 a j = N0 a j := kn2
    obtain ⟨x1, x2, x3, x4⟩ := id hX2
    obtain ⟨r, h1, h2, h3, h4⟩ := w_load79 (P := P) zFu 1 e2.2.1 e2.2.2 (hJ1.mono (fun a j h => k2 a j (by omega))) hX2 (hY.mono (fun a j h => k2 a j (by omega))) (hZ.mono (fun a j h => k2 a j (by omega))) (Or.inr (by unfold zFu; omega))
    refine ⟨r, h1, fun a j h => ?_, fun a j h => ?_, h4, Or.inr ⟨hvr, ?_⟩⟩
    · unfold WM_X8_load at h
      exact (h2 a j (by unfold jWL; omega)).trans ((k2 a j (by omega)).trans (g a j (by omega)))
    · unfold WN_X8_load at h
      exact (h3 a j (by omega)).trans (kn2 a j (by omega))
    · exact (h2 P 11 (by unfold jWL; omega)).trans ((k2 P 11 (by omega)).trans g11)
