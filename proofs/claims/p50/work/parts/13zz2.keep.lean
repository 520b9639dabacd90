/-! partial readings: what is left in the row (P + 1) and in the row set aside (P + 3) -/
theorem pputs_2 {P : Nat} : ∀ (u k : Nat) (M r : zMt), k ≤ 82 → D_X8_putsAside_2 P u (nI k) M = some r → (∀ j, k ≤ j → j < 82 → r (P + 3) j = M (P + 1) j) ∧ (∀ j, j < k → r (P + 3) j = M (P + 3) j) := by
  intro u
  induction u with
  | zero => intro k M r _ h; cases h
  | succ u ih =>
    intro k M r hk h
    rw [D_X8_putsAside_2] at h
    by_cases hc : 82 ≤ k
    · rw [if_pos (by exact (leL (x := 82) (a := 82) (by decide) (by decide) (by omega)).mpr hc)] at h
      cases h
      exact ⟨fun j h1 h2 => by omega, fun _ _ => rfl⟩
    · rw [if_neg (by intro z; exact hc ((leL (x := 82) (a := 82) (by decide) (by decide) (by omega)).mp z))] at h
      replace h := (zIx (zIx h).2).2
      rw [zLt_eq, nI_clamp (by omega), nI_add1] at h
      obtain ⟨g1, g2⟩ := ih (k + 1) _ r (by omega) h
      refine ⟨fun j h1 h2 => ?_, fun j h1 => (g2 j (by omega)).trans (zu_ne (by omega))⟩
      by_cases q : j = k
      · subst q
        rw [g2 j (by omega), zu_eq]
      · rw [g1 j (by omega) h2, zu_ne (by omega)]
theorem pputs {P : Nat} {M r : zMt} (h : D_X8_putsAside P M = some r) : ∀ j, j < 82 → r (P + 3) j = M (P + 1) j := by
  unfold D_X8_putsAside at h
  rw [show (0 : Int32) = nI 0 by decide] at h
  exact fun j hj => (pputs_2 zFu 0 M r (by omega) h).1 j (Nat.zero_le j) hj
theorem ptakes_2 {P : Nat} : ∀ (u k : Nat) (M r : zMt), k ≤ 82 → D_X8_takesBack_2 P u (nI k) M = some r → (∀ j, k ≤ j → j < 82 → r (P + 1) j = M (P + 3) j) ∧ (∀ j, j < k → r (P + 1) j = M (P + 1) j) := by
  intro u
  induction u with
  | zero => intro k M r _ h; cases h
  | succ u ih =>
    intro k M r hk h
    rw [D_X8_takesBack_2] at h
    by_cases hc : 82 ≤ k
    · rw [if_pos (by exact (leL (x := 82) (a := 82) (by decide) (by decide) (by omega)).mpr hc)] at h
      cases h
      exact ⟨fun j h1 h2 => by omega, fun _ _ => rfl⟩
    · rw [if_neg (by intro z; exact hc ((leL (x := 82) (a := 82) (by decide) (by decide) (by omega)).mp z))] at h
      replace h := (zIx (zIx h).2).2
      rw [zLt_eq, nI_clamp (by omega), nI_add1] at h
      obtain ⟨g1, g2⟩ := ih (k + 1) _ r (by omega) h
      refine ⟨fun j h1 h2 => ?_, fun j h1 => (g2 j (by omega)).trans (zu_ne (by omega))⟩
      by_cases q : j = k
      · subst q
        rw [g2 j (by omega), zu_eq]
      · rw [g1 j (by omega) h2, zu_ne (by omega)]
theorem ptakes {P : Nat} {M r : zMt} (h : D_X8_takesBack P M = some r) : ∀ j, j < 82 → r (P + 1) j = M (P + 3) j := by
  unfold D_X8_takesBack at h
  rw [show (0 : Int32) = nI 0 by decide] at h
  exact fun j hj => (ptakes_2 zFu 0 M r (by omega) h).1 j (Nat.zero_le j) hj
set_option maxRecDepth 100000 in
set_option maxHeartbeats 4000000 in
theorem p11_X8_refuse {P : Nat} {v0 : Int32} {M : zMt}  {r : (Int32 × zMt)} (h : D_X8_refuse P v0 M = some r) : ∀ j, j < 82 → r.2 (P + 1) j = M (P + 1) j := by
  unfold D_X8_refuse at h
  have kc_0 : ∀ j, j < 82 → M (P + 1) j = M (P + 1) j := fun _ _ => rfl
  obtain ⟨M_2, f_M_2, h⟩ := zLtx h
  have k_M_2 : ∀ j, j < 82 → M_2 (P + 1) j = M (P + 1) j := fun j hj => (congrFun (congrFun f_M_2.symm (P + 1)) j).trans ((zu_ne (by omega)).trans (kc_0 j hj))
  obtain ⟨M_7, f_M_7, h⟩ := zLtx h
  have k_M_7 : ∀ j, j < 82 → M_7 (P + 1) j = M (P + 1) j := fun j hj => (congrFun (congrFun f_M_7.symm (P + 1)) j).trans ((zu_ne (by omega)).trans (k_M_2 j hj))
  cases h
  exact k_M_7
set_option maxRecDepth 100000 in
set_option maxHeartbeats 4000000 in
theorem p11_X8_laysOne_162 {P : Nat} {y1_162 : Int32} {y2_162 : Int32} {M_162 : zMt}  {r : (zMt)} (h : D_X8_laysOne_162 P y1_162 y2_162 M_162 = some r) : ∀ j, j < 82 → r (P + 1) j = M_162 (P + 1) j := by
  unfold D_X8_laysOne_162 at h
  have kc_0 : ∀ j, j < 82 → M_162 (P + 1) j = M_162 (P + 1) j := fun _ _ => rfl
  replace h := (zIx h).2
  obtain ⟨M_162', f_M_162', h⟩ := zLtx h
  have k_M_162' : ∀ j, j < 82 → M_162' (P + 1) j = M_162 (P + 1) j := fun j hj => (congrFun (congrFun f_M_162'.symm (P + 1)) j).trans ((zu_ne (by omega)).trans (kc_0 j hj))
  cases h
  exact k_M_162'
set_option maxRecDepth 100000 in
set_option maxHeartbeats 4000000 in
theorem p11_X8_laysOne_86 {P : Nat} {k18 : Int32 → Int32 → Int32 → zMt → Option (zMt)} {x1_86 : Int32} {x2_86 : Int32} {x3_86 : Int32} {M_86 : zMt} (hk_k18 : ∀ (y0 : Int32) (y1 : Int32) (y2 : Int32) (y3 : zMt) r, k18 y0 y1 y2 y3 = some r → ∀ j, j < 82 → r (P + 1) j = y3 (P + 1) j) {r : (zMt)} (h : D_X8_laysOne_86 P k18 x1_86 x2_86 x3_86 M_86 = some r) : ∀ j, j < 82 → r (P + 1) j = M_86 (P + 1) j := by
  unfold D_X8_laysOne_86 at h
  have kc_0 : ∀ j, j < 82 → M_86 (P + 1) j = M_86 (P + 1) j := fun _ _ => rfl
  exact fun j hj => (hk_k18 _ _ _ _ _ h j hj).trans (kc_0 j hj)
set_option maxRecDepth 100000 in
set_option maxHeartbeats 4000000 in
theorem p11_X8_laysOne_73 {P : Nat} {k18 : Int32 → Int32 → Int32 → zMt → Option (zMt)} {x1_73 : Int32} {x2_73 : Int32} {x3_73 : Int32} {y1_73 : Int32} {y2_73 : Int32} {y3_73 : Int32} {M_73 : zMt} (hk_k18 : ∀ (y0 : Int32) (y1 : Int32) (y2 : Int32) (y3 : zMt) r, k18 y0 y1 y2 y3 = some r → ∀ j, j < 82 → r (P + 1) j = y3 (P + 1) j) {r : (zMt)} (h : D_X8_laysOne_73 P k18 x1_73 x2_73 x3_73 y1_73 y2_73 y3_73 M_73 = some r) : ∀ j, j < 82 → r (P + 1) j = M_73 (P + 1) j := by
  unfold D_X8_laysOne_73 at h
  have kc_0 : ∀ j, j < 82 → M_73 (P + 1) j = M_73 (P + 1) j := fun _ _ => rfl
  replace h := (zIx h).2
  obtain ⟨M_74, f_M_74, h⟩ := zLtx h
  have k_M_74 : ∀ j, j < 82 → M_74 (P + 1) j = M_73 (P + 1) j := fun j hj => (congrFun (congrFun f_M_74.symm (P + 1)) j).trans ((zu_ne (by omega)).trans (kc_0 j hj))
  replace h := (zIx h).2
  exact fun j hj => (p11_X8_laysOne_86 hk_k18 h j hj).trans (k_M_74 j hj)
set_option maxRecDepth 100000 in
set_option maxHeartbeats 4000000 in
theorem p11_X8_laysOne_18 {P : Nat}  : ∀ (u : Nat) (x1_18 : Int32) (x2_18 : Int32) (x3_18 : Int32) (M_18 : zMt) (r : (zMt)), D_X8_laysOne_18 P u x1_18 x2_18 x3_18 M_18 = some r → ∀ j, j < 82 → r (P + 1) j = M_18 (P + 1) j := by
  intro u
  induction u with
  | zero =>
    intro x1_18 x2_18 x3_18 M_18 r h
    cases h
  | succ u ih =>
    intro x1_18 x2_18 x3_18 M_18 r h
    rw [D_X8_laysOne_18] at h
    have kc_0 : ∀ j, j < 82 → M_18 (P + 1) j = M_18 (P + 1) j := fun _ _ => rfl
    by_cases c7 : (M_18 P 8) ≤ x3_18
    · rw [if_pos c7] at h
      replace h := (zIx h).2
      replace h := (zZx h).2
      replace h := (zIx h).2
      obtain ⟨M_105, f_M_105, h⟩ := zLtx h
      have k_M_105 : ∀ j, j < 82 → M_105 (P + 1) j = M_18 (P + 1) j := fun j hj => (congrFun (congrFun f_M_105.symm (P + 1)) j).trans ((zu_ne (by omega)).trans (kc_0 j hj))
      replace h := (zIx h).2
      by_cases c8 : (M_105 (P + 1) (67 : Int32).toNatClampNeg) = 0
      · rw [if_pos c8] at h
        exact fun j hj => (p11_X8_laysOne_162 h j hj).trans (k_M_105 j hj)
      · rw [if_neg c8] at h
        replace h := (zIx h).2
        by_cases c9 : (M_105 (P + 1) (67 : Int32).toNatClampNeg) = (1 : Int32)
        · rw [if_pos c9] at h
          replace h := (zIx h).2
          exact fun j hj => (p11_X8_laysOne_162 h j hj).trans (k_M_105 j hj)
        · rw [if_neg c9] at h
          replace h := (zIx h).2
          replace h := (zIx h).2
          exact fun j hj => (p11_X8_laysOne_162 h j hj).trans (k_M_105 j hj)
    · rw [if_neg c7] at h
      replace h := (zIx h).2
      obtain ⟨e_33, f_e_33, h⟩ := zBx h
      by_cases c10 : e_33 = 0
      · rw [if_pos c10] at h
        exact fun j hj => (p11_X8_laysOne_86 ih h j hj).trans (kc_0 j hj)
      · rw [if_neg c10] at h
        replace h := (zIx h).2
        replace h := (zIx h).2
        obtain ⟨M_51, f_M_51, h⟩ := zLtx h
        have k_M_51 : ∀ j, j < 82 → M_51 (P + 1) j = M_18 (P + 1) j := fun j hj => (congrFun (congrFun f_M_51.symm (P + 1)) j).trans ((zu_ne (by omega)).trans (kc_0 j hj))
        replace h := (zIx h).2
        replace h := (zIx h).2
        by_cases c11 : (M_51 (P + 5) x3_18.toNatClampNeg) = 0
        · rw [if_pos c11] at h
          exact fun j hj => (p11_X8_laysOne_73 ih h j hj).trans (k_M_51 j hj)
        · rw [if_neg c11] at h
          exact fun j hj => (p11_X8_laysOne_73 ih h j hj).trans (k_M_51 j hj)
set_option maxRecDepth 100000 in
set_option maxHeartbeats 4000000 in
theorem p11_X8_laysOne {P : Nat} {v0 : Int32} {M : zMt}  {r : (zMt)} (h : D_X8_laysOne P v0 M = some r) : ∀ j, j < 82 → r (P + 1) j = M (P + 1) j := by
  unfold D_X8_laysOne at h
  have kc_0 : ∀ j, j < 82 → M (P + 1) j = M (P + 1) j := fun _ _ => rfl
  replace h := (zIx h).2
  obtain ⟨M_6, f_M_6, h⟩ := zLtx h
  have k_M_6 : ∀ j, j < 82 → M_6 (P + 1) j = M (P + 1) j := fun j hj => (congrFun (congrFun f_M_6.symm (P + 1)) j).trans ((zu_ne (by omega)).trans (kc_0 j hj))
  replace h := (zIx h).2
  obtain ⟨M_13, f_M_13, h⟩ := zLtx h
  have k_M_13 : ∀ j, j < 82 → M_13 (P + 1) j = M (P + 1) j := fun j hj => (congrFun (congrFun f_M_13.symm (P + 1)) j).trans ((zu_ne (by omega)).trans (k_M_6 j hj))
  exact fun j hj => (p11_X8_laysOne_18 _ _ _ _ _ _ h j hj).trans (k_M_13 j hj)
set_option maxRecDepth 100000 in
set_option maxHeartbeats 4000000 in
theorem p11_X8_laysApplicants_198 {P : Nat}  : ∀ (u : Nat) (x1_198 : Int32) (M_198 : zMt) (r : (zMt)), D_X8_laysApplicants_198 P u x1_198 M_198 = some r → ∀ j, j < 82 → r (P + 1) j = M_198 (P + 1) j := by
  intro u
  induction u with
  | zero =>
    intro x1_198 M_198 r h
    cases h
  | succ u ih =>
    intro x1_198 M_198 r h
    rw [D_X8_laysApplicants_198] at h
    have kc_0 : ∀ j, j < 82 → M_198 (P + 1) j = M_198 (P + 1) j := fun _ _ => rfl
    by_cases c6 : (M_198 P 33) ≤ x1_198
    · rw [if_pos c6] at h
      cases h
      exact kc_0
    · rw [if_neg c6] at h
      obtain ⟨e_208, f_e_208, h⟩ := zBx h
      have ke_208 : ∀ j, j < 82 → e_208 (P + 1) j = M_198 (P + 1) j := fun j hj => (p11_X8_laysOne f_e_208 j hj).trans (kc_0 j hj)
      exact fun j hj => (ih _ _ _ h j hj).trans (ke_208 j hj)
set_option maxRecDepth 100000 in
set_option maxHeartbeats 4000000 in
theorem p11_X8_laysApplicants_147 {P : Nat} {k86 : Int32 → zMt → Option (zMt)} {k109 : Int32 → Int32 → zMt → Option (zMt)} {x1_147 : Int32} {x2_147 : Int32} {y1_147 : Int32} {y2_147 : Int32} {y3_147 : Int32} {M_147 : zMt} (hk_k86 : ∀ (y0 : Int32) (y1 : zMt) r, k86 y0 y1 = some r → ∀ j, j < 82 → r (P + 1) j = y1 (P + 1) j) (hk_k109 : ∀ (y0 : Int32) (y1 : Int32) (y2 : zMt) r, k109 y0 y1 y2 = some r → ∀ j, j < 82 → r (P + 1) j = y2 (P + 1) j) {r : (zMt)} (h : D_X8_laysApplicants_147 P k86 k109 x1_147 x2_147 y1_147 y2_147 y3_147 M_147 = some r) : ∀ j, j < 82 → r (P + 1) j = M_147 (P + 1) j := by
  unfold D_X8_laysApplicants_147 at h
  have kc_0 : ∀ j, j < 82 → M_147 (P + 1) j = M_147 (P + 1) j := fun _ _ => rfl
  replace h := (zIx h).2
  obtain ⟨M_148, f_M_148, h⟩ := zLtx h
  have k_M_148 : ∀ j, j < 82 → M_148 (P + 1) j = M_147 (P + 1) j := fun j hj => (congrFun (congrFun f_M_148.symm (P + 1)) j).trans ((zu_ne (by omega)).trans (kc_0 j hj))
  exact fun j hj => (hk_k109 _ _ _ _ h j hj).trans (k_M_148 j hj)
set_option maxRecDepth 100000 in
set_option maxHeartbeats 4000000 in
theorem p11_X8_laysApplicants_109 {P : Nat} {k86 : Int32 → zMt → Option (zMt)} (hk_k86 : ∀ (y0 : Int32) (y1 : zMt) r, k86 y0 y1 = some r → ∀ j, j < 82 → r (P + 1) j = y1 (P + 1) j) : ∀ (u : Nat) (x1_109 : Int32) (x2_109 : Int32) (M_109 : zMt) (r : (zMt)), D_X8_laysApplicants_109 P k86 u x1_109 x2_109 M_109 = some r → ∀ j, j < 82 → r (P + 1) j = M_109 (P + 1) j := by
  intro u
  induction u with
  | zero =>
    intro x1_109 x2_109 M_109 r h
    cases h
  | succ u ih =>
    intro x1_109 x2_109 M_109 r h
    rw [D_X8_laysApplicants_109] at h
    have kc_0 : ∀ j, j < 82 → M_109 (P + 1) j = M_109 (P + 1) j := fun _ _ => rfl
    by_cases c12 : (M_109 P 8) ≤ x2_109
    · rw [if_pos c12] at h
      replace h := (zIx h).2
      obtain ⟨M_164, f_M_164, h⟩ := zLtx h
      have k_M_164 : ∀ j, j < 82 → M_164 (P + 1) j = M_109 (P + 1) j := fun j hj => (congrFun (congrFun f_M_164.symm (P + 1)) j).trans ((zu_ne (by omega)).trans (kc_0 j hj))
      replace h := (zIx h).2
      obtain ⟨M_179, f_M_179, h⟩ := zLtx h
      have k_M_179 : ∀ j, j < 82 → M_179 (P + 1) j = M_109 (P + 1) j := fun j hj => (congrFun (congrFun f_M_179.symm (P + 1)) j).trans ((zu_ne (by omega)).trans (k_M_164 j hj))
      obtain ⟨M_187, f_M_187, h⟩ := zLtx h
      have k_M_187 : ∀ j, j < 82 → M_187 (P + 1) j = M_109 (P + 1) j := fun j hj => (congrFun (congrFun f_M_187.symm (P + 1)) j).trans ((zu_ne (by omega)).trans (k_M_179 j hj))
      exact fun j hj => (hk_k86 _ _ _ h j hj).trans (k_M_187 j hj)
    · rw [if_neg c12] at h
      replace h := (zIx h).2
      replace h := (zIx h).2
      by_cases c13 : (M_109 (P + 1) ((10 : Int32) + x2_109).toNatClampNeg) = x1_109
      · rw [if_pos c13] at h
        exact fun j hj => (p11_X8_laysApplicants_147 hk_k86 ih h j hj).trans (kc_0 j hj)
      · rw [if_neg c13] at h
        exact fun j hj => (p11_X8_laysApplicants_147 hk_k86 ih h j hj).trans (kc_0 j hj)
set_option maxRecDepth 100000 in
set_option maxHeartbeats 4000000 in
theorem p11_X8_laysApplicants_86 {P : Nat}  : ∀ (u : Nat) (x1_86 : Int32) (M_86 : zMt) (r : (zMt)), D_X8_laysApplicants_86 P u x1_86 M_86 = some r → ∀ j, j < 82 → r (P + 1) j = M_86 (P + 1) j := by
  intro u
  induction u with
  | zero =>
    intro x1_86 M_86 r h
    cases h
  | succ u ih =>
    intro x1_86 M_86 r h
    rw [D_X8_laysApplicants_86] at h
    have kc_0 : ∀ j, j < 82 → M_86 (P + 1) j = M_86 (P + 1) j := fun _ _ => rfl
    replace h := (zIx h).2
    by_cases c5 : (M_86 (P + 1) (70 : Int32).toNatClampNeg) ≤ x1_86
    · rw [if_pos c5] at h
      exact fun j hj => (p11_X8_laysApplicants_198 _ _ _ _ h j hj).trans (kc_0 j hj)
    · rw [if_neg c5] at h
      replace h := (zIx h).2
      obtain ⟨M_106, f_M_106, h⟩ := zLtx h
      have k_M_106 : ∀ j, j < 82 → M_106 (P + 1) j = M_86 (P + 1) j := fun j hj => (congrFun (congrFun f_M_106.symm (P + 1)) j).trans ((zu_ne (by omega)).trans (kc_0 j hj))
      exact fun j hj => (p11_X8_laysApplicants_109 ih _ _ _ _ _ h j hj).trans (k_M_106 j hj)
set_option maxRecDepth 100000 in
set_option maxHeartbeats 4000000 in
theorem p11_X8_laysApplicants_78 {P : Nat} {k7 : Int32 → zMt → Option (zMt)} {x1_78 : Int32} {M_78 : zMt} (hk_k7 : ∀ (y0 : Int32) (y1 : zMt) r, k7 y0 y1 = some r → ∀ j, j < 82 → r (P + 1) j = y1 (P + 1) j) {r : (zMt)} (h : D_X8_laysApplicants_78 P k7 x1_78 M_78 = some r) : ∀ j, j < 82 → r (P + 1) j = M_78 (P + 1) j := by
  unfold D_X8_laysApplicants_78 at h
  have kc_0 : ∀ j, j < 82 → M_78 (P + 1) j = M_78 (P + 1) j := fun _ _ => rfl
  exact fun j hj => (hk_k7 _ _ _ h j hj).trans (kc_0 j hj)
set_option maxRecDepth 100000 in
set_option maxHeartbeats 4000000 in
theorem p11_X8_laysApplicants_7 {P : Nat}  : ∀ (u : Nat) (x1_7 : Int32) (M_7 : zMt) (r : (zMt)), D_X8_laysApplicants_7 P u x1_7 M_7 = some r → ∀ j, j < 82 → r (P + 1) j = M_7 (P + 1) j := by
  intro u
  induction u with
  | zero =>
    intro x1_7 M_7 r h
    cases h
  | succ u ih =>
    intro x1_7 M_7 r h
    rw [D_X8_laysApplicants_7] at h
    have kc_0 : ∀ j, j < 82 → M_7 (P + 1) j = M_7 (P + 1) j := fun _ _ => rfl
    by_cases c4 : (M_7 P 8) ≤ x1_7
    · rw [if_pos c4] at h
      exact fun j hj => (p11_X8_laysApplicants_86 _ _ _ _ h j hj).trans (kc_0 j hj)
    · rw [if_neg c4] at h
      replace h := (zIx h).2
      by_cases c14 : (M_7 (P + 1) ((10 : Int32) + x1_7).toNatClampNeg) = (-1 : Int32)
      · rw [if_pos c14] at h
        replace h := (zIx h).2
        obtain ⟨M_42, f_M_42, h⟩ := zLtx h
        have k_M_42 : ∀ j, j < 82 → M_42 (P + 1) j = M_7 (P + 1) j := fun j hj => (congrFun (congrFun f_M_42.symm (P + 1)) j).trans ((zu_ne (by omega)).trans (kc_0 j hj))
        replace h := (zIx h).2
        obtain ⟨M_52, f_M_52, h⟩ := zLtx h
        have k_M_52 : ∀ j, j < 82 → M_52 (P + 1) j = M_7 (P + 1) j := fun j hj => (congrFun (congrFun f_M_52.symm (P + 1)) j).trans ((zu_ne (by omega)).trans (k_M_42 j hj))
        replace h := (zIx h).2
        obtain ⟨M_67, f_M_67, h⟩ := zLtx h
        have k_M_67 : ∀ j, j < 82 → M_67 (P + 1) j = M_7 (P + 1) j := fun j hj => (congrFun (congrFun f_M_67.symm (P + 1)) j).trans ((zu_ne (by omega)).trans (k_M_52 j hj))
        obtain ⟨M_75, f_M_75, h⟩ := zLtx h
        have k_M_75 : ∀ j, j < 82 → M_75 (P + 1) j = M_7 (P + 1) j := fun j hj => (congrFun (congrFun f_M_75.symm (P + 1)) j).trans ((zu_ne (by omega)).trans (k_M_67 j hj))
        exact fun j hj => (p11_X8_laysApplicants_78 ih h j hj).trans (k_M_75 j hj)
      · rw [if_neg c14] at h
        exact fun j hj => (p11_X8_laysApplicants_78 ih h j hj).trans (kc_0 j hj)
set_option maxRecDepth 100000 in
set_option maxHeartbeats 4000000 in
theorem p11_X8_laysApplicants {P : Nat} {M : zMt}  {r : (zMt)} (h : D_X8_laysApplicants P M = some r) : ∀ j, j < 82 → r (P + 1) j = M (P + 1) j := by
  unfold D_X8_laysApplicants at h
  have kc_0 : ∀ j, j < 82 → M (P + 1) j = M (P + 1) j := fun _ _ => rfl
  obtain ⟨M_2, f_M_2, h⟩ := zLtx h
  have k_M_2 : ∀ j, j < 82 → M_2 (P + 1) j = M (P + 1) j := fun j hj => (congrFun (congrFun f_M_2.symm (P + 1)) j).trans ((zu_ne (by omega)).trans (kc_0 j hj))
  exact fun j hj => (p11_X8_laysApplicants_7 _ _ _ _ h j hj).trans (k_M_2 j hj)
set_option maxRecDepth 100000 in
set_option maxHeartbeats 4000000 in
theorem p11_X8_areMany_18 {P : Nat} {y0_18 : Int32} {M_18 : zMt}  {r : (Int32 × zMt)} (h : D_X8_areMany_18 P y0_18 M_18 = some r) : ∀ j, j < 82 → r.2 (P + 1) j = M_18 (P + 1) j := by
  unfold D_X8_areMany_18 at h
  have kc_0 : ∀ j, j < 82 → M_18 (P + 1) j = M_18 (P + 1) j := fun _ _ => rfl
  cases h
  exact kc_0
set_option maxRecDepth 100000 in
set_option maxHeartbeats 4000000 in
theorem p11_X8_areMany {P : Nat} {M : zMt}  {r : (Int32 × zMt)} (h : D_X8_areMany P M = some r) : ∀ j, j < 82 → r.2 (P + 1) j = M (P + 1) j := by
  unfold D_X8_areMany at h
  have kc_0 : ∀ j, j < 82 → M (P + 1) j = M (P + 1) j := fun _ _ => rfl
  obtain ⟨e_1, f_e_1, h⟩ := zBx h
  have ke_1 : ∀ j, j < 82 → e_1 (P + 1) j = M (P + 1) j := fun j hj => (p11_X8_laysApplicants f_e_1 j hj).trans (kc_0 j hj)
  by_cases c15 : (e_1 P 33) ≤ (7 : Int32)
  · rw [if_pos c15] at h
    exact fun j hj => (p11_X8_areMany_18 h j hj).trans (ke_1 j hj)
  · rw [if_neg c15] at h
    exact fun j hj => (p11_X8_areMany_18 h j hj).trans (ke_1 j hj)
set_option maxRecDepth 100000 in
set_option maxHeartbeats 4000000 in
theorem p11_X8_applicantOf_6 {P : Nat}  : ∀ (u : Nat) (x1_6 : Int32) (x2_6 : Int32) (M_6 : zMt) (r : (Int32 × zMt)), D_X8_applicantOf_6 P u x1_6 x2_6 M_6 = some r → ∀ j, j < 82 → r.2 (P + 1) j = M_6 (P + 1) j := by
  intro u
  induction u with
  | zero =>
    intro x1_6 x2_6 M_6 r h
    cases h
  | succ u ih =>
    intro x1_6 x2_6 M_6 r h
    rw [D_X8_applicantOf_6] at h
    have kc_0 : ∀ j, j < 82 → M_6 (P + 1) j = M_6 (P + 1) j := fun _ _ => rfl
    replace h := (zIx h).2
    obtain ⟨e_13, f_e_13, h⟩ := zBx h
    by_cases c17 : e_13 = 0
    · rw [if_pos c17] at h
      exact fun j hj => (ih _ _ _ _ h j hj).trans (kc_0 j hj)
    · rw [if_neg c17] at h
      cases h
      exact kc_0
set_option maxRecDepth 100000 in
set_option maxHeartbeats 4000000 in
theorem p11_X8_applicantOf {P : Nat} {v0 : Int32} {M : zMt}  {r : (Int32 × zMt)} (h : D_X8_applicantOf P v0 M = some r) : ∀ j, j < 82 → r.2 (P + 1) j = M (P + 1) j := by
  unfold D_X8_applicantOf at h
  have kc_0 : ∀ j, j < 82 → M (P + 1) j = M (P + 1) j := fun _ _ => rfl
  obtain ⟨e_1, f_e_1, h⟩ := zBx h
  have ke_1 : ∀ j, j < 82 → e_1 (P + 1) j = M (P + 1) j := fun j hj => (p11_X8_laysApplicants f_e_1 j hj).trans (kc_0 j hj)
  exact fun j hj => (p11_X8_applicantOf_6 _ _ _ _ _ h j hj).trans (ke_1 j hj)
set_option maxRecDepth 100000 in
set_option maxHeartbeats 4000000 in
theorem p11_X8_need_161 {P : Nat} {y0_161 : Int32} {M_161 : zMt} {N_161 : zNt}  {r : (Int32 × zMt × zNt)} (h : D_X8_need_161 P y0_161 M_161 N_161 = some r) : ∀ j, j < 82 → r.2.1 (P + 1) j = M_161 (P + 1) j := by
  unfold D_X8_need_161 at h
  have kc_0 : ∀ j, j < 82 → M_161 (P + 1) j = M_161 (P + 1) j := fun _ _ => rfl
  cases h
  exact kc_0
set_option maxRecDepth 100000 in
set_option maxHeartbeats 4000000 in
theorem p11_X8_gives {P : Nat} {v0 : Int32} {M : zMt}  {r : (Int32 × zMt)} (h : D_X8_gives P v0 M = some r) : ∀ j, j < 82 → r.2 (P + 1) j = M (P + 1) j := by
  unfold D_X8_gives at h
  have kc_0 : ∀ j, j < 82 → M (P + 1) j = M (P + 1) j := fun _ _ => rfl
  obtain ⟨M_2, f_M_2, h⟩ := zLtx h
  have k_M_2 : ∀ j, j < 82 → M_2 (P + 1) j = M (P + 1) j := fun j hj => (congrFun (congrFun f_M_2.symm (P + 1)) j).trans ((zu_ne (by omega)).trans (kc_0 j hj))
  obtain ⟨M_7, f_M_7, h⟩ := zLtx h
  have k_M_7 : ∀ j, j < 82 → M_7 (P + 1) j = M (P + 1) j := fun j hj => (congrFun (congrFun f_M_7.symm (P + 1)) j).trans ((zu_ne (by omega)).trans (k_M_2 j hj))
  cases h
  exact k_M_7
set_option maxRecDepth 100000 in
set_option maxHeartbeats 4000000 in
theorem p31_X8_need_137 {P : Nat} {x4_137 : Int32} {M_137 : zMt} {N_137 : zNt}  {r : (Int32 × zMt × zNt)} (h : D_X8_need_137 P x4_137 M_137 N_137 = some r) : ∀ j, j < 82 → r.2.1 (P + 1) j = M_137 (P + 3) j := by
  unfold D_X8_need_137 at h
  have kc_0 : ∀ j, j < 82 → M_137 (P + 3) j = M_137 (P + 3) j := fun _ _ => rfl
  obtain ⟨e_138, f_e_138, h⟩ := zBx h
  have ke_138 : ∀ j, j < 82 → e_138 (P + 1) j = M_137 (P + 3) j := fun j hj => (ptakes f_e_138 j hj).trans (kc_0 j hj)
  by_cases c19 : x4_137 = (-1 : Int32)
  · rw [if_pos c19] at h
    obtain ⟨e_149, f_e_149, h⟩ := zBx h
    have ke_149 : ∀ j, j < 82 → e_149.2 (P + 1) j = M_137 (P + 3) j := fun j hj => (p11_X8_refuse f_e_149 j hj).trans (ke_138 j hj)
    exact fun j hj => (p11_X8_need_161 h j hj).trans (ke_149 j hj)
  · rw [if_neg c19] at h
    obtain ⟨e_158, f_e_158, h⟩ := zBx h
    have ke_158 : ∀ j, j < 82 → e_158.2 (P + 1) j = M_137 (P + 3) j := fun j hj => (p11_X8_gives f_e_158 j hj).trans (ke_138 j hj)
    exact fun j hj => (p11_X8_need_161 h j hj).trans (ke_158 j hj)
set_option maxRecDepth 100000 in
set_option maxHeartbeats 4000000 in
theorem p33_X8_laysOne_162 {P : Nat} {y1_162 : Int32} {y2_162 : Int32} {M_162 : zMt}  {r : (zMt)} (h : D_X8_laysOne_162 P y1_162 y2_162 M_162 = some r) : ∀ j, j < 82 → r (P + 3) j = M_162 (P + 3) j := by
  unfold D_X8_laysOne_162 at h
  have kc_0 : ∀ j, j < 82 → M_162 (P + 3) j = M_162 (P + 3) j := fun _ _ => rfl
  replace h := (zIx h).2
  obtain ⟨M_162', f_M_162', h⟩ := zLtx h
  have k_M_162' : ∀ j, j < 82 → M_162' (P + 3) j = M_162 (P + 3) j := fun j hj => (congrFun (congrFun f_M_162'.symm (P + 3)) j).trans ((zu_ne (by omega)).trans (kc_0 j hj))
  cases h
  exact k_M_162'
set_option maxRecDepth 100000 in
set_option maxHeartbeats 4000000 in
theorem p33_X8_laysOne_86 {P : Nat} {k18 : Int32 → Int32 → Int32 → zMt → Option (zMt)} {x1_86 : Int32} {x2_86 : Int32} {x3_86 : Int32} {M_86 : zMt} (hk_k18 : ∀ (y0 : Int32) (y1 : Int32) (y2 : Int32) (y3 : zMt) r, k18 y0 y1 y2 y3 = some r → ∀ j, j < 82 → r (P + 3) j = y3 (P + 3) j) {r : (zMt)} (h : D_X8_laysOne_86 P k18 x1_86 x2_86 x3_86 M_86 = some r) : ∀ j, j < 82 → r (P + 3) j = M_86 (P + 3) j := by
  unfold D_X8_laysOne_86 at h
  have kc_0 : ∀ j, j < 82 → M_86 (P + 3) j = M_86 (P + 3) j := fun _ _ => rfl
  exact fun j hj => (hk_k18 _ _ _ _ _ h j hj).trans (kc_0 j hj)
set_option maxRecDepth 100000 in
set_option maxHeartbeats 4000000 in
theorem p33_X8_laysOne_73 {P : Nat} {k18 : Int32 → Int32 → Int32 → zMt → Option (zMt)} {x1_73 : Int32} {x2_73 : Int32} {x3_73 : Int32} {y1_73 : Int32} {y2_73 : Int32} {y3_73 : Int32} {M_73 : zMt} (hk_k18 : ∀ (y0 : Int32) (y1 : Int32) (y2 : Int32) (y3 : zMt) r, k18 y0 y1 y2 y3 = some r → ∀ j, j < 82 → r (P + 3) j = y3 (P + 3) j) {r : (zMt)} (h : D_X8_laysOne_73 P k18 x1_73 x2_73 x3_73 y1_73 y2_73 y3_73 M_73 = some r) : ∀ j, j < 82 → r (P + 3) j = M_73 (P + 3) j := by
  unfold D_X8_laysOne_73 at h
  have kc_0 : ∀ j, j < 82 → M_73 (P + 3) j = M_73 (P + 3) j := fun _ _ => rfl
  replace h := (zIx h).2
  obtain ⟨M_74, f_M_74, h⟩ := zLtx h
  have k_M_74 : ∀ j, j < 82 → M_74 (P + 3) j = M_73 (P + 3) j := fun j hj => (congrFun (congrFun f_M_74.symm (P + 3)) j).trans ((zu_ne (by omega)).trans (kc_0 j hj))
  replace h := (zIx h).2
  exact fun j hj => (p33_X8_laysOne_86 hk_k18 h j hj).trans (k_M_74 j hj)
set_option maxRecDepth 100000 in
set_option maxHeartbeats 4000000 in
theorem p33_X8_laysOne_18 {P : Nat}  : ∀ (u : Nat) (x1_18 : Int32) (x2_18 : Int32) (x3_18 : Int32) (M_18 : zMt) (r : (zMt)), D_X8_laysOne_18 P u x1_18 x2_18 x3_18 M_18 = some r → ∀ j, j < 82 → r (P + 3) j = M_18 (P + 3) j := by
  intro u
  induction u with
  | zero =>
    intro x1_18 x2_18 x3_18 M_18 r h
    cases h
  | succ u ih =>
    intro x1_18 x2_18 x3_18 M_18 r h
    rw [D_X8_laysOne_18] at h
    have kc_0 : ∀ j, j < 82 → M_18 (P + 3) j = M_18 (P + 3) j := fun _ _ => rfl
    by_cases c24 : (M_18 P 8) ≤ x3_18
    · rw [if_pos c24] at h
      replace h := (zIx h).2
      replace h := (zZx h).2
      replace h := (zIx h).2
      obtain ⟨M_105, f_M_105, h⟩ := zLtx h
      have k_M_105 : ∀ j, j < 82 → M_105 (P + 3) j = M_18 (P + 3) j := fun j hj => (congrFun (congrFun f_M_105.symm (P + 3)) j).trans ((zu_ne (by omega)).trans (kc_0 j hj))
      replace h := (zIx h).2
      by_cases c25 : (M_105 (P + 1) (67 : Int32).toNatClampNeg) = 0
      · rw [if_pos c25] at h
        exact fun j hj => (p33_X8_laysOne_162 h j hj).trans (k_M_105 j hj)
      · rw [if_neg c25] at h
        replace h := (zIx h).2
        by_cases c26 : (M_105 (P + 1) (67 : Int32).toNatClampNeg) = (1 : Int32)
        · rw [if_pos c26] at h
          replace h := (zIx h).2
          exact fun j hj => (p33_X8_laysOne_162 h j hj).trans (k_M_105 j hj)
        · rw [if_neg c26] at h
          replace h := (zIx h).2
          replace h := (zIx h).2
          exact fun j hj => (p33_X8_laysOne_162 h j hj).trans (k_M_105 j hj)
    · rw [if_neg c24] at h
      replace h := (zIx h).2
      obtain ⟨e_33, f_e_33, h⟩ := zBx h
      by_cases c27 : e_33 = 0
      · rw [if_pos c27] at h
        exact fun j hj => (p33_X8_laysOne_86 ih h j hj).trans (kc_0 j hj)
      · rw [if_neg c27] at h
        replace h := (zIx h).2
        replace h := (zIx h).2
        obtain ⟨M_51, f_M_51, h⟩ := zLtx h
        have k_M_51 : ∀ j, j < 82 → M_51 (P + 3) j = M_18 (P + 3) j := fun j hj => (congrFun (congrFun f_M_51.symm (P + 3)) j).trans ((zu_ne (by omega)).trans (kc_0 j hj))
        replace h := (zIx h).2
        replace h := (zIx h).2
        by_cases c28 : (M_51 (P + 5) x3_18.toNatClampNeg) = 0
        · rw [if_pos c28] at h
          exact fun j hj => (p33_X8_laysOne_73 ih h j hj).trans (k_M_51 j hj)
        · rw [if_neg c28] at h
          exact fun j hj => (p33_X8_laysOne_73 ih h j hj).trans (k_M_51 j hj)
set_option maxRecDepth 100000 in
set_option maxHeartbeats 4000000 in
theorem p33_X8_laysOne {P : Nat} {v0 : Int32} {M : zMt}  {r : (zMt)} (h : D_X8_laysOne P v0 M = some r) : ∀ j, j < 82 → r (P + 3) j = M (P + 3) j := by
  unfold D_X8_laysOne at h
  have kc_0 : ∀ j, j < 82 → M (P + 3) j = M (P + 3) j := fun _ _ => rfl
  replace h := (zIx h).2
  obtain ⟨M_6, f_M_6, h⟩ := zLtx h
  have k_M_6 : ∀ j, j < 82 → M_6 (P + 3) j = M (P + 3) j := fun j hj => (congrFun (congrFun f_M_6.symm (P + 3)) j).trans ((zu_ne (by omega)).trans (kc_0 j hj))
  replace h := (zIx h).2
  obtain ⟨M_13, f_M_13, h⟩ := zLtx h
  have k_M_13 : ∀ j, j < 82 → M_13 (P + 3) j = M (P + 3) j := fun j hj => (congrFun (congrFun f_M_13.symm (P + 3)) j).trans ((zu_ne (by omega)).trans (k_M_6 j hj))
  exact fun j hj => (p33_X8_laysOne_18 _ _ _ _ _ _ h j hj).trans (k_M_13 j hj)
set_option maxRecDepth 100000 in
set_option maxHeartbeats 4000000 in
theorem p33_X8_laysApplicants_198 {P : Nat}  : ∀ (u : Nat) (x1_198 : Int32) (M_198 : zMt) (r : (zMt)), D_X8_laysApplicants_198 P u x1_198 M_198 = some r → ∀ j, j < 82 → r (P + 3) j = M_198 (P + 3) j := by
  intro u
  induction u with
  | zero =>
    intro x1_198 M_198 r h
    cases h
  | succ u ih =>
    intro x1_198 M_198 r h
    rw [D_X8_laysApplicants_198] at h
    have kc_0 : ∀ j, j < 82 → M_198 (P + 3) j = M_198 (P + 3) j := fun _ _ => rfl
    by_cases c23 : (M_198 P 33) ≤ x1_198
    · rw [if_pos c23] at h
      cases h
      exact kc_0
    · rw [if_neg c23] at h
      obtain ⟨e_208, f_e_208, h⟩ := zBx h
      have ke_208 : ∀ j, j < 82 → e_208 (P + 3) j = M_198 (P + 3) j := fun j hj => (p33_X8_laysOne f_e_208 j hj).trans (kc_0 j hj)
      exact fun j hj => (ih _ _ _ h j hj).trans (ke_208 j hj)
set_option maxRecDepth 100000 in
set_option maxHeartbeats 4000000 in
theorem p33_X8_laysApplicants_147 {P : Nat} {k86 : Int32 → zMt → Option (zMt)} {k109 : Int32 → Int32 → zMt → Option (zMt)} {x1_147 : Int32} {x2_147 : Int32} {y1_147 : Int32} {y2_147 : Int32} {y3_147 : Int32} {M_147 : zMt} (hk_k86 : ∀ (y0 : Int32) (y1 : zMt) r, k86 y0 y1 = some r → ∀ j, j < 82 → r (P + 3) j = y1 (P + 3) j) (hk_k109 : ∀ (y0 : Int32) (y1 : Int32) (y2 : zMt) r, k109 y0 y1 y2 = some r → ∀ j, j < 82 → r (P + 3) j = y2 (P + 3) j) {r : (zMt)} (h : D_X8_laysApplicants_147 P k86 k109 x1_147 x2_147 y1_147 y2_147 y3_147 M_147 = some r) : ∀ j, j < 82 → r (P + 3) j = M_147 (P + 3) j := by
  unfold D_X8_laysApplicants_147 at h
  have kc_0 : ∀ j, j < 82 → M_147 (P + 3) j = M_147 (P + 3) j := fun _ _ => rfl
  replace h := (zIx h).2
  obtain ⟨M_148, f_M_148, h⟩ := zLtx h
  have k_M_148 : ∀ j, j < 82 → M_148 (P + 3) j = M_147 (P + 3) j := fun j hj => (congrFun (congrFun f_M_148.symm (P + 3)) j).trans ((zu_ne (by omega)).trans (kc_0 j hj))
  exact fun j hj => (hk_k109 _ _ _ _ h j hj).trans (k_M_148 j hj)
set_option maxRecDepth 100000 in
set_option maxHeartbeats 4000000 in
theorem p33_X8_laysApplicants_109 {P : Nat} {k86 : Int32 → zMt → Option (zMt)} (hk_k86 : ∀ (y0 : Int32) (y1 : zMt) r, k86 y0 y1 = some r → ∀ j, j < 82 → r (P + 3) j = y1 (P + 3) j) : ∀ (u : Nat) (x1_109 : Int32) (x2_109 : Int32) (M_109 : zMt) (r : (zMt)), D_X8_laysApplicants_109 P k86 u x1_109 x2_109 M_109 = some r → ∀ j, j < 82 → r (P + 3) j = M_109 (P + 3) j := by
  intro u
  induction u with
  | zero =>
    intro x1_109 x2_109 M_109 r h
    cases h
  | succ u ih =>
    intro x1_109 x2_109 M_109 r h
    rw [D_X8_laysApplicants_109] at h
    have kc_0 : ∀ j, j < 82 → M_109 (P + 3) j = M_109 (P + 3) j := fun _ _ => rfl
    by_cases c29 : (M_109 P 8) ≤ x2_109
    · rw [if_pos c29] at h
      replace h := (zIx h).2
      obtain ⟨M_164, f_M_164, h⟩ := zLtx h
      have k_M_164 : ∀ j, j < 82 → M_164 (P + 3) j = M_109 (P + 3) j := fun j hj => (congrFun (congrFun f_M_164.symm (P + 3)) j).trans ((zu_ne (by omega)).trans (kc_0 j hj))
      replace h := (zIx h).2
      obtain ⟨M_179, f_M_179, h⟩ := zLtx h
      have k_M_179 : ∀ j, j < 82 → M_179 (P + 3) j = M_109 (P + 3) j := fun j hj => (congrFun (congrFun f_M_179.symm (P + 3)) j).trans ((zu_ne (by omega)).trans (k_M_164 j hj))
      obtain ⟨M_187, f_M_187, h⟩ := zLtx h
      have k_M_187 : ∀ j, j < 82 → M_187 (P + 3) j = M_109 (P + 3) j := fun j hj => (congrFun (congrFun f_M_187.symm (P + 3)) j).trans ((zu_ne (by omega)).trans (k_M_179 j hj))
      exact fun j hj => (hk_k86 _ _ _ h j hj).trans (k_M_187 j hj)
    · rw [if_neg c29] at h
      replace h := (zIx h).2
      replace h := (zIx h).2
      by_cases c30 : (M_109 (P + 1) ((10 : Int32) + x2_109).toNatClampNeg) = x1_109
      · rw [if_pos c30] at h
        exact fun j hj => (p33_X8_laysApplicants_147 hk_k86 ih h j hj).trans (kc_0 j hj)
      · rw [if_neg c30] at h
        exact fun j hj => (p33_X8_laysApplicants_147 hk_k86 ih h j hj).trans (kc_0 j hj)
set_option maxRecDepth 100000 in
set_option maxHeartbeats 4000000 in
theorem p33_X8_laysApplicants_86 {P : Nat}  : ∀ (u : Nat) (x1_86 : Int32) (M_86 : zMt) (r : (zMt)), D_X8_laysApplicants_86 P u x1_86 M_86 = some r → ∀ j, j < 82 → r (P + 3) j = M_86 (P + 3) j := by
  intro u
  induction u with
  | zero =>
    intro x1_86 M_86 r h
    cases h
  | succ u ih =>
    intro x1_86 M_86 r h
    rw [D_X8_laysApplicants_86] at h
    have kc_0 : ∀ j, j < 82 → M_86 (P + 3) j = M_86 (P + 3) j := fun _ _ => rfl
    replace h := (zIx h).2
    by_cases c22 : (M_86 (P + 1) (70 : Int32).toNatClampNeg) ≤ x1_86
    · rw [if_pos c22] at h
      exact fun j hj => (p33_X8_laysApplicants_198 _ _ _ _ h j hj).trans (kc_0 j hj)
    · rw [if_neg c22] at h
      replace h := (zIx h).2
      obtain ⟨M_106, f_M_106, h⟩ := zLtx h
      have k_M_106 : ∀ j, j < 82 → M_106 (P + 3) j = M_86 (P + 3) j := fun j hj => (congrFun (congrFun f_M_106.symm (P + 3)) j).trans ((zu_ne (by omega)).trans (kc_0 j hj))
      exact fun j hj => (p33_X8_laysApplicants_109 ih _ _ _ _ _ h j hj).trans (k_M_106 j hj)
set_option maxRecDepth 100000 in
set_option maxHeartbeats 4000000 in
theorem p33_X8_laysApplicants_78 {P : Nat} {k7 : Int32 → zMt → Option (zMt)} {x1_78 : Int32} {M_78 : zMt} (hk_k7 : ∀ (y0 : Int32) (y1 : zMt) r, k7 y0 y1 = some r → ∀ j, j < 82 → r (P + 3) j = y1 (P + 3) j) {r : (zMt)} (h : D_X8_laysApplicants_78 P k7 x1_78 M_78 = some r) : ∀ j, j < 82 → r (P + 3) j = M_78 (P + 3) j := by
  unfold D_X8_laysApplicants_78 at h
  have kc_0 : ∀ j, j < 82 → M_78 (P + 3) j = M_78 (P + 3) j := fun _ _ => rfl
  exact fun j hj => (hk_k7 _ _ _ h j hj).trans (kc_0 j hj)
set_option maxRecDepth 100000 in
set_option maxHeartbeats 4000000 in
theorem p33_X8_laysApplicants_7 {P : Nat}  : ∀ (u : Nat) (x1_7 : Int32) (M_7 : zMt) (r : (zMt)), D_X8_laysApplicants_7 P u x1_7 M_7 = some r → ∀ j, j < 82 → r (P + 3) j = M_7 (P + 3) j := by
  intro u
  induction u with
  | zero =>
    intro x1_7 M_7 r h
    cases h
  | succ u ih =>
    intro x1_7 M_7 r h
    rw [D_X8_laysApplicants_7] at h
    have kc_0 : ∀ j, j < 82 → M_7 (P + 3) j = M_7 (P + 3) j := fun _ _ => rfl
    by_cases c21 : (M_7 P 8) ≤ x1_7
    · rw [if_pos c21] at h
      exact fun j hj => (p33_X8_laysApplicants_86 _ _ _ _ h j hj).trans (kc_0 j hj)
    · rw [if_neg c21] at h
      replace h := (zIx h).2
      by_cases c31 : (M_7 (P + 1) ((10 : Int32) + x1_7).toNatClampNeg) = (-1 : Int32)
      · rw [if_pos c31] at h
        replace h := (zIx h).2
        obtain ⟨M_42, f_M_42, h⟩ := zLtx h
        have k_M_42 : ∀ j, j < 82 → M_42 (P + 3) j = M_7 (P + 3) j := fun j hj => (congrFun (congrFun f_M_42.symm (P + 3)) j).trans ((zu_ne (by omega)).trans (kc_0 j hj))
        replace h := (zIx h).2
        obtain ⟨M_52, f_M_52, h⟩ := zLtx h
        have k_M_52 : ∀ j, j < 82 → M_52 (P + 3) j = M_7 (P + 3) j := fun j hj => (congrFun (congrFun f_M_52.symm (P + 3)) j).trans ((zu_ne (by omega)).trans (k_M_42 j hj))
        replace h := (zIx h).2
        obtain ⟨M_67, f_M_67, h⟩ := zLtx h
        have k_M_67 : ∀ j, j < 82 → M_67 (P + 3) j = M_7 (P + 3) j := fun j hj => (congrFun (congrFun f_M_67.symm (P + 3)) j).trans ((zu_ne (by omega)).trans (k_M_52 j hj))
        obtain ⟨M_75, f_M_75, h⟩ := zLtx h
        have k_M_75 : ∀ j, j < 82 → M_75 (P + 3) j = M_7 (P + 3) j := fun j hj => (congrFun (congrFun f_M_75.symm (P + 3)) j).trans ((zu_ne (by omega)).trans (k_M_67 j hj))
        exact fun j hj => (p33_X8_laysApplicants_78 ih h j hj).trans (k_M_75 j hj)
      · rw [if_neg c31] at h
        exact fun j hj => (p33_X8_laysApplicants_78 ih h j hj).trans (kc_0 j hj)
set_option maxRecDepth 100000 in
set_option maxHeartbeats 4000000 in
theorem p33_X8_laysApplicants {P : Nat} {M : zMt}  {r : (zMt)} (h : D_X8_laysApplicants P M = some r) : ∀ j, j < 82 → r (P + 3) j = M (P + 3) j := by
  unfold D_X8_laysApplicants at h
  have kc_0 : ∀ j, j < 82 → M (P + 3) j = M (P + 3) j := fun _ _ => rfl
  obtain ⟨M_2, f_M_2, h⟩ := zLtx h
  have k_M_2 : ∀ j, j < 82 → M_2 (P + 3) j = M (P + 3) j := fun j hj => (congrFun (congrFun f_M_2.symm (P + 3)) j).trans ((zu_ne (by omega)).trans (kc_0 j hj))
  exact fun j hj => (p33_X8_laysApplicants_7 _ _ _ _ h j hj).trans (k_M_2 j hj)
set_option maxRecDepth 100000 in
set_option maxHeartbeats 4000000 in
theorem p33_X8_results_185 {P : Nat} {k96 : Int32 → Int32 → zMt → Option (zMt)} {x1_185 : Int32} {x2_185 : Int32} {M_185 : zMt} (hk_k96 : ∀ (y0 : Int32) (y1 : Int32) (y2 : zMt) r, k96 y0 y1 y2 = some r → ∀ j, j < 82 → r (P + 3) j = y2 (P + 3) j) {r : (zMt)} (h : D_X8_results_185 P k96 x1_185 x2_185 M_185 = some r) : ∀ j, j < 82 → r (P + 3) j = M_185 (P + 3) j := by
  unfold D_X8_results_185 at h
  have kc_0 : ∀ j, j < 82 → M_185 (P + 3) j = M_185 (P + 3) j := fun _ _ => rfl
  exact fun j hj => (hk_k96 _ _ _ _ h j hj).trans (kc_0 j hj)
set_option maxRecDepth 100000 in
set_option maxHeartbeats 4000000 in
theorem p33_X8_results_179 {P : Nat} {k96 : Int32 → Int32 → zMt → Option (zMt)} {k114 : Int32 → Int32 → Int32 → Int32 → zMt → Option (zMt)} {x1_179 : Int32} {x2_179 : Int32} {x3_179 : Int32} {x4_179 : Int32} {M_179 : zMt} (hk_k96 : ∀ (y0 : Int32) (y1 : Int32) (y2 : zMt) r, k96 y0 y1 y2 = some r → ∀ j, j < 82 → r (P + 3) j = y2 (P + 3) j) (hk_k114 : ∀ (y0 : Int32) (y1 : Int32) (y2 : Int32) (y3 : Int32) (y4 : zMt) r, k114 y0 y1 y2 y3 y4 = some r → ∀ j, j < 82 → r (P + 3) j = y4 (P + 3) j) {r : (zMt)} (h : D_X8_results_179 P k96 k114 x1_179 x2_179 x3_179 x4_179 M_179 = some r) : ∀ j, j < 82 → r (P + 3) j = M_179 (P + 3) j := by
  unfold D_X8_results_179 at h
  have kc_0 : ∀ j, j < 82 → M_179 (P + 3) j = M_179 (P + 3) j := fun _ _ => rfl
  exact fun j hj => (hk_k114 _ _ _ _ _ _ h j hj).trans (kc_0 j hj)
set_option maxRecDepth 100000 in
set_option maxHeartbeats 4000000 in
theorem p33_X8_gets {P : Nat} {v0 : Int32} {v1 : Int32} {v2 : Int32} {M : zMt}  {r : (zMt)} (h : D_X8_gets P v0 v1 v2 M = some r) : ∀ j, j < 82 → r (P + 3) j = M (P + 3) j := by
  unfold D_X8_gets at h
  have kc_0 : ∀ j, j < 82 → M (P + 3) j = M (P + 3) j := fun _ _ => rfl
  replace h := (zIx h).2
  obtain ⟨M_6, f_M_6, h⟩ := zLtx h
  have k_M_6 : ∀ j, j < 82 → M_6 (P + 3) j = M (P + 3) j := fun j hj => (congrFun (congrFun f_M_6.symm (P + 3)) j).trans ((zu_ne (by omega)).trans (kc_0 j hj))
  replace h := (zIx h).2
  obtain ⟨M_13, f_M_13, h⟩ := zLtx h
  have k_M_13 : ∀ j, j < 82 → M_13 (P + 3) j = M (P + 3) j := fun j hj => (congrFun (congrFun f_M_13.symm (P + 3)) j).trans ((zu_ne (by omega)).trans (k_M_6 j hj))
  replace h := (zIx h).2
  replace h := (zIx h).2
  replace h := (zIx h).2
  obtain ⟨M_28, f_M_28, h⟩ := zLtx h
  have k_M_28 : ∀ j, j < 82 → M_28 (P + 3) j = M (P + 3) j := fun j hj => (congrFun (congrFun f_M_28.symm (P + 3)) j).trans ((zu_ne (by omega)).trans (k_M_13 j hj))
  replace h := (zIx h).2
  replace h := (zIx h).2
  replace h := (zIx h).2
  obtain ⟨M_43, f_M_43, h⟩ := zLtx h
  have k_M_43 : ∀ j, j < 82 → M_43 (P + 3) j = M (P + 3) j := fun j hj => (congrFun (congrFun f_M_43.symm (P + 3)) j).trans ((zu_ne (by omega)).trans (k_M_28 j hj))
  cases h
  exact k_M_43
set_option maxRecDepth 100000 in
set_option maxHeartbeats 4000000 in
theorem p33_X8_results_114 {P : Nat} {k96 : Int32 → Int32 → zMt → Option (zMt)} (hk_k96 : ∀ (y0 : Int32) (y1 : Int32) (y2 : zMt) r, k96 y0 y1 y2 = some r → ∀ j, j < 82 → r (P + 3) j = y2 (P + 3) j) : ∀ (u : Nat) (x1_114 : Int32) (x2_114 : Int32) (x3_114 : Int32) (x4_114 : Int32) (M_114 : zMt) (r : (zMt)), D_X8_results_114 P k96 u x1_114 x2_114 x3_114 x4_114 M_114 = some r → ∀ j, j < 82 → r (P + 3) j = M_114 (P + 3) j := by
  intro u
  induction u with
  | zero =>
    intro x1_114 x2_114 x3_114 x4_114 M_114 r h
    cases h
  | succ u ih =>
    intro x1_114 x2_114 x3_114 x4_114 M_114 r h
    rw [D_X8_results_114] at h
    have kc_0 : ∀ j, j < 82 → M_114 (P + 3) j = M_114 (P + 3) j := fun _ _ => rfl
    obtain ⟨e_118, f_e_118, h⟩ := zBx h
    by_cases c42 : e_118 ≤ x4_114
    · rw [if_pos c42] at h
      exact fun j hj => (p33_X8_results_185 hk_k96 h j hj).trans (kc_0 j hj)
    · rw [if_neg c42] at h
      replace h := (zIx h).2
      by_cases c43 : (M_114 (P + 19) x3_114.toNatClampNeg) = (-1 : Int32)
      · rw [if_pos c43] at h
        by_cases c44 : x3_114 = x1_114
        · rw [if_pos c44] at h
          exact fun j hj => (p33_X8_results_185 hk_k96 h j hj).trans (kc_0 j hj)
        · rw [if_neg c44] at h
          obtain ⟨e_145, f_e_145, h⟩ := zBx h
          obtain ⟨e_156, f_e_156, h⟩ := zBx h
          replace h := (zIx h).2
          obtain ⟨e_160, f_e_160, h⟩ := zBx h
          by_cases c45 : e_160 = 0
          · rw [if_pos c45] at h
            exact fun j hj => (p33_X8_results_179 hk_k96 ih h j hj).trans (kc_0 j hj)
          · rw [if_neg c45] at h
            obtain ⟨e_172, f_e_172, h⟩ := zBx h
            obtain ⟨e_176, f_e_176, h⟩ := zBx h
            have ke_176 : ∀ j, j < 82 → e_176 (P + 3) j = M_114 (P + 3) j := fun j hj => (p33_X8_gets f_e_176 j hj).trans (kc_0 j hj)
            exact fun j hj => (p33_X8_results_179 hk_k96 ih h j hj).trans (ke_176 j hj)
      · rw [if_neg c43] at h
        exact fun j hj => (p33_X8_results_185 hk_k96 h j hj).trans (kc_0 j hj)
set_option maxRecDepth 100000 in
set_option maxHeartbeats 4000000 in
theorem p33_X8_results_96 {P : Nat}  : ∀ (u : Nat) (x1_96 : Int32) (x2_96 : Int32) (M_96 : zMt) (r : (zMt)), D_X8_results_96 P u x1_96 x2_96 M_96 = some r → ∀ j, j < 82 → r (P + 3) j = M_96 (P + 3) j := by
  intro u
  induction u with
  | zero =>
    intro x1_96 x2_96 M_96 r h
    cases h
  | succ u ih =>
    intro x1_96 x2_96 M_96 r h
    rw [D_X8_results_96] at h
    have kc_0 : ∀ j, j < 82 → M_96 (P + 3) j = M_96 (P + 3) j := fun _ _ => rfl
    by_cases c41 : (M_96 P 33) ≤ x2_96
    · rw [if_pos c41] at h
      cases h
      exact kc_0
    · rw [if_neg c41] at h
      replace h := (zIx h).2
      exact fun j hj => (p33_X8_results_114 ih _ _ _ _ _ _ _ h j hj).trans (kc_0 j hj)
set_option maxRecDepth 100000 in
set_option maxHeartbeats 4000000 in
theorem p33_X8_firstRound_108 {P : Nat} {k3 : Int32 → Int32 → Int32 → zMt → Option (zMt)} {k10 : Int32 → Int32 → Int32 → Int32 → zMt → Option (zMt)} {x1_108 : Int32} {x2_108 : Int32} {x3_108 : Int32} {x4_108 : Int32} {M_108 : zMt} (hk_k3 : ∀ (y0 : Int32) (y1 : Int32) (y2 : Int32) (y3 : zMt) r, k3 y0 y1 y2 y3 = some r → ∀ j, j < 82 → r (P + 3) j = y3 (P + 3) j) (hk_k10 : ∀ (y0 : Int32) (y1 : Int32) (y2 : Int32) (y3 : Int32) (y4 : zMt) r, k10 y0 y1 y2 y3 y4 = some r → ∀ j, j < 82 → r (P + 3) j = y4 (P + 3) j) {r : (zMt)} (h : D_X8_firstRound_108 P k3 k10 x1_108 x2_108 x3_108 x4_108 M_108 = some r) : ∀ j, j < 82 → r (P + 3) j = M_108 (P + 3) j := by
  unfold D_X8_firstRound_108 at h
  have kc_0 : ∀ j, j < 82 → M_108 (P + 3) j = M_108 (P + 3) j := fun _ _ => rfl
  exact fun j hj => (hk_k10 _ _ _ _ _ _ h j hj).trans (kc_0 j hj)
set_option maxRecDepth 100000 in
set_option maxHeartbeats 4000000 in
theorem p33_X8_firstRound_61 {P : Nat} {k3 : Int32 → Int32 → Int32 → zMt → Option (zMt)} {k10 : Int32 → Int32 → Int32 → Int32 → zMt → Option (zMt)} {x1_61 : Int32} {x2_61 : Int32} {x3_61 : Int32} {x4_61 : Int32} {x5_61 : Int32} {y0_61 : Int32} {M_61 : zMt} (hk_k3 : ∀ (y0 : Int32) (y1 : Int32) (y2 : Int32) (y3 : zMt) r, k3 y0 y1 y2 y3 = some r → ∀ j, j < 82 → r (P + 3) j = y3 (P + 3) j) (hk_k10 : ∀ (y0 : Int32) (y1 : Int32) (y2 : Int32) (y3 : Int32) (y4 : zMt) r, k10 y0 y1 y2 y3 y4 = some r → ∀ j, j < 82 → r (P + 3) j = y4 (P + 3) j) {r : (zMt)} (h : D_X8_firstRound_61 P k3 k10 x1_61 x2_61 x3_61 x4_61 x5_61 y0_61 M_61 = some r) : ∀ j, j < 82 → r (P + 3) j = M_61 (P + 3) j := by
  unfold D_X8_firstRound_61 at h
  have kc_0 : ∀ j, j < 82 → M_61 (P + 3) j = M_61 (P + 3) j := fun _ _ => rfl
  by_cases c49 : y0_61 = 0
  · rw [if_pos c49] at h
    exact fun j hj => (p33_X8_firstRound_108 hk_k3 hk_k10 h j hj).trans (kc_0 j hj)
  · rw [if_neg c49] at h
    replace h := (zIx h).2
    replace h := (zIx h).2
    obtain ⟨e_90, f_e_90, h⟩ := zBx h
    obtain ⟨e_94, f_e_94, h⟩ := zBx h
    by_cases c50 : e_94 = 0
    · rw [if_pos c50] at h
      exact fun j hj => (p33_X8_firstRound_108 hk_k3 hk_k10 h j hj).trans (kc_0 j hj)
    · rw [if_neg c50] at h
      obtain ⟨e_105, f_e_105, h⟩ := zBx h
      have ke_105 : ∀ j, j < 82 → e_105 (P + 3) j = M_61 (P + 3) j := fun j hj => (p33_X8_gets f_e_105 j hj).trans (kc_0 j hj)
      exact fun j hj => (p33_X8_firstRound_108 hk_k3 hk_k10 h j hj).trans (ke_105 j hj)
set_option maxRecDepth 100000 in
set_option maxHeartbeats 4000000 in
theorem p33_X8_firstRound_60 {P : Nat} {k3 : Int32 → Int32 → Int32 → zMt → Option (zMt)} {k10 : Int32 → Int32 → Int32 → Int32 → zMt → Option (zMt)} {x1_60 : Int32} {x2_60 : Int32} {x3_60 : Int32} {x4_60 : Int32} {x5_60 : Int32} {M_60 : zMt} (hk_k3 : ∀ (y0 : Int32) (y1 : Int32) (y2 : Int32) (y3 : zMt) r, k3 y0 y1 y2 y3 = some r → ∀ j, j < 82 → r (P + 3) j = y3 (P + 3) j) (hk_k10 : ∀ (y0 : Int32) (y1 : Int32) (y2 : Int32) (y3 : Int32) (y4 : zMt) r, k10 y0 y1 y2 y3 y4 = some r → ∀ j, j < 82 → r (P + 3) j = y4 (P + 3) j) {r : (zMt)} (h : D_X8_firstRound_60 P k3 k10 x1_60 x2_60 x3_60 x4_60 x5_60 M_60 = some r) : ∀ j, j < 82 → r (P + 3) j = M_60 (P + 3) j := by
  unfold D_X8_firstRound_60 at h
  have kc_0 : ∀ j, j < 82 → M_60 (P + 3) j = M_60 (P + 3) j := fun _ _ => rfl
  exact fun j hj => (p33_X8_firstRound_61 hk_k3 hk_k10 h j hj).trans (kc_0 j hj)
set_option maxRecDepth 100000 in
set_option maxHeartbeats 4000000 in
theorem p33_X8_firstRound_10 {P : Nat} {k3 : Int32 → Int32 → Int32 → zMt → Option (zMt)} (hk_k3 : ∀ (y0 : Int32) (y1 : Int32) (y2 : Int32) (y3 : zMt) r, k3 y0 y1 y2 y3 = some r → ∀ j, j < 82 → r (P + 3) j = y3 (P + 3) j) : ∀ (u : Nat) (x1_10 : Int32) (x2_10 : Int32) (x3_10 : Int32) (x4_10 : Int32) (M_10 : zMt) (r : (zMt)), D_X8_firstRound_10 P k3 u x1_10 x2_10 x3_10 x4_10 M_10 = some r → ∀ j, j < 82 → r (P + 3) j = M_10 (P + 3) j := by
  intro u
  induction u with
  | zero =>
    intro x1_10 x2_10 x3_10 x4_10 M_10 r h
    cases h
  | succ u ih =>
    intro x1_10 x2_10 x3_10 x4_10 M_10 r h
    rw [D_X8_firstRound_10] at h
    have kc_0 : ∀ j, j < 82 → M_10 (P + 3) j = M_10 (P + 3) j := fun _ _ => rfl
    by_cases c47 : (M_10 P 33) ≤ x4_10
    · rw [if_pos c47] at h
      exact fun j hj => (hk_k3 _ _ _ _ _ h j hj).trans (kc_0 j hj)
    · rw [if_neg c47] at h
      replace h := (zIx h).2
      by_cases c48 : (M_10 (P + 18) x4_10.toNatClampNeg) = x2_10
      · rw [if_pos c48] at h
        exact fun j hj => (p33_X8_firstRound_60 hk_k3 ih h j hj).trans (kc_0 j hj)
      · rw [if_neg c48] at h
        obtain ⟨e_38, f_e_38, h⟩ := zBx h
        by_cases c51 : e_38 = x1_10
        · rw [if_pos c51] at h
          replace h := (zIx h).2
          by_cases c52 : (M_10 (P + 16) (M_10 (P + 18) x4_10.toNatClampNeg).toNatClampNeg) = x3_10
          · rw [if_pos c52] at h
            exact fun j hj => (p33_X8_firstRound_61 hk_k3 ih h j hj).trans (kc_0 j hj)
          · rw [if_neg c52] at h
            exact fun j hj => (p33_X8_firstRound_60 hk_k3 ih h j hj).trans (kc_0 j hj)
        · rw [if_neg c51] at h
          exact fun j hj => (p33_X8_firstRound_60 hk_k3 ih h j hj).trans (kc_0 j hj)
set_option maxRecDepth 100000 in
set_option maxHeartbeats 4000000 in
theorem p33_X8_firstRound_3 {P : Nat}  : ∀ (u : Nat) (x1_3 : Int32) (x2_3 : Int32) (x3_3 : Int32) (M_3 : zMt) (r : (zMt)), D_X8_firstRound_3 P u x1_3 x2_3 x3_3 M_3 = some r → ∀ j, j < 82 → r (P + 3) j = M_3 (P + 3) j := by
  intro u
  induction u with
  | zero =>
    intro x1_3 x2_3 x3_3 M_3 r h
    cases h
  | succ u ih =>
    intro x1_3 x2_3 x3_3 M_3 r h
    rw [D_X8_firstRound_3] at h
    have kc_0 : ∀ j, j < 82 → M_3 (P + 3) j = M_3 (P + 3) j := fun _ _ => rfl
    by_cases c46 : x3_3 < 0
    · rw [if_pos c46] at h
      cases h
      exact kc_0
    · rw [if_neg c46] at h
      exact fun j hj => (p33_X8_firstRound_10 ih _ _ _ _ _ _ _ h j hj).trans (kc_0 j hj)
set_option maxRecDepth 100000 in
set_option maxHeartbeats 4000000 in
theorem p33_X8_firstRound {P : Nat} {v0 : Int32} {v1 : Int32} {M : zMt}  {r : (zMt)} (h : D_X8_firstRound P v0 v1 M = some r) : ∀ j, j < 82 → r (P + 3) j = M (P + 3) j := by
  unfold D_X8_firstRound at h
  have kc_0 : ∀ j, j < 82 → M (P + 3) j = M (P + 3) j := fun _ _ => rfl
  exact fun j hj => (p33_X8_firstRound_3 _ _ _ _ _ _ h j hj).trans (kc_0 j hj)
set_option maxRecDepth 100000 in
set_option maxHeartbeats 4000000 in
theorem p33_X8_results_74 {P : Nat}  : ∀ (u : Nat) (x1_74 : Int32) (x2_74 : Int32) (M_74 : zMt) (r : (zMt)), D_X8_results_74 P u x1_74 x2_74 M_74 = some r → ∀ j, j < 82 → r (P + 3) j = M_74 (P + 3) j := by
  intro u
  induction u with
  | zero =>
    intro x1_74 x2_74 M_74 r h
    cases h
  | succ u ih =>
    intro x1_74 x2_74 M_74 r h
    rw [D_X8_results_74] at h
    have kc_0 : ∀ j, j < 82 → M_74 (P + 3) j = M_74 (P + 3) j := fun _ _ => rfl
    by_cases c40 : (M_74 P 7) ≤ x2_74
    · rw [if_pos c40] at h
      exact fun j hj => (p33_X8_results_96 _ _ _ _ _ h j hj).trans (kc_0 j hj)
    · rw [if_neg c40] at h
      obtain ⟨e_85, f_e_85, h⟩ := zBx h
      have ke_85 : ∀ j, j < 82 → e_85 (P + 3) j = M_74 (P + 3) j := fun j hj => (p33_X8_firstRound f_e_85 j hj).trans (kc_0 j hj)
      exact fun j hj => (ih _ _ _ _ h j hj).trans (ke_85 j hj)
set_option maxRecDepth 100000 in
set_option maxHeartbeats 4000000 in
theorem p33_X8_results_32 {P : Nat}  : ∀ (u : Nat) (x1_32 : Int32) (x2_32 : Int32) (M_32 : zMt) (r : (zMt)), D_X8_results_32 P u x1_32 x2_32 M_32 = some r → ∀ j, j < 82 → r (P + 3) j = M_32 (P + 3) j := by
  intro u
  induction u with
  | zero =>
    intro x1_32 x2_32 M_32 r h
    cases h
  | succ u ih =>
    intro x1_32 x2_32 M_32 r h
    rw [D_X8_results_32] at h
    have kc_0 : ∀ j, j < 82 → M_32 (P + 3) j = M_32 (P + 3) j := fun _ _ => rfl
    by_cases c39 : (M_32 P 7) ≤ x2_32
    · rw [if_pos c39] at h
      exact fun j hj => (p33_X8_results_74 _ _ _ _ _ h j hj).trans (kc_0 j hj)
    · rw [if_neg c39] at h
      replace h := (zIx h).2
      replace h := (zIx h).2
      obtain ⟨M_54, f_M_54, h⟩ := zLtx h
      have k_M_54 : ∀ j, j < 82 → M_54 (P + 3) j = M_32 (P + 3) j := fun j hj => (congrFun (congrFun f_M_54.symm (P + 3)) j).trans ((zu_ne (by omega)).trans (kc_0 j hj))
      obtain ⟨e_62, f_e_62, h⟩ := zBx h
      replace h := (zIx h).2
      obtain ⟨M_65, f_M_65, h⟩ := zLtx h
      have k_M_65 : ∀ j, j < 82 → M_65 (P + 3) j = M_32 (P + 3) j := fun j hj => (congrFun (congrFun f_M_65.symm (P + 3)) j).trans ((zu_ne (by omega)).trans (k_M_54 j hj))
      exact fun j hj => (ih _ _ _ _ h j hj).trans (k_M_65 j hj)
set_option maxRecDepth 100000 in
set_option maxHeartbeats 4000000 in
theorem p33_X8_results_2 {P : Nat}  : ∀ (u : Nat) (x1_2 : Int32) (x2_2 : Int32) (M_2 : zMt) (r : (zMt)), D_X8_results_2 P u x1_2 x2_2 M_2 = some r → ∀ j, j < 82 → r (P + 3) j = M_2 (P + 3) j := by
  intro u
  induction u with
  | zero =>
    intro x1_2 x2_2 M_2 r h
    cases h
  | succ u ih =>
    intro x1_2 x2_2 M_2 r h
    rw [D_X8_results_2] at h
    have kc_0 : ∀ j, j < 82 → M_2 (P + 3) j = M_2 (P + 3) j := fun _ _ => rfl
    by_cases c38 : (M_2 P 33) ≤ x2_2
    · rw [if_pos c38] at h
      exact fun j hj => (p33_X8_results_32 _ _ _ _ _ h j hj).trans (kc_0 j hj)
    · rw [if_neg c38] at h
      replace h := (zIx h).2
      obtain ⟨M_16, f_M_16, h⟩ := zLtx h
      have k_M_16 : ∀ j, j < 82 → M_16 (P + 3) j = M_2 (P + 3) j := fun j hj => (congrFun (congrFun f_M_16.symm (P + 3)) j).trans ((zu_ne (by omega)).trans (kc_0 j hj))
      replace h := (zIx h).2
      obtain ⟨M_23, f_M_23, h⟩ := zLtx h
      have k_M_23 : ∀ j, j < 82 → M_23 (P + 3) j = M_2 (P + 3) j := fun j hj => (congrFun (congrFun f_M_23.symm (P + 3)) j).trans ((zu_ne (by omega)).trans (k_M_16 j hj))
      exact fun j hj => (ih _ _ _ _ h j hj).trans (k_M_23 j hj)
set_option maxRecDepth 100000 in
set_option maxHeartbeats 4000000 in
theorem p33_X8_results {P : Nat} {v0 : Int32} {M : zMt}  {r : (zMt)} (h : D_X8_results P v0 M = some r) : ∀ j, j < 82 → r (P + 3) j = M (P + 3) j := by
  unfold D_X8_results at h
  have kc_0 : ∀ j, j < 82 → M (P + 3) j = M (P + 3) j := fun _ _ => rfl
  exact fun j hj => (p33_X8_results_2 _ _ _ _ _ h j hj).trans (kc_0 j hj)
set_option maxRecDepth 100000 in
set_option maxHeartbeats 4000000 in
theorem p33_X8_adds_208 {P : Nat} {x3_208 : Int32} {y1_208 : Int64} {y2_208 : Int64} {M_208 : zMt} {N_208 : zNt}  {r : (zMt × zNt)} (h : D_X8_adds_208 P x3_208 y1_208 y2_208 M_208 N_208 = some r) : ∀ j, j < 82 → r.1 (P + 3) j = M_208 (P + 3) j := by
  unfold D_X8_adds_208 at h
  have kc_0 : ∀ j, j < 82 → M_208 (P + 3) j = M_208 (P + 3) j := fun _ _ => rfl
  obtain ⟨N_209, f_N_209, h⟩ := zLtx h
  obtain ⟨M_219, f_M_219, h⟩ := zLtx h
  have k_M_219 : ∀ j, j < 82 → M_219 (P + 3) j = M_208 (P + 3) j := fun j hj => (congrFun (congrFun f_M_219.symm (P + 3)) j).trans ((zu_ne (by omega)).trans (kc_0 j hj))
  obtain ⟨M_229, f_M_229, h⟩ := zLtx h
  have k_M_229 : ∀ j, j < 82 → M_229 (P + 3) j = M_208 (P + 3) j := fun j hj => (congrFun (congrFun f_M_229.symm (P + 3)) j).trans ((zu_ne (by omega)).trans (k_M_219 j hj))
  replace h := (zIx h).2
  obtain ⟨M_238, f_M_238, h⟩ := zLtx h
  have k_M_238 : ∀ j, j < 82 → M_238 (P + 3) j = M_208 (P + 3) j := fun j hj => (congrFun (congrFun f_M_238.symm (P + 3)) j).trans ((zu_ne (by omega)).trans (k_M_229 j hj))
  obtain ⟨e_245, f_e_245, h⟩ := zBx h
  obtain ⟨M_251, f_M_251, h⟩ := zLtx h
  have k_M_251 : ∀ j, j < 82 → M_251 (P + 3) j = M_208 (P + 3) j := fun j hj => (congrFun (congrFun f_M_251.symm (P + 3)) j).trans ((zu_ne (by omega)).trans (k_M_238 j hj))
  obtain ⟨e_260, f_e_260, h⟩ := zBx h
  obtain ⟨M_266, f_M_266, h⟩ := zLtx h
  have k_M_266 : ∀ j, j < 82 → M_266 (P + 3) j = M_208 (P + 3) j := fun j hj => (congrFun (congrFun f_M_266.symm (P + 3)) j).trans ((zu_ne (by omega)).trans (k_M_251 j hj))
  cases h
  exact k_M_266
set_option maxRecDepth 100000 in
set_option maxHeartbeats 4000000 in
theorem p33_X8_adds_181 {P : Nat} {k5 : Int64 → Int32 → Int32 → zMt → zNt → Option (zMt × zNt)} {x1_181 : Int64} {x3_181 : Int32} {x4_181 : Int32} {M_181 : zMt} {N_181 : zNt} (hk_k5 : ∀ (y0 : Int64) (y1 : Int32) (y2 : Int32) (y3 : zMt) (y4 : zNt) r, k5 y0 y1 y2 y3 y4 = some r → ∀ j, j < 82 → r.1 (P + 3) j = y3 (P + 3) j) {r : (zMt × zNt)} (h : D_X8_adds_181 P k5 x1_181 x3_181 x4_181 M_181 N_181 = some r) : ∀ j, j < 82 → r.1 (P + 3) j = M_181 (P + 3) j := by
  unfold D_X8_adds_181 at h
  have kc_0 : ∀ j, j < 82 → M_181 (P + 3) j = M_181 (P + 3) j := fun _ _ => rfl
  exact fun j hj => (hk_k5 _ _ _ _ _ _ h j hj).trans (kc_0 j hj)
set_option maxRecDepth 100000 in
set_option maxHeartbeats 4000000 in
theorem p33_X8_adds_173 {P : Nat} {k5 : Int64 → Int32 → Int32 → zMt → zNt → Option (zMt × zNt)} {k134 : Int64 → Int32 → Int32 → Int32 → zMt → zNt → Option (zMt × zNt)} {x1_173 : Int64} {x3_173 : Int32} {x4_173 : Int32} {x5_173 : Int32} {y1_173 : Int32} {y2_173 : Int64} {y3_173 : Int64} {M_173 : zMt} {N_173 : zNt} (hk_k5 : ∀ (y0 : Int64) (y1 : Int32) (y2 : Int32) (y3 : zMt) (y4 : zNt) r, k5 y0 y1 y2 y3 y4 = some r → ∀ j, j < 82 → r.1 (P + 3) j = y3 (P + 3) j) (hk_k134 : ∀ (y0 : Int64) (y1 : Int32) (y2 : Int32) (y3 : Int32) (y4 : zMt) (y5 : zNt) r, k134 y0 y1 y2 y3 y4 y5 = some r → ∀ j, j < 82 → r.1 (P + 3) j = y4 (P + 3) j) {r : (zMt × zNt)} (h : D_X8_adds_173 P k5 k134 x1_173 x3_173 x4_173 x5_173 y1_173 y2_173 y3_173 M_173 N_173 = some r) : ∀ j, j < 82 → r.1 (P + 3) j = M_173 (P + 3) j := by
  unfold D_X8_adds_173 at h
  have kc_0 : ∀ j, j < 82 → M_173 (P + 3) j = M_173 (P + 3) j := fun _ _ => rfl
  replace h := (zIx h).2
  obtain ⟨N_174, f_N_174, h⟩ := zLtx h
  exact fun j hj => (hk_k134 _ _ _ _ _ _ _ h j hj).trans (kc_0 j hj)
set_option maxRecDepth 100000 in
set_option maxHeartbeats 4000000 in
theorem p33_X8_adds_134 {P : Nat} {k5 : Int64 → Int32 → Int32 → zMt → zNt → Option (zMt × zNt)} (hk_k5 : ∀ (y0 : Int64) (y1 : Int32) (y2 : Int32) (y3 : zMt) (y4 : zNt) r, k5 y0 y1 y2 y3 y4 = some r → ∀ j, j < 82 → r.1 (P + 3) j = y3 (P + 3) j) : ∀ (u : Nat) (x1_134 : Int64) (x3_134 : Int32) (x4_134 : Int32) (x5_134 : Int32) (M_134 : zMt) (N_134 : zNt) (r : (zMt × zNt)), D_X8_adds_134 P k5 u x1_134 x3_134 x4_134 x5_134 M_134 N_134 = some r → ∀ j, j < 82 → r.1 (P + 3) j = M_134 (P + 3) j := by
  intro u
  induction u with
  | zero =>
    intro x1_134 x3_134 x4_134 x5_134 M_134 N_134 r h
    cases h
  | succ u ih =>
    intro x1_134 x3_134 x4_134 x5_134 M_134 N_134 r h
    rw [D_X8_adds_134] at h
    have kc_0 : ∀ j, j < 82 → M_134 (P + 3) j = M_134 (P + 3) j := fun _ _ => rfl
    by_cases c58 : (M_134 P 33) ≤ x5_134
    · rw [if_pos c58] at h
      exact fun j hj => (p33_X8_adds_181 hk_k5 h j hj).trans (kc_0 j hj)
    · rw [if_neg c58] at h
      replace h := (zIx h).2
      replace h := (zIx h).2
      by_cases c59 : (M_134 (P + 19) x5_134.toNatClampNeg) = (-1 : Int32)
      · rw [if_pos c59] at h
        exact fun j hj => (p33_X8_adds_173 hk_k5 ih h j hj).trans (kc_0 j hj)
      · rw [if_neg c59] at h
        exact fun j hj => (p33_X8_adds_173 hk_k5 ih h j hj).trans (kc_0 j hj)
set_option maxRecDepth 100000 in
set_option maxHeartbeats 4000000 in
theorem p33_X8_adds_104 {P : Nat} {k5 : Int64 → Int32 → Int32 → zMt → zNt → Option (zMt × zNt)} {x1_104 : Int64} {x3_104 : Int32} {x4_104 : Int32} {y1_104 : Int32} {y2_104 : Int64} {y3_104 : Int64} {M_104 : zMt} {N_104 : zNt} (hk_k5 : ∀ (y0 : Int64) (y1 : Int32) (y2 : Int32) (y3 : zMt) (y4 : zNt) r, k5 y0 y1 y2 y3 y4 = some r → ∀ j, j < 82 → r.1 (P + 3) j = y3 (P + 3) j) {r : (zMt × zNt)} (h : D_X8_adds_104 P k5 x1_104 x3_104 x4_104 y1_104 y2_104 y3_104 M_104 N_104 = some r) : ∀ j, j < 82 → r.1 (P + 3) j = M_104 (P + 3) j := by
  unfold D_X8_adds_104 at h
  have kc_0 : ∀ j, j < 82 → M_104 (P + 3) j = M_104 (P + 3) j := fun _ _ => rfl
  replace h := (zIx h).2
  obtain ⟨N_105, f_N_105, h⟩ := zLtx h
  replace h := (zIx h).2
  replace h := (zIx h).2
  replace h := (zIx h).2
  replace h := (zIx h).2
  obtain ⟨N_130, f_N_130, h⟩ := zLtx h
  exact fun j hj => (p33_X8_adds_134 hk_k5 _ _ _ _ _ _ _ _ h j hj).trans (kc_0 j hj)
set_option maxRecDepth 100000 in
set_option maxHeartbeats 4000000 in
theorem p33_X8_adds_78 {P : Nat} {k5 : Int64 → Int32 → Int32 → zMt → zNt → Option (zMt × zNt)} {x1_78 : Int64} {x3_78 : Int32} {x4_78 : Int32} {y1_78 : Int32} {y2_78 : Int64} {y3_78 : Int64} {M_78 : zMt} {N_78 : zNt} (hk_k5 : ∀ (y0 : Int64) (y1 : Int32) (y2 : Int32) (y3 : zMt) (y4 : zNt) r, k5 y0 y1 y2 y3 y4 = some r → ∀ j, j < 82 → r.1 (P + 3) j = y3 (P + 3) j) {r : (zMt × zNt)} (h : D_X8_adds_78 P k5 x1_78 x3_78 x4_78 y1_78 y2_78 y3_78 M_78 N_78 = some r) : ∀ j, j < 82 → r.1 (P + 3) j = M_78 (P + 3) j := by
  unfold D_X8_adds_78 at h
  have kc_0 : ∀ j, j < 82 → M_78 (P + 3) j = M_78 (P + 3) j := fun _ _ => rfl
  replace h := (zIx h).2
  obtain ⟨N_79, f_N_79, h⟩ := zLtx h
  replace h := (zIx h).2
  replace h := (zIx h).2
  by_cases c57 : (M_78 (P + 20) x4_78.toNatClampNeg) = (1 : Int32)
  · rw [if_pos c57] at h
    exact fun j hj => (p33_X8_adds_104 hk_k5 h j hj).trans (kc_0 j hj)
  · rw [if_neg c57] at h
    exact fun j hj => (p33_X8_adds_104 hk_k5 h j hj).trans (kc_0 j hj)
set_option maxRecDepth 100000 in
set_option maxHeartbeats 4000000 in
theorem p33_X8_adds_5 {P : Nat}  : ∀ (u : Nat) (x1_5 : Int64) (x3_5 : Int32) (x4_5 : Int32) (M_5 : zMt) (N_5 : zNt) (r : (zMt × zNt)), D_X8_adds_5 P u x1_5 x3_5 x4_5 M_5 N_5 = some r → ∀ j, j < 82 → r.1 (P + 3) j = M_5 (P + 3) j := by
  intro u
  induction u with
  | zero =>
    intro x1_5 x3_5 x4_5 M_5 N_5 r h
    cases h
  | succ u ih =>
    intro x1_5 x3_5 x4_5 M_5 N_5 r h
    rw [D_X8_adds_5] at h
    have kc_0 : ∀ j, j < 82 → M_5 (P + 3) j = M_5 (P + 3) j := fun _ _ => rfl
    by_cases c53 : (M_5 P 33) ≤ x4_5
    · rw [if_pos c53] at h
      by_cases c54 : ((M_5 P 58) &&& (x3_5 ^^^ (-1 : Int32))) = 0
      · rw [if_pos c54] at h
        exact fun j hj => (p33_X8_adds_208 h j hj).trans (kc_0 j hj)
      · rw [if_neg c54] at h
        exact fun j hj => (p33_X8_adds_208 h j hj).trans (kc_0 j hj)
    · rw [if_neg c53] at h
      replace h := (zIx h).2
      by_cases c55 : (M_5 (P + 19) x4_5.toNatClampNeg) = (-1 : Int32)
      · rw [if_pos c55] at h
        exact fun j hj => (p33_X8_adds_181 ih h j hj).trans (kc_0 j hj)
      · rw [if_neg c55] at h
        replace h := (zIx h).2
        replace h := (zIx h).2
        replace h := (zIx h).2
        obtain ⟨N_55, f_N_55, h⟩ := zLtx h
        replace h := (zIx h).2
        obtain ⟨e_67, f_e_67, h⟩ := zBx h
        by_cases c56 : e_67 = 0
        · rw [if_pos c56] at h
          exact fun j hj => (p33_X8_adds_78 ih h j hj).trans (kc_0 j hj)
        · rw [if_neg c56] at h
          exact fun j hj => (p33_X8_adds_78 ih h j hj).trans (kc_0 j hj)
set_option maxRecDepth 100000 in
set_option maxHeartbeats 4000000 in
theorem p33_X8_adds {P : Nat} {v0 : Int64} {M : zMt} {N : zNt}  {r : (zMt × zNt)} (h : D_X8_adds P v0 M N = some r) : ∀ j, j < 82 → r.1 (P + 3) j = M (P + 3) j := by
  unfold D_X8_adds at h
  have kc_0 : ∀ j, j < 82 → M (P + 3) j = M (P + 3) j := fun _ _ => rfl
  exact fun j hj => (p33_X8_adds_5 _ _ _ _ _ _ _ h j hj).trans (kc_0 j hj)
set_option maxRecDepth 100000 in
set_option maxHeartbeats 4000000 in
theorem p33_X8_goesOn_124 {P : Nat} {rec : Int32 → Int32 → Int64 → zMt → zNt → Option (zMt × zNt)} {k69 : Int32 → Int32 → Int64 → Int64 → Int32 → zMt → zNt → Option (zMt × zNt)} {x1_124 : Int32} {x2_124 : Int32} {x3_124 : Int64} {x5_124 : Int64} {x7_124 : Int32} {M_124 : zMt} {N_124 : zNt} (hk_rec : ∀ (y0 : Int32) (y1 : Int32) (y2 : Int64) (y3 : zMt) (y4 : zNt) r, rec y0 y1 y2 y3 y4 = some r → ∀ j, j < 82 → r.1 (P + 3) j = y3 (P + 3) j) (hk_k69 : ∀ (y0 : Int32) (y1 : Int32) (y2 : Int64) (y3 : Int64) (y4 : Int32) (y5 : zMt) (y6 : zNt) r, k69 y0 y1 y2 y3 y4 y5 y6 = some r → ∀ j, j < 82 → r.1 (P + 3) j = y5 (P + 3) j) {r : (zMt × zNt)} (h : D_X8_goesOn_124 P rec k69 x1_124 x2_124 x3_124 x5_124 x7_124 M_124 N_124 = some r) : ∀ j, j < 82 → r.1 (P + 3) j = M_124 (P + 3) j := by
  unfold D_X8_goesOn_124 at h
  have kc_0 : ∀ j, j < 82 → M_124 (P + 3) j = M_124 (P + 3) j := fun _ _ => rfl
  exact fun j hj => (hk_k69 _ _ _ _ _ _ _ _ h j hj).trans (kc_0 j hj)
set_option maxRecDepth 100000 in
set_option maxHeartbeats 4000000 in
theorem p33_X8_goesOn_69 {P : Nat} {rec : Int32 → Int32 → Int64 → zMt → zNt → Option (zMt × zNt)} (hk_rec : ∀ (y0 : Int32) (y1 : Int32) (y2 : Int64) (y3 : zMt) (y4 : zNt) r, rec y0 y1 y2 y3 y4 = some r → ∀ j, j < 82 → r.1 (P + 3) j = y3 (P + 3) j) : ∀ (u : Nat) (x1_69 : Int32) (x2_69 : Int32) (x3_69 : Int64) (x5_69 : Int64) (x7_69 : Int32) (M_69 : zMt) (N_69 : zNt) (r : (zMt × zNt)), D_X8_goesOn_69 P rec u x1_69 x2_69 x3_69 x5_69 x7_69 M_69 N_69 = some r → ∀ j, j < 82 → r.1 (P + 3) j = M_69 (P + 3) j := by
  intro u
  induction u with
  | zero =>
    intro x1_69 x2_69 x3_69 x5_69 x7_69 M_69 N_69 r h
    cases h
  | succ u ih =>
    intro x1_69 x2_69 x3_69 x5_69 x7_69 M_69 N_69 r h
    rw [D_X8_goesOn_69] at h
    have kc_0 : ∀ j, j < 82 → M_69 (P + 3) j = M_69 (P + 3) j := fun _ _ => rfl
    by_cases c61 : (M_69 P 33) ≤ x7_69
    · rw [if_pos c61] at h
      cases h
      exact kc_0
    · rw [if_neg c61] at h
      obtain ⟨e_81, f_e_81, h⟩ := zBx h
      by_cases c62 : e_81 = 0
      · rw [if_pos c62] at h
        replace h := (zIx h).2
        obtain ⟨M_97, f_M_97, h⟩ := zLtx h
        have k_M_97 : ∀ j, j < 82 → M_97 (P + 3) j = M_69 (P + 3) j := fun j hj => (congrFun (congrFun f_M_97.symm (P + 3)) j).trans ((zu_ne (by omega)).trans (kc_0 j hj))
        replace h := (zIx h).2
        replace h := (zZlx h).2
        obtain ⟨e_121, f_e_121, h⟩ := zBx h
        have ke_121 : ∀ j, j < 82 → e_121.1 (P + 3) j = M_69 (P + 3) j := fun j hj => (hk_rec _ _ _ _ _ _ f_e_121 j hj).trans (k_M_97 j hj)
        exact fun j hj => (p33_X8_goesOn_124 hk_rec ih h j hj).trans (ke_121 j hj)
      · rw [if_neg c62] at h
        exact fun j hj => (p33_X8_goesOn_124 hk_rec ih h j hj).trans (kc_0 j hj)
set_option maxRecDepth 100000 in
set_option maxHeartbeats 4000000 in
theorem p33_X8_goesOn_57 {P : Nat} {rec : Int32 → Int32 → Int64 → zMt → zNt → Option (zMt × zNt)} {k25 : Int32 → Int32 → Int64 → Int64 → Int32 → zMt → zNt → Option (zMt × zNt)} {x1_57 : Int32} {x2_57 : Int32} {x3_57 : Int64} {x7_57 : Int32} {y0_57 : Int64} {y1_57 : Int64} {M_57 : zMt} {N_57 : zNt} (hk_rec : ∀ (y0 : Int32) (y1 : Int32) (y2 : Int64) (y3 : zMt) (y4 : zNt) r, rec y0 y1 y2 y3 y4 = some r → ∀ j, j < 82 → r.1 (P + 3) j = y3 (P + 3) j) (hk_k25 : ∀ (y0 : Int32) (y1 : Int32) (y2 : Int64) (y3 : Int64) (y4 : Int32) (y5 : zMt) (y6 : zNt) r, k25 y0 y1 y2 y3 y4 y5 y6 = some r → ∀ j, j < 82 → r.1 (P + 3) j = y5 (P + 3) j) {r : (zMt × zNt)} (h : D_X8_goesOn_57 P rec k25 x1_57 x2_57 x3_57 x7_57 y0_57 y1_57 M_57 N_57 = some r) : ∀ j, j < 82 → r.1 (P + 3) j = M_57 (P + 3) j := by
  unfold D_X8_goesOn_57 at h
  have kc_0 : ∀ j, j < 82 → M_57 (P + 3) j = M_57 (P + 3) j := fun _ _ => rfl
  exact fun j hj => (hk_k25 _ _ _ _ _ _ _ _ h j hj).trans (kc_0 j hj)
set_option maxRecDepth 100000 in
set_option maxHeartbeats 4000000 in
theorem p33_X8_goesOn_25 {P : Nat} {rec : Int32 → Int32 → Int64 → zMt → zNt → Option (zMt × zNt)} (hk_rec : ∀ (y0 : Int32) (y1 : Int32) (y2 : Int64) (y3 : zMt) (y4 : zNt) r, rec y0 y1 y2 y3 y4 = some r → ∀ j, j < 82 → r.1 (P + 3) j = y3 (P + 3) j) : ∀ (u : Nat) (x1_25 : Int32) (x2_25 : Int32) (x3_25 : Int64) (x5_25 : Int64) (x7_25 : Int32) (M_25 : zMt) (N_25 : zNt) (r : (zMt × zNt)), D_X8_goesOn_25 P rec u x1_25 x2_25 x3_25 x5_25 x7_25 M_25 N_25 = some r → ∀ j, j < 82 → r.1 (P + 3) j = M_25 (P + 3) j := by
  intro u
  induction u with
  | zero =>
    intro x1_25 x2_25 x3_25 x5_25 x7_25 M_25 N_25 r h
    cases h
  | succ u ih =>
    intro x1_25 x2_25 x3_25 x5_25 x7_25 M_25 N_25 r h
    rw [D_X8_goesOn_25] at h
    have kc_0 : ∀ j, j < 82 → M_25 (P + 3) j = M_25 (P + 3) j := fun _ _ => rfl
    by_cases c60 : (M_25 P 33) ≤ x7_25
    · rw [if_pos c60] at h
      exact fun j hj => (p33_X8_goesOn_69 hk_rec _ _ _ _ _ _ _ _ _ h j hj).trans (kc_0 j hj)
    · rw [if_neg c60] at h
      obtain ⟨e_39, f_e_39, h⟩ := zBx h
      by_cases c63 : e_39 = 0
      · rw [if_pos c63] at h
        replace h := (zIx h).2
        exact fun j hj => (p33_X8_goesOn_57 hk_rec ih h j hj).trans (kc_0 j hj)
      · rw [if_neg c63] at h
        exact fun j hj => (p33_X8_goesOn_57 hk_rec ih h j hj).trans (kc_0 j hj)
set_option maxRecDepth 100000 in
set_option maxHeartbeats 4000000 in
theorem p33_X8_goesOn {P : Nat}  : ∀ (u : Nat) (v0 : Int32) (v1 : Int32) (v2 : Int64) (M : zMt) (N : zNt) (r : (zMt × zNt)), D_X8_goesOn P u v0 v1 v2 M N = some r → ∀ j, j < 82 → r.1 (P + 3) j = M (P + 3) j := by
  intro u
  induction u with
  | zero =>
    intro v0 v1 v2 M N r h
    cases h
  | succ u ih =>
    intro v0 v1 v2 M N r h
    rw [D_X8_goesOn] at h
    have kc_0 : ∀ j, j < 82 → M (P + 3) j = M (P + 3) j := fun _ _ => rfl
    by_cases c37 : v0 = (M P 33)
    · rw [if_pos c37] at h
      obtain ⟨e_10, f_e_10, h⟩ := zBx h
      have ke_10 : ∀ j, j < 82 → e_10 (P + 3) j = M (P + 3) j := fun j hj => (p33_X8_results f_e_10 j hj).trans (kc_0 j hj)
      obtain ⟨e_15, f_e_15, h⟩ := zBx h
      have ke_15 : ∀ j, j < 82 → e_15.1 (P + 3) j = M (P + 3) j := fun j hj => (p33_X8_adds f_e_15 j hj).trans (ke_10 j hj)
      cases h
      exact ke_15
    · rw [if_neg c37] at h
      exact fun j hj => (p33_X8_goesOn_25 ih _ _ _ _ _ _ _ _ _ h j hj).trans (kc_0 j hj)
set_option maxRecDepth 100000 in
set_option maxHeartbeats 4000000 in
theorem p33_X8_allOrders_92 {P : Nat}  : ∀ (u : Nat) (x1_92 : Int32) (M_92 : zMt) (N_92 : zNt) (r : (zMt × zNt)), D_X8_allOrders_92 P u x1_92 M_92 N_92 = some r → ∀ j, j < 82 → r.1 (P + 3) j = M_92 (P + 3) j := by
  intro u
  induction u with
  | zero =>
    intro x1_92 M_92 N_92 r h
    cases h
  | succ u ih =>
    intro x1_92 M_92 N_92 r h
    rw [D_X8_allOrders_92] at h
    have kc_0 : ∀ j, j < 82 → M_92 (P + 3) j = M_92 (P + 3) j := fun _ _ => rfl
    by_cases c36 : (128 : Int32) ≤ x1_92
    · rw [if_pos c36] at h
      obtain ⟨N_114, f_N_114, h⟩ := zLtx h
      obtain ⟨M_126, f_M_126, h⟩ := zLtx h
      have k_M_126 : ∀ j, j < 82 → M_126 (P + 3) j = M_92 (P + 3) j := fun j hj => (congrFun (congrFun f_M_126.symm (P + 3)) j).trans ((zu_ne (by omega)).trans (kc_0 j hj))
      obtain ⟨M_131, f_M_131, h⟩ := zLtx h
      have k_M_131 : ∀ j, j < 82 → M_131 (P + 3) j = M_92 (P + 3) j := fun j hj => (congrFun (congrFun f_M_131.symm (P + 3)) j).trans ((zu_ne (by omega)).trans (k_M_126 j hj))
      obtain ⟨M_138, f_M_138, h⟩ := zLtx h
      have k_M_138 : ∀ j, j < 82 → M_138 (P + 3) j = M_92 (P + 3) j := fun j hj => (congrFun (congrFun f_M_138.symm (P + 3)) j).trans ((zu_ne (by omega)).trans (k_M_131 j hj))
      obtain ⟨M_143, f_M_143, h⟩ := zLtx h
      have k_M_143 : ∀ j, j < 82 → M_143 (P + 3) j = M_92 (P + 3) j := fun j hj => (congrFun (congrFun f_M_143.symm (P + 3)) j).trans ((zu_ne (by omega)).trans (k_M_138 j hj))
      obtain ⟨e_152, f_e_152, h⟩ := zBx h
      have ke_152 : ∀ j, j < 82 → e_152.1 (P + 3) j = M_92 (P + 3) j := fun j hj => (p33_X8_goesOn _ _ _ _ _ _ _ f_e_152 j hj).trans (k_M_143 j hj)
      cases h
      exact ke_152
    · rw [if_neg c36] at h
      replace h := (zIx h).2
      obtain ⟨M_105, f_M_105, h⟩ := zLtx h
      have k_M_105 : ∀ j, j < 82 → M_105 (P + 3) j = M_92 (P + 3) j := fun j hj => (congrFun (congrFun f_M_105.symm (P + 3)) j).trans ((zu_ne (by omega)).trans (kc_0 j hj))
      exact fun j hj => (ih _ _ _ _ h j hj).trans (k_M_105 j hj)
set_option maxRecDepth 100000 in
set_option maxHeartbeats 4000000 in
theorem p33_X8_allOrders_72 {P : Nat}  : ∀ (u : Nat) (x1_72 : Int32) (M_72 : zMt) (N_72 : zNt) (r : (zMt × zNt)), D_X8_allOrders_72 P u x1_72 M_72 N_72 = some r → ∀ j, j < 82 → r.1 (P + 3) j = M_72 (P + 3) j := by
  intro u
  induction u with
  | zero =>
    intro x1_72 M_72 N_72 r h
    cases h
  | succ u ih =>
    intro x1_72 M_72 N_72 r h
    rw [D_X8_allOrders_72] at h
    have kc_0 : ∀ j, j < 82 → M_72 (P + 3) j = M_72 (P + 3) j := fun _ _ => rfl
    by_cases c35 : (5 : Int32) ≤ x1_72
    · rw [if_pos c35] at h
      exact fun j hj => (p33_X8_allOrders_92 _ _ _ _ _ h j hj).trans (kc_0 j hj)
    · rw [if_neg c35] at h
      replace h := (zIx h).2
      obtain ⟨N_83, f_N_83, h⟩ := zLtx h
      exact fun j hj => (ih _ _ _ _ h j hj).trans (kc_0 j hj)
set_option maxRecDepth 100000 in
set_option maxHeartbeats 4000000 in
theorem p33_X8_allOrders_44 {P : Nat}  : ∀ (u : Nat) (x1_44 : Int32) (M_44 : zMt) (N_44 : zNt) (r : (zMt × zNt)), D_X8_allOrders_44 P u x1_44 M_44 N_44 = some r → ∀ j, j < 82 → r.1 (P + 3) j = M_44 (P + 3) j := by
  intro u
  induction u with
  | zero =>
    intro x1_44 M_44 N_44 r h
    cases h
  | succ u ih =>
    intro x1_44 M_44 N_44 r h
    rw [D_X8_allOrders_44] at h
    have kc_0 : ∀ j, j < 82 → M_44 (P + 3) j = M_44 (P + 3) j := fun _ _ => rfl
    by_cases c34 : (7 : Int32) ≤ x1_44
    · rw [if_pos c34] at h
      exact fun j hj => (p33_X8_allOrders_72 _ _ _ _ _ h j hj).trans (kc_0 j hj)
    · rw [if_neg c34] at h
      replace h := (zIx h).2
      obtain ⟨N_56, f_N_56, h⟩ := zLtx h
      replace h := (zIx h).2
      obtain ⟨N_63, f_N_63, h⟩ := zLtx h
      exact fun j hj => (ih _ _ _ _ h j hj).trans (kc_0 j hj)
set_option maxRecDepth 100000 in
set_option maxHeartbeats 4000000 in
theorem p33_X8_allOrders_23 {P : Nat}  : ∀ (u : Nat) (x1_23 : Int32) (M_23 : zMt) (N_23 : zNt) (r : (zMt × zNt)), D_X8_allOrders_23 P u x1_23 M_23 N_23 = some r → ∀ j, j < 82 → r.1 (P + 3) j = M_23 (P + 3) j := by
  intro u
  induction u with
  | zero =>
    intro x1_23 M_23 N_23 r h
    cases h
  | succ u ih =>
    intro x1_23 M_23 N_23 r h
    rw [D_X8_allOrders_23] at h
    have kc_0 : ∀ j, j < 82 → M_23 (P + 3) j = M_23 (P + 3) j := fun _ _ => rfl
    by_cases c33 : (49 : Int32) ≤ x1_23
    · rw [if_pos c33] at h
      exact fun j hj => (p33_X8_allOrders_44 _ _ _ _ _ h j hj).trans (kc_0 j hj)
    · rw [if_neg c33] at h
      replace h := (zIx h).2
      obtain ⟨N_35, f_N_35, h⟩ := zLtx h
      exact fun j hj => (ih _ _ _ _ h j hj).trans (kc_0 j hj)
set_option maxRecDepth 100000 in
set_option maxHeartbeats 4000000 in
theorem p33_X8_allOrders_2 {P : Nat}  : ∀ (u : Nat) (x1_2 : Int32) (M_2 : zMt) (N_2 : zNt) (r : (zMt × zNt)), D_X8_allOrders_2 P u x1_2 M_2 N_2 = some r → ∀ j, j < 82 → r.1 (P + 3) j = M_2 (P + 3) j := by
  intro u
  induction u with
  | zero =>
    intro x1_2 M_2 N_2 r h
    cases h
  | succ u ih =>
    intro x1_2 M_2 N_2 r h
    rw [D_X8_allOrders_2] at h
    have kc_0 : ∀ j, j < 82 → M_2 (P + 3) j = M_2 (P + 3) j := fun _ _ => rfl
    by_cases c32 : (35 : Int32) ≤ x1_2
    · rw [if_pos c32] at h
      exact fun j hj => (p33_X8_allOrders_23 _ _ _ _ _ h j hj).trans (kc_0 j hj)
    · rw [if_neg c32] at h
      replace h := (zIx h).2
      obtain ⟨N_14, f_N_14, h⟩ := zLtx h
      exact fun j hj => (ih _ _ _ _ h j hj).trans (kc_0 j hj)
set_option maxRecDepth 100000 in
set_option maxHeartbeats 4000000 in
theorem p33_X8_allOrders {P : Nat} {M : zMt} {N : zNt}  {r : (zMt × zNt)} (h : D_X8_allOrders P M N = some r) : ∀ j, j < 82 → r.1 (P + 3) j = M (P + 3) j := by
  unfold D_X8_allOrders at h
  have kc_0 : ∀ j, j < 82 → M (P + 3) j = M (P + 3) j := fun _ _ => rfl
  exact fun j hj => (p33_X8_allOrders_2 _ _ _ _ _ h j hj).trans (kc_0 j hj)
set_option maxRecDepth 100000 in
set_option maxHeartbeats 4000000 in
theorem p33_X8_laysAll {P : Nat} {M : zMt} {N : zNt}  {r : (zMt × zNt)} (h : D_X8_laysAll P M N = some r) : ∀ j, j < 82 → r.1 (P + 3) j = M (P + 3) j := by
  unfold D_X8_laysAll at h
  have kc_0 : ∀ j, j < 82 → M (P + 3) j = M (P + 3) j := fun _ _ => rfl
  obtain ⟨e_1, f_e_1, h⟩ := zBx h
  have ke_1 : ∀ j, j < 82 → e_1 (P + 3) j = M (P + 3) j := fun j hj => (p33_X8_laysApplicants f_e_1 j hj).trans (kc_0 j hj)
  obtain ⟨e_5, f_e_5, h⟩ := zBx h
  have ke_5 : ∀ j, j < 82 → e_5.1 (P + 3) j = M (P + 3) j := fun j hj => (p33_X8_allOrders f_e_5 j hj).trans (ke_1 j hj)
  cases h
  exact ke_5
set_option maxRecDepth 100000 in
set_option maxHeartbeats 4000000 in
theorem p31_X8_need_129 {P : Nat} {k81 : Int32 → Int32 → Int32 → Int32 → Int32 → zMt → zNt → Option (Int32 × zMt × zNt)} {x1_129 : Int32} {x2_129 : Int32} {x3_129 : Int32} {x5_129 : Int32} {y0_129 : Int32} {M_129 : zMt} {N_129 : zNt} (hk_k81 : ∀ (y0 : Int32) (y1 : Int32) (y2 : Int32) (y3 : Int32) (y4 : Int32) (y5 : zMt) (y6 : zNt) r, k81 y0 y1 y2 y3 y4 y5 y6 = some r → ∀ j, j < 82 → r.2.1 (P + 1) j = y5 (P + 3) j) {r : (Int32 × zMt × zNt)} (h : D_X8_need_129 P k81 x1_129 x2_129 x3_129 x5_129 y0_129 M_129 N_129 = some r) : ∀ j, j < 82 → r.2.1 (P + 1) j = M_129 (P + 3) j := by
  unfold D_X8_need_129 at h
  have kc_0 : ∀ j, j < 82 → M_129 (P + 3) j = M_129 (P + 3) j := fun _ _ => rfl
  exact fun j hj => (hk_k81 _ _ _ _ _ _ _ _ h j hj).trans (kc_0 j hj)
set_option maxRecDepth 100000 in
set_option maxHeartbeats 4000000 in
theorem p31_X8_need_81 {P : Nat}  : ∀ (u : Nat) (x1_81 : Int32) (x2_81 : Int32) (x3_81 : Int32) (x4_81 : Int32) (x5_81 : Int32) (M_81 : zMt) (N_81 : zNt) (r : (Int32 × zMt × zNt)), D_X8_need_81 P u x1_81 x2_81 x3_81 x4_81 x5_81 M_81 N_81 = some r → ∀ j, j < 82 → r.2.1 (P + 1) j = M_81 (P + 3) j := by
  intro u
  induction u with
  | zero =>
    intro x1_81 x2_81 x3_81 x4_81 x5_81 M_81 N_81 r h
    cases h
  | succ u ih =>
    intro x1_81 x2_81 x3_81 x4_81 x5_81 M_81 N_81 r h
    rw [D_X8_need_81] at h
    have kc_0 : ∀ j, j < 82 → M_81 (P + 3) j = M_81 (P + 3) j := fun _ _ => rfl
    by_cases c18 : (20 : Int32) < x5_81
    · rw [if_pos c18] at h
      exact fun j hj => (p31_X8_need_137 h j hj).trans (kc_0 j hj)
    · rw [if_neg c18] at h
      by_cases c20 : x4_81 = (-1 : Int32)
      · rw [if_pos c20] at h
        replace h := (zIx h).2
        obtain ⟨M_103, f_M_103, h⟩ := zLtx h
        have k_M_103 : ∀ j, j < 82 → M_103 (P + 3) j = M_81 (P + 3) j := fun j hj => (congrFun (congrFun f_M_103.symm (P + 3)) j).trans ((zu_ne (by omega)).trans (kc_0 j hj))
        obtain ⟨e_105, f_e_105, h⟩ := zBx h
        have ke_105 : ∀ j, j < 82 → e_105.1 (P + 3) j = M_81 (P + 3) j := fun j hj => (p33_X8_laysAll f_e_105 j hj).trans (k_M_103 j hj)
        obtain ⟨e_110, f_e_110, h⟩ := zBx h
        by_cases c64 : (lg_cmp (e_110 / (1000000000 : Int64)) (Int32.toInt64 x2_81)) < 0
        · rw [if_pos c64] at h
          exact fun j hj => (p31_X8_need_129 ih h j hj).trans (ke_105 j hj)
        · rw [if_neg c64] at h
          exact fun j hj => (p31_X8_need_129 ih h j hj).trans (ke_105 j hj)
      · rw [if_neg c20] at h
        exact fun j hj => (p31_X8_need_137 h j hj).trans (kc_0 j hj)
set_option maxRecDepth 100000 in
set_option maxHeartbeats 4000000 in
theorem p11_X8_need {P : Nat} {v0 : Int32} {v1 : Int32} {M : zMt} {N : zNt}  {r : (Int32 × zMt × zNt)} (h : D_X8_need P v0 v1 M N = some r) : ∀ j, j < 82 → r.2.1 (P + 1) j = M (P + 1) j := by
  unfold D_X8_need at h
  have kc_0 : ∀ j, j < 82 → M (P + 1) j = M (P + 1) j := fun _ _ => rfl
  obtain ⟨e_6, f_e_6, h⟩ := zBx h
  by_cases c1 : e_6 = 0
  · rw [if_pos c1] at h
    obtain ⟨e_14, f_e_14, h⟩ := zBx h
    have ke_14 : ∀ j, j < 82 → e_14.2 (P + 1) j = M (P + 1) j := fun j hj => (p11_X8_refuse f_e_14 j hj).trans (kc_0 j hj)
    cases h
    exact ke_14
  · rw [if_neg c1] at h
    obtain ⟨e_20, f_e_20, h⟩ := zBx h
    by_cases c2 : e_20 = 0
    · rw [if_pos c2] at h
      obtain ⟨e_28, f_e_28, h⟩ := zBx h
      have ke_28 : ∀ j, j < 82 → e_28.2 (P + 1) j = M (P + 1) j := fun j hj => (p11_X8_refuse f_e_28 j hj).trans (kc_0 j hj)
      cases h
      exact ke_28
    · rw [if_neg c2] at h
      replace h := (zIx h).2
      by_cases c3 : (M (P + 1) ((10 : Int32) + v0).toNatClampNeg) = (-1 : Int32)
      · rw [if_pos c3] at h
        obtain ⟨e_53, f_e_53, h⟩ := zBx h
        have ke_53 : ∀ j, j < 82 → e_53.2 (P + 1) j = M (P + 1) j := fun j hj => (p11_X8_areMany f_e_53 j hj).trans (kc_0 j hj)
        by_cases c16 : e_53.1 = 0
        · rw [if_pos c16] at h
          obtain ⟨e_67, f_e_67, h⟩ := zBx h
          have ke_67 : ∀ j, j < 82 → e_67.2 (P + 1) j = M (P + 1) j := fun j hj => (p11_X8_applicantOf f_e_67 j hj).trans (ke_53 j hj)
          obtain ⟨e_72, f_e_72, h⟩ := zBx h
          have ke_72 : ∀ j, j < 82 → e_72 (P + 3) j = M (P + 1) j := fun j hj => (pputs f_e_72 j hj).trans (ke_67 j hj)
          exact fun j hj => (p31_X8_need_81 _ _ _ _ _ _ _ _ _ h j hj).trans (ke_72 j hj)
        · rw [if_neg c16] at h
          obtain ⟨e_61, f_e_61, h⟩ := zBx h
          have ke_61 : ∀ j, j < 82 → e_61.2 (P + 1) j = M (P + 1) j := fun j hj => (p11_X8_refuse f_e_61 j hj).trans (ke_53 j hj)
          cases h
          exact ke_61
      · rw [if_neg c3] at h
        obtain ⟨e_48, f_e_48, h⟩ := zBx h
        have ke_48 : ∀ j, j < 82 → e_48.2 (P + 1) j = M (P + 1) j := fun j hj => (p11_X8_refuse f_e_48 j hj).trans (kc_0 j hj)
        cases h
        exact ke_48
set_option maxRecDepth 100000 in
set_option maxHeartbeats 4000000 in
theorem p31_X8_wisest_90 {P : Nat} {k15 : Int32 → Int32 → Int32 → zMt → zNt → Option (Int32 × zMt × zNt)} {x1_90 : Int32} {x2_90 : Int32} {x3_90 : Int32} {M_90 : zMt} {N_90 : zNt} (hk_k15 : ∀ (y0 : Int32) (y1 : Int32) (y2 : Int32) (y3 : zMt) (y4 : zNt) r, k15 y0 y1 y2 y3 y4 = some r → ∀ j, j < 82 → r.2.1 (P + 1) j = y3 (P + 3) j) {r : (Int32 × zMt × zNt)} (h : D_X8_wisest_90 P k15 x1_90 x2_90 x3_90 M_90 N_90 = some r) : ∀ j, j < 82 → r.2.1 (P + 1) j = M_90 (P + 3) j := by
  unfold D_X8_wisest_90 at h
  have kc_0 : ∀ j, j < 82 → M_90 (P + 3) j = M_90 (P + 3) j := fun _ _ => rfl
  exact fun j hj => (hk_k15 _ _ _ _ _ _ h j hj).trans (kc_0 j hj)
set_option maxRecDepth 100000 in
set_option maxHeartbeats 4000000 in
theorem p31_X8_wisest_55 {P : Nat} {k15 : Int32 → Int32 → Int32 → zMt → zNt → Option (Int32 × zMt × zNt)} {k26 : Int32 → Int32 → Int32 → Int32 → zMt → zNt → Option (Int32 × zMt × zNt)} {x1_55 : Int32} {x2_55 : Int32} {x3_55 : Int32} {x4_55 : Int32} {y1_55 : Int32} {y2_55 : Int32} {M_55 : zMt} {N_55 : zNt} (hk_k15 : ∀ (y0 : Int32) (y1 : Int32) (y2 : Int32) (y3 : zMt) (y4 : zNt) r, k15 y0 y1 y2 y3 y4 = some r → ∀ j, j < 82 → r.2.1 (P + 1) j = y3 (P + 3) j) (hk_k26 : ∀ (y0 : Int32) (y1 : Int32) (y2 : Int32) (y3 : Int32) (y4 : zMt) (y5 : zNt) r, k26 y0 y1 y2 y3 y4 y5 = some r → ∀ j, j < 82 → r.2.1 (P + 1) j = y4 (P + 3) j) {r : (Int32 × zMt × zNt)} (h : D_X8_wisest_55 P k15 k26 x1_55 x2_55 x3_55 x4_55 y1_55 y2_55 M_55 N_55 = some r) : ∀ j, j < 82 → r.2.1 (P + 1) j = M_55 (P + 3) j := by
  unfold D_X8_wisest_55 at h
  have kc_0 : ∀ j, j < 82 → M_55 (P + 3) j = M_55 (P + 3) j := fun _ _ => rfl
  replace h := (zIx h).2
  obtain ⟨M_55', f_M_55', h⟩ := zLtx h
  have k_M_55' : ∀ j, j < 82 → M_55' (P + 3) j = M_55 (P + 3) j := fun j hj => (congrFun (congrFun f_M_55'.symm (P + 3)) j).trans ((zu_ne (by omega)).trans (kc_0 j hj))
  exact fun j hj => (hk_k26 _ _ _ _ _ _ _ h j hj).trans (k_M_55' j hj)
set_option maxRecDepth 100000 in
set_option maxHeartbeats 4000000 in
theorem p31_X8_wisest_26 {P : Nat} {k15 : Int32 → Int32 → Int32 → zMt → zNt → Option (Int32 × zMt × zNt)} (hk_k15 : ∀ (y0 : Int32) (y1 : Int32) (y2 : Int32) (y3 : zMt) (y4 : zNt) r, k15 y0 y1 y2 y3 y4 = some r → ∀ j, j < 82 → r.2.1 (P + 1) j = y3 (P + 3) j) : ∀ (u : Nat) (x1_26 : Int32) (x2_26 : Int32) (x3_26 : Int32) (x4_26 : Int32) (M_26 : zMt) (N_26 : zNt) (r : (Int32 × zMt × zNt)), D_X8_wisest_26 P k15 u x1_26 x2_26 x3_26 x4_26 M_26 N_26 = some r → ∀ j, j < 82 → r.2.1 (P + 1) j = M_26 (P + 3) j := by
  intro u
  induction u with
  | zero =>
    intro x1_26 x2_26 x3_26 x4_26 M_26 N_26 r h
    cases h
  | succ u ih =>
    intro x1_26 x2_26 x3_26 x4_26 M_26 N_26 r h
    rw [D_X8_wisest_26] at h
    have kc_0 : ∀ j, j < 82 → M_26 (P + 3) j = M_26 (P + 3) j := fun _ _ => rfl
    by_cases c66 : (3 : Int32) ≤ x4_26
    · rw [if_pos c66] at h
      obtain ⟨e_63, f_e_63, h⟩ := zBx h
      have ke_63 : ∀ j, j < 82 → e_63.1 (P + 3) j = M_26 (P + 3) j := fun j hj => (p33_X8_laysAll f_e_63 j hj).trans (kc_0 j hj)
      obtain ⟨e_68, f_e_68, h⟩ := zBx h
      by_cases c67 : (lg_cmp e_68 (e_63.2 P 60)) ≤ 0
      · rw [if_pos c67] at h
        exact fun j hj => (p31_X8_wisest_90 hk_k15 h j hj).trans (ke_63 j hj)
      · rw [if_neg c67] at h
        obtain ⟨e_84, f_e_84, h⟩ := zBx h
        obtain ⟨N_87, f_N_87, h⟩ := zLtx h
        exact fun j hj => (p31_X8_wisest_90 hk_k15 h j hj).trans (ke_63 j hj)
    · rw [if_neg c66] at h
      replace h := (zIx h).2
      by_cases c68 : x4_26 = 0
      · rw [if_pos c68] at h
        exact fun j hj => (p31_X8_wisest_55 hk_k15 ih h j hj).trans (kc_0 j hj)
      · rw [if_neg c68] at h
        exact fun j hj => (p31_X8_wisest_55 hk_k15 ih h j hj).trans (kc_0 j hj)
set_option maxRecDepth 100000 in
set_option maxHeartbeats 4000000 in
theorem p31_X8_wisest_15 {P : Nat}  : ∀ (u : Nat) (x1_15 : Int32) (x2_15 : Int32) (x3_15 : Int32) (M_15 : zMt) (N_15 : zNt) (r : (Int32 × zMt × zNt)), D_X8_wisest_15 P u x1_15 x2_15 x3_15 M_15 N_15 = some r → ∀ j, j < 82 → r.2.1 (P + 1) j = M_15 (P + 3) j := by
  intro u
  induction u with
  | zero =>
    intro x1_15 x2_15 x3_15 M_15 N_15 r h
    cases h
  | succ u ih =>
    intro x1_15 x2_15 x3_15 M_15 N_15 r h
    rw [D_X8_wisest_15] at h
    have kc_0 : ∀ j, j < 82 → M_15 (P + 3) j = M_15 (P + 3) j := fun _ _ => rfl
    by_cases c65 : (M_15 P 7) ≤ x3_15
    · rw [if_pos c65] at h
      obtain ⟨e_97, f_e_97, h⟩ := zBx h
      have ke_97 : ∀ j, j < 82 → e_97 (P + 1) j = M_15 (P + 3) j := fun j hj => (ptakes f_e_97 j hj).trans (kc_0 j hj)
      cases h
      exact ke_97
    · rw [if_neg c65] at h
      exact fun j hj => (p31_X8_wisest_26 ih _ _ _ _ _ _ _ _ h j hj).trans (kc_0 j hj)
set_option maxRecDepth 100000 in
set_option maxHeartbeats 4000000 in
theorem p11_X8_wisest {P : Nat} {v0 : Int32} {M : zMt} {N : zNt}  {r : (Int32 × zMt × zNt)} (h : D_X8_wisest P v0 M N = some r) : ∀ j, j < 82 → r.2.1 (P + 1) j = M (P + 1) j := by
  unfold D_X8_wisest at h
  have kc_0 : ∀ j, j < 82 → M (P + 1) j = M (P + 1) j := fun _ _ => rfl
  obtain ⟨e_1, f_e_1, h⟩ := zBx h
  have ke_1 : ∀ j, j < 82 → e_1 (P + 3) j = M (P + 1) j := fun j hj => (pputs f_e_1 j hj).trans (kc_0 j hj)
  obtain ⟨N_10, f_N_10, h⟩ := zLtx h
  exact fun j hj => (p31_X8_wisest_15 _ _ _ _ _ _ _ h j hj).trans (ke_1 j hj)
set_option maxRecDepth 100000 in
set_option maxHeartbeats 4000000 in
theorem p11_X8_isApplicant {P : Nat} {v0 : Int32} {M : zMt}  {r : (Int32 × zMt)} (h : D_X8_isApplicant P v0 M = some r) : ∀ j, j < 82 → r.2 (P + 1) j = M (P + 1) j := by
  unfold D_X8_isApplicant at h
  have kc_0 : ∀ j, j < 82 → M (P + 1) j = M (P + 1) j := fun _ _ => rfl
  obtain ⟨e_1, f_e_1, h⟩ := zBx h
  have ke_1 : ∀ j, j < 82 → e_1 (P + 1) j = M (P + 1) j := fun j hj => (p11_X8_laysApplicants f_e_1 j hj).trans (kc_0 j hj)
  obtain ⟨e_14, f_e_14, h⟩ := zBx h
  cases h
  exact ke_1
set_option maxRecDepth 100000 in
set_option maxHeartbeats 4000000 in
theorem p11_X8_wise_51 {P : Nat} {y0_51 : Int32} {M_51 : zMt} {N_51 : zNt}  {r : (Int32 × zMt × zNt)} (h : D_X8_wise_51 P y0_51 M_51 N_51 = some r) : ∀ j, j < 82 → r.2.1 (P + 1) j = M_51 (P + 1) j := by
  unfold D_X8_wise_51 at h
  have kc_0 : ∀ j, j < 82 → M_51 (P + 1) j = M_51 (P + 1) j := fun _ _ => rfl
  cases h
  exact kc_0
set_option maxRecDepth 100000 in
set_option maxHeartbeats 4000000 in
theorem p11_X8_wise {P : Nat} {v0 : Int32} {M : zMt} {N : zNt}  {r : (Int32 × zMt × zNt)} (h : D_X8_wise P v0 M N = some r) : ∀ j, j < 82 → r.2.1 (P + 1) j = M (P + 1) j := by
  unfold D_X8_wise at h
  have kc_0 : ∀ j, j < 82 → M (P + 1) j = M (P + 1) j := fun _ _ => rfl
  obtain ⟨e_2, f_e_2, h⟩ := zBx h
  have ke_2 : ∀ j, j < 82 → e_2.2 (P + 1) j = M (P + 1) j := fun j hj => (p11_X8_isApplicant f_e_2 j hj).trans (kc_0 j hj)
  by_cases c69 : e_2.1 = 0
  · rw [if_pos c69] at h
    obtain ⟨e_10, f_e_10, h⟩ := zBx h
    have ke_10 : ∀ j, j < 82 → e_10.2 (P + 1) j = M (P + 1) j := fun j hj => (p11_X8_refuse f_e_10 j hj).trans (ke_2 j hj)
    cases h
    exact ke_10
  · rw [if_neg c69] at h
    obtain ⟨e_15, f_e_15, h⟩ := zBx h
    have ke_15 : ∀ j, j < 82 → e_15.2 (P + 1) j = M (P + 1) j := fun j hj => (p11_X8_areMany f_e_15 j hj).trans (ke_2 j hj)
    by_cases c70 : e_15.1 = 0
    · rw [if_pos c70] at h
      obtain ⟨e_29, f_e_29, h⟩ := zBx h
      have ke_29 : ∀ j, j < 82 → e_29.2.1 (P + 1) j = M (P + 1) j := fun j hj => (p11_X8_wisest f_e_29 j hj).trans (ke_15 j hj)
      by_cases c71 : e_29.1 = (-1 : Int32)
      · rw [if_pos c71] at h
        obtain ⟨e_40, f_e_40, h⟩ := zBx h
        have ke_40 : ∀ j, j < 82 → e_40.2 (P + 1) j = M (P + 1) j := fun j hj => (p11_X8_refuse f_e_40 j hj).trans (ke_29 j hj)
        exact fun j hj => (p11_X8_wise_51 h j hj).trans (ke_40 j hj)
      · rw [if_neg c71] at h
        obtain ⟨e_48, f_e_48, h⟩ := zBx h
        have ke_48 : ∀ j, j < 82 → e_48.2 (P + 1) j = M (P + 1) j := fun j hj => (p11_X8_gives f_e_48 j hj).trans (ke_29 j hj)
        exact fun j hj => (p11_X8_wise_51 h j hj).trans (ke_48 j hj)
    · rw [if_neg c70] at h
      obtain ⟨e_23, f_e_23, h⟩ := zBx h
      have ke_23 : ∀ j, j < 82 → e_23.2 (P + 1) j = M (P + 1) j := fun j hj => (p11_X8_refuse f_e_23 j hj).trans (ke_15 j hj)
      cases h
      exact ke_23
set_option maxRecDepth 100000 in
set_option maxHeartbeats 4000000 in
theorem p11_X8_wiseChance_55 {P : Nat} {y0_55 : Int64} {M_55 : zMt} {N_55 : zNt}  {r : (Int64 × zMt × zNt)} (h : D_X8_wiseChance_55 P y0_55 M_55 N_55 = some r) : ∀ j, j < 82 → r.2.1 (P + 1) j = M_55 (P + 1) j := by
  unfold D_X8_wiseChance_55 at h
  have kc_0 : ∀ j, j < 82 → M_55 (P + 1) j = M_55 (P + 1) j := fun _ _ => rfl
  cases h
  exact kc_0
set_option maxRecDepth 100000 in
set_option maxHeartbeats 4000000 in
theorem p11_X8_givesLong {P : Nat} {v0 : Int64} {M : zMt}  {r : (Int64 × zMt)} (h : D_X8_givesLong P v0 M = some r) : ∀ j, j < 82 → r.2 (P + 1) j = M (P + 1) j := by
  unfold D_X8_givesLong at h
  have kc_0 : ∀ j, j < 82 → M (P + 1) j = M (P + 1) j := fun _ _ => rfl
  obtain ⟨M_2, f_M_2, h⟩ := zLtx h
  have k_M_2 : ∀ j, j < 82 → M_2 (P + 1) j = M (P + 1) j := fun j hj => (congrFun (congrFun f_M_2.symm (P + 1)) j).trans ((zu_ne (by omega)).trans (kc_0 j hj))
  obtain ⟨M_7, f_M_7, h⟩ := zLtx h
  have k_M_7 : ∀ j, j < 82 → M_7 (P + 1) j = M (P + 1) j := fun j hj => (congrFun (congrFun f_M_7.symm (P + 1)) j).trans ((zu_ne (by omega)).trans (k_M_2 j hj))
  cases h
  exact k_M_7
set_option maxRecDepth 100000 in
set_option maxHeartbeats 4000000 in
theorem p11_X8_wiseChance {P : Nat} {v0 : Int32} {M : zMt} {N : zNt}  {r : (Int64 × zMt × zNt)} (h : D_X8_wiseChance P v0 M N = some r) : ∀ j, j < 82 → r.2.1 (P + 1) j = M (P + 1) j := by
  unfold D_X8_wiseChance at h
  have kc_0 : ∀ j, j < 82 → M (P + 1) j = M (P + 1) j := fun _ _ => rfl
  obtain ⟨e_2, f_e_2, h⟩ := zBx h
  have ke_2 : ∀ j, j < 82 → e_2.2 (P + 1) j = M (P + 1) j := fun j hj => (p11_X8_isApplicant f_e_2 j hj).trans (kc_0 j hj)
  by_cases c72 : e_2.1 = 0
  · rw [if_pos c72] at h
    obtain ⟨e_10, f_e_10, h⟩ := zBx h
    have ke_10 : ∀ j, j < 82 → e_10.2 (P + 1) j = M (P + 1) j := fun j hj => (p11_X8_refuse f_e_10 j hj).trans (ke_2 j hj)
    cases h
    exact ke_10
  · rw [if_neg c72] at h
    obtain ⟨e_16, f_e_16, h⟩ := zBx h
    have ke_16 : ∀ j, j < 82 → e_16.2 (P + 1) j = M (P + 1) j := fun j hj => (p11_X8_areMany f_e_16 j hj).trans (ke_2 j hj)
    by_cases c73 : e_16.1 = 0
    · rw [if_pos c73] at h
      obtain ⟨e_31, f_e_31, h⟩ := zBx h
      have ke_31 : ∀ j, j < 82 → e_31.2.1 (P + 1) j = M (P + 1) j := fun j hj => (p11_X8_wisest f_e_31 j hj).trans (ke_16 j hj)
      by_cases c74 : e_31.1 = (-1 : Int32)
      · rw [if_pos c74] at h
        obtain ⟨e_40, f_e_40, h⟩ := zBx h
        have ke_40 : ∀ j, j < 82 → e_40.2 (P + 1) j = M (P + 1) j := fun j hj => (p11_X8_refuse f_e_40 j hj).trans (ke_31 j hj)
        exact fun j hj => (p11_X8_wiseChance_55 h j hj).trans (ke_40 j hj)
      · rw [if_neg c74] at h
        obtain ⟨e_52, f_e_52, h⟩ := zBx h
        have ke_52 : ∀ j, j < 82 → e_52.2 (P + 1) j = M (P + 1) j := fun j hj => (p11_X8_givesLong f_e_52 j hj).trans (ke_31 j hj)
        exact fun j hj => (p11_X8_wiseChance_55 h j hj).trans (ke_52 j hj)
    · rw [if_neg c73] at h
      obtain ⟨e_24, f_e_24, h⟩ := zBx h
      have ke_24 : ∀ j, j < 82 → e_24.2 (P + 1) j = M (P + 1) j := fun j hj => (p11_X8_refuse f_e_24 j hj).trans (ke_16 j hj)
      cases h
      exact ke_24
set_option maxRecDepth 100000 in
set_option maxHeartbeats 4000000 in
theorem p33_X8_splits_157 {P : Nat} {k122 : Int32 → zMt → Option (zMt)} {x2_157 : Int32} {y1_157 : Int32} {y2_157 : Int32} {M_157 : zMt} (hk_k122 : ∀ (y0 : Int32) (y1 : zMt) r, k122 y0 y1 = some r → ∀ j, j < 82 → r (P + 3) j = y1 (P + 3) j) {r : (zMt)} (h : D_X8_splits_157 P k122 x2_157 y1_157 y2_157 M_157 = some r) : ∀ j, j < 82 → r (P + 3) j = M_157 (P + 3) j := by
  unfold D_X8_splits_157 at h
  have kc_0 : ∀ j, j < 82 → M_157 (P + 3) j = M_157 (P + 3) j := fun _ _ => rfl
  replace h := (zIx h).2
  obtain ⟨M_157', f_M_157', h⟩ := zLtx h
  have k_M_157' : ∀ j, j < 82 → M_157' (P + 3) j = M_157 (P + 3) j := fun j hj => (congrFun (congrFun f_M_157'.symm (P + 3)) j).trans ((zu_ne (by omega)).trans (kc_0 j hj))
  exact fun j hj => (hk_k122 _ _ _ h j hj).trans (k_M_157' j hj)
set_option maxRecDepth 100000 in
set_option maxHeartbeats 4000000 in
theorem p33_X8_splits_122 {P : Nat}  : ∀ (u : Nat) (x2_122 : Int32) (M_122 : zMt) (r : (zMt)), D_X8_splits_122 P u x2_122 M_122 = some r → ∀ j, j < 82 → r (P + 3) j = M_122 (P + 3) j := by
  intro u
  induction u with
  | zero =>
    intro x2_122 M_122 r h
    cases h
  | succ u ih =>
    intro x2_122 M_122 r h
    rw [D_X8_splits_122] at h
    have kc_0 : ∀ j, j < 82 → M_122 (P + 3) j = M_122 (P + 3) j := fun _ _ => rfl
    by_cases c78 : (12 : Int32) ≤ x2_122
    · rw [if_pos c78] at h
      cases h
      exact kc_0
    · rw [if_neg c78] at h
      by_cases c79 : (9 : Int32) ≤ x2_122
      · rw [if_pos c79] at h
        exact fun j hj => (p33_X8_splits_157 ih h j hj).trans (kc_0 j hj)
      · rw [if_neg c79] at h
        replace h := (zIx h).2
        exact fun j hj => (p33_X8_splits_157 ih h j hj).trans (kc_0 j hj)
set_option maxRecDepth 100000 in
set_option maxHeartbeats 4000000 in
theorem p33_X8_splits_101 {P : Nat} {k2 : Int32 → Int32 → zMt → Option (zMt)} {x1_101 : Int32} {x2_101 : Int32} {M_101 : zMt} (hk_k2 : ∀ (y0 : Int32) (y1 : Int32) (y2 : zMt) r, k2 y0 y1 y2 = some r → ∀ j, j < 82 → r (P + 3) j = y2 (P + 3) j) {r : (zMt)} (h : D_X8_splits_101 P k2 x1_101 x2_101 M_101 = some r) : ∀ j, j < 82 → r (P + 3) j = M_101 (P + 3) j := by
  unfold D_X8_splits_101 at h
  have kc_0 : ∀ j, j < 82 → M_101 (P + 3) j = M_101 (P + 3) j := fun _ _ => rfl
  exact fun j hj => (hk_k2 _ _ _ _ h j hj).trans (kc_0 j hj)
set_option maxRecDepth 100000 in
set_option maxHeartbeats 4000000 in
theorem p33_X8_splits_35 {P : Nat} {k2 : Int32 → Int32 → zMt → Option (zMt)} (hk_k2 : ∀ (y0 : Int32) (y1 : Int32) (y2 : zMt) r, k2 y0 y1 y2 = some r → ∀ j, j < 82 → r (P + 3) j = y2 (P + 3) j) : ∀ (u : Nat) (x1_35 : Int32) (x2_35 : Int32) (x3_35 : Int32) (M_35 : zMt) (r : (zMt)), D_X8_splits_35 P k2 u x1_35 x2_35 x3_35 M_35 = some r → ∀ j, j < 82 → r (P + 3) j = M_35 (P + 3) j := by
  intro u
  induction u with
  | zero =>
    intro x1_35 x2_35 x3_35 M_35 r h
    cases h
  | succ u ih =>
    intro x1_35 x2_35 x3_35 M_35 r h
    rw [D_X8_splits_35] at h
    have kc_0 : ∀ j, j < 82 → M_35 (P + 3) j = M_35 (P + 3) j := fun _ _ => rfl
    by_cases c81 : (3 : Int32) ≤ x3_35
    · rw [if_pos c81] at h
      exact fun j hj => (p33_X8_splits_101 hk_k2 h j hj).trans (kc_0 j hj)
    · rw [if_neg c81] at h
      replace h := (zIx h).2
      replace h := (zIx h).2
      obtain ⟨M_65, f_M_65, h⟩ := zLtx h
      have k_M_65 : ∀ j, j < 82 → M_65 (P + 3) j = M_35 (P + 3) j := fun j hj => (congrFun (congrFun f_M_65.symm (P + 3)) j).trans ((zu_ne (by omega)).trans (kc_0 j hj))
      exact fun j hj => (ih _ _ _ _ _ h j hj).trans (k_M_65 j hj)
set_option maxRecDepth 100000 in
set_option maxHeartbeats 4000000 in
theorem p33_X8_splits_2 {P : Nat}  : ∀ (u : Nat) (x1_2 : Int32) (x2_2 : Int32) (M_2 : zMt) (r : (zMt)), D_X8_splits_2 P u x1_2 x2_2 M_2 = some r → ∀ j, j < 82 → r (P + 3) j = M_2 (P + 3) j := by
  intro u
  induction u with
  | zero =>
    intro x1_2 x2_2 M_2 r h
    cases h
  | succ u ih =>
    intro x1_2 x2_2 M_2 r h
    rw [D_X8_splits_2] at h
    have kc_0 : ∀ j, j < 82 → M_2 (P + 3) j = M_2 (P + 3) j := fun _ _ => rfl
    by_cases c77 : (M_2 P 8) ≤ x2_2
    · rw [if_pos c77] at h
      replace h := (zIx h).2
      replace h := (zIx h).2
      obtain ⟨M_117, f_M_117, h⟩ := zLtx h
      have k_M_117 : ∀ j, j < 82 → M_117 (P + 3) j = M_2 (P + 3) j := fun j hj => (congrFun (congrFun f_M_117.symm (P + 3)) j).trans ((zu_ne (by omega)).trans (kc_0 j hj))
      exact fun j hj => (p33_X8_splits_122 _ _ _ _ h j hj).trans (k_M_117 j hj)
    · rw [if_neg c77] at h
      replace h := (zIx h).2
      by_cases c80 : (M_2 (P + 1) ((10 : Int32) + x2_2).toNatClampNeg) = x1_2
      · rw [if_pos c80] at h
        replace h := (zIx h).2
        obtain ⟨M_32, f_M_32, h⟩ := zLtx h
        have k_M_32 : ∀ j, j < 82 → M_32 (P + 3) j = M_2 (P + 3) j := fun j hj => (congrFun (congrFun f_M_32.symm (P + 3)) j).trans ((zu_ne (by omega)).trans (kc_0 j hj))
        exact fun j hj => (p33_X8_splits_35 ih _ _ _ _ _ _ h j hj).trans (k_M_32 j hj)
      · rw [if_neg c80] at h
        replace h := (zIx h).2
        by_cases c82 : (M_2 (P + 1) ((10 : Int32) + x2_2).toNatClampNeg) ≤ x1_2
        · rw [if_pos c82] at h
          exact fun j hj => (p33_X8_splits_101 ih h j hj).trans (kc_0 j hj)
        · rw [if_neg c82] at h
          replace h := (zIx h).2
          replace h := (zIx h).2
          obtain ⟨M_100, f_M_100, h⟩ := zLtx h
          have k_M_100 : ∀ j, j < 82 → M_100 (P + 3) j = M_2 (P + 3) j := fun j hj => (congrFun (congrFun f_M_100.symm (P + 3)) j).trans ((zu_ne (by omega)).trans (kc_0 j hj))
          exact fun j hj => (p33_X8_splits_101 ih h j hj).trans (k_M_100 j hj)
set_option maxRecDepth 100000 in
set_option maxHeartbeats 4000000 in
theorem p33_X8_splits {P : Nat} {v0 : Int32} {M : zMt}  {r : (zMt)} (h : D_X8_splits P v0 M = some r) : ∀ j, j < 82 → r (P + 3) j = M (P + 3) j := by
  unfold D_X8_splits at h
  have kc_0 : ∀ j, j < 82 → M (P + 3) j = M (P + 3) j := fun _ _ => rfl
  exact fun j hj => (p33_X8_splits_2 _ _ _ _ _ h j hj).trans (kc_0 j hj)
set_option maxRecDepth 100000 in
set_option maxHeartbeats 4000000 in
theorem p33_X8_areMany_18 {P : Nat} {y0_18 : Int32} {M_18 : zMt}  {r : (Int32 × zMt)} (h : D_X8_areMany_18 P y0_18 M_18 = some r) : ∀ j, j < 82 → r.2 (P + 3) j = M_18 (P + 3) j := by
  unfold D_X8_areMany_18 at h
  have kc_0 : ∀ j, j < 82 → M_18 (P + 3) j = M_18 (P + 3) j := fun _ _ => rfl
  cases h
  exact kc_0
set_option maxRecDepth 100000 in
set_option maxHeartbeats 4000000 in
theorem p33_X8_areMany {P : Nat} {M : zMt}  {r : (Int32 × zMt)} (h : D_X8_areMany P M = some r) : ∀ j, j < 82 → r.2 (P + 3) j = M (P + 3) j := by
  unfold D_X8_areMany at h
  have kc_0 : ∀ j, j < 82 → M (P + 3) j = M (P + 3) j := fun _ _ => rfl
  obtain ⟨e_1, f_e_1, h⟩ := zBx h
  have ke_1 : ∀ j, j < 82 → e_1 (P + 3) j = M (P + 3) j := fun j hj => (p33_X8_laysApplicants f_e_1 j hj).trans (kc_0 j hj)
  by_cases c83 : (e_1 P 33) ≤ (7 : Int32)
  · rw [if_pos c83] at h
    exact fun j hj => (p33_X8_areMany_18 h j hj).trans (ke_1 j hj)
  · rw [if_neg c83] at h
    exact fun j hj => (p33_X8_areMany_18 h j hj).trans (ke_1 j hj)
set_option maxRecDepth 100000 in
set_option maxHeartbeats 4000000 in
theorem p11_X8_apart_163 {P : Nat} {y0_163 : Int64} {M_163 : zMt} {N_163 : zNt}  {r : (Int64 × zMt × zNt)} (h : D_X8_apart_163 P y0_163 M_163 N_163 = some r) : ∀ j, j < 82 → r.2.1 (P + 1) j = M_163 (P + 1) j := by
  unfold D_X8_apart_163 at h
  have kc_0 : ∀ j, j < 82 → M_163 (P + 1) j = M_163 (P + 1) j := fun _ _ => rfl
  cases h
  exact kc_0
set_option maxRecDepth 100000 in
set_option maxHeartbeats 4000000 in
theorem p31_X8_apart_138 {P : Nat} {x3_138 : Int32} {M_138 : zMt} {N_138 : zNt}  {r : (Int64 × zMt × zNt)} (h : D_X8_apart_138 P x3_138 M_138 N_138 = some r) : ∀ j, j < 82 → r.2.1 (P + 1) j = M_138 (P + 3) j := by
  unfold D_X8_apart_138 at h
  have kc_0 : ∀ j, j < 82 → M_138 (P + 3) j = M_138 (P + 3) j := fun _ _ => rfl
  obtain ⟨e_139, f_e_139, h⟩ := zBx h
  have ke_139 : ∀ j, j < 82 → e_139 (P + 1) j = M_138 (P + 3) j := fun j hj => (ptakes f_e_139 j hj).trans (kc_0 j hj)
  by_cases c86 : x3_138 = 0
  · rw [if_pos c86] at h
    obtain ⟨e_159, f_e_159, h⟩ := zBx h
    have ke_159 : ∀ j, j < 82 → e_159.2 (P + 1) j = M_138 (P + 3) j := fun j hj => (p11_X8_refuse f_e_159 j hj).trans (ke_139 j hj)
    exact fun j hj => (p11_X8_apart_163 h j hj).trans (ke_159 j hj)
  · rw [if_neg c86] at h
    obtain ⟨e_151, f_e_151, h⟩ := zBx h
    have ke_151 : ∀ j, j < 82 → e_151.2 (P + 1) j = M_138 (P + 3) j := fun j hj => (p11_X8_givesLong f_e_151 j hj).trans (ke_139 j hj)
    exact fun j hj => (p11_X8_apart_163 h j hj).trans (ke_151 j hj)
set_option maxRecDepth 100000 in
set_option maxHeartbeats 4000000 in
theorem p31_X8_apart_124 {P : Nat} {k90 : Int32 → Int32 → Int32 → zMt → zNt → Option (Int64 × zMt × zNt)} {x2_124 : Int32} {x3_124 : Int32} {x4_124 : Int32} {y1_124 : Int32} {y2_124 : Int32} {M_124 : zMt} {N_124 : zNt} (hk_k90 : ∀ (y0 : Int32) (y1 : Int32) (y2 : Int32) (y3 : zMt) (y4 : zNt) r, k90 y0 y1 y2 y3 y4 = some r → ∀ j, j < 82 → r.2.1 (P + 1) j = y3 (P + 3) j) {r : (Int64 × zMt × zNt)} (h : D_X8_apart_124 P k90 x2_124 x3_124 x4_124 y1_124 y2_124 M_124 N_124 = some r) : ∀ j, j < 82 → r.2.1 (P + 1) j = M_124 (P + 3) j := by
  unfold D_X8_apart_124 at h
  have kc_0 : ∀ j, j < 82 → M_124 (P + 3) j = M_124 (P + 3) j := fun _ _ => rfl
  obtain ⟨M_125, f_M_125, h⟩ := zLtx h
  have k_M_125 : ∀ j, j < 82 → M_125 (P + 3) j = M_124 (P + 3) j := fun j hj => (congrFun (congrFun f_M_125.symm (P + 3)) j).trans ((zu_ne (by omega)).trans (kc_0 j hj))
  exact fun j hj => (hk_k90 _ _ _ _ _ _ h j hj).trans (k_M_125 j hj)
set_option maxRecDepth 100000 in
set_option maxHeartbeats 4000000 in
theorem p31_X8_apart_90 {P : Nat}  : ∀ (u : Nat) (x2_90 : Int32) (x3_90 : Int32) (x4_90 : Int32) (M_90 : zMt) (N_90 : zNt) (r : (Int64 × zMt × zNt)), D_X8_apart_90 P u x2_90 x3_90 x4_90 M_90 N_90 = some r → ∀ j, j < 82 → r.2.1 (P + 1) j = M_90 (P + 3) j := by
  intro u
  induction u with
  | zero =>
    intro x2_90 x3_90 x4_90 M_90 N_90 r h
    cases h
  | succ u ih =>
    intro x2_90 x3_90 x4_90 M_90 N_90 r h
    rw [D_X8_apart_90] at h
    have kc_0 : ∀ j, j < 82 → M_90 (P + 3) j = M_90 (P + 3) j := fun _ _ => rfl
    by_cases c87 : (M_90 P 33) ≤ x4_90
    · rw [if_pos c87] at h
      obtain ⟨e_135, f_e_135, h⟩ := zBx h
      have ke_135 : ∀ j, j < 82 → e_135.1 (P + 3) j = M_90 (P + 3) j := fun j hj => (p33_X8_laysAll f_e_135 j hj).trans (kc_0 j hj)
      exact fun j hj => (p31_X8_apart_138 h j hj).trans (ke_135 j hj)
    · rw [if_neg c87] at h
      replace h := (zIx h).2
      by_cases c88 : ((M_90 (P + 11) x4_90.toNatClampNeg) &&& x2_90) = 0
      · rw [if_pos c88] at h
        exact fun j hj => (p31_X8_apart_124 ih h j hj).trans (kc_0 j hj)
      · rw [if_neg c88] at h
        exact fun j hj => (p31_X8_apart_124 ih h j hj).trans (kc_0 j hj)
set_option maxRecDepth 100000 in
set_option maxHeartbeats 4000000 in
theorem p31_X8_apart_77 {P : Nat} {x2_77 : Int32} {y0_77 : Int32} {M_77 : zMt} {N_77 : zNt}  {r : (Int64 × zMt × zNt)} (h : D_X8_apart_77 P x2_77 y0_77 M_77 N_77 = some r) : ∀ j, j < 82 → r.2.1 (P + 1) j = M_77 (P + 3) j := by
  unfold D_X8_apart_77 at h
  have kc_0 : ∀ j, j < 82 → M_77 (P + 3) j = M_77 (P + 3) j := fun _ _ => rfl
  by_cases c85 : y0_77 = 0
  · rw [if_pos c85] at h
    exact fun j hj => (p31_X8_apart_138 h j hj).trans (kc_0 j hj)
  · rw [if_neg c85] at h
    obtain ⟨M_84, f_M_84, h⟩ := zLtx h
    have k_M_84 : ∀ j, j < 82 → M_84 (P + 3) j = M_77 (P + 3) j := fun j hj => (congrFun (congrFun f_M_84.symm (P + 3)) j).trans ((zu_ne (by omega)).trans (kc_0 j hj))
    exact fun j hj => (p31_X8_apart_90 _ _ _ _ _ _ _ h j hj).trans (k_M_84 j hj)
set_option maxRecDepth 100000 in
set_option maxHeartbeats 4000000 in
theorem p11_X8_apart_48 {P : Nat} {k19 : Int32 → Int32 → Int32 → zMt → zNt → Option (Int64 × zMt × zNt)} {x1_48 : Int32} {x3_48 : Int32} {y0_48 : Int32} {y1_48 : Int32} {M_48 : zMt} {N_48 : zNt} (hk_k19 : ∀ (y0 : Int32) (y1 : Int32) (y2 : Int32) (y3 : zMt) (y4 : zNt) r, k19 y0 y1 y2 y3 y4 = some r → ∀ j, j < 82 → r.2.1 (P + 1) j = y3 (P + 1) j) {r : (Int64 × zMt × zNt)} (h : D_X8_apart_48 P k19 x1_48 x3_48 y0_48 y1_48 M_48 N_48 = some r) : ∀ j, j < 82 → r.2.1 (P + 1) j = M_48 (P + 1) j := by
  unfold D_X8_apart_48 at h
  have kc_0 : ∀ j, j < 82 → M_48 (P + 1) j = M_48 (P + 1) j := fun _ _ => rfl
  exact fun j hj => (hk_k19 _ _ _ _ _ _ h j hj).trans (kc_0 j hj)
set_option maxRecDepth 100000 in
set_option maxHeartbeats 4000000 in
theorem p11_X8_apart_19 {P : Nat}  : ∀ (u : Nat) (x1_19 : Int32) (x2_19 : Int32) (x3_19 : Int32) (M_19 : zMt) (N_19 : zNt) (r : (Int64 × zMt × zNt)), D_X8_apart_19 P u x1_19 x2_19 x3_19 M_19 N_19 = some r → ∀ j, j < 82 → r.2.1 (P + 1) j = M_19 (P + 1) j := by
  intro u
  induction u with
  | zero =>
    intro x1_19 x2_19 x3_19 M_19 N_19 r h
    cases h
  | succ u ih =>
    intro x1_19 x2_19 x3_19 M_19 N_19 r h
    rw [D_X8_apart_19] at h
    have kc_0 : ∀ j, j < 82 → M_19 (P + 1) j = M_19 (P + 1) j := fun _ _ => rfl
    by_cases c76 : (M_19 P 8) ≤ x3_19
    · rw [if_pos c76] at h
      obtain ⟨e_57, f_e_57, h⟩ := zBx h
      have ke_57 : ∀ j, j < 82 → e_57 (P + 3) j = M_19 (P + 1) j := fun j hj => (pputs f_e_57 j hj).trans (kc_0 j hj)
      obtain ⟨e_62, f_e_62, h⟩ := zBx h
      have ke_62 : ∀ j, j < 82 → e_62 (P + 3) j = M_19 (P + 1) j := fun j hj => (p33_X8_splits f_e_62 j hj).trans (ke_57 j hj)
      obtain ⟨e_66, f_e_66, h⟩ := zBx h
      have ke_66 : ∀ j, j < 82 → e_66.2 (P + 3) j = M_19 (P + 1) j := fun j hj => (p33_X8_areMany f_e_66 j hj).trans (ke_62 j hj)
      by_cases c84 : e_66.1 = 0
      · rw [if_pos c84] at h
        exact fun j hj => (p31_X8_apart_77 h j hj).trans (ke_66 j hj)
      · rw [if_neg c84] at h
        exact fun j hj => (p31_X8_apart_77 h j hj).trans (ke_66 j hj)
    · rw [if_neg c76] at h
      replace h := (zIx h).2
      by_cases c89 : (M_19 (P + 1) ((10 : Int32) + x3_19).toNatClampNeg) = x1_19
      · rw [if_pos c89] at h
        exact fun j hj => (p11_X8_apart_48 ih h j hj).trans (kc_0 j hj)
      · rw [if_neg c89] at h
        exact fun j hj => (p11_X8_apart_48 ih h j hj).trans (kc_0 j hj)
set_option maxRecDepth 100000 in
set_option maxHeartbeats 4000000 in
theorem p11_X8_apart {P : Nat} {v0 : Int32} {M : zMt} {N : zNt}  {r : (Int64 × zMt × zNt)} (h : D_X8_apart P v0 M N = some r) : ∀ j, j < 82 → r.2.1 (P + 1) j = M (P + 1) j := by
  unfold D_X8_apart at h
  have kc_0 : ∀ j, j < 82 → M (P + 1) j = M (P + 1) j := fun _ _ => rfl
  obtain ⟨e_2, f_e_2, h⟩ := zBx h
  by_cases c75 : e_2 = 0
  · rw [if_pos c75] at h
    obtain ⟨e_10, f_e_10, h⟩ := zBx h
    have ke_10 : ∀ j, j < 82 → e_10.2 (P + 1) j = M (P + 1) j := fun j hj => (p11_X8_refuse f_e_10 j hj).trans (kc_0 j hj)
    cases h
    exact ke_10
  · rw [if_neg c75] at h
    exact fun j hj => (p11_X8_apart_19 _ _ _ _ _ _ _ h j hj).trans (kc_0 j hj)
set_option maxRecDepth 100000 in
set_option maxHeartbeats 4000000 in
theorem p31_X8_likes_78 {P : Nat} {k40 : Int32 → Int32 → Int64 → Int32 → zMt → zNt → Option (Int32 × zMt × zNt)} {x1_78 : Int32} {x2_78 : Int32} {x3_78 : Int64} {x5_78 : Int32} {M_78 : zMt} {N_78 : zNt} (hk_k40 : ∀ (y0 : Int32) (y1 : Int32) (y2 : Int64) (y3 : Int32) (y4 : zMt) (y5 : zNt) r, k40 y0 y1 y2 y3 y4 y5 = some r → ∀ j, j < 82 → r.2.1 (P + 1) j = y4 (P + 3) j) {r : (Int32 × zMt × zNt)} (h : D_X8_likes_78 P k40 x1_78 x2_78 x3_78 x5_78 M_78 N_78 = some r) : ∀ j, j < 82 → r.2.1 (P + 1) j = M_78 (P + 3) j := by
  unfold D_X8_likes_78 at h
  have kc_0 : ∀ j, j < 82 → M_78 (P + 3) j = M_78 (P + 3) j := fun _ _ => rfl
  exact fun j hj => (hk_k40 _ _ _ _ _ _ _ h j hj).trans (kc_0 j hj)
set_option maxRecDepth 100000 in
set_option maxHeartbeats 4000000 in
theorem p31_X8_likes_40 {P : Nat}  : ∀ (u : Nat) (x1_40 : Int32) (x2_40 : Int32) (x3_40 : Int64) (x5_40 : Int32) (M_40 : zMt) (N_40 : zNt) (r : (Int32 × zMt × zNt)), D_X8_likes_40 P u x1_40 x2_40 x3_40 x5_40 M_40 N_40 = some r → ∀ j, j < 82 → r.2.1 (P + 1) j = M_40 (P + 3) j := by
  intro u
  induction u with
  | zero =>
    intro x1_40 x2_40 x3_40 x5_40 M_40 N_40 r h
    cases h
  | succ u ih =>
    intro x1_40 x2_40 x3_40 x5_40 M_40 N_40 r h
    rw [D_X8_likes_40] at h
    have kc_0 : ∀ j, j < 82 → M_40 (P + 3) j = M_40 (P + 3) j := fun _ _ => rfl
    by_cases c92 : (3 : Int32) ≤ x5_40
    · rw [if_pos c92] at h
      obtain ⟨e_85, f_e_85, h⟩ := zBx h
      have ke_85 : ∀ j, j < 82 → e_85 (P + 1) j = M_40 (P + 3) j := fun j hj => (ptakes f_e_85 j hj).trans (kc_0 j hj)
      obtain ⟨e_90, f_e_90, h⟩ := zBx h
      have ke_90 : ∀ j, j < 82 → e_90.2 (P + 1) j = M_40 (P + 3) j := fun j hj => (p11_X8_gives f_e_90 j hj).trans (ke_85 j hj)
      cases h
      exact ke_90
    · rw [if_neg c92] at h
      replace h := (zIx h).2
      obtain ⟨M_54, f_M_54, h⟩ := zLtx h
      have k_M_54 : ∀ j, j < 82 → M_54 (P + 3) j = M_40 (P + 3) j := fun j hj => (congrFun (congrFun f_M_54.symm (P + 3)) j).trans ((zu_ne (by omega)).trans (kc_0 j hj))
      obtain ⟨e_56, f_e_56, h⟩ := zBx h
      have ke_56 : ∀ j, j < 82 → e_56.1 (P + 3) j = M_40 (P + 3) j := fun j hj => (p33_X8_laysAll f_e_56 j hj).trans (k_M_54 j hj)
      obtain ⟨e_61, f_e_61, h⟩ := zBx h
      by_cases c93 : (lg_cmp e_61 x3_40) ≤ 0
      · rw [if_pos c93] at h
        exact fun j hj => (p31_X8_likes_78 ih h j hj).trans (ke_56 j hj)
      · rw [if_neg c93] at h
        obtain ⟨e_74, f_e_74, h⟩ := zBx h
        exact fun j hj => (p31_X8_likes_78 ih h j hj).trans (ke_56 j hj)
set_option maxRecDepth 100000 in
set_option maxHeartbeats 4000000 in
theorem p11_X8_likes {P : Nat} {v0 : Int32} {M : zMt} {N : zNt}  {r : (Int32 × zMt × zNt)} (h : D_X8_likes P v0 M N = some r) : ∀ j, j < 82 → r.2.1 (P + 1) j = M (P + 1) j := by
  unfold D_X8_likes at h
  have kc_0 : ∀ j, j < 82 → M (P + 1) j = M (P + 1) j := fun _ _ => rfl
  obtain ⟨e_2, f_e_2, h⟩ := zBx h
  have ke_2 : ∀ j, j < 82 → e_2.2 (P + 1) j = M (P + 1) j := fun j hj => (p11_X8_isApplicant f_e_2 j hj).trans (kc_0 j hj)
  by_cases c90 : e_2.1 = 0
  · rw [if_pos c90] at h
    obtain ⟨e_10, f_e_10, h⟩ := zBx h
    have ke_10 : ∀ j, j < 82 → e_10.2 (P + 1) j = M (P + 1) j := fun j hj => (p11_X8_refuse f_e_10 j hj).trans (ke_2 j hj)
    cases h
    exact ke_10
  · rw [if_neg c90] at h
    obtain ⟨e_15, f_e_15, h⟩ := zBx h
    have ke_15 : ∀ j, j < 82 → e_15.2 (P + 1) j = M (P + 1) j := fun j hj => (p11_X8_areMany f_e_15 j hj).trans (ke_2 j hj)
    by_cases c91 : e_15.1 = 0
    · rw [if_pos c91] at h
      obtain ⟨e_28, f_e_28, h⟩ := zBx h
      have ke_28 : ∀ j, j < 82 → e_28 (P + 3) j = M (P + 1) j := fun j hj => (pputs f_e_28 j hj).trans (ke_15 j hj)
      exact fun j hj => (p31_X8_likes_40 _ _ _ _ _ _ _ _ h j hj).trans (ke_28 j hj)
    · rw [if_neg c91] at h
      obtain ⟨e_23, f_e_23, h⟩ := zBx h
      have ke_23 : ∀ j, j < 82 → e_23.2 (P + 1) j = M (P + 1) j := fun j hj => (p11_X8_refuse f_e_23 j hj).trans (ke_15 j hj)
      cases h
      exact ke_23
set_option maxRecDepth 100000 in
set_option maxHeartbeats 4000000 in
theorem p11_X8_years_20 {P : Nat} {M_20 : zMt} {N_20 : zNt}  {r : (Int32 × zMt × zNt)} (h : D_X8_years_20 P M_20 N_20 = some r) : ∀ j, j < 82 → r.2.1 (P + 1) j = M_20 (P + 1) j := by
  unfold D_X8_years_20 at h
  have kc_0 : ∀ j, j < 82 → M_20 (P + 1) j = M_20 (P + 1) j := fun _ _ => rfl
  obtain ⟨e_22, f_e_22, h⟩ := zBx h
  have ke_22 : ∀ j, j < 82 → e_22.2 (P + 1) j = M_20 (P + 1) j := fun j hj => (p11_X8_refuse f_e_22 j hj).trans (kc_0 j hj)
  cases h
  exact ke_22
set_option maxRecDepth 100000 in
set_option maxHeartbeats 4000000 in
theorem p11_X8_years_203 {P : Nat} {y1_203 : Int32} {M_203 : zMt} {N_203 : zNt}  {r : (Int32 × zMt × zNt)} (h : D_X8_years_203 P y1_203 M_203 N_203 = some r) : ∀ j, j < 82 → r.2.1 (P + 1) j = M_203 (P + 1) j := by
  unfold D_X8_years_203 at h
  have kc_0 : ∀ j, j < 82 → M_203 (P + 1) j = M_203 (P + 1) j := fun _ _ => rfl
  obtain ⟨e_203, f_e_203, h⟩ := zBx h
  have ke_203 : ∀ j, j < 82 → e_203.2 (P + 1) j = M_203 (P + 1) j := fun j hj => (p11_X8_gives f_e_203 j hj).trans (kc_0 j hj)
  cases h
  exact ke_203
set_option maxRecDepth 100000 in
set_option maxHeartbeats 4000000 in
theorem p33_X8_laysOrder_101 {P : Nat} {k45 : Int32 → Int32 → Int32 → zMt → zNt → Option (zMt × zNt)} {k67 : Int32 → Int32 → Int32 → Int64 → Int32 → Int64 → zMt → zNt → Option (zMt × zNt)} {x2_101 : Int32} {x3_101 : Int32} {x4_101 : Int32} {x5_101 : Int64} {x7_101 : Int32} {y0_101 : Int64} {y1_101 : Int64} {M_101 : zMt} {N_101 : zNt} (hk_k45 : ∀ (y0 : Int32) (y1 : Int32) (y2 : Int32) (y3 : zMt) (y4 : zNt) r, k45 y0 y1 y2 y3 y4 = some r → ∀ j, j < 82 → r.1 (P + 3) j = y3 (P + 3) j) (hk_k67 : ∀ (y0 : Int32) (y1 : Int32) (y2 : Int32) (y3 : Int64) (y4 : Int32) (y5 : Int64) (y6 : zMt) (y7 : zNt) r, k67 y0 y1 y2 y3 y4 y5 y6 y7 = some r → ∀ j, j < 82 → r.1 (P + 3) j = y6 (P + 3) j) {r : (zMt × zNt)} (h : D_X8_laysOrder_101 P k45 k67 x2_101 x3_101 x4_101 x5_101 x7_101 y0_101 y1_101 M_101 N_101 = some r) : ∀ j, j < 82 → r.1 (P + 3) j = M_101 (P + 3) j := by
  unfold D_X8_laysOrder_101 at h
  have kc_0 : ∀ j, j < 82 → M_101 (P + 3) j = M_101 (P + 3) j := fun _ _ => rfl
  exact fun j hj => (hk_k67 _ _ _ _ _ _ _ _ _ h j hj).trans (kc_0 j hj)
set_option maxRecDepth 100000 in
set_option maxHeartbeats 4000000 in
theorem p33_X8_laysOrder_67 {P : Nat} {k45 : Int32 → Int32 → Int32 → zMt → zNt → Option (zMt × zNt)} (hk_k45 : ∀ (y0 : Int32) (y1 : Int32) (y2 : Int32) (y3 : zMt) (y4 : zNt) r, k45 y0 y1 y2 y3 y4 = some r → ∀ j, j < 82 → r.1 (P + 3) j = y3 (P + 3) j) : ∀ (u : Nat) (x2_67 : Int32) (x3_67 : Int32) (x4_67 : Int32) (x5_67 : Int64) (x7_67 : Int32) (x8_67 : Int64) (M_67 : zMt) (N_67 : zNt) (r : (zMt × zNt)), D_X8_laysOrder_67 P k45 u x2_67 x3_67 x4_67 x5_67 x7_67 x8_67 M_67 N_67 = some r → ∀ j, j < 82 → r.1 (P + 3) j = M_67 (P + 3) j := by
  intro u
  induction u with
  | zero =>
    intro x2_67 x3_67 x4_67 x5_67 x7_67 x8_67 M_67 N_67 r h
    cases h
  | succ u ih =>
    intro x2_67 x3_67 x4_67 x5_67 x7_67 x8_67 M_67 N_67 r h
    rw [D_X8_laysOrder_67] at h
    have kc_0 : ∀ j, j < 82 → M_67 (P + 3) j = M_67 (P + 3) j := fun _ _ => rfl
    by_cases c102 : 0 < (lg_cmp x8_67 x5_67)
    · rw [if_pos c102] at h
      replace h := (zIx h).2
      obtain ⟨M_115, f_M_115, h⟩ := zLtx h
      have k_M_115 : ∀ j, j < 82 → M_115 (P + 3) j = M_67 (P + 3) j := fun j hj => (congrFun (congrFun f_M_115.symm (P + 3)) j).trans ((zu_ne (by omega)).trans (kc_0 j hj))
      replace h := (zIx h).2
      exact fun j hj => (hk_k45 _ _ _ _ _ _ h j hj).trans (k_M_115 j hj)
    · rw [if_neg c102] at h
      obtain ⟨e_83, f_e_83, h⟩ := zBx h
      by_cases c103 : e_83 = 0
      · rw [if_pos c103] at h
        replace h := (zIx h).2
        exact fun j hj => (p33_X8_laysOrder_101 hk_k45 ih h j hj).trans (kc_0 j hj)
      · rw [if_neg c103] at h
        exact fun j hj => (p33_X8_laysOrder_101 hk_k45 ih h j hj).trans (kc_0 j hj)
set_option maxRecDepth 100000 in
set_option maxHeartbeats 4000000 in
theorem p33_X8_laysOrder_45 {P : Nat}  : ∀ (u : Nat) (x2_45 : Int32) (x3_45 : Int32) (x4_45 : Int32) (M_45 : zMt) (N_45 : zNt) (r : (zMt × zNt)), D_X8_laysOrder_45 P u x2_45 x3_45 x4_45 M_45 N_45 = some r → ∀ j, j < 82 → r.1 (P + 3) j = M_45 (P + 3) j := by
  intro u
  induction u with
  | zero =>
    intro x2_45 x3_45 x4_45 M_45 N_45 r h
    cases h
  | succ u ih =>
    intro x2_45 x3_45 x4_45 M_45 N_45 r h
    rw [D_X8_laysOrder_45] at h
    have kc_0 : ∀ j, j < 82 → M_45 (P + 3) j = M_45 (P + 3) j := fun _ _ => rfl
    by_cases c101 : (M_45 P 33) ≤ x4_45
    · rw [if_pos c101] at h
      cases h
      exact kc_0
    · rw [if_neg c101] at h
      obtain ⟨e_56, f_e_56, h⟩ := zBx h
      exact fun j hj => (p33_X8_laysOrder_67 ih _ _ _ _ _ _ _ _ _ _ h j hj).trans (kc_0 j hj)
set_option maxRecDepth 100000 in
set_option maxHeartbeats 4000000 in
theorem p33_X8_laysOrder_17 {P : Nat}  : ∀ (u : Nat) (x2_17 : Int32) (x3_17 : Int32) (x4_17 : Int32) (M_17 : zMt) (N_17 : zNt) (r : (zMt × zNt)), D_X8_laysOrder_17 P u x2_17 x3_17 x4_17 M_17 N_17 = some r → ∀ j, j < 82 → r.1 (P + 3) j = M_17 (P + 3) j := by
  intro u
  induction u with
  | zero =>
    intro x2_17 x3_17 x4_17 M_17 N_17 r h
    cases h
  | succ u ih =>
    intro x2_17 x3_17 x4_17 M_17 N_17 r h
    rw [D_X8_laysOrder_17] at h
    have kc_0 : ∀ j, j < 82 → M_17 (P + 3) j = M_17 (P + 3) j := fun _ _ => rfl
    by_cases c100 : (M_17 P 33) ≤ x4_17
    · rw [if_pos c100] at h
      exact fun j hj => (p33_X8_laysOrder_45 _ _ _ _ _ _ _ h j hj).trans (kc_0 j hj)
    · rw [if_neg c100] at h
      replace h := (zIx h).2
      exact fun j hj => (ih _ _ _ _ _ _ h j hj).trans (kc_0 j hj)
set_option maxRecDepth 100000 in
set_option maxHeartbeats 4000000 in
theorem p33_X8_laysOrder {P : Nat} {v0 : Int32} {M : zMt} {N : zNt}  {r : (zMt × zNt)} (h : D_X8_laysOrder P v0 M N = some r) : ∀ j, j < 82 → r.1 (P + 3) j = M (P + 3) j := by
  unfold D_X8_laysOrder at h
  have kc_0 : ∀ j, j < 82 → M (P + 3) j = M (P + 3) j := fun _ _ => rfl
  obtain ⟨e_1, f_e_1, h⟩ := zBx h
  have ke_1 : ∀ j, j < 82 → e_1 (P + 3) j = M (P + 3) j := fun j hj => (p33_X8_laysApplicants f_e_1 j hj).trans (kc_0 j hj)
  obtain ⟨N_7, f_N_7, h⟩ := zLtx h
  exact fun j hj => (p33_X8_laysOrder_17 _ _ _ _ _ _ _ h j hj).trans (ke_1 j hj)
set_option maxRecDepth 100000 in
set_option maxHeartbeats 4000000 in
theorem p33_X8_laysResult {P : Nat} {v0 : Int32} {M : zMt} {N : zNt}  {r : (zMt × zNt)} (h : D_X8_laysResult P v0 M N = some r) : ∀ j, j < 82 → r.1 (P + 3) j = M (P + 3) j := by
  unfold D_X8_laysResult at h
  have kc_0 : ∀ j, j < 82 → M (P + 3) j = M (P + 3) j := fun _ _ => rfl
  obtain ⟨e_2, f_e_2, h⟩ := zBx h
  have ke_2 : ∀ j, j < 82 → e_2.1 (P + 3) j = M (P + 3) j := fun j hj => (p33_X8_laysOrder f_e_2 j hj).trans (kc_0 j hj)
  obtain ⟨e_7, f_e_7, h⟩ := zBx h
  have ke_7 : ∀ j, j < 82 → e_7 (P + 3) j = M (P + 3) j := fun j hj => (p33_X8_results f_e_7 j hj).trans (ke_2 j hj)
  cases h
  exact ke_7
set_option maxRecDepth 100000 in
set_option maxHeartbeats 4000000 in
theorem p33_X8_goesYear_34 {P : Nat}  : ∀ (u : Nat) (x2_34 : Int32) (M_34 : zMt) (N_34 : zNt) (r : (zMt × zNt)), D_X8_goesYear_34 P u x2_34 M_34 N_34 = some r → ∀ j, j < 82 → r.1 (P + 3) j = M_34 (P + 3) j := by
  intro u
  induction u with
  | zero =>
    intro x2_34 M_34 N_34 r h
    cases h
  | succ u ih =>
    intro x2_34 M_34 N_34 r h
    rw [D_X8_goesYear_34] at h
    have kc_0 : ∀ j, j < 82 → M_34 (P + 3) j = M_34 (P + 3) j := fun _ _ => rfl
    by_cases c105 : (M_34 P 8) ≤ x2_34
    · rw [if_pos c105] at h
      cases h
      exact kc_0
    · rw [if_neg c105] at h
      replace h := (zIx h).2
      replace h := (zIx h).2
      obtain ⟨M_55, f_M_55, h⟩ := zLtx h
      have k_M_55 : ∀ j, j < 82 → M_55 (P + 3) j = M_34 (P + 3) j := fun j hj => (congrFun (congrFun f_M_55.symm (P + 3)) j).trans ((zu_ne (by omega)).trans (kc_0 j hj))
      exact fun j hj => (ih _ _ _ _ h j hj).trans (k_M_55 j hj)
set_option maxRecDepth 100000 in
set_option maxHeartbeats 4000000 in
theorem p33_X8_goesYear_7 {P : Nat}  : ∀ (u : Nat) (x2_7 : Int32) (M_7 : zMt) (N_7 : zNt) (r : (zMt × zNt)), D_X8_goesYear_7 P u x2_7 M_7 N_7 = some r → ∀ j, j < 82 → r.1 (P + 3) j = M_7 (P + 3) j := by
  intro u
  induction u with
  | zero =>
    intro x2_7 M_7 N_7 r h
    cases h
  | succ u ih =>
    intro x2_7 M_7 N_7 r h
    rw [D_X8_goesYear_7] at h
    have kc_0 : ∀ j, j < 82 → M_7 (P + 3) j = M_7 (P + 3) j := fun _ _ => rfl
    by_cases c104 : (M_7 P 8) ≤ x2_7
    · rw [if_pos c104] at h
      exact fun j hj => (p33_X8_goesYear_34 _ _ _ _ _ h j hj).trans (kc_0 j hj)
    · rw [if_neg c104] at h
      obtain ⟨e_22, f_e_22, h⟩ := zBx h
      replace h := (zIx h).2
      obtain ⟨M_25, f_M_25, h⟩ := zLtx h
      have k_M_25 : ∀ j, j < 82 → M_25 (P + 3) j = M_7 (P + 3) j := fun j hj => (congrFun (congrFun f_M_25.symm (P + 3)) j).trans ((zu_ne (by omega)).trans (kc_0 j hj))
      exact fun j hj => (ih _ _ _ _ h j hj).trans (k_M_25 j hj)
set_option maxRecDepth 100000 in
set_option maxHeartbeats 4000000 in
theorem p33_X8_goesYear {P : Nat} {v0 : Int32} {M : zMt} {N : zNt}  {r : (zMt × zNt)} (h : D_X8_goesYear P v0 M N = some r) : ∀ j, j < 82 → r.1 (P + 3) j = M (P + 3) j := by
  unfold D_X8_goesYear at h
  have kc_0 : ∀ j, j < 82 → M (P + 3) j = M (P + 3) j := fun _ _ => rfl
  obtain ⟨e_2, f_e_2, h⟩ := zBx h
  have ke_2 : ∀ j, j < 82 → e_2.1 (P + 3) j = M (P + 3) j := fun j hj => (p33_X8_laysResult f_e_2 j hj).trans (kc_0 j hj)
  exact fun j hj => (p33_X8_goesYear_7 _ _ _ _ _ h j hj).trans (ke_2 j hj)
set_option maxRecDepth 100000 in
set_option maxHeartbeats 4000000 in
theorem p31_X8_years_150 {P : Nat} {k75 : Int32 → Int32 → Int32 → Int32 → Int32 → Int32 → Int32 → zMt → zNt → Option (Int32 × zMt × zNt)} {k112 : Int32 → Int32 → Int32 → Int32 → Int32 → Int32 → Int32 → Int32 → zMt → zNt → Option (Int32 × zMt × zNt)} {x1_150 : Int32} {x2_150 : Int32} {x3_150 : Int32} {x4_150 : Int32} {x5_150 : Int32} {x6_150 : Int32} {x7_150 : Int32} {x8_150 : Int32} {y1_150 : Int32} {y2_150 : Int32} {M_150 : zMt} {N_150 : zNt} (hk_k75 : ∀ (y0 : Int32) (y1 : Int32) (y2 : Int32) (y3 : Int32) (y4 : Int32) (y5 : Int32) (y6 : Int32) (y7 : zMt) (y8 : zNt) r, k75 y0 y1 y2 y3 y4 y5 y6 y7 y8 = some r → ∀ j, j < 82 → r.2.1 (P + 1) j = y7 (P + 3) j) (hk_k112 : ∀ (y0 : Int32) (y1 : Int32) (y2 : Int32) (y3 : Int32) (y4 : Int32) (y5 : Int32) (y6 : Int32) (y7 : Int32) (y8 : zMt) (y9 : zNt) r, k112 y0 y1 y2 y3 y4 y5 y6 y7 y8 y9 = some r → ∀ j, j < 82 → r.2.1 (P + 1) j = y8 (P + 3) j) {r : (Int32 × zMt × zNt)} (h : D_X8_years_150 P k75 k112 x1_150 x2_150 x3_150 x4_150 x5_150 x6_150 x7_150 x8_150 y1_150 y2_150 M_150 N_150 = some r) : ∀ j, j < 82 → r.2.1 (P + 1) j = M_150 (P + 3) j := by
  unfold D_X8_years_150 at h
  have kc_0 : ∀ j, j < 82 → M_150 (P + 3) j = M_150 (P + 3) j := fun _ _ => rfl
  replace h := (zIx h).2
  obtain ⟨M_150', f_M_150', h⟩ := zLtx h
  have k_M_150' : ∀ j, j < 82 → M_150' (P + 3) j = M_150 (P + 3) j := fun j hj => (congrFun (congrFun f_M_150'.symm (P + 3)) j).trans ((zu_ne (by omega)).trans (kc_0 j hj))
  replace h := (zIx h).2
  exact fun j hj => (hk_k112 _ _ _ _ _ _ _ _ _ _ _ h j hj).trans (k_M_150' j hj)
set_option maxRecDepth 100000 in
set_option maxHeartbeats 4000000 in
theorem p31_X8_years_112 {P : Nat} {k75 : Int32 → Int32 → Int32 → Int32 → Int32 → Int32 → Int32 → zMt → zNt → Option (Int32 × zMt × zNt)} (hk_k75 : ∀ (y0 : Int32) (y1 : Int32) (y2 : Int32) (y3 : Int32) (y4 : Int32) (y5 : Int32) (y6 : Int32) (y7 : zMt) (y8 : zNt) r, k75 y0 y1 y2 y3 y4 y5 y6 y7 y8 = some r → ∀ j, j < 82 → r.2.1 (P + 1) j = y7 (P + 3) j) : ∀ (u : Nat) (x1_112 : Int32) (x2_112 : Int32) (x3_112 : Int32) (x4_112 : Int32) (x5_112 : Int32) (x6_112 : Int32) (x7_112 : Int32) (x8_112 : Int32) (M_112 : zMt) (N_112 : zNt) (r : (Int32 × zMt × zNt)), D_X8_years_112 P k75 u x1_112 x2_112 x3_112 x4_112 x5_112 x6_112 x7_112 x8_112 M_112 N_112 = some r → ∀ j, j < 82 → r.2.1 (P + 1) j = M_112 (P + 3) j := by
  intro u
  induction u with
  | zero =>
    intro x1_112 x2_112 x3_112 x4_112 x5_112 x6_112 x7_112 x8_112 M_112 N_112 r h
    cases h
  | succ u ih =>
    intro x1_112 x2_112 x3_112 x4_112 x5_112 x6_112 x7_112 x8_112 M_112 N_112 r h
    rw [D_X8_years_112] at h
    have kc_0 : ∀ j, j < 82 → M_112 (P + 3) j = M_112 (P + 3) j := fun _ _ => rfl
    by_cases c106 : (M_112 P 8) ≤ x8_112
    · rw [if_pos c106] at h
      exact fun j hj => (hk_k75 _ _ _ _ _ _ _ _ _ _ h j hj).trans (kc_0 j hj)
    · rw [if_neg c106] at h
      obtain ⟨e_130, f_e_130, h⟩ := zBx h
      by_cases c107 : e_130 = (-1 : Int32)
      · rw [if_pos c107] at h
        replace h := (zIx h).2
        exact fun j hj => (p31_X8_years_150 hk_k75 ih h j hj).trans (kc_0 j hj)
      · rw [if_neg c107] at h
        exact fun j hj => (p31_X8_years_150 hk_k75 ih h j hj).trans (kc_0 j hj)
set_option maxRecDepth 100000 in
set_option maxHeartbeats 4000000 in
theorem p31_X8_years_75 {P : Nat}  : ∀ (u : Nat) (x1_75 : Int32) (x2_75 : Int32) (x3_75 : Int32) (x4_75 : Int32) (x5_75 : Int32) (x6_75 : Int32) (x7_75 : Int32) (M_75 : zMt) (N_75 : zNt) (r : (Int32 × zMt × zNt)), D_X8_years_75 P u x1_75 x2_75 x3_75 x4_75 x5_75 x6_75 x7_75 M_75 N_75 = some r → ∀ j, j < 82 → r.2.1 (P + 1) j = M_75 (P + 3) j := by
  intro u
  induction u with
  | zero =>
    intro x1_75 x2_75 x3_75 x4_75 x5_75 x6_75 x7_75 M_75 N_75 r h
    cases h
  | succ u ih =>
    intro x1_75 x2_75 x3_75 x4_75 x5_75 x6_75 x7_75 M_75 N_75 r h
    rw [D_X8_years_75] at h
    have kc_0 : ∀ j, j < 82 → M_75 (P + 3) j = M_75 (P + 3) j := fun _ _ => rfl
    by_cases c97 : x2_75 ≤ x7_75
    · rw [if_pos c97] at h
      obtain ⟨e_178, f_e_178, h⟩ := zBx h
      have ke_178 : ∀ j, j < 82 → e_178 (P + 1) j = M_75 (P + 3) j := fun j hj => (ptakes f_e_178 j hj).trans (kc_0 j hj)
      by_cases c98 : x3_75 = 0
      · rw [if_pos c98] at h
        exact fun j hj => (p11_X8_years_203 h j hj).trans (ke_178 j hj)
      · rw [if_neg c98] at h
        by_cases c99 : x3_75 = (1 : Int32)
        · rw [if_pos c99] at h
          exact fun j hj => (p11_X8_years_203 h j hj).trans (ke_178 j hj)
        · rw [if_neg c99] at h
          exact fun j hj => (p11_X8_years_203 h j hj).trans (ke_178 j hj)
    · rw [if_neg c97] at h
      obtain ⟨e_86, f_e_86, h⟩ := zBx h
      have ke_86 : ∀ j, j < 82 → e_86.1 (P + 3) j = M_75 (P + 3) j := fun j hj => (p33_X8_goesYear f_e_86 j hj).trans (kc_0 j hj)
      obtain ⟨e_92, f_e_92, h⟩ := zBx h
      obtain ⟨e_101, f_e_101, h⟩ := zBx h
      exact fun j hj => (p31_X8_years_112 ih _ _ _ _ _ _ _ _ _ _ _ _ h j hj).trans (ke_86 j hj)
set_option maxRecDepth 100000 in
set_option maxHeartbeats 4000000 in
theorem p31_X8_years_49 {P : Nat}  : ∀ (u : Nat) (x1_49 : Int32) (x2_49 : Int32) (x3_49 : Int32) (x4_49 : Int32) (x5_49 : Int32) (x6_49 : Int32) (x7_49 : Int32) (M_49 : zMt) (N_49 : zNt) (r : (Int32 × zMt × zNt)), D_X8_years_49 P u x1_49 x2_49 x3_49 x4_49 x5_49 x6_49 x7_49 M_49 N_49 = some r → ∀ j, j < 82 → r.2.1 (P + 1) j = M_49 (P + 3) j := by
  intro u
  induction u with
  | zero =>
    intro x1_49 x2_49 x3_49 x4_49 x5_49 x6_49 x7_49 M_49 N_49 r h
    cases h
  | succ u ih =>
    intro x1_49 x2_49 x3_49 x4_49 x5_49 x6_49 x7_49 M_49 N_49 r h
    rw [D_X8_years_49] at h
    have kc_0 : ∀ j, j < 82 → M_49 (P + 3) j = M_49 (P + 3) j := fun _ _ => rfl
    by_cases c96 : (M_49 P 8) ≤ x7_49
    · rw [if_pos c96] at h
      exact fun j hj => (p31_X8_years_75 _ _ _ _ _ _ _ _ _ _ _ h j hj).trans (kc_0 j hj)
    · rw [if_neg c96] at h
      replace h := (zIx h).2
      obtain ⟨M_65, f_M_65, h⟩ := zLtx h
      have k_M_65 : ∀ j, j < 82 → M_65 (P + 3) j = M_49 (P + 3) j := fun j hj => (congrFun (congrFun f_M_65.symm (P + 3)) j).trans ((zu_ne (by omega)).trans (kc_0 j hj))
      exact fun j hj => (ih _ _ _ _ _ _ _ _ _ _ h j hj).trans (k_M_65 j hj)
set_option maxRecDepth 100000 in
set_option maxHeartbeats 4000000 in
theorem p11_X8_years {P : Nat} {v0 : Int32} {v1 : Int32} {v2 : Int32} {M : zMt} {N : zNt}  {r : (Int32 × zMt × zNt)} (h : D_X8_years P v0 v1 v2 M N = some r) : ∀ j, j < 82 → r.2.1 (P + 1) j = M (P + 1) j := by
  unfold D_X8_years at h
  have kc_0 : ∀ j, j < 82 → M (P + 1) j = M (P + 1) j := fun _ _ => rfl
  obtain ⟨e_2, f_e_2, h⟩ := zBx h
  by_cases c94 : e_2 = 0
  · rw [if_pos c94] at h
    exact fun j hj => (p11_X8_years_20 h j hj).trans (kc_0 j hj)
  · rw [if_neg c94] at h
    obtain ⟨e_14, f_e_14, h⟩ := zBx h
    by_cases c95 : e_14 = 0
    · rw [if_pos c95] at h
      exact fun j hj => (p11_X8_years_20 h j hj).trans (kc_0 j hj)
    · rw [if_neg c95] at h
      obtain ⟨e_27, f_e_27, h⟩ := zBx h
      have ke_27 : ∀ j, j < 82 → e_27 (P + 3) j = M (P + 1) j := fun j hj => (pputs f_e_27 j hj).trans (kc_0 j hj)
      exact fun j hj => (p31_X8_years_49 _ _ _ _ _ _ _ _ _ _ _ h j hj).trans (ke_27 j hj)
set_option maxRecDepth 100000 in
set_option maxHeartbeats 4000000 in
theorem p31_X8_often_68 {P : Nat} {k38 : Int32 → Int32 → Int32 → Int32 → Int32 → zMt → zNt → Option (Int32 × zMt × zNt)} {x1_68 : Int32} {x2_68 : Int32} {x3_68 : Int32} {x5_68 : Int32} {y0_68 : Int32} {y1_68 : Int32} {M_68 : zMt} {N_68 : zNt} (hk_k38 : ∀ (y0 : Int32) (y1 : Int32) (y2 : Int32) (y3 : Int32) (y4 : Int32) (y5 : zMt) (y6 : zNt) r, k38 y0 y1 y2 y3 y4 y5 y6 = some r → ∀ j, j < 82 → r.2.1 (P + 1) j = y5 (P + 3) j) {r : (Int32 × zMt × zNt)} (h : D_X8_often_68 P k38 x1_68 x2_68 x3_68 x5_68 y0_68 y1_68 M_68 N_68 = some r) : ∀ j, j < 82 → r.2.1 (P + 1) j = M_68 (P + 3) j := by
  unfold D_X8_often_68 at h
  have kc_0 : ∀ j, j < 82 → M_68 (P + 3) j = M_68 (P + 3) j := fun _ _ => rfl
  exact fun j hj => (hk_k38 _ _ _ _ _ _ _ _ h j hj).trans (kc_0 j hj)
set_option maxRecDepth 100000 in
set_option maxHeartbeats 4000000 in
theorem p31_X8_often_38 {P : Nat}  : ∀ (u : Nat) (x1_38 : Int32) (x2_38 : Int32) (x3_38 : Int32) (x4_38 : Int32) (x5_38 : Int32) (M_38 : zMt) (N_38 : zNt) (r : (Int32 × zMt × zNt)), D_X8_often_38 P u x1_38 x2_38 x3_38 x4_38 x5_38 M_38 N_38 = some r → ∀ j, j < 82 → r.2.1 (P + 1) j = M_38 (P + 3) j := by
  intro u
  induction u with
  | zero =>
    intro x1_38 x2_38 x3_38 x4_38 x5_38 M_38 N_38 r h
    cases h
  | succ u ih =>
    intro x1_38 x2_38 x3_38 x4_38 x5_38 M_38 N_38 r h
    rw [D_X8_often_38] at h
    have kc_0 : ∀ j, j < 82 → M_38 (P + 3) j = M_38 (P + 3) j := fun _ _ => rfl
    by_cases c110 : x2_38 ≤ x5_38
    · rw [if_pos c110] at h
      obtain ⟨e_78, f_e_78, h⟩ := zBx h
      have ke_78 : ∀ j, j < 82 → e_78 (P + 1) j = M_38 (P + 3) j := fun j hj => (ptakes f_e_78 j hj).trans (kc_0 j hj)
      obtain ⟨e_84, f_e_84, h⟩ := zBx h
      have ke_84 : ∀ j, j < 82 → e_84.2 (P + 1) j = M_38 (P + 3) j := fun j hj => (p11_X8_gives f_e_84 j hj).trans (ke_78 j hj)
      cases h
      exact ke_84
    · rw [if_neg c110] at h
      obtain ⟨e_49, f_e_49, h⟩ := zBx h
      have ke_49 : ∀ j, j < 82 → e_49.1 (P + 3) j = M_38 (P + 3) j := fun j hj => (p33_X8_goesYear f_e_49 j hj).trans (kc_0 j hj)
      obtain ⟨e_56, f_e_56, h⟩ := zBx h
      by_cases c111 : e_56 = (-1 : Int32)
      · rw [if_pos c111] at h
        exact fun j hj => (p31_X8_often_68 ih h j hj).trans (ke_49 j hj)
      · rw [if_neg c111] at h
        exact fun j hj => (p31_X8_often_68 ih h j hj).trans (ke_49 j hj)
set_option maxRecDepth 100000 in
set_option maxHeartbeats 4000000 in
theorem p11_X8_often {P : Nat} {v0 : Int32} {v1 : Int32} {v2 : Int32} {M : zMt} {N : zNt}  {r : (Int32 × zMt × zNt)} (h : D_X8_often P v0 v1 v2 M N = some r) : ∀ j, j < 82 → r.2.1 (P + 1) j = M (P + 1) j := by
  unfold D_X8_often at h
  have kc_0 : ∀ j, j < 82 → M (P + 1) j = M (P + 1) j := fun _ _ => rfl
  obtain ⟨e_2, f_e_2, h⟩ := zBx h
  by_cases c108 : e_2 = 0
  · rw [if_pos c108] at h
    obtain ⟨e_10, f_e_10, h⟩ := zBx h
    have ke_10 : ∀ j, j < 82 → e_10.2 (P + 1) j = M (P + 1) j := fun j hj => (p11_X8_refuse f_e_10 j hj).trans (kc_0 j hj)
    cases h
    exact ke_10
  · rw [if_neg c108] at h
    obtain ⟨e_16, f_e_16, h⟩ := zBx h
    by_cases c109 : e_16 = 0
    · rw [if_pos c109] at h
      obtain ⟨e_24, f_e_24, h⟩ := zBx h
      have ke_24 : ∀ j, j < 82 → e_24.2 (P + 1) j = M (P + 1) j := fun j hj => (p11_X8_refuse f_e_24 j hj).trans (kc_0 j hj)
      cases h
      exact ke_24
    · rw [if_neg c109] at h
      obtain ⟨e_29, f_e_29, h⟩ := zBx h
      have ke_29 : ∀ j, j < 82 → e_29 (P + 3) j = M (P + 1) j := fun j hj => (pputs f_e_29 j hj).trans (kc_0 j hj)
      exact fun j hj => (p31_X8_often_38 _ _ _ _ _ _ _ _ _ h j hj).trans (ke_29 j hj)
set_option maxRecDepth 100000 in
set_option maxHeartbeats 4000000 in
theorem p11_X8_soonest_130 {P : Nat} {y0_130 : Int32} {M_130 : zMt} {N_130 : zNt}  {r : (Int32 × zMt × zNt)} (h : D_X8_soonest_130 P y0_130 M_130 N_130 = some r) : ∀ j, j < 82 → r.2.1 (P + 1) j = M_130 (P + 1) j := by
  unfold D_X8_soonest_130 at h
  have kc_0 : ∀ j, j < 82 → M_130 (P + 1) j = M_130 (P + 1) j := fun _ _ => rfl
  cases h
  exact kc_0
set_option maxRecDepth 100000 in
set_option maxHeartbeats 4000000 in
theorem p31_X8_soonest_106 {P : Nat} {x4_106 : Int32} {M_106 : zMt} {N_106 : zNt}  {r : (Int32 × zMt × zNt)} (h : D_X8_soonest_106 P x4_106 M_106 N_106 = some r) : ∀ j, j < 82 → r.2.1 (P + 1) j = M_106 (P + 3) j := by
  unfold D_X8_soonest_106 at h
  have kc_0 : ∀ j, j < 82 → M_106 (P + 3) j = M_106 (P + 3) j := fun _ _ => rfl
  obtain ⟨e_107, f_e_107, h⟩ := zBx h
  have ke_107 : ∀ j, j < 82 → e_107 (P + 1) j = M_106 (P + 3) j := fun j hj => (ptakes f_e_107 j hj).trans (kc_0 j hj)
  by_cases c115 : x4_106 = (-1 : Int32)
  · rw [if_pos c115] at h
    obtain ⟨e_118, f_e_118, h⟩ := zBx h
    have ke_118 : ∀ j, j < 82 → e_118.2 (P + 1) j = M_106 (P + 3) j := fun j hj => (p11_X8_refuse f_e_118 j hj).trans (ke_107 j hj)
    exact fun j hj => (p11_X8_soonest_130 h j hj).trans (ke_118 j hj)
  · rw [if_neg c115] at h
    obtain ⟨e_127, f_e_127, h⟩ := zBx h
    have ke_127 : ∀ j, j < 82 → e_127.2 (P + 1) j = M_106 (P + 3) j := fun j hj => (p11_X8_gives f_e_127 j hj).trans (ke_107 j hj)
    exact fun j hj => (p11_X8_soonest_130 h j hj).trans (ke_127 j hj)
set_option maxRecDepth 100000 in
set_option maxHeartbeats 4000000 in
theorem p31_X8_soonest_98 {P : Nat} {k38 : Int32 → Int32 → Int32 → Int32 → Int32 → zMt → zNt → Option (Int32 × zMt × zNt)} {x1_98 : Int32} {x2_98 : Int32} {x3_98 : Int32} {x5_98 : Int32} {y0_98 : Int32} {M_98 : zMt} {N_98 : zNt} (hk_k38 : ∀ (y0 : Int32) (y1 : Int32) (y2 : Int32) (y3 : Int32) (y4 : Int32) (y5 : zMt) (y6 : zNt) r, k38 y0 y1 y2 y3 y4 y5 y6 = some r → ∀ j, j < 82 → r.2.1 (P + 1) j = y5 (P + 3) j) {r : (Int32 × zMt × zNt)} (h : D_X8_soonest_98 P k38 x1_98 x2_98 x3_98 x5_98 y0_98 M_98 N_98 = some r) : ∀ j, j < 82 → r.2.1 (P + 1) j = M_98 (P + 3) j := by
  unfold D_X8_soonest_98 at h
  have kc_0 : ∀ j, j < 82 → M_98 (P + 3) j = M_98 (P + 3) j := fun _ _ => rfl
  exact fun j hj => (hk_k38 _ _ _ _ _ _ _ _ h j hj).trans (kc_0 j hj)
set_option maxRecDepth 100000 in
set_option maxHeartbeats 4000000 in
theorem p31_X8_soonest_61 {P : Nat} {k38 : Int32 → Int32 → Int32 → Int32 → Int32 → zMt → zNt → Option (Int32 × zMt × zNt)} (hk_k38 : ∀ (y0 : Int32) (y1 : Int32) (y2 : Int32) (y3 : Int32) (y4 : Int32) (y5 : zMt) (y6 : zNt) r, k38 y0 y1 y2 y3 y4 y5 y6 = some r → ∀ j, j < 82 → r.2.1 (P + 1) j = y5 (P + 3) j) : ∀ (u : Nat) (x1_61 : Int32) (x2_61 : Int32) (x3_61 : Int32) (x5_61 : Int32) (x6_61 : Int32) (M_61 : zMt) (N_61 : zNt) (r : (Int32 × zMt × zNt)), D_X8_soonest_61 P k38 u x1_61 x2_61 x3_61 x5_61 x6_61 M_61 N_61 = some r → ∀ j, j < 82 → r.2.1 (P + 1) j = M_61 (P + 3) j := by
  intro u
  induction u with
  | zero =>
    intro x1_61 x2_61 x3_61 x5_61 x6_61 M_61 N_61 r h
    cases h
  | succ u ih =>
    intro x1_61 x2_61 x3_61 x5_61 x6_61 M_61 N_61 r h
    rw [D_X8_soonest_61] at h
    have kc_0 : ∀ j, j < 82 → M_61 (P + 3) j = M_61 (P + 3) j := fun _ _ => rfl
    replace h := (zIx h).2
    obtain ⟨e_69, f_e_69, h⟩ := zBx h
    by_cases c117 : e_69 = 0
    · rw [if_pos c117] at h
      exact fun j hj => (ih _ _ _ _ _ _ _ _ h j hj).trans (kc_0 j hj)
    · rw [if_neg c117] at h
      obtain ⟨e_84, f_e_84, h⟩ := zBx h
      by_cases c118 : e_84 = 0
      · rw [if_pos c118] at h
        exact fun j hj => (p31_X8_soonest_98 hk_k38 h j hj).trans (kc_0 j hj)
      · rw [if_neg c118] at h
        exact fun j hj => (p31_X8_soonest_98 hk_k38 h j hj).trans (kc_0 j hj)
set_option maxRecDepth 100000 in
set_option maxHeartbeats 4000000 in
theorem p31_X8_soonest_38 {P : Nat}  : ∀ (u : Nat) (x1_38 : Int32) (x2_38 : Int32) (x3_38 : Int32) (x4_38 : Int32) (x5_38 : Int32) (M_38 : zMt) (N_38 : zNt) (r : (Int32 × zMt × zNt)), D_X8_soonest_38 P u x1_38 x2_38 x3_38 x4_38 x5_38 M_38 N_38 = some r → ∀ j, j < 82 → r.2.1 (P + 1) j = M_38 (P + 3) j := by
  intro u
  induction u with
  | zero =>
    intro x1_38 x2_38 x3_38 x4_38 x5_38 M_38 N_38 r h
    cases h
  | succ u ih =>
    intro x1_38 x2_38 x3_38 x4_38 x5_38 M_38 N_38 r h
    rw [D_X8_soonest_38] at h
    have kc_0 : ∀ j, j < 82 → M_38 (P + 3) j = M_38 (P + 3) j := fun _ _ => rfl
    by_cases c114 : x2_38 ≤ x5_38
    · rw [if_pos c114] at h
      exact fun j hj => (p31_X8_soonest_106 h j hj).trans (kc_0 j hj)
    · rw [if_neg c114] at h
      by_cases c116 : x4_38 = (-1 : Int32)
      · rw [if_pos c116] at h
        obtain ⟨e_55, f_e_55, h⟩ := zBx h
        have ke_55 : ∀ j, j < 82 → e_55.1 (P + 3) j = M_38 (P + 3) j := fun j hj => (p33_X8_goesYear f_e_55 j hj).trans (kc_0 j hj)
        exact fun j hj => (p31_X8_soonest_61 ih _ _ _ _ _ _ _ _ _ h j hj).trans (ke_55 j hj)
      · rw [if_neg c116] at h
        exact fun j hj => (p31_X8_soonest_106 h j hj).trans (kc_0 j hj)
set_option maxRecDepth 100000 in
set_option maxHeartbeats 4000000 in
theorem p11_X8_soonest {P : Nat} {v0 : Int32} {v1 : Int32} {v2 : Int32} {M : zMt} {N : zNt}  {r : (Int32 × zMt × zNt)} (h : D_X8_soonest P v0 v1 v2 M N = some r) : ∀ j, j < 82 → r.2.1 (P + 1) j = M (P + 1) j := by
  unfold D_X8_soonest at h
  have kc_0 : ∀ j, j < 82 → M (P + 1) j = M (P + 1) j := fun _ _ => rfl
  obtain ⟨e_2, f_e_2, h⟩ := zBx h
  by_cases c112 : e_2 = 0
  · rw [if_pos c112] at h
    obtain ⟨e_10, f_e_10, h⟩ := zBx h
    have ke_10 : ∀ j, j < 82 → e_10.2 (P + 1) j = M (P + 1) j := fun j hj => (p11_X8_refuse f_e_10 j hj).trans (kc_0 j hj)
    cases h
    exact ke_10
  · rw [if_neg c112] at h
    obtain ⟨e_16, f_e_16, h⟩ := zBx h
    by_cases c113 : e_16 = 0
    · rw [if_pos c113] at h
      obtain ⟨e_24, f_e_24, h⟩ := zBx h
      have ke_24 : ∀ j, j < 82 → e_24.2 (P + 1) j = M (P + 1) j := fun j hj => (p11_X8_refuse f_e_24 j hj).trans (kc_0 j hj)
      cases h
      exact ke_24
    · rw [if_neg c113] at h
      obtain ⟨e_29, f_e_29, h⟩ := zBx h
      have ke_29 : ∀ j, j < 82 → e_29 (P + 3) j = M (P + 1) j := fun j hj => (pputs f_e_29 j hj).trans (kc_0 j hj)
      exact fun j hj => (p31_X8_soonest_38 _ _ _ _ _ _ _ _ _ h j hj).trans (ke_29 j hj)
