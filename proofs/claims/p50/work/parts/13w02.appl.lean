/-- what laysApplicants writes -/
def WA (P x j : Nat) : Prop := (P + 11 ≤ x ∧ x < P + 18) ∨ (x = P ∧ j = 33)
/-- c applicants stand: where their choices are, and one hunter of each -/
def jQ (P : Nat) (H : Int) (M : zMt) (c : Nat) : Prop := ∀ a : Nat, a < c → 20 ≤ (M (P + 13) a).toInt ∧ (M (P + 13) a).toInt ≤ 59 ∧ ∃ h : Nat, (h : Int) < H ∧ bitAt (M (P + 11) a) h
theorem jQ.put {P : Nat} {H : Int} {M M' : zMt} {c : Nat} (h : jQ P H M c) (h1 : ∀ a : Nat, a < c → M' (P + 13) a = M (P + 13) a ∧ M' (P + 11) a = M (P + 11) a) (h2 : 20 ≤ (M' (P + 13) c).toInt ∧ (M' (P + 13) c).toInt ≤ 59 ∧ ∃ h : Nat, (h : Int) < H ∧ bitAt (M' (P + 11) c) h) : jQ P H M' (c + 1) := by
  intro a ha
  by_cases q : a = c
  · subst q; exact h2
  · obtain ⟨e1, e2⟩ := h1 a (by omega)
    rw [e1, e2]
    exact h a (by omega)
theorem z_m1 : (-1 : Int32).toInt = -1 := by decide
theorem h_X8_laysApplicants {P : Nat} {M0 : zMt} (hB : jB P M0) (hS : jS P M0) : ∃ r, D_X8_laysApplicants P M0 = some r ∧ ((∀ x j, ¬ WA P x j → r x j = M0 x j) ∧ jB P r ∧ jL P r ∧ jH P r ∧ (r P 33).toInt = nA P r) := by
  obtain ⟨b1, b2, b3, b4, b5, b6⟩ := id hB
  have hi := hS.ints
  have hn := nA_le hB hS
  obtain ⟨s1, s2, s3, s4, s5, s6⟩ := id hS
  obtain ⟨H, hH⟩ : ∃ H : Nat, (M0 P 8).toInt = H := ⟨(M0 P 8).toInt.toNat, by omega⟩
  obtain ⟨pn, hpn⟩ : ∃ pn : Nat, (M0 (P + 1) 70).toInt = pn := ⟨(M0 (P + 1) 70).toInt.toNat, by omega⟩
  have hnA : nA P M0 = (fr (M0 (P + 1)) H : Int) + pn := by unfold nA; rw [hpn, hH, Int.toNat_natCast]
  have z0 : ∀ k : Nat, (10 : Int32) + nI k = nI (10 + k) := fun k => by rw [show (10 : Int32) = nI 10 from rfl, nI_add]
  have c70 : (70 : Int32).toNatClampNeg = 70 := by decide
  have v70 : vp_in (70 : Int32) 82 := by unfold vp_in; decide
  have o1 : (1 : Int32).toInt = 1 := by decide
  -- the last loop: each applicant is laid
  have L198 : ∀ (u i : Nat) (M : zMt), (M P 33).toInt = nA P M0 → (i : Int) ≤ nA P M0 → nA P M0 - i < u → (∀ x j, ¬ WA P x j → M x j = M0 x j) → jQ P H M (nA P M0).toNat → (∀ h : Nat, h < H → ∃ a : Nat, (a : Int) < nA P M0 ∧ bitAt (M (P + 11) a) h) → (∀ a : Nat, a < i → 1 ≤ (M (P + 14) a).toInt ∧ (M (P + 14) a).toInt ≤ 10 ∧ 1 ≤ (M (P + 17) a).toInt ∧ (M (P + 17) a).toInt ≤ 401) → ∃ r, D_X8_laysApplicants_198 P u (nI i) M = some r ∧ ((∀ x j, ¬ WA P x j → r x j = M0 x j) ∧ jB P r ∧ jL P r ∧ jH P r ∧ (r P 33).toInt = nA P r) := by
    intro u
    induction u with
    | zero => intro i M h1 h2 h3; omega
    | succ u ih =>
      intro i M h33 h2 hu k hQ hC hT
      have e8 : M P 8 = M0 P 8 := k P 8 (by unfold WA; omega)
      have e7 : M P 7 = M0 P 7 := k P 7 (by unfold WA; omega)
      have hit : (nI i).toInt = i := nI_toInt (by omega)
      have hnM : nA P M = nA P M0 := nA_congr (fun a j h => k a j (by unfold WA; omega))
      rw [D_X8_laysApplicants_198]
      refine vIf (fun hc => ?_) (fun hc => ?_)
      · have hge := Int32.le_iff_toInt_le.mp hc
        rw [hit] at hge
        refine ⟨_, rfl, k, ?_, ?_, ?_, by rw [hnM, h33]⟩
        · unfold jB
          rw [e8, e7]
          exact ⟨b1, b2, b3, b4, by omega, by omega⟩
        · intro a ha
          obtain ⟨q1, q2, _⟩ := hQ a (by omega)
          obtain ⟨q4, q5, q6, q7⟩ := hT a (by omega)
          exact ⟨q1, q2, q4, q5, q6, q7⟩
        · intro h hh
          rw [e8, hH] at hh
          obtain ⟨a, q1, q2⟩ := hC h (by omega)
          exact ⟨a, by omega, q2⟩
      · have hlt := Int32.lt_iff_toInt_lt.mp (Int32.not_le.mp hc)
        rw [hit] at hlt
        have hBM : jB P M := by
          unfold jB
          rw [e8, e7]
          exact ⟨b1, b2, b3, b4, by omega, by omega⟩
        have hSM : jS P M := hS.mono (fun a j h => k a j (by unfold WA; omega))
        refine vB (v_X8_laysOne (a := i) hBM hSM (by omega) (by
          obtain ⟨_, _, h, hh, hb⟩ := hQ i (by omega)
          exact ⟨h, by rw [e8]; omega, hb⟩)) (fun M1 f1 q1 => ?_)
        obtain ⟨k1, t1, t2, t3, t4⟩ := q1
        rw [nI_1]
        refine ih (i + 1) M1 ?_ (by omega) (by omega) (fun x j h => (k1 x j (by unfold WL1; unfold WA at h; omega)).trans (k x j h)) ?_ ?_ ?_
        · rw [k1 P 33 (by unfold WL1; omega)]; exact h33
        · intro a ha
          rw [k1 (P + 13) a (by unfold WL1; omega), k1 (P + 11) a (by unfold WL1; omega)]
          exact hQ a ha
        · intro h hh
          obtain ⟨a, q1, q2⟩ := hC h hh
          exact ⟨a, q1, by rw [k1 (P + 11) a (by unfold WL1; omega)]; exact q2⟩
        · intro a ha
          by_cases q : a = i
          · subst q; exact ⟨t1, t2, t3, t4⟩
          · rw [k1 (P + 14) a (by unfold WL1; omega), k1 (P + 17) a (by unfold WL1; omega)]
            exact hT a (by omega)
  -- the parties
  have L86 : ∀ (u p : Nat) (M : zMt), p ≤ pn → pn - p < u → (∀ x j, ¬ WA P x j → M x j = M0 x j) → M P 33 = nI (fr (M0 (P + 1)) H + p) → jQ P H M (fr (M0 (P + 1)) H + p) → (∀ h : Nat, h < H → (M0 (P + 1) (10 + h)).toInt < p → ∃ a : Nat, a < fr (M0 (P + 1)) H + p ∧ bitAt (M (P + 11) a) h) → ∃ r, D_X8_laysApplicants_86 P u (nI p) M = some r ∧ ((∀ x j, ¬ WA P x j → r x j = M0 x j) ∧ jB P r ∧ jL P r ∧ jH P r ∧ (r P 33).toInt = nA P r) := by
    intro u
    induction u with
    | zero => intro p M h1 h2; omega
    | succ u ih =>
      intro p M hp hu k h33 hQ hC
      have e70 : M (P + 1) 70 = M0 (P + 1) 70 := k (P + 1) 70 (by unfold WA; omega)
      have hpt : (nI p).toInt = p := nI_toInt (by omega)
      rw [D_X8_laysApplicants_86]
      refine vI v70 ?_
      rw [c70, e70]
      refine vIf (fun hc => ?_) (fun hc => ?_)
      · have hge := Int32.le_iff_toInt_le.mp hc
        rw [hpt, hpn] at hge
        have hpp : p = pn := by omega
        subst hpp
        refine L198 zFu 0 M ?_ (by omega) (by unfold zFu; omega) k ?_ ?_ (fun a ha => absurd ha (Nat.not_lt_zero a))
        · rw [h33, nI_toInt (by omega), hnA]
          omega
        · rw [hnA]
          exact hQ
        · intro h hh
          obtain ⟨a, q1, q2⟩ := hC h hh (by have := (s2 h (by omega)).2; omega)
          exact ⟨a, by omega, q2⟩
      · have hlt := Int32.lt_iff_toInt_lt.mp (Int32.not_le.mp hc)
        rw [hpt, hpn] at hlt
        generalize hcd : fr (M0 (P + 1)) H + p = cc at h33 hQ hC
        have hcc : cc < 10 := by omega
        have hcl : (nI cc).toNatClampNeg = cc := nI_clamp (by omega)
        have vcc : vp_in (nI cc) 10 := vp_in_nI hcc (by decide)
        rw [h33, hcl]
        refine vI vcc ?_
        refine vLm (W := WA P) (fun x j h => (zu_ne (by unfold WA at h; omega)).trans (k x j h)) (fun M1 f1 k1 => ?_)
        -- the inner loop
        have L109 : ∀ (v j : Nat) (M' : zMt), j ≤ H → H - j < v → (∀ x y, ¬ WA P x y → M' x y = M0 x y) → M' P 33 = nI cc → (∀ a : Nat, a < cc → M' (P + 13) a = M (P + 13) a ∧ M' (P + 11) a = M (P + 11) a) → (∀ h : Nat, h < j → (M0 (P + 1) (10 + h)).toInt = p → bitAt (M' (P + 11) cc) h) → ∃ r, D_X8_laysApplicants_109 P (D_X8_laysApplicants_86 P u) v (nI p) (nI j) M' = some r ∧ ((∀ x j, ¬ WA P x j → r x j = M0 x j) ∧ jB P r ∧ jL P r ∧ jH P r ∧ (r P 33).toInt = nA P r) := by
          intro v
          induction v with
          | zero => intro j M' h1 h2; omega
          | succ v ihv =>
            intro j M' hj hv k' h33' hK hb
            have e8 : M' P 8 = M0 P 8 := k' P 8 (by unfold WA; omega)
            have hjt : (nI j).toInt = j := nI_toInt (by omega)
            rw [D_X8_laysApplicants_109, e8, h33', hcl]
            refine vIf (fun hc2 => ?_) (fun hc2 => ?_)
            · have hge := Int32.le_iff_toInt_le.mp hc2
              rw [hjt, hH] at hge
              have hjj : j = H := by omega
              subst hjj
              refine vI vcc ?_
              refine vLm (W := WA P) (fun x j h => (zu_ne (by unfold WA at h; omega)).trans (k' x j h)) (fun M2 f2 k2 => ?_)
              have e33 : M2 P 33 = nI cc := by rw [← f2, zu_ne (by omega)]; exact h33'
              rw [e33, hcl]
              refine vI vcc ?_
              refine vLm (W := WA P) (fun x j h => (zu_ne (by unfold WA at h; omega)).trans (k2 x j h)) (fun M3 f3 k3 => ?_)
              have e333 : M3 P 33 = nI cc := by rw [← f3, zu_ne (by omega)]; exact e33
              rw [e333]
              refine vLm (W := WA P) (fun x j h => (zu_ne (by unfold WA at h; omega)).trans (k3 x j h)) (fun M4 f4 k4 => ?_)
              have e334 : M4 P 33 = nI (cc + 1) := by rw [← f4, zu_eq, nI_1]
              have f11 : ∀ a : Nat, M4 (P + 11) a = M' (P + 11) a := fun a => by rw [← f4, zu_ne (by omega), ← f3, zu_ne (by omega), ← f2, zu_ne (by omega)]
              have f13 : ∀ a : Nat, a < cc → M4 (P + 13) a = M' (P + 13) a := fun a ha => by rw [← f4, zu_ne (by omega), ← f3, zu_ne (by omega), ← f2, zu_ne (by omega)]
              have f13c : M4 (P + 13) cc = nI (50 + 3 * p) := by
                rw [← f4, zu_ne (by omega), ← f3, zu_eq]
                rw [show (3 : Int32) * nI p = nI (3 * p) from (by rw [show (3 : Int32) = nI 3 from rfl]; unfold nI; rw [Int32.ofNat_mul]), show (50 : Int32) = nI 50 from rfl, nI_add]
              rw [nI_1]
              refine ih (p + 1) M4 (by omega) (by omega) k4 (by rw [e334, ← hcd, Nat.add_assoc]) ?_ ?_
              · rw [← Nat.add_assoc, hcd]
                refine hQ.put (fun a ha => ⟨(f13 a ha).trans (hK a ha).1, (f11 a).trans (hK a ha).2⟩) ⟨?_, ?_, ?_⟩
                · rw [f13c, nI_toInt (by omega)]; omega
                · rw [f13c, nI_toInt (by omega)]; omega
                · obtain ⟨h, h1, h2⟩ := s6 p (by omega)
                  exact ⟨h, by omega, by rw [f11]; exact hb h (by omega) h2⟩
              · intro h hh hlt2
                by_cases q : (M0 (P + 1) (10 + h)).toInt = p
                · exact ⟨cc, by omega, by rw [f11]; exact hb h hh q⟩
                · obtain ⟨a, a1, a2⟩ := hC h hh (by omega)
                  exact ⟨a, by omega, by rw [f11, (hK a a1).2]; exact a2⟩
            · have hlt2 := Int32.lt_iff_toInt_lt.mp (Int32.not_le.mp hc2)
              rw [hjt, hH] at hlt2
              have hcj : (nI (10 + j)).toNatClampNeg = 10 + j := nI_clamp (by omega)
              rw [z0, hcj]
              refine vI vcc (vI (vp_in_nI (by omega) (by decide)) ?_)
              have eP : M' (P + 1) (10 + j) = M0 (P + 1) (10 + j) := k' (P + 1) (10 + j) (by unfold WA; omega)
              rw [eP]
              have T147 : ∀ y : Int32, (∀ h : Nat, h < j + 1 → (M0 (P + 1) (10 + h)).toInt = p → bitAt (M' (P + 11) cc ||| y) h) → ∃ r, D_X8_laysApplicants_147 P (D_X8_laysApplicants_86 P u) (D_X8_laysApplicants_109 P (D_X8_laysApplicants_86 P u) v) (nI p) (nI j) (nI cc) (M' (P + 11) cc) y M' = some r ∧ ((∀ x j, ¬ WA P x j → r x j = M0 x j) ∧ jB P r ∧ jL P r ∧ jH P r ∧ (r P 33).toInt = nA P r) := by
                intro y hy
                unfold D_X8_laysApplicants_147
                refine vI vcc ?_
                rw [hcl]
                refine vLm (W := WA P) (fun x j h => (zu_ne (by unfold WA at h; omega)).trans (k' x j h)) (fun M2 f2 k2 => ?_)
                rw [nI_1]
                refine ihv (j + 1) M2 (by omega) (by omega) k2 (by rw [← f2, zu_ne (by omega)]; exact h33') (fun a ha => ?_) (fun h hh hq => ?_)
                · rw [← f2, zu_ne (by omega), zu_ne (by omega)]
                  exact hK a ha
                · rw [← f2, zu_eq]
                  exact hy h hh hq
              refine vIf (fun hq => T147 _ (fun h hh he => ?_)) (fun hq => T147 _ (fun h hh he => ?_))
              · rw [bitAt_or (by omega)]
                by_cases q : h = j
                · subst q
                  exact Or.inr ((bitAt_one h (by omega) h (by omega)).mpr rfl)
                · exact Or.inl (hb h (by omega) he)
              · rw [bitAt_or (by omega)]
                refine Or.inl (hb h ?_ he)
                have : h ≠ j := fun q => by
                  subst q
                  exact hq (Int32.toInt_inj.mp (by rw [he, hpt]))
                omega
        refine L109 zFu 0 M1 (by omega) (by unfold zFu; omega) k1 (by rw [← f1, zu_ne (by omega)]; exact h33) (fun a ha => ?_) (fun h hh => absurd hh (Nat.not_lt_zero h))
        rw [← f1, zu_ne (by omega), zu_ne (by omega)]
        exact ⟨rfl, rfl⟩
  -- the hunters that are in no party
  have L7 : ∀ (u i : Nat) (M : zMt), i ≤ H → H - i < u → (∀ x j, ¬ WA P x j → M x j = M0 x j) → M P 33 = nI (fr (M0 (P + 1)) i) → jQ P H M (fr (M0 (P + 1)) i) → (∀ h : Nat, h < i → M0 (P + 1) (10 + h) = -1 → ∃ a : Nat, a < fr (M0 (P + 1)) i ∧ bitAt (M (P + 11) a) h) → ∃ r, D_X8_laysApplicants_7 P u (nI i) M = some r ∧ ((∀ x j, ¬ WA P x j → r x j = M0 x j) ∧ jB P r ∧ jL P r ∧ jH P r ∧ (r P 33).toInt = nA P r) := by
    intro u
    induction u with
    | zero => intro i M h1 h2; omega
    | succ u ih =>
      intro i M hi1 hu k h33 hQ hC
      have e8 : M P 8 = M0 P 8 := k P 8 (by unfold WA; omega)
      have hit : (nI i).toInt = i := nI_toInt (by omega)
      rw [D_X8_laysApplicants_7, e8]
      refine vIf (fun hc => ?_) (fun hc => ?_)
      · have hge := Int32.le_iff_toInt_le.mp hc
        rw [hit, hH] at hge
        have hii : i = H := by omega
        subst hii
        refine L86 zFu 0 M (by omega) (by unfold zFu; omega) k h33 hQ (fun h hh hl => ?_)
        refine hC h hh (Int32.toInt_inj.mp ?_)
        have := (s2 h (by omega)).1
        rw [z_m1]
        omega
      · have hlt := Int32.lt_iff_toInt_lt.mp (Int32.not_le.mp hc)
        rw [hit, hH] at hlt
        have hcj : (nI (10 + i)).toNatClampNeg = 10 + i := nI_clamp (by omega)
        rw [z0, hcj]
        refine vI (vp_in_nI (by omega) (by decide)) ?_
        have eP : M (P + 1) (10 + i) = M0 (P + 1) (10 + i) := k (P + 1) (10 + i) (by unfold WA; omega)
        rw [eP]
        have hfs : fr (M0 (P + 1)) (i + 1) = fr (M0 (P + 1)) i + (if M0 (P + 1) (10 + i) = -1 then 1 else 0) := rfl
        have hfl := fr_le (M0 (P + 1)) i
        refine vIf (fun hq => ?_) (fun hq => ?_)
        · rw [if_pos hq] at hfs
          generalize hcd : fr (M0 (P + 1)) i = cc at h33 hQ hC hfs hfl
          have hcl : (nI cc).toNatClampNeg = cc := nI_clamp (by omega)
          have vcc : vp_in (nI cc) 10 := vp_in_nI (by omega) (by decide)
          rw [h33, hcl]
          refine vI vcc ?_
          refine vLm (W := WA P) (fun x j h => (zu_ne (by unfold WA at h; omega)).trans (k x j h)) (fun M1 f1 k1 => ?_)
          have e1 : M1 P 33 = nI cc := by rw [← f1, zu_ne (by omega)]; exact h33
          rw [e1, hcl]
          refine vI vcc ?_
          refine vLm (W := WA P) (fun x j h => (zu_ne (by unfold WA at h; omega)).trans (k1 x j h)) (fun M2 f2 k2 => ?_)
          have e2 : M2 P 33 = nI cc := by rw [← f2, zu_ne (by omega)]; exact e1
          rw [e2, hcl]
          refine vI vcc ?_
          refine vLm (W := WA P) (fun x j h => (zu_ne (by unfold WA at h; omega)).trans (k2 x j h)) (fun M3 f3 k3 => ?_)
          have e3 : M3 P 33 = nI cc := by rw [← f3, zu_ne (by omega)]; exact e2
          rw [e3]
          refine vLm (W := WA P) (fun x j h => (zu_ne (by unfold WA at h; omega)).trans (k3 x j h)) (fun M4 f4 k4 => ?_)
          have e4 : M4 P 33 = nI (cc + 1) := by rw [← f4, zu_eq, nI_1]
          have f11 : ∀ a : Nat, a < cc → M4 (P + 11) a = M (P + 11) a := fun a ha => by rw [← f4, zu_ne (by omega), ← f3, zu_ne (by omega), ← f2, zu_ne (by omega), ← f1, zu_ne (by omega)]
          have f11c : M4 (P + 11) cc = (1 : Int32) <<< (nI i &&& 31) := by rw [← f4, zu_ne (by omega), ← f3, zu_ne (by omega), ← f2, zu_ne (by omega), ← f1, zu_eq]
          have f13 : ∀ a : Nat, a < cc → M4 (P + 13) a = M (P + 13) a := fun a ha => by rw [← f4, zu_ne (by omega), ← f3, zu_ne (by omega), ← f2, zu_ne (by omega), ← f1, zu_ne (by omega)]
          have f13c : M4 (P + 13) cc = nI (20 + 3 * i) := by
            rw [← f4, zu_ne (by omega), ← f3, zu_eq]
            rw [show (3 : Int32) * nI i = nI (3 * i) from (by rw [show (3 : Int32) = nI 3 from rfl]; unfold nI; rw [Int32.ofNat_mul]), show (20 : Int32) = nI 20 from rfl, nI_add]
          unfold D_X8_laysApplicants_78
          rw [nI_1]
          have hbi : bitAt (M4 (P + 11) cc) i := by rw [f11c]; exact (bitAt_one i (by omega) i (by omega)).mpr rfl
          refine ih (i + 1) M4 (by omega) (by omega) k4 (by rw [e4, hfs]) ?_ (fun h hh he => ?_)
          · rw [hfs]
            refine hQ.put (fun a ha => ⟨f13 a ha, f11 a ha⟩) ⟨?_, ?_, i, by omega, hbi⟩
            · rw [f13c, nI_toInt (by omega)]; omega
            · rw [f13c, nI_toInt (by omega)]; omega
          · by_cases q : h = i
            · subst q; exact ⟨cc, by omega, hbi⟩
            · obtain ⟨a, a1, a2⟩ := hC h (by omega) he
              exact ⟨a, by omega, by rw [f11 a a1]; exact a2⟩
        · rw [if_neg hq] at hfs
          unfold D_X8_laysApplicants_78
          rw [nI_1]
          refine ih (i + 1) M (by omega) (by omega) k (by rw [hfs]; exact h33) (by rw [hfs]; exact hQ) (fun h hh he => ?_)
          have : h ≠ i := fun q => by subst q; exact hq he
          rw [hfs]
          exact hC h (by omega) he
  unfold D_X8_laysApplicants
  refine vLm (W := WA P) (fun x j h => zu_ne (by unfold WA at h; omega)) (fun M1 f1 k1 => ?_)
  exact L7 zFu 0 M1 (by omega) (by unfold zFu; omega) k1 (by rw [← f1, zu_eq]; rfl) (fun a ha => absurd ha (Nat.not_lt_zero a)) (fun h hh => absurd hh (Nat.not_lt_zero h))
