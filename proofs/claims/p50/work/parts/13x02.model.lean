def WM_X8_goesOn (P : Nat) (a j : Nat) : Prop := (P + 18 ≤ a ∧ a < P + 23) ∨ (P + 29 ≤ a ∧ a < P + 30) ∨ (a = P ∧ (j = 54 ∨ j = 55 ∨ j = 56 ∨ j = 57))
def WN_X8_goesOn (P : Nat) (a j : Nat) : Prop := (P + 24 ≤ a ∧ a < P + 29) ∨ (a = P ∧ (j = 59))
def jOn (P : Nat) (m : Int) (M : zMt) (n : Nat) : Prop := ∀ a : Nat, a < n → 0 ≤ (M (P + 18) a).toInt ∧ (M (P + 18) a).toInt < m
theorem h_X8_goesOn {P : Nat} {M0 : zMt} {N0 : zNt} {m : Nat} (p_jB : jB P M0) (p_jS : jS P M0) (p_jL : jL P M0) (hm : (M0 P 33).toInt = m) (h7 : m ≤ 7) : ∀ (w n : Nat) (v1 : Int32) (v2 : Int64) (M : zMt) (N : zNt), n ≤ m → m - n < w → (∀ a j, ¬ WM_X8_goesOn P a j → M a j = M0 a j) → (∀ a j, ¬ WN_X8_goesOn P a j → N a j = N0 a j) → jR P M → jOn P m M n → ∃ r, D_X8_goesOn P w (nI n) v1 v2 M N = some r ∧ ((∀ a j, ¬ WM_X8_goesOn P a j → r.1 a j = M0 a j) ∧ (∀ a j, ¬ WN_X8_goesOn P a j → r.2 a j = N0 a j) ∧ jR P r.1 ∧ jOn P m r.1 n) := by
  intro w
  induction w with
  | zero => intro n v1 v2 M N h1 h2; omega
  | succ w ihw =>
    intro n v1 v2 M N hn hw k kn hR hO
    have e33 : M P 33 = M0 P 33 := k P 33 (by unfold WM_X8_goesOn; omega)
    have hT : ∀ a, a < m → 1 ≤ (M0 (P + 17) a).toInt ∧ (M0 (P + 17) a).toInt ≤ 401 := fun a ha => by
      have := p_jL a (by omega)
      exact ⟨this.2.2.2.2.1, this.2.2.2.2.2⟩
    rw [D_X8_goesOn, e33]
    have hnt : (nI n).toInt = n := nI_toInt (by omega)
    refine vIf (fun hc => ?_) (fun hc => ?_)
    · have hnm : n = m := by
        have := congrArg Int32.toInt hc
        omega
      subst hnm
      have hB := p_jB.mono (fun a j h => k a j (by unfold WM_X8_goesOn; omega))
      have hS := p_jS.mono (fun a j h => k a j (by unfold WM_X8_goesOn; omega))
      have hL := p_jL.mono (fun a j h => k a j (by unfold WM_X8_goesOn; omega))
      have hOO : jO P M := fun a ha => by rw [e33, hm] at ha ⊢; exact hO a (by omega)
      refine vB (v_X8_results hB hS hL hOO hR) (fun e1 f1 q1 => ?_)
      have hB1 := hB.mono (M' := e1) (fun a j h => q1.1 a j (by unfold WM_X8_results; omega))
      have hS1 := hS.mono (M' := e1) (fun a j h => q1.1 a j (by unfold WM_X8_results; omega))
      have hL1 := hL.mono (M' := e1) (fun a j h => q1.1 a j (by unfold WM_X8_results; omega))
      refine vB (v_X8_adds hB1 hS1 hL1 q1.2 (by rw [q1.1 P 33 (by unfold WM_X8_results; omega), e33]; omega)) (fun e2 f2 q2 => ?_)
      refine ⟨_, rfl, fun a j h => (q2.1 a j (by unfold WM_X8_adds; unfold WM_X8_goesOn at h; omega)).trans ((q1.1 a j (by unfold WM_X8_results; unfold WM_X8_goesOn at h; omega)).trans (k a j h)), fun a j h => (q2.2 a j (by unfold WN_X8_adds; unfold WN_X8_goesOn at h; omega)).trans (kn a j h), ?_, ?_⟩
      · exact q1.2.mono (fun a j h => q2.1 a j (by unfold WM_X8_adds; omega))
      · intro a ha
        show 0 ≤ (e2.1 (P + 18) a).toInt ∧ (e2.1 (P + 18) a).toInt < _
        rw [q2.1 (P + 18) a (by unfold WM_X8_adds; omega), q1.1 (P + 18) a (by unfold WM_X8_results; omega)]
        exact hO a ha
    · have hnm : n < m := by
        have : n ≠ m := fun q => hc (Int32.toInt_inj.mp (by rw [hnt, hm, q]))
        omega
      have hSle := St_le (t := M0 (P + 17)) (b := v1) m hT
      have L69 : ∀ (u x : Nat) (sum : Int64) (M : zMt) (N : zNt), x ≤ m → m - x < u → sum.toInt = St (M0 (P + 17)) v1 m → (∀ a j, ¬ WM_X8_goesOn P a j → M a j = M0 a j) → (∀ a j, ¬ WN_X8_goesOn P a j → N a j = N0 a j) → jR P M → jOn P m M n → ∃ r, D_X8_goesOn_69 P (D_X8_goesOn P w) u (nI n) v1 v2 sum (nI x) M N = some r ∧ ((∀ a j, ¬ WM_X8_goesOn P a j → r.1 a j = M0 a j) ∧ (∀ a j, ¬ WN_X8_goesOn P a j → r.2 a j = N0 a j) ∧ jR P r.1 ∧ jOn P m r.1 n) := by
        intro u
        induction u with
        | zero => intro x sum M N h1 h2; omega
        | succ u ih =>
          intro x sum M N hx hu hsum k kn hR hO
          have e33 : M P 33 = M0 P 33 := k P 33 (by unfold WM_X8_goesOn; omega)
          have hxt : (nI x).toInt = x := nI_toInt (by omega)
          rw [D_X8_goesOn_69, e33]
          refine vIf (fun hc2 => ⟨_, rfl, k, kn, hR, hO⟩) (fun hc2 => ?_)
          have hlt := Int32.lt_iff_toInt_lt.mp (Int32.not_le.mp hc2)
          rw [hxt, hm] at hlt
          refine vB v_X8_has (fun e1 f1 q1 => ?_)
          refine vIf (fun h0 => ?_) (fun h0 => ?_)
          · have hb0 : ¬ ((v1 >>> (nI x &&& 31)) &&& 1) = 1 := by
              rcases q1.2 with ⟨q, _⟩ | ⟨_, q⟩
              · rw [q] at h0; exact absurd h0 (by decide)
              · exact q
            have cn' : (nI n).toNatClampNeg = n := nI_clamp (by omega)
            have cx : (nI x).toNatClampNeg = x := nI_clamp (by omega)
            have hTx := hT x (by omega)
            have hS1 := St_mono (t := M0 (P + 17)) (b := v1) (m := m) (fun a ha => (hT a ha).1) (x + 1) (by omega)
            have hS2 := St_le (t := M0 (P + 17)) (b := v1) x (fun a ha => hT a (by omega))
            have hS3 : St (M0 (P + 17)) v1 (x + 1) = St (M0 (P + 17)) v1 x + (M0 (P + 17) x).toInt := by
              show St (M0 (P + 17)) v1 x + _ = _
              rw [if_neg hb0]
            refine vI (vp_in_nI (by omega) (by decide)) ?_
            rw [cn']
            refine vLm (W := WM_X8_goesOn P) (fun a j h => (zu_ne (by unfold WM_X8_goesOn at h; omega)).trans (k a j h)) (fun M2 f2 k2 => ?_)
            refine vI (vp_in_nI (by omega) (by decide)) ?_
            refine vZl (fun q => by rw [q, show (0 : Int64).toInt = 0 by decide] at hsum; omega) ?_
            rw [nI_1]
            have hR2 : jR P M2 := hR.mono (fun a j h => by rw [← f2, zu_ne (by omega)])
            have hO2 : jOn P m M2 (n + 1) := fun a ha => by
              by_cases q : a = n
              · subst q
                rw [← f2, zu_eq, hxt]
                omega
              · rw [← f2, zu_ne (by omega)]
                exact hO a (by omega)
            refine vB (ihw (n + 1) _ _ M2 N (by omega) (by omega) k2 kn hR2 hO2) (fun e2 fe2 q2 => ?_)
            unfold D_X8_goesOn_124
            rw [nI_1]
            exact ih (x + 1) sum e2.1 e2.2 (by omega) (by omega) hsum q2.1 q2.2.1 q2.2.2.1 (fun a ha => q2.2.2.2 a (by omega))
          · unfold D_X8_goesOn_124
            rw [nI_1]
            exact ih (x + 1) sum M N (by omega) (by omega) hsum k kn hR hO
      have L25 : ∀ (u x : Nat) (sum : Int64), x ≤ m → m - x < u → sum.toInt = St (M0 (P + 17)) v1 x → ∃ r, D_X8_goesOn_25 P (D_X8_goesOn P w) u (nI n) v1 v2 sum (nI x) M N = some r ∧ ((∀ a j, ¬ WM_X8_goesOn P a j → r.1 a j = M0 a j) ∧ (∀ a j, ¬ WN_X8_goesOn P a j → r.2 a j = N0 a j) ∧ jR P r.1 ∧ jOn P m r.1 n) := by
        intro u
        induction u with
        | zero => intro x sum h1 h2; omega
        | succ u ih =>
          intro x sum hx hu hsum
          have hxt : (nI x).toInt = x := nI_toInt (by omega)
          rw [D_X8_goesOn_25, e33]
          refine vIf (fun hc2 => ?_) (fun hc2 => ?_)
          · have hge := Int32.le_iff_toInt_le.mp hc2
            rw [hxt, hm] at hge
            have hxm : x = m := by omega
            subst hxm
            exact L69 zFu 0 sum M N (by omega) (by unfold zFu; omega) hsum k kn hR hO
          · have hlt := Int32.lt_iff_toInt_lt.mp (Int32.not_le.mp hc2)
            rw [hxt, hm] at hlt
            have hTx := hT x (by omega)
            have hSx := St_le (t := M0 (P + 17)) (b := v1) x (fun a ha => hT a (by omega))
            refine vB v_X8_has (fun e2 fe2 qe2 => ?_)
            refine vIf (fun h0 => ?_) (fun h0 => ?_)
            · have hb0 : ¬ ((v1 >>> (nI x &&& 31)) &&& 1) = 1 := by
                rcases qe2.2 with ⟨q, _⟩ | ⟨_, q⟩
                · rw [q] at h0; exact absurd h0 (by decide)
                · exact q
              refine vI (vp_in_nI (by omega) (by decide)) ?_
              rw [nI_clamp (n := x) (by omega), k (P + 17) x (by unfold WM_X8_goesOn; omega)]
              unfold D_X8_goesOn_57
              rw [nI_1]
              refine ih (x + 1) _ (by omega) (by omega) ?_
              show _ = St (M0 (P + 17)) v1 x + _
              rw [if_neg hb0, Int64.toInt_add, Int32.toInt_toInt64, hsum, Int.bmod_def]
              omega
            · have hb1 : ((v1 >>> (nI x &&& 31)) &&& 1) = 1 := by
                rcases qe2.2 with ⟨_, q⟩ | ⟨q, _⟩
                · exact q
                · exact absurd q h0
              unfold D_X8_goesOn_57
              rw [nI_1, Int64.add_zero]
              refine ih (x + 1) _ (by omega) (by omega) ?_
              show _ = St (M0 (P + 17)) v1 x + _
              rw [if_pos hb1, hsum]
              omega
      exact L25 zFu 0 0 (by omega) (by unfold zFu; omega) (by rw [show (0 : Int64).toInt = 0 by decide]; rfl)
theorem v_X8_goesOn {P : Nat} {v0 v1 : Int32} {v2 : Int64} {M0 : zMt} {N0 : zNt} (p_jB : jB P M0) (p_jS : jS P M0) (p_jL : jL P M0) (p_jR : jR P M0) (i_4 : 0 ≤ Int32.toInt v0) (i_5 : v0 = 0) (i_6 : Int32.toInt (M0 P 33) ≤ 7) : ∃ r, D_X8_goesOn P zRec v0 v1 v2 M0 N0 = some r ∧ ((∀ a j, ¬ WM_X8_goesOn P a j → r.1 a j = M0 a j) ∧ (∀ a j, ¬ WN_X8_goesOn P a j → r.2 a j = N0 a j) ∧ (jR P r.1)) := by
  obtain ⟨b1, b2, b3, b4, b5, b6⟩ := id p_jB
  subst i_5
  obtain ⟨r, h1, h2, h3, h4, _⟩ := h_X8_goesOn (m := (M0 P 33).toInt.toNat) p_jB p_jS p_jL (by omega) (by omega) zRec 0 v1 v2 M0 N0 (by omega) (by unfold zRec; omega) (fun _ _ _ => rfl) (fun _ _ _ => rfl) p_jR (fun a ha => absurd ha (Nat.not_lt_zero a))
  exact ⟨r, h1, h2, h3, h4⟩
def WM_X8_allOrders (P : Nat) (a j : Nat) : Prop := (P + 18 ≤ a ∧ a < P + 23) ∨ (P + 29 ≤ a ∧ a < P + 30) ∨ (a = P ∧ (j = 54 ∨ j = 55 ∨ j = 56 ∨ j = 57))
def WN_X8_allOrders (P : Nat) (a j : Nat) : Prop := (P + 24 ≤ a ∧ a < P + 29) ∨ (a = P ∧ (j = 59))
theorem wq_X8_allOrders_N0_59 {P a j : Nat} (h : ¬ WN_X8_allOrders P a j) : ¬ (a = P ∧ j = 59) := by unfold WN_X8_allOrders at h; omega
theorem wq_X8_allOrders_M0_54 {P a j : Nat} (h : ¬ WM_X8_allOrders P a j) : ¬ (a = P ∧ j = 54) := by unfold WM_X8_allOrders at h; omega
theorem wq_X8_allOrders_M0_55 {P a j : Nat} (h : ¬ WM_X8_allOrders P a j) : ¬ (a = P ∧ j = 55) := by unfold WM_X8_allOrders at h; omega
theorem wq_X8_allOrders_M0_56 {P a j : Nat} (h : ¬ WM_X8_allOrders P a j) : ¬ (a = P ∧ j = 56) := by unfold WM_X8_allOrders at h; omega
theorem wq_X8_allOrders_M0_57 {P a j : Nat} (h : ¬ WM_X8_allOrders P a j) : ¬ (a = P ∧ j = 57) := by unfold WM_X8_allOrders at h; omega
theorem wz_M_X8_goesOn_X8_allOrders {P a j : Nat} (h : ¬ WM_X8_allOrders P a j) : ¬ WM_X8_goesOn P a j := by unfold WM_X8_goesOn; unfold WM_X8_allOrders at h; omega
theorem wz_N_X8_goesOn_X8_allOrders {P a j : Nat} (h : ¬ WN_X8_allOrders P a j) : ¬ WN_X8_goesOn P a j := by unfold WN_X8_goesOn; unfold WN_X8_allOrders at h; omega
theorem wc_X8_goesOn_7 {P : Nat} : ¬ WM_X8_goesOn P P 7 := by unfold WM_X8_goesOn; omega
theorem wc_X8_goesOn_8 {P : Nat} : ¬ WM_X8_goesOn P P 8 := by unfold WM_X8_goesOn; omega
theorem wc_X8_goesOn_33 {P : Nat} : ¬ WM_X8_goesOn P P 33 := by unfold WM_X8_goesOn; omega
theorem wf_nA_X8_goesOn {P a j : Nat} (h : (a = P + 1 ∨ (a = P ∧ j = 8))) : ¬ WM_X8_goesOn P a j := by unfold WM_X8_goesOn; omega
theorem wf_jB_X8_goesOn {P a j : Nat} (h : (a = P ∧ (j = 7 ∨ j = 8 ∨ j = 33))) : ¬ WM_X8_goesOn P a j := by unfold WM_X8_goesOn; omega
theorem wf_jL_X8_goesOn {P a j : Nat} (h : ((a = P ∧ j = 33) ∨ a = P + 13 ∨ a = P + 14 ∨ a = P + 17)) : ¬ WM_X8_goesOn P a j := by unfold WM_X8_goesOn; omega
theorem wf_jS_X8_goesOn {P a j : Nat} (h : (a = P + 1 ∨ (a = P ∧ (j = 7 ∨ j = 8)))) : ¬ WM_X8_goesOn P a j := by unfold WM_X8_goesOn; omega
theorem wq_X8_allOrders_M29_r {P a j : Nat} (h : ¬ WM_X8_allOrders P a j) : ¬ a = P + 29 := by unfold WM_X8_allOrders at h; omega
theorem wq_X8_allOrders_N28_r {P a j : Nat} (h : ¬ WN_X8_allOrders P a j) : ¬ a = P + 28 := by unfold WN_X8_allOrders at h; omega
theorem wq_X8_allOrders_N25_r {P a j : Nat} (h : ¬ WN_X8_allOrders P a j) : ¬ a = P + 25 := by unfold WN_X8_allOrders at h; omega
theorem wq_X8_allOrders_N26_r {P a j : Nat} (h : ¬ WN_X8_allOrders P a j) : ¬ a = P + 26 := by unfold WN_X8_allOrders at h; omega
theorem wq_X8_allOrders_N27_r {P a j : Nat} (h : ¬ WN_X8_allOrders P a j) : ¬ a = P + 27 := by unfold WN_X8_allOrders at h; omega
theorem wq_X8_allOrders_N24_r {P a j : Nat} (h : ¬ WN_X8_allOrders P a j) : ¬ a = P + 24 := by unfold WN_X8_allOrders at h; omega
set_option maxRecDepth 100000 in
set_option maxHeartbeats 4000000 in
theorem v_X8_allOrders {P : Nat}  {M0 : zMt} {N0 : zNt}  (p_jB : jB P M0) (p_jS : jS P M0) (p_jL : jL P M0) (p_jR : jR P M0) (i_4 : Int32.toInt (M0 P 33) ≤ 7) : ∃ r, D_X8_allOrders P M0 N0 = some r ∧ ((∀ a j, ¬ WM_X8_allOrders P a j → r.1 a j = M0 a j) ∧ (∀ a j, ¬ WN_X8_allOrders P a j → r.2 a j = N0 a j) ∧ ((jR P r.1))) := by
  obtain ⟨u0_jB, u1_jB, u2_jB, u3_jB, u4_jB, u5_jB⟩ := id p_jB
  obtain ⟨u0_jS, u1_jS, u2_jS, u3_jS, u4_jS, u5_jS, u6_jS, u7_jS⟩ := jS.ints p_jS
  have TL_92 : ∀ u : Nat, ∀ (x1_92 : Int32) (M_92 : zMt) (N_92 : zNt), (∀ a j, ¬ WM_X8_allOrders P a j → M_92 a j = M0 a j) → (∀ a j, ¬ WN_X8_allOrders P a j → N_92 a j = N0 a j) → (jB P M_92) → (jL P M_92) → (jR P M_92) → (jS P M_92) → (0 ≤ Int32.toInt x1_92) → (Int32.toInt x1_92 ≤ 128) → (Int32.toInt (M_92 P 33) ≤ 7) → (2147483648 - Int32.toInt x1_92).toNat < u → ∃ r, D_X8_allOrders_92 P u x1_92 M_92 N_92 = some r ∧ ((∀ a j, ¬ WM_X8_allOrders P a j → r.1 a j = M0 a j) ∧ (∀ a j, ¬ WN_X8_allOrders P a j → r.2 a j = N0 a j) ∧ ((jR P r.1))) := by
    intro u
    induction u with
    | zero => intro x1_92 M_92 N_92 k_92 kn_92 p_jB_92 p_jL_92 p_jR_92 p_jS_92 f0_92 f1_92 f2_92 hm_92; exact absurd hm_92 (Nat.not_lt_zero _)
    | succ u_92 ih_92 =>
      intro x1_92 M_92 N_92 k_92 kn_92 p_jB_92 p_jL_92 p_jR_92 p_jS_92 f0_92 f1_92 f2_92 hm_92
      obtain ⟨u0_jB_92, u1_jB_92, u2_jB_92, u3_jB_92, u4_jB_92, u5_jB_92⟩ := id p_jB_92
      obtain ⟨u0_jS_92, u1_jS_92, u2_jS_92, u3_jS_92, u4_jS_92, u5_jS_92, u6_jS_92, u7_jS_92⟩ := jS.ints p_jS_92
      rw [D_X8_allOrders_92]
      refine vIf (fun h_96 => ?_) (fun h_96 => ?_)
      · have i_96 := Int32.le_iff_toInt_le.mp h_96
        (try simp only [Int32.toInt_add, Int32.toInt_sub, Int32.toInt_mul, Int32.toInt_toInt64, Int64.toInt_add, z_m1, Int32.reduceToInt, Int64.reduceToInt, Int32.reduceToNatClampNeg, Int.bmod_def] at i_96)
        refine vLn (W := WN_X8_allOrders P) (fun a j h => (zu_ne (wq_X8_allOrders_N0_59 h)).trans (kn_92 a j h)) (fun N_114 f_114 kn_114 => ?_)
        refine vLm (W := WM_X8_allOrders P) (fun a j h => (zu_ne (wq_X8_allOrders_M0_54 h)).trans (k_92 a j h)) (fun M_126 f_126 k_126 => ?_)
        have c7_126 : Int32.toInt (M_126 P 7) = Int32.toInt (M_92 P 7) := congrArg Int32.toInt ((congrFun (congrFun f_126.symm P) 7).trans (zu_ne (fun z => absurd z.2 (by decide))))
        have c8_126 : Int32.toInt (M_126 P 8) = Int32.toInt (M_92 P 8) := congrArg Int32.toInt ((congrFun (congrFun f_126.symm P) 8).trans (zu_ne (fun z => absurd z.2 (by decide))))
        have c33_126 : Int32.toInt (M_126 P 33) = Int32.toInt (M_92 P 33) := congrArg Int32.toInt ((congrFun (congrFun f_126.symm P) 33).trans (zu_ne (fun z => absurd z.2 (by decide))))
        have n_126 : nA P M_126 = nA P M_92 := nA_congr (fun a j h => (congrFun (congrFun f_126.symm a) j).trans (zu_ne (wf_nA_M0_54 h)))
        have p_jB_126 : jB P M_126 := jB.mono p_jB_92 (fun a j h => (congrFun (congrFun f_126.symm a) j).trans (zu_ne (wf_jB_M0_54 h)))
        obtain ⟨u0_jB_126, u1_jB_126, u2_jB_126, u3_jB_126, u4_jB_126, u5_jB_126⟩ := id p_jB_126
        have p_jL_126 : jL P M_126 := jL.mono p_jL_92 (fun a j h => (congrFun (congrFun f_126.symm a) j).trans (zu_ne (wf_jL_M0_54 h)))
        have p_jR_126 : jR P M_126 := jR.mono p_jR_92 (fun a j h => (congrFun (congrFun f_126.symm a) j).trans (zu_ne (wf_jR_M0_54 h)))
        have p_jS_126 : jS P M_126 := jS.mono p_jS_92 (fun a j h => (congrFun (congrFun f_126.symm a) j).trans (zu_ne (wf_jS_M0_54 h)))
        obtain ⟨u0_jS_126, u1_jS_126, u2_jS_126, u3_jS_126, u4_jS_126, u5_jS_126, u6_jS_126, u7_jS_126⟩ := jS.ints p_jS_126
        refine vLm (W := WM_X8_allOrders P) (fun a j h => (zu_ne (wq_X8_allOrders_M0_55 h)).trans (k_126 a j h)) (fun M_131 f_131 k_131 => ?_)
        have c7_131 : Int32.toInt (M_131 P 7) = Int32.toInt (M_126 P 7) := congrArg Int32.toInt ((congrFun (congrFun f_131.symm P) 7).trans (zu_ne (fun z => absurd z.2 (by decide))))
        have c8_131 : Int32.toInt (M_131 P 8) = Int32.toInt (M_126 P 8) := congrArg Int32.toInt ((congrFun (congrFun f_131.symm P) 8).trans (zu_ne (fun z => absurd z.2 (by decide))))
        have c33_131 : Int32.toInt (M_131 P 33) = Int32.toInt (M_126 P 33) := congrArg Int32.toInt ((congrFun (congrFun f_131.symm P) 33).trans (zu_ne (fun z => absurd z.2 (by decide))))
        have n_131 : nA P M_131 = nA P M_126 := nA_congr (fun a j h => (congrFun (congrFun f_131.symm a) j).trans (zu_ne (wf_nA_M0_55 h)))
        have p_jB_131 : jB P M_131 := jB.mono p_jB_126 (fun a j h => (congrFun (congrFun f_131.symm a) j).trans (zu_ne (wf_jB_M0_55 h)))
        obtain ⟨u0_jB_131, u1_jB_131, u2_jB_131, u3_jB_131, u4_jB_131, u5_jB_131⟩ := id p_jB_131
        have p_jL_131 : jL P M_131 := jL.mono p_jL_126 (fun a j h => (congrFun (congrFun f_131.symm a) j).trans (zu_ne (wf_jL_M0_55 h)))
        have p_jR_131 : jR P M_131 := jR.mono p_jR_126 (fun a j h => (congrFun (congrFun f_131.symm a) j).trans (zu_ne (wf_jR_M0_55 h)))
        have p_jS_131 : jS P M_131 := jS.mono p_jS_126 (fun a j h => (congrFun (congrFun f_131.symm a) j).trans (zu_ne (wf_jS_M0_55 h)))
        obtain ⟨u0_jS_131, u1_jS_131, u2_jS_131, u3_jS_131, u4_jS_131, u5_jS_131, u6_jS_131, u7_jS_131⟩ := jS.ints p_jS_131
        refine vLm (W := WM_X8_allOrders P) (fun a j h => (zu_ne (wq_X8_allOrders_M0_56 h)).trans (k_131 a j h)) (fun M_138 f_138 k_138 => ?_)
        have c7_138 : Int32.toInt (M_138 P 7) = Int32.toInt (M_131 P 7) := congrArg Int32.toInt ((congrFun (congrFun f_138.symm P) 7).trans (zu_ne (fun z => absurd z.2 (by decide))))
        have c8_138 : Int32.toInt (M_138 P 8) = Int32.toInt (M_131 P 8) := congrArg Int32.toInt ((congrFun (congrFun f_138.symm P) 8).trans (zu_ne (fun z => absurd z.2 (by decide))))
        have c33_138 : Int32.toInt (M_138 P 33) = Int32.toInt (M_131 P 33) := congrArg Int32.toInt ((congrFun (congrFun f_138.symm P) 33).trans (zu_ne (fun z => absurd z.2 (by decide))))
        have n_138 : nA P M_138 = nA P M_131 := nA_congr (fun a j h => (congrFun (congrFun f_138.symm a) j).trans (zu_ne (wf_nA_M0_56 h)))
        have p_jB_138 : jB P M_138 := jB.mono p_jB_131 (fun a j h => (congrFun (congrFun f_138.symm a) j).trans (zu_ne (wf_jB_M0_56 h)))
        obtain ⟨u0_jB_138, u1_jB_138, u2_jB_138, u3_jB_138, u4_jB_138, u5_jB_138⟩ := id p_jB_138
        have p_jL_138 : jL P M_138 := jL.mono p_jL_131 (fun a j h => (congrFun (congrFun f_138.symm a) j).trans (zu_ne (wf_jL_M0_56 h)))
        have p_jR_138 : jR P M_138 := jR.mono p_jR_131 (fun a j h => (congrFun (congrFun f_138.symm a) j).trans (zu_ne (wf_jR_M0_56 h)))
        have p_jS_138 : jS P M_138 := jS.mono p_jS_131 (fun a j h => (congrFun (congrFun f_138.symm a) j).trans (zu_ne (wf_jS_M0_56 h)))
        obtain ⟨u0_jS_138, u1_jS_138, u2_jS_138, u3_jS_138, u4_jS_138, u5_jS_138, u6_jS_138, u7_jS_138⟩ := jS.ints p_jS_138
        refine vLm (W := WM_X8_allOrders P) (fun a j h => (zu_ne (wq_X8_allOrders_M0_57 h)).trans (k_138 a j h)) (fun M_143 f_143 k_143 => ?_)
        have c7_143 : Int32.toInt (M_143 P 7) = Int32.toInt (M_138 P 7) := congrArg Int32.toInt ((congrFun (congrFun f_143.symm P) 7).trans (zu_ne (fun z => absurd z.2 (by decide))))
        have c8_143 : Int32.toInt (M_143 P 8) = Int32.toInt (M_138 P 8) := congrArg Int32.toInt ((congrFun (congrFun f_143.symm P) 8).trans (zu_ne (fun z => absurd z.2 (by decide))))
        have c33_143 : Int32.toInt (M_143 P 33) = Int32.toInt (M_138 P 33) := congrArg Int32.toInt ((congrFun (congrFun f_143.symm P) 33).trans (zu_ne (fun z => absurd z.2 (by decide))))
        have n_143 : nA P M_143 = nA P M_138 := nA_congr (fun a j h => (congrFun (congrFun f_143.symm a) j).trans (zu_ne (wf_nA_M0_57 h)))
        have p_jB_143 : jB P M_143 := jB.mono p_jB_138 (fun a j h => (congrFun (congrFun f_143.symm a) j).trans (zu_ne (wf_jB_M0_57 h)))
        obtain ⟨u0_jB_143, u1_jB_143, u2_jB_143, u3_jB_143, u4_jB_143, u5_jB_143⟩ := id p_jB_143
        have p_jL_143 : jL P M_143 := jL.mono p_jL_138 (fun a j h => (congrFun (congrFun f_143.symm a) j).trans (zu_ne (wf_jL_M0_57 h)))
        have p_jR_143 : jR P M_143 := jR.mono p_jR_138 (fun a j h => (congrFun (congrFun f_143.symm a) j).trans (zu_ne (wf_jR_M0_57 h)))
        have p_jS_143 : jS P M_143 := jS.mono p_jS_138 (fun a j h => (congrFun (congrFun f_143.symm a) j).trans (zu_ne (wf_jS_M0_57 h)))
        obtain ⟨u0_jS_143, u1_jS_143, u2_jS_143, u3_jS_143, u4_jS_143, u5_jS_143, u6_jS_143, u7_jS_143⟩ := jS.ints p_jS_143
        refine vB (v_X8_goesOn p_jB_143 p_jS_143 p_jL_143 p_jR_143 (by first | omega | (simp only [Int32.toInt_add, Int32.toInt_sub, Int32.toInt_mul, Int32.toInt_toInt64, Int64.toInt_add, z_m1, Int32.reduceToInt, Int64.reduceToInt, Int32.reduceToNatClampNeg, Int.bmod_def, or_true, true_or, and_true, true_and] <;> omega)) (by first | rfl | assumption) (by first | omega | (simp only [Int32.toInt_add, Int32.toInt_sub, Int32.toInt_mul, Int32.toInt_toInt64, Int64.toInt_add, z_m1, Int32.reduceToInt, Int64.reduceToInt, Int32.reduceToNatClampNeg, Int.bmod_def, or_true, true_or, and_true, true_and] <;> omega))) (fun e_152 f_152 q_152 => ?_)
        have k_152 : ∀ a j, ¬ WM_X8_allOrders P a j → e_152.1 a j = M0 a j := fun a j h => (q_152.1 a j (wz_M_X8_goesOn_X8_allOrders h)).trans (k_143 a j h)
        have kn_152 : ∀ a j, ¬ WN_X8_allOrders P a j → e_152.2 a j = N0 a j := fun a j h => (q_152.2.1 a j (wz_N_X8_goesOn_X8_allOrders h)).trans (kn_114 a j h)
        have c7_152 : Int32.toInt (e_152.1 P 7) = Int32.toInt (M_143 P 7) := congrArg Int32.toInt (q_152.1 P 7 (wc_X8_goesOn_7))
        have c8_152 : Int32.toInt (e_152.1 P 8) = Int32.toInt (M_143 P 8) := congrArg Int32.toInt (q_152.1 P 8 (wc_X8_goesOn_8))
        have c33_152 : Int32.toInt (e_152.1 P 33) = Int32.toInt (M_143 P 33) := congrArg Int32.toInt (q_152.1 P 33 (wc_X8_goesOn_33))
        have n_152 : nA P e_152.1 = nA P M_143 := nA_congr (fun a j h => q_152.1 a j (wf_nA_X8_goesOn h))
        have p_jB_152 : jB P e_152.1 := jB.mono p_jB_143 (fun a j h => q_152.1 a j (wf_jB_X8_goesOn h))
        obtain ⟨u0_jB_152, u1_jB_152, u2_jB_152, u3_jB_152, u4_jB_152, u5_jB_152⟩ := id p_jB_152
        have p_jL_152 : jL P e_152.1 := jL.mono p_jL_143 (fun a j h => q_152.1 a j (wf_jL_X8_goesOn h))
        have p_jS_152 : jS P e_152.1 := jS.mono p_jS_143 (fun a j h => q_152.1 a j (wf_jS_X8_goesOn h))
        obtain ⟨u0_jS_152, u1_jS_152, u2_jS_152, u3_jS_152, u4_jS_152, u5_jS_152, u6_jS_152, u7_jS_152⟩ := jS.ints p_jS_152
        have x0_152 := q_152.2.2
        exact ⟨_, rfl, k_152, kn_152, x0_152⟩
      · have i_96 := Int32.lt_iff_toInt_lt.mp (Int32.not_le.mp h_96)
        (try simp only [Int32.toInt_add, Int32.toInt_sub, Int32.toInt_mul, Int32.toInt_toInt64, Int64.toInt_add, z_m1, Int32.reduceToInt, Int64.reduceToInt, Int32.reduceToNatClampNeg, Int.bmod_def] at i_96)
        refine vI (vp_of (by first | omega | (simp only [Int32.toInt_add, Int32.toInt_sub, Int32.toInt_mul, Int32.toInt_toInt64, Int64.toInt_add, z_m1, Int32.reduceToInt, Int64.reduceToInt, Int32.reduceToNatClampNeg, Int.bmod_def, or_true, true_or, and_true, true_and] <;> omega)) (by first | omega | (simp only [Int32.toInt_add, Int32.toInt_sub, Int32.toInt_mul, Int32.toInt_toInt64, Int64.toInt_add, z_m1, Int32.reduceToInt, Int64.reduceToInt, Int32.reduceToNatClampNeg, Int.bmod_def, or_true, true_or, and_true, true_and] <;> omega))) ?_
        refine vLm (W := WM_X8_allOrders P) (fun a j h => (zu_ne (fun z => wq_X8_allOrders_M29_r h z.1)).trans (k_92 a j h)) (fun M_105 f_105 k_105 => ?_)
        have c7_105 : Int32.toInt (M_105 P 7) = Int32.toInt (M_92 P 7) := congrArg Int32.toInt ((congrFun (congrFun f_105.symm P) 7).trans (zu_ne (fun z => wq_pne0 (by decide) z.1)))
        have c8_105 : Int32.toInt (M_105 P 8) = Int32.toInt (M_92 P 8) := congrArg Int32.toInt ((congrFun (congrFun f_105.symm P) 8).trans (zu_ne (fun z => wq_pne0 (by decide) z.1)))
        have c33_105 : Int32.toInt (M_105 P 33) = Int32.toInt (M_92 P 33) := congrArg Int32.toInt ((congrFun (congrFun f_105.symm P) 33).trans (zu_ne (fun z => wq_pne0 (by decide) z.1)))
        have n_105 : nA P M_105 = nA P M_92 := nA_congr (fun a j h => (congrFun (congrFun f_105.symm a) j).trans (zu_ne (fun z => wf_nA_M29_r h z.1)))
        have p_jB_105 : jB P M_105 := jB.mono p_jB_92 (fun a j h => (congrFun (congrFun f_105.symm a) j).trans (zu_ne (fun z => wf_jB_M29_r h z.1)))
        obtain ⟨u0_jB_105, u1_jB_105, u2_jB_105, u3_jB_105, u4_jB_105, u5_jB_105⟩ := id p_jB_105
        have p_jL_105 : jL P M_105 := jL.mono p_jL_92 (fun a j h => (congrFun (congrFun f_105.symm a) j).trans (zu_ne (fun z => wf_jL_M29_r h z.1)))
        have p_jR_105 : jR P M_105 := jR.mono p_jR_92 (fun a j h => (congrFun (congrFun f_105.symm a) j).trans (zu_ne (fun z => wf_jR_M29_r h z.1)))
        have p_jS_105 : jS P M_105 := jS.mono p_jS_92 (fun a j h => (congrFun (congrFun f_105.symm a) j).trans (zu_ne (fun z => wf_jS_M29_r h z.1)))
        obtain ⟨u0_jS_105, u1_jS_105, u2_jS_105, u3_jS_105, u4_jS_105, u5_jS_105, u6_jS_105, u7_jS_105⟩ := jS.ints p_jS_105
        exact ih_92 _ _ _ k_105 kn_92 p_jB_105 p_jL_105 p_jR_105 p_jS_105 (by first | omega | (simp only [Int32.toInt_add, Int32.toInt_sub, Int32.toInt_mul, Int32.toInt_toInt64, Int64.toInt_add, z_m1, Int32.reduceToInt, Int64.reduceToInt, Int32.reduceToNatClampNeg, Int.bmod_def, or_true, true_or, and_true, true_and] <;> omega)) (by first | omega | (simp only [Int32.toInt_add, Int32.toInt_sub, Int32.toInt_mul, Int32.toInt_toInt64, Int64.toInt_add, z_m1, Int32.reduceToInt, Int64.reduceToInt, Int32.reduceToNatClampNeg, Int.bmod_def, or_true, true_or, and_true, true_and] <;> omega)) (by first | omega | (simp only [Int32.toInt_add, Int32.toInt_sub, Int32.toInt_mul, Int32.toInt_toInt64, Int64.toInt_add, z_m1, Int32.reduceToInt, Int64.reduceToInt, Int32.reduceToNatClampNeg, Int.bmod_def, or_true, true_or, and_true, true_and] <;> omega)) (z_up1 (by first | assumption | exact z_lt (by assumption) | exact z_lt2 (by assumption) | exact z_lt3 (by assumption) (by first | assumption | decide)) hm_92)
  have T_92 : ∀ (x1_92 : Int32) (M_92 : zMt) (N_92 : zNt), (∀ a j, ¬ WM_X8_allOrders P a j → M_92 a j = M0 a j) → (∀ a j, ¬ WN_X8_allOrders P a j → N_92 a j = N0 a j) → (jB P M_92) → (jL P M_92) → (jR P M_92) → (jS P M_92) → (0 ≤ Int32.toInt x1_92) → (Int32.toInt x1_92 ≤ 128) → (Int32.toInt (M_92 P 33) ≤ 7) → ∃ r, D_X8_allOrders_92 P zFu x1_92 M_92 N_92 = some r ∧ ((∀ a j, ¬ WM_X8_allOrders P a j → r.1 a j = M0 a j) ∧ (∀ a j, ¬ WN_X8_allOrders P a j → r.2 a j = N0 a j) ∧ ((jR P r.1))) := fun x1_92 M_92 N_92 k_92 kn_92 p_jB_92 p_jL_92 p_jR_92 p_jS_92 f0_92 f1_92 f2_92 => TL_92 zFu x1_92 M_92 N_92 k_92 kn_92 p_jB_92 p_jL_92 p_jR_92 p_jS_92 f0_92 f1_92 f2_92 (zFu_up _)
  have TL_72 : ∀ u : Nat, ∀ (x1_72 : Int32) (M_72 : zMt) (N_72 : zNt), (∀ a j, ¬ WM_X8_allOrders P a j → M_72 a j = M0 a j) → (∀ a j, ¬ WN_X8_allOrders P a j → N_72 a j = N0 a j) → (jB P M_72) → (jL P M_72) → (jR P M_72) → (jS P M_72) → (0 ≤ Int32.toInt x1_72) → (Int32.toInt x1_72 ≤ 5) → (Int32.toInt (M_72 P 33) ≤ 7) → (2147483648 - Int32.toInt x1_72).toNat < u → ∃ r, D_X8_allOrders_72 P u x1_72 M_72 N_72 = some r ∧ ((∀ a j, ¬ WM_X8_allOrders P a j → r.1 a j = M0 a j) ∧ (∀ a j, ¬ WN_X8_allOrders P a j → r.2 a j = N0 a j) ∧ ((jR P r.1))) := by
    intro u
    induction u with
    | zero => intro x1_72 M_72 N_72 k_72 kn_72 p_jB_72 p_jL_72 p_jR_72 p_jS_72 f0_72 f1_72 f2_72 hm_72; exact absurd hm_72 (Nat.not_lt_zero _)
    | succ u_72 ih_72 =>
      intro x1_72 M_72 N_72 k_72 kn_72 p_jB_72 p_jL_72 p_jR_72 p_jS_72 f0_72 f1_72 f2_72 hm_72
      obtain ⟨u0_jB_72, u1_jB_72, u2_jB_72, u3_jB_72, u4_jB_72, u5_jB_72⟩ := id p_jB_72
      obtain ⟨u0_jS_72, u1_jS_72, u2_jS_72, u3_jS_72, u4_jS_72, u5_jS_72, u6_jS_72, u7_jS_72⟩ := jS.ints p_jS_72
      rw [D_X8_allOrders_72]
      refine vIf (fun h_74 => ?_) (fun h_74 => ?_)
      · have i_74 := Int32.le_iff_toInt_le.mp h_74
        (try simp only [Int32.toInt_add, Int32.toInt_sub, Int32.toInt_mul, Int32.toInt_toInt64, Int64.toInt_add, z_m1, Int32.reduceToInt, Int64.reduceToInt, Int32.reduceToNatClampNeg, Int.bmod_def] at i_74)
        exact T_92 _ _ _ k_72 kn_72 p_jB_72 p_jL_72 p_jR_72 p_jS_72 (by first | omega | (simp only [Int32.toInt_add, Int32.toInt_sub, Int32.toInt_mul, Int32.toInt_toInt64, Int64.toInt_add, z_m1, Int32.reduceToInt, Int64.reduceToInt, Int32.reduceToNatClampNeg, Int.bmod_def, or_true, true_or, and_true, true_and] <;> omega)) (by first | omega | (simp only [Int32.toInt_add, Int32.toInt_sub, Int32.toInt_mul, Int32.toInt_toInt64, Int64.toInt_add, z_m1, Int32.reduceToInt, Int64.reduceToInt, Int32.reduceToNatClampNeg, Int.bmod_def, or_true, true_or, and_true, true_and] <;> omega)) (by first | omega | (simp only [Int32.toInt_add, Int32.toInt_sub, Int32.toInt_mul, Int32.toInt_toInt64, Int64.toInt_add, z_m1, Int32.reduceToInt, Int64.reduceToInt, Int32.reduceToNatClampNeg, Int.bmod_def, or_true, true_or, and_true, true_and] <;> omega))
      · have i_74 := Int32.lt_iff_toInt_lt.mp (Int32.not_le.mp h_74)
        (try simp only [Int32.toInt_add, Int32.toInt_sub, Int32.toInt_mul, Int32.toInt_toInt64, Int64.toInt_add, z_m1, Int32.reduceToInt, Int64.reduceToInt, Int32.reduceToNatClampNeg, Int.bmod_def] at i_74)
        refine vI (vp_of (by first | omega | (simp only [Int32.toInt_add, Int32.toInt_sub, Int32.toInt_mul, Int32.toInt_toInt64, Int64.toInt_add, z_m1, Int32.reduceToInt, Int64.reduceToInt, Int32.reduceToNatClampNeg, Int.bmod_def, or_true, true_or, and_true, true_and] <;> omega)) (by first | omega | (simp only [Int32.toInt_add, Int32.toInt_sub, Int32.toInt_mul, Int32.toInt_toInt64, Int64.toInt_add, z_m1, Int32.reduceToInt, Int64.reduceToInt, Int32.reduceToNatClampNeg, Int.bmod_def, or_true, true_or, and_true, true_and] <;> omega))) ?_
        refine vLn (W := WN_X8_allOrders P) (fun a j h => (zu_ne (fun z => wq_X8_allOrders_N28_r h z.1)).trans (kn_72 a j h)) (fun N_83 f_83 kn_83 => ?_)
        exact ih_72 _ _ _ k_72 kn_83 p_jB_72 p_jL_72 p_jR_72 p_jS_72 (by first | omega | (simp only [Int32.toInt_add, Int32.toInt_sub, Int32.toInt_mul, Int32.toInt_toInt64, Int64.toInt_add, z_m1, Int32.reduceToInt, Int64.reduceToInt, Int32.reduceToNatClampNeg, Int.bmod_def, or_true, true_or, and_true, true_and] <;> omega)) (by first | omega | (simp only [Int32.toInt_add, Int32.toInt_sub, Int32.toInt_mul, Int32.toInt_toInt64, Int64.toInt_add, z_m1, Int32.reduceToInt, Int64.reduceToInt, Int32.reduceToNatClampNeg, Int.bmod_def, or_true, true_or, and_true, true_and] <;> omega)) (by first | omega | (simp only [Int32.toInt_add, Int32.toInt_sub, Int32.toInt_mul, Int32.toInt_toInt64, Int64.toInt_add, z_m1, Int32.reduceToInt, Int64.reduceToInt, Int32.reduceToNatClampNeg, Int.bmod_def, or_true, true_or, and_true, true_and] <;> omega)) (z_up1 (by first | assumption | exact z_lt (by assumption) | exact z_lt2 (by assumption) | exact z_lt3 (by assumption) (by first | assumption | decide)) hm_72)
  have T_72 : ∀ (x1_72 : Int32) (M_72 : zMt) (N_72 : zNt), (∀ a j, ¬ WM_X8_allOrders P a j → M_72 a j = M0 a j) → (∀ a j, ¬ WN_X8_allOrders P a j → N_72 a j = N0 a j) → (jB P M_72) → (jL P M_72) → (jR P M_72) → (jS P M_72) → (0 ≤ Int32.toInt x1_72) → (Int32.toInt x1_72 ≤ 5) → (Int32.toInt (M_72 P 33) ≤ 7) → ∃ r, D_X8_allOrders_72 P zFu x1_72 M_72 N_72 = some r ∧ ((∀ a j, ¬ WM_X8_allOrders P a j → r.1 a j = M0 a j) ∧ (∀ a j, ¬ WN_X8_allOrders P a j → r.2 a j = N0 a j) ∧ ((jR P r.1))) := fun x1_72 M_72 N_72 k_72 kn_72 p_jB_72 p_jL_72 p_jR_72 p_jS_72 f0_72 f1_72 f2_72 => TL_72 zFu x1_72 M_72 N_72 k_72 kn_72 p_jB_72 p_jL_72 p_jR_72 p_jS_72 f0_72 f1_72 f2_72 (zFu_up _)
  have TL_44 : ∀ u : Nat, ∀ (x1_44 : Int32) (M_44 : zMt) (N_44 : zNt), (∀ a j, ¬ WM_X8_allOrders P a j → M_44 a j = M0 a j) → (∀ a j, ¬ WN_X8_allOrders P a j → N_44 a j = N0 a j) → (jB P M_44) → (jL P M_44) → (jR P M_44) → (jS P M_44) → (0 ≤ Int32.toInt x1_44) → (Int32.toInt x1_44 ≤ 7) → (Int32.toInt (M_44 P 33) ≤ 7) → (2147483648 - Int32.toInt x1_44).toNat < u → ∃ r, D_X8_allOrders_44 P u x1_44 M_44 N_44 = some r ∧ ((∀ a j, ¬ WM_X8_allOrders P a j → r.1 a j = M0 a j) ∧ (∀ a j, ¬ WN_X8_allOrders P a j → r.2 a j = N0 a j) ∧ ((jR P r.1))) := by
    intro u
    induction u with
    | zero => intro x1_44 M_44 N_44 k_44 kn_44 p_jB_44 p_jL_44 p_jR_44 p_jS_44 f0_44 f1_44 f2_44 hm_44; exact absurd hm_44 (Nat.not_lt_zero _)
    | succ u_44 ih_44 =>
      intro x1_44 M_44 N_44 k_44 kn_44 p_jB_44 p_jL_44 p_jR_44 p_jS_44 f0_44 f1_44 f2_44 hm_44
      obtain ⟨u0_jB_44, u1_jB_44, u2_jB_44, u3_jB_44, u4_jB_44, u5_jB_44⟩ := id p_jB_44
      obtain ⟨u0_jS_44, u1_jS_44, u2_jS_44, u3_jS_44, u4_jS_44, u5_jS_44, u6_jS_44, u7_jS_44⟩ := jS.ints p_jS_44
      rw [D_X8_allOrders_44]
      refine vIf (fun h_47 => ?_) (fun h_47 => ?_)
      · have i_47 := Int32.le_iff_toInt_le.mp h_47
        (try simp only [Int32.toInt_add, Int32.toInt_sub, Int32.toInt_mul, Int32.toInt_toInt64, Int64.toInt_add, z_m1, Int32.reduceToInt, Int64.reduceToInt, Int32.reduceToNatClampNeg, Int.bmod_def] at i_47)
        exact T_72 _ _ _ k_44 kn_44 p_jB_44 p_jL_44 p_jR_44 p_jS_44 (by first | omega | (simp only [Int32.toInt_add, Int32.toInt_sub, Int32.toInt_mul, Int32.toInt_toInt64, Int64.toInt_add, z_m1, Int32.reduceToInt, Int64.reduceToInt, Int32.reduceToNatClampNeg, Int.bmod_def, or_true, true_or, and_true, true_and] <;> omega)) (by first | omega | (simp only [Int32.toInt_add, Int32.toInt_sub, Int32.toInt_mul, Int32.toInt_toInt64, Int64.toInt_add, z_m1, Int32.reduceToInt, Int64.reduceToInt, Int32.reduceToNatClampNeg, Int.bmod_def, or_true, true_or, and_true, true_and] <;> omega)) (by first | omega | (simp only [Int32.toInt_add, Int32.toInt_sub, Int32.toInt_mul, Int32.toInt_toInt64, Int64.toInt_add, z_m1, Int32.reduceToInt, Int64.reduceToInt, Int32.reduceToNatClampNeg, Int.bmod_def, or_true, true_or, and_true, true_and] <;> omega))
      · have i_47 := Int32.lt_iff_toInt_lt.mp (Int32.not_le.mp h_47)
        (try simp only [Int32.toInt_add, Int32.toInt_sub, Int32.toInt_mul, Int32.toInt_toInt64, Int64.toInt_add, z_m1, Int32.reduceToInt, Int64.reduceToInt, Int32.reduceToNatClampNeg, Int.bmod_def] at i_47)
        refine vI (vp_of (by first | omega | (simp only [Int32.toInt_add, Int32.toInt_sub, Int32.toInt_mul, Int32.toInt_toInt64, Int64.toInt_add, z_m1, Int32.reduceToInt, Int64.reduceToInt, Int32.reduceToNatClampNeg, Int.bmod_def, or_true, true_or, and_true, true_and] <;> omega)) (by first | omega | (simp only [Int32.toInt_add, Int32.toInt_sub, Int32.toInt_mul, Int32.toInt_toInt64, Int64.toInt_add, z_m1, Int32.reduceToInt, Int64.reduceToInt, Int32.reduceToNatClampNeg, Int.bmod_def, or_true, true_or, and_true, true_and] <;> omega))) ?_
        refine vLn (W := WN_X8_allOrders P) (fun a j h => (zu_ne (fun z => wq_X8_allOrders_N25_r h z.1)).trans (kn_44 a j h)) (fun N_56 f_56 kn_56 => ?_)
        refine vI (vp_of (by first | omega | (simp only [Int32.toInt_add, Int32.toInt_sub, Int32.toInt_mul, Int32.toInt_toInt64, Int64.toInt_add, z_m1, Int32.reduceToInt, Int64.reduceToInt, Int32.reduceToNatClampNeg, Int.bmod_def, or_true, true_or, and_true, true_and] <;> omega)) (by first | omega | (simp only [Int32.toInt_add, Int32.toInt_sub, Int32.toInt_mul, Int32.toInt_toInt64, Int64.toInt_add, z_m1, Int32.reduceToInt, Int64.reduceToInt, Int32.reduceToNatClampNeg, Int.bmod_def, or_true, true_or, and_true, true_and] <;> omega))) ?_
        refine vLn (W := WN_X8_allOrders P) (fun a j h => (zu_ne (fun z => wq_X8_allOrders_N26_r h z.1)).trans (kn_56 a j h)) (fun N_63 f_63 kn_63 => ?_)
        exact ih_44 _ _ _ k_44 kn_63 p_jB_44 p_jL_44 p_jR_44 p_jS_44 (by first | omega | (simp only [Int32.toInt_add, Int32.toInt_sub, Int32.toInt_mul, Int32.toInt_toInt64, Int64.toInt_add, z_m1, Int32.reduceToInt, Int64.reduceToInt, Int32.reduceToNatClampNeg, Int.bmod_def, or_true, true_or, and_true, true_and] <;> omega)) (by first | omega | (simp only [Int32.toInt_add, Int32.toInt_sub, Int32.toInt_mul, Int32.toInt_toInt64, Int64.toInt_add, z_m1, Int32.reduceToInt, Int64.reduceToInt, Int32.reduceToNatClampNeg, Int.bmod_def, or_true, true_or, and_true, true_and] <;> omega)) (by first | omega | (simp only [Int32.toInt_add, Int32.toInt_sub, Int32.toInt_mul, Int32.toInt_toInt64, Int64.toInt_add, z_m1, Int32.reduceToInt, Int64.reduceToInt, Int32.reduceToNatClampNeg, Int.bmod_def, or_true, true_or, and_true, true_and] <;> omega)) (z_up1 (by first | assumption | exact z_lt (by assumption) | exact z_lt2 (by assumption) | exact z_lt3 (by assumption) (by first | assumption | decide)) hm_44)
  have T_44 : ∀ (x1_44 : Int32) (M_44 : zMt) (N_44 : zNt), (∀ a j, ¬ WM_X8_allOrders P a j → M_44 a j = M0 a j) → (∀ a j, ¬ WN_X8_allOrders P a j → N_44 a j = N0 a j) → (jB P M_44) → (jL P M_44) → (jR P M_44) → (jS P M_44) → (0 ≤ Int32.toInt x1_44) → (Int32.toInt x1_44 ≤ 7) → (Int32.toInt (M_44 P 33) ≤ 7) → ∃ r, D_X8_allOrders_44 P zFu x1_44 M_44 N_44 = some r ∧ ((∀ a j, ¬ WM_X8_allOrders P a j → r.1 a j = M0 a j) ∧ (∀ a j, ¬ WN_X8_allOrders P a j → r.2 a j = N0 a j) ∧ ((jR P r.1))) := fun x1_44 M_44 N_44 k_44 kn_44 p_jB_44 p_jL_44 p_jR_44 p_jS_44 f0_44 f1_44 f2_44 => TL_44 zFu x1_44 M_44 N_44 k_44 kn_44 p_jB_44 p_jL_44 p_jR_44 p_jS_44 f0_44 f1_44 f2_44 (zFu_up _)
  have TL_23 : ∀ u : Nat, ∀ (x1_23 : Int32) (M_23 : zMt) (N_23 : zNt), (∀ a j, ¬ WM_X8_allOrders P a j → M_23 a j = M0 a j) → (∀ a j, ¬ WN_X8_allOrders P a j → N_23 a j = N0 a j) → (jB P M_23) → (jL P M_23) → (jR P M_23) → (jS P M_23) → (0 ≤ Int32.toInt x1_23) → (Int32.toInt x1_23 ≤ 49) → (Int32.toInt (M_23 P 33) ≤ 7) → (2147483648 - Int32.toInt x1_23).toNat < u → ∃ r, D_X8_allOrders_23 P u x1_23 M_23 N_23 = some r ∧ ((∀ a j, ¬ WM_X8_allOrders P a j → r.1 a j = M0 a j) ∧ (∀ a j, ¬ WN_X8_allOrders P a j → r.2 a j = N0 a j) ∧ ((jR P r.1))) := by
    intro u
    induction u with
    | zero => intro x1_23 M_23 N_23 k_23 kn_23 p_jB_23 p_jL_23 p_jR_23 p_jS_23 f0_23 f1_23 f2_23 hm_23; exact absurd hm_23 (Nat.not_lt_zero _)
    | succ u_23 ih_23 =>
      intro x1_23 M_23 N_23 k_23 kn_23 p_jB_23 p_jL_23 p_jR_23 p_jS_23 f0_23 f1_23 f2_23 hm_23
      obtain ⟨u0_jB_23, u1_jB_23, u2_jB_23, u3_jB_23, u4_jB_23, u5_jB_23⟩ := id p_jB_23
      obtain ⟨u0_jS_23, u1_jS_23, u2_jS_23, u3_jS_23, u4_jS_23, u5_jS_23, u6_jS_23, u7_jS_23⟩ := jS.ints p_jS_23
      rw [D_X8_allOrders_23]
      refine vIf (fun h_26 => ?_) (fun h_26 => ?_)
      · have i_26 := Int32.le_iff_toInt_le.mp h_26
        (try simp only [Int32.toInt_add, Int32.toInt_sub, Int32.toInt_mul, Int32.toInt_toInt64, Int64.toInt_add, z_m1, Int32.reduceToInt, Int64.reduceToInt, Int32.reduceToNatClampNeg, Int.bmod_def] at i_26)
        exact T_44 _ _ _ k_23 kn_23 p_jB_23 p_jL_23 p_jR_23 p_jS_23 (by first | omega | (simp only [Int32.toInt_add, Int32.toInt_sub, Int32.toInt_mul, Int32.toInt_toInt64, Int64.toInt_add, z_m1, Int32.reduceToInt, Int64.reduceToInt, Int32.reduceToNatClampNeg, Int.bmod_def, or_true, true_or, and_true, true_and] <;> omega)) (by first | omega | (simp only [Int32.toInt_add, Int32.toInt_sub, Int32.toInt_mul, Int32.toInt_toInt64, Int64.toInt_add, z_m1, Int32.reduceToInt, Int64.reduceToInt, Int32.reduceToNatClampNeg, Int.bmod_def, or_true, true_or, and_true, true_and] <;> omega)) (by first | omega | (simp only [Int32.toInt_add, Int32.toInt_sub, Int32.toInt_mul, Int32.toInt_toInt64, Int64.toInt_add, z_m1, Int32.reduceToInt, Int64.reduceToInt, Int32.reduceToNatClampNeg, Int.bmod_def, or_true, true_or, and_true, true_and] <;> omega))
      · have i_26 := Int32.lt_iff_toInt_lt.mp (Int32.not_le.mp h_26)
        (try simp only [Int32.toInt_add, Int32.toInt_sub, Int32.toInt_mul, Int32.toInt_toInt64, Int64.toInt_add, z_m1, Int32.reduceToInt, Int64.reduceToInt, Int32.reduceToNatClampNeg, Int.bmod_def] at i_26)
        refine vI (vp_of (by first | omega | (simp only [Int32.toInt_add, Int32.toInt_sub, Int32.toInt_mul, Int32.toInt_toInt64, Int64.toInt_add, z_m1, Int32.reduceToInt, Int64.reduceToInt, Int32.reduceToNatClampNeg, Int.bmod_def, or_true, true_or, and_true, true_and] <;> omega)) (by first | omega | (simp only [Int32.toInt_add, Int32.toInt_sub, Int32.toInt_mul, Int32.toInt_toInt64, Int64.toInt_add, z_m1, Int32.reduceToInt, Int64.reduceToInt, Int32.reduceToNatClampNeg, Int.bmod_def, or_true, true_or, and_true, true_and] <;> omega))) ?_
        refine vLn (W := WN_X8_allOrders P) (fun a j h => (zu_ne (fun z => wq_X8_allOrders_N27_r h z.1)).trans (kn_23 a j h)) (fun N_35 f_35 kn_35 => ?_)
        exact ih_23 _ _ _ k_23 kn_35 p_jB_23 p_jL_23 p_jR_23 p_jS_23 (by first | omega | (simp only [Int32.toInt_add, Int32.toInt_sub, Int32.toInt_mul, Int32.toInt_toInt64, Int64.toInt_add, z_m1, Int32.reduceToInt, Int64.reduceToInt, Int32.reduceToNatClampNeg, Int.bmod_def, or_true, true_or, and_true, true_and] <;> omega)) (by first | omega | (simp only [Int32.toInt_add, Int32.toInt_sub, Int32.toInt_mul, Int32.toInt_toInt64, Int64.toInt_add, z_m1, Int32.reduceToInt, Int64.reduceToInt, Int32.reduceToNatClampNeg, Int.bmod_def, or_true, true_or, and_true, true_and] <;> omega)) (by first | omega | (simp only [Int32.toInt_add, Int32.toInt_sub, Int32.toInt_mul, Int32.toInt_toInt64, Int64.toInt_add, z_m1, Int32.reduceToInt, Int64.reduceToInt, Int32.reduceToNatClampNeg, Int.bmod_def, or_true, true_or, and_true, true_and] <;> omega)) (z_up1 (by first | assumption | exact z_lt (by assumption) | exact z_lt2 (by assumption) | exact z_lt3 (by assumption) (by first | assumption | decide)) hm_23)
  have T_23 : ∀ (x1_23 : Int32) (M_23 : zMt) (N_23 : zNt), (∀ a j, ¬ WM_X8_allOrders P a j → M_23 a j = M0 a j) → (∀ a j, ¬ WN_X8_allOrders P a j → N_23 a j = N0 a j) → (jB P M_23) → (jL P M_23) → (jR P M_23) → (jS P M_23) → (0 ≤ Int32.toInt x1_23) → (Int32.toInt x1_23 ≤ 49) → (Int32.toInt (M_23 P 33) ≤ 7) → ∃ r, D_X8_allOrders_23 P zFu x1_23 M_23 N_23 = some r ∧ ((∀ a j, ¬ WM_X8_allOrders P a j → r.1 a j = M0 a j) ∧ (∀ a j, ¬ WN_X8_allOrders P a j → r.2 a j = N0 a j) ∧ ((jR P r.1))) := fun x1_23 M_23 N_23 k_23 kn_23 p_jB_23 p_jL_23 p_jR_23 p_jS_23 f0_23 f1_23 f2_23 => TL_23 zFu x1_23 M_23 N_23 k_23 kn_23 p_jB_23 p_jL_23 p_jR_23 p_jS_23 f0_23 f1_23 f2_23 (zFu_up _)
  have TL_2 : ∀ u : Nat, ∀ (x1_2 : Int32) (M_2 : zMt) (N_2 : zNt), (∀ a j, ¬ WM_X8_allOrders P a j → M_2 a j = M0 a j) → (∀ a j, ¬ WN_X8_allOrders P a j → N_2 a j = N0 a j) → (jB P M_2) → (jL P M_2) → (jR P M_2) → (jS P M_2) → (0 ≤ Int32.toInt x1_2) → (Int32.toInt x1_2 ≤ 35) → (Int32.toInt (M_2 P 33) ≤ 7) → (2147483648 - Int32.toInt x1_2).toNat < u → ∃ r, D_X8_allOrders_2 P u x1_2 M_2 N_2 = some r ∧ ((∀ a j, ¬ WM_X8_allOrders P a j → r.1 a j = M0 a j) ∧ (∀ a j, ¬ WN_X8_allOrders P a j → r.2 a j = N0 a j) ∧ ((jR P r.1))) := by
    intro u
    induction u with
    | zero => intro x1_2 M_2 N_2 k_2 kn_2 p_jB_2 p_jL_2 p_jR_2 p_jS_2 f0_2 f1_2 f2_2 hm_2; exact absurd hm_2 (Nat.not_lt_zero _)
    | succ u_2 ih_2 =>
      intro x1_2 M_2 N_2 k_2 kn_2 p_jB_2 p_jL_2 p_jR_2 p_jS_2 f0_2 f1_2 f2_2 hm_2
      obtain ⟨u0_jB_2, u1_jB_2, u2_jB_2, u3_jB_2, u4_jB_2, u5_jB_2⟩ := id p_jB_2
      obtain ⟨u0_jS_2, u1_jS_2, u2_jS_2, u3_jS_2, u4_jS_2, u5_jS_2, u6_jS_2, u7_jS_2⟩ := jS.ints p_jS_2
      rw [D_X8_allOrders_2]
      refine vIf (fun h_5 => ?_) (fun h_5 => ?_)
      · have i_5 := Int32.le_iff_toInt_le.mp h_5
        (try simp only [Int32.toInt_add, Int32.toInt_sub, Int32.toInt_mul, Int32.toInt_toInt64, Int64.toInt_add, z_m1, Int32.reduceToInt, Int64.reduceToInt, Int32.reduceToNatClampNeg, Int.bmod_def] at i_5)
        exact T_23 _ _ _ k_2 kn_2 p_jB_2 p_jL_2 p_jR_2 p_jS_2 (by first | omega | (simp only [Int32.toInt_add, Int32.toInt_sub, Int32.toInt_mul, Int32.toInt_toInt64, Int64.toInt_add, z_m1, Int32.reduceToInt, Int64.reduceToInt, Int32.reduceToNatClampNeg, Int.bmod_def, or_true, true_or, and_true, true_and] <;> omega)) (by first | omega | (simp only [Int32.toInt_add, Int32.toInt_sub, Int32.toInt_mul, Int32.toInt_toInt64, Int64.toInt_add, z_m1, Int32.reduceToInt, Int64.reduceToInt, Int32.reduceToNatClampNeg, Int.bmod_def, or_true, true_or, and_true, true_and] <;> omega)) (by first | omega | (simp only [Int32.toInt_add, Int32.toInt_sub, Int32.toInt_mul, Int32.toInt_toInt64, Int64.toInt_add, z_m1, Int32.reduceToInt, Int64.reduceToInt, Int32.reduceToNatClampNeg, Int.bmod_def, or_true, true_or, and_true, true_and] <;> omega))
      · have i_5 := Int32.lt_iff_toInt_lt.mp (Int32.not_le.mp h_5)
        (try simp only [Int32.toInt_add, Int32.toInt_sub, Int32.toInt_mul, Int32.toInt_toInt64, Int64.toInt_add, z_m1, Int32.reduceToInt, Int64.reduceToInt, Int32.reduceToNatClampNeg, Int.bmod_def] at i_5)
        refine vI (vp_of (by first | omega | (simp only [Int32.toInt_add, Int32.toInt_sub, Int32.toInt_mul, Int32.toInt_toInt64, Int64.toInt_add, z_m1, Int32.reduceToInt, Int64.reduceToInt, Int32.reduceToNatClampNeg, Int.bmod_def, or_true, true_or, and_true, true_and] <;> omega)) (by first | omega | (simp only [Int32.toInt_add, Int32.toInt_sub, Int32.toInt_mul, Int32.toInt_toInt64, Int64.toInt_add, z_m1, Int32.reduceToInt, Int64.reduceToInt, Int32.reduceToNatClampNeg, Int.bmod_def, or_true, true_or, and_true, true_and] <;> omega))) ?_
        refine vLn (W := WN_X8_allOrders P) (fun a j h => (zu_ne (fun z => wq_X8_allOrders_N24_r h z.1)).trans (kn_2 a j h)) (fun N_14 f_14 kn_14 => ?_)
        exact ih_2 _ _ _ k_2 kn_14 p_jB_2 p_jL_2 p_jR_2 p_jS_2 (by first | omega | (simp only [Int32.toInt_add, Int32.toInt_sub, Int32.toInt_mul, Int32.toInt_toInt64, Int64.toInt_add, z_m1, Int32.reduceToInt, Int64.reduceToInt, Int32.reduceToNatClampNeg, Int.bmod_def, or_true, true_or, and_true, true_and] <;> omega)) (by first | omega | (simp only [Int32.toInt_add, Int32.toInt_sub, Int32.toInt_mul, Int32.toInt_toInt64, Int64.toInt_add, z_m1, Int32.reduceToInt, Int64.reduceToInt, Int32.reduceToNatClampNeg, Int.bmod_def, or_true, true_or, and_true, true_and] <;> omega)) (by first | omega | (simp only [Int32.toInt_add, Int32.toInt_sub, Int32.toInt_mul, Int32.toInt_toInt64, Int64.toInt_add, z_m1, Int32.reduceToInt, Int64.reduceToInt, Int32.reduceToNatClampNeg, Int.bmod_def, or_true, true_or, and_true, true_and] <;> omega)) (z_up1 (by first | assumption | exact z_lt (by assumption) | exact z_lt2 (by assumption) | exact z_lt3 (by assumption) (by first | assumption | decide)) hm_2)
  have T_2 : ∀ (x1_2 : Int32) (M_2 : zMt) (N_2 : zNt), (∀ a j, ¬ WM_X8_allOrders P a j → M_2 a j = M0 a j) → (∀ a j, ¬ WN_X8_allOrders P a j → N_2 a j = N0 a j) → (jB P M_2) → (jL P M_2) → (jR P M_2) → (jS P M_2) → (0 ≤ Int32.toInt x1_2) → (Int32.toInt x1_2 ≤ 35) → (Int32.toInt (M_2 P 33) ≤ 7) → ∃ r, D_X8_allOrders_2 P zFu x1_2 M_2 N_2 = some r ∧ ((∀ a j, ¬ WM_X8_allOrders P a j → r.1 a j = M0 a j) ∧ (∀ a j, ¬ WN_X8_allOrders P a j → r.2 a j = N0 a j) ∧ ((jR P r.1))) := fun x1_2 M_2 N_2 k_2 kn_2 p_jB_2 p_jL_2 p_jR_2 p_jS_2 f0_2 f1_2 f2_2 => TL_2 zFu x1_2 M_2 N_2 k_2 kn_2 p_jB_2 p_jL_2 p_jR_2 p_jS_2 f0_2 f1_2 f2_2 (zFu_up _)
  unfold D_X8_allOrders
  exact T_2 _ _ _ (fun _ _ _ => rfl) (fun _ _ _ => rfl) p_jB p_jL p_jR p_jS (by first | omega | (simp only [Int32.toInt_add, Int32.toInt_sub, Int32.toInt_mul, Int32.toInt_toInt64, Int64.toInt_add, z_m1, Int32.reduceToInt, Int64.reduceToInt, Int32.reduceToNatClampNeg, Int.bmod_def, or_true, true_or, and_true, true_and] <;> omega)) (by first | omega | (simp only [Int32.toInt_add, Int32.toInt_sub, Int32.toInt_mul, Int32.toInt_toInt64, Int64.toInt_add, z_m1, Int32.reduceToInt, Int64.reduceToInt, Int32.reduceToNatClampNeg, Int.bmod_def, or_true, true_or, and_true, true_and] <;> omega)) (by first | omega | (simp only [Int32.toInt_add, Int32.toInt_sub, Int32.toInt_mul, Int32.toInt_toInt64, Int64.toInt_add, z_m1, Int32.reduceToInt, Int64.reduceToInt, Int32.reduceToNatClampNeg, Int.bmod_def, or_true, true_or, and_true, true_and] <;> omega))
def WM_X8_laysAll (P : Nat) (a j : Nat) : Prop := (P + 11 ≤ a ∧ a < P + 23) ∨ (P + 29 ≤ a ∧ a < P + 30) ∨ (a = P ∧ (j = 33 ∨ j = 54 ∨ j = 55 ∨ j = 56 ∨ j = 57))
def WN_X8_laysAll (P : Nat) (a j : Nat) : Prop := (P + 24 ≤ a ∧ a < P + 29) ∨ (a = P ∧ (j = 59))
theorem wz_M_X8_laysApplicants_X8_laysAll {P a j : Nat} (h : ¬ WM_X8_laysAll P a j) : ¬ WM_X8_laysApplicants P a j := by unfold WM_X8_laysApplicants; unfold WM_X8_laysAll at h; omega
theorem wz_M_X8_allOrders_X8_laysAll {P a j : Nat} (h : ¬ WM_X8_laysAll P a j) : ¬ WM_X8_allOrders P a j := by unfold WM_X8_allOrders; unfold WM_X8_laysAll at h; omega
theorem wz_N_X8_allOrders_X8_laysAll {P a j : Nat} (h : ¬ WN_X8_laysAll P a j) : ¬ WN_X8_allOrders P a j := by unfold WN_X8_allOrders; unfold WN_X8_laysAll at h; omega
theorem wc_X8_allOrders_7 {P : Nat} : ¬ WM_X8_allOrders P P 7 := by unfold WM_X8_allOrders; omega
theorem wc_X8_allOrders_8 {P : Nat} : ¬ WM_X8_allOrders P P 8 := by unfold WM_X8_allOrders; omega
theorem wc_X8_allOrders_33 {P : Nat} : ¬ WM_X8_allOrders P P 33 := by unfold WM_X8_allOrders; omega
theorem wf_nA_X8_allOrders {P a j : Nat} (h : (a = P + 1 ∨ (a = P ∧ j = 8))) : ¬ WM_X8_allOrders P a j := by unfold WM_X8_allOrders; omega
theorem wf_jS_X8_allOrders {P a j : Nat} (h : (a = P + 1 ∨ (a = P ∧ (j = 7 ∨ j = 8)))) : ¬ WM_X8_allOrders P a j := by unfold WM_X8_allOrders; omega
theorem wf_jB_X8_allOrders {P a j : Nat} (h : (a = P ∧ (j = 7 ∨ j = 8 ∨ j = 33))) : ¬ WM_X8_allOrders P a j := by unfold WM_X8_allOrders; omega
theorem wf_jL_X8_allOrders {P a j : Nat} (h : ((a = P ∧ j = 33) ∨ a = P + 13 ∨ a = P + 14 ∨ a = P + 17)) : ¬ WM_X8_allOrders P a j := by unfold WM_X8_allOrders; omega
theorem wf_jH_X8_allOrders {P a j : Nat} (h : ((a = P ∧ (j = 8 ∨ j = 33)) ∨ a = P + 11)) : ¬ WM_X8_allOrders P a j := by unfold WM_X8_allOrders; omega
set_option maxRecDepth 100000 in
set_option maxHeartbeats 4000000 in
theorem v_X8_laysAll {P : Nat}  {M0 : zMt} {N0 : zNt}  (p_jB : jB P M0) (p_jS : jS P M0) (p_jR : jR P M0) (i_3 : nA P M0 ≤ 7) : ∃ r, D_X8_laysAll P M0 N0 = some r ∧ ((∀ a j, ¬ WM_X8_laysAll P a j → r.1 a j = M0 a j) ∧ (∀ a j, ¬ WN_X8_laysAll P a j → r.2 a j = N0 a j) ∧ ((jB P r.1) ∧ (jL P r.1) ∧ (jH P r.1) ∧ (jR P r.1) ∧ (Int32.toInt (r.1 P 33) = nA P r.1))) := by
  obtain ⟨u0_jB, u1_jB, u2_jB, u3_jB, u4_jB, u5_jB⟩ := id p_jB
  obtain ⟨u0_jS, u1_jS, u2_jS, u3_jS, u4_jS, u5_jS, u6_jS, u7_jS⟩ := jS.ints p_jS
  unfold D_X8_laysAll
  refine vB (v_X8_laysApplicants p_jB p_jS) (fun e_1 f_1 q_1 => ?_)
  have k_1 : ∀ a j, ¬ WM_X8_laysAll P a j → e_1 a j = M0 a j := fun a j h => (q_1.1 a j (wz_M_X8_laysApplicants_X8_laysAll h))
  have c7_1 : Int32.toInt (e_1 P 7) = Int32.toInt (M0 P 7) := congrArg Int32.toInt (q_1.1 P 7 (wc_X8_laysApplicants_7))
  have c8_1 : Int32.toInt (e_1 P 8) = Int32.toInt (M0 P 8) := congrArg Int32.toInt (q_1.1 P 8 (wc_X8_laysApplicants_8))
  have n_1 : nA P e_1 = nA P M0 := nA_congr (fun a j h => q_1.1 a j (wf_nA_X8_laysApplicants h))
  have p_jS_1 : jS P e_1 := jS.mono p_jS (fun a j h => q_1.1 a j (wf_jS_X8_laysApplicants h))
  obtain ⟨u0_jS_1, u1_jS_1, u2_jS_1, u3_jS_1, u4_jS_1, u5_jS_1, u6_jS_1, u7_jS_1⟩ := jS.ints p_jS_1
  have p_jR_1 : jR P e_1 := jR.mono p_jR (fun a j h => q_1.1 a j (wf_jR_X8_laysApplicants h))
  obtain ⟨x0_1, x1_1, x2_1, x3_1⟩ := q_1.2
  obtain ⟨u0_jB_1, u1_jB_1, u2_jB_1, u3_jB_1, u4_jB_1, u5_jB_1⟩ := id x0_1
  (try simp only [Int32.toInt_add, Int32.toInt_sub, Int32.toInt_mul, Int32.toInt_toInt64, Int64.toInt_add, z_m1, Int32.reduceToInt, Int64.reduceToInt, Int32.reduceToNatClampNeg, Int.bmod_def] at x3_1)
  refine vB (v_X8_allOrders x0_1 p_jS_1 x1_1 p_jR_1 (by first | omega | (simp only [Int32.toInt_add, Int32.toInt_sub, Int32.toInt_mul, Int32.toInt_toInt64, Int64.toInt_add, z_m1, Int32.reduceToInt, Int64.reduceToInt, Int32.reduceToNatClampNeg, Int.bmod_def, or_true, true_or, and_true, true_and] <;> omega))) (fun e_5 f_5 q_5 => ?_)
  have k_5 : ∀ a j, ¬ WM_X8_laysAll P a j → e_5.1 a j = M0 a j := fun a j h => (q_5.1 a j (wz_M_X8_allOrders_X8_laysAll h)).trans (k_1 a j h)
  have kn_5 : ∀ a j, ¬ WN_X8_laysAll P a j → e_5.2 a j = N0 a j := fun a j h => (q_5.2.1 a j (wz_N_X8_allOrders_X8_laysAll h))
  have c7_5 : Int32.toInt (e_5.1 P 7) = Int32.toInt (e_1 P 7) := congrArg Int32.toInt (q_5.1 P 7 (wc_X8_allOrders_7))
  have c8_5 : Int32.toInt (e_5.1 P 8) = Int32.toInt (e_1 P 8) := congrArg Int32.toInt (q_5.1 P 8 (wc_X8_allOrders_8))
  have c33_5 : Int32.toInt (e_5.1 P 33) = Int32.toInt (e_1 P 33) := congrArg Int32.toInt (q_5.1 P 33 (wc_X8_allOrders_33))
  have n_5 : nA P e_5.1 = nA P e_1 := nA_congr (fun a j h => q_5.1 a j (wf_nA_X8_allOrders h))
  have p_jS_5 : jS P e_5.1 := jS.mono p_jS_1 (fun a j h => q_5.1 a j (wf_jS_X8_allOrders h))
  obtain ⟨u0_jS_5, u1_jS_5, u2_jS_5, u3_jS_5, u4_jS_5, u5_jS_5, u6_jS_5, u7_jS_5⟩ := jS.ints p_jS_5
  have p_jB_5 : jB P e_5.1 := jB.mono x0_1 (fun a j h => q_5.1 a j (wf_jB_X8_allOrders h))
  obtain ⟨u0_jB_5, u1_jB_5, u2_jB_5, u3_jB_5, u4_jB_5, u5_jB_5⟩ := id p_jB_5
  have p_jL_5 : jL P e_5.1 := jL.mono x1_1 (fun a j h => q_5.1 a j (wf_jL_X8_allOrders h))
  have p_jH_5 : jH P e_5.1 := jH.mono x2_1 (fun a j h => q_5.1 a j (wf_jH_X8_allOrders h))
  have x0_5 := q_5.2.2
  exact ⟨_, rfl, k_5, kn_5, ⟨p_jB_5, p_jL_5, p_jH_5, x0_5, (by first | omega | (simp only [Int32.toInt_add, Int32.toInt_sub, Int32.toInt_mul, Int32.toInt_toInt64, Int64.toInt_add, z_m1, Int32.reduceToInt, Int64.reduceToInt, Int32.reduceToNatClampNeg, Int.bmod_def, or_true, true_or, and_true, true_and] <;> omega))⟩⟩
def WM_X8_chance (P : Nat) (a j : Nat) : Prop := (P + 11 ≤ a ∧ a < P + 23) ∨ (P + 29 ≤ a ∧ a < P + 30) ∨ (a = P ∧ (j = 6 ∨ j = 12 ∨ j = 33 ∨ j = 54 ∨ j = 55 ∨ j = 56 ∨ j = 57))
def WN_X8_chance (P : Nat) (a j : Nat) : Prop := (P + 24 ≤ a ∧ a < P + 29) ∨ (a = P ∧ (j = 59))
theorem wz_M_X8_givesLong_X8_chance {P a j : Nat} (h : ¬ WM_X8_chance P a j) : ¬ WM_X8_givesLong P a j := by unfold WM_X8_givesLong; unfold WM_X8_chance at h; omega
theorem wc_X8_givesLong_7 {P : Nat} : ¬ WM_X8_givesLong P P 7 := by unfold WM_X8_givesLong; omega
theorem wc_X8_givesLong_8 {P : Nat} : ¬ WM_X8_givesLong P P 8 := by unfold WM_X8_givesLong; omega
theorem wc_X8_givesLong_33 {P : Nat} : ¬ WM_X8_givesLong P P 33 := by unfold WM_X8_givesLong; omega
theorem wf_nA_X8_givesLong {P a j : Nat} (h : (a = P + 1 ∨ (a = P ∧ j = 8))) : ¬ WM_X8_givesLong P a j := by unfold WM_X8_givesLong; omega
theorem wf_jB_X8_givesLong {P a j : Nat} (h : (a = P ∧ (j = 7 ∨ j = 8 ∨ j = 33))) : ¬ WM_X8_givesLong P a j := by unfold WM_X8_givesLong; omega
theorem wf_jH_X8_givesLong {P a j : Nat} (h : ((a = P ∧ (j = 8 ∨ j = 33)) ∨ a = P + 11)) : ¬ WM_X8_givesLong P a j := by unfold WM_X8_givesLong; omega
theorem wf_jK_X8_givesLong {P a j : Nat} (h : ((a = P ∧ (j = 7 ∨ j = 8 ∨ j = 9)) ∨ a = P + 4)) : ¬ WM_X8_givesLong P a j := by unfold WM_X8_givesLong; omega
theorem wf_jL_X8_givesLong {P a j : Nat} (h : ((a = P ∧ j = 33) ∨ a = P + 13 ∨ a = P + 14 ∨ a = P + 17)) : ¬ WM_X8_givesLong P a j := by unfold WM_X8_givesLong; omega
theorem wf_jR_X8_givesLong {P a j : Nat} (h : a = P + 19) : ¬ WM_X8_givesLong P a j := by unfold WM_X8_givesLong; omega
theorem wf_jS_X8_givesLong {P a j : Nat} (h : (a = P + 1 ∨ (a = P ∧ (j = 7 ∨ j = 8)))) : ¬ WM_X8_givesLong P a j := by unfold WM_X8_givesLong; omega
theorem wf_jT_X8_givesLong {P a j : Nat} (h : (a = P ∧ (j = 9 ∨ j = 11 ∨ j = 64))) : ¬ WM_X8_givesLong P a j := by unfold WM_X8_givesLong; omega
theorem wz_M_X8_refuse_X8_chance {P a j : Nat} (h : ¬ WM_X8_chance P a j) : ¬ WM_X8_refuse P a j := by unfold WM_X8_refuse; unfold WM_X8_chance at h; omega
theorem wz_M_X8_isApplicant_X8_chance {P a j : Nat} (h : ¬ WM_X8_chance P a j) : ¬ WM_X8_isApplicant P a j := by unfold WM_X8_isApplicant; unfold WM_X8_chance at h; omega
theorem wz_M_X8_areMany_X8_chance {P a j : Nat} (h : ¬ WM_X8_chance P a j) : ¬ WM_X8_areMany P a j := by unfold WM_X8_areMany; unfold WM_X8_chance at h; omega
theorem wc_X8_areMany_7 {P : Nat} : ¬ WM_X8_areMany P P 7 := by unfold WM_X8_areMany; omega
theorem wc_X8_areMany_8 {P : Nat} : ¬ WM_X8_areMany P P 8 := by unfold WM_X8_areMany; omega
theorem wf_nA_X8_areMany {P a j : Nat} (h : (a = P + 1 ∨ (a = P ∧ j = 8))) : ¬ WM_X8_areMany P a j := by unfold WM_X8_areMany; omega
theorem wf_jS_X8_areMany {P a j : Nat} (h : (a = P + 1 ∨ (a = P ∧ (j = 7 ∨ j = 8)))) : ¬ WM_X8_areMany P a j := by unfold WM_X8_areMany; omega
theorem wf_jR_X8_areMany {P a j : Nat} (h : a = P + 19) : ¬ WM_X8_areMany P a j := by unfold WM_X8_areMany; omega
theorem wf_jK_X8_areMany {P a j : Nat} (h : ((a = P ∧ (j = 7 ∨ j = 8 ∨ j = 9)) ∨ a = P + 4)) : ¬ WM_X8_areMany P a j := by unfold WM_X8_areMany; omega
theorem wf_jT_X8_areMany {P a j : Nat} (h : (a = P ∧ (j = 9 ∨ j = 11 ∨ j = 64))) : ¬ WM_X8_areMany P a j := by unfold WM_X8_areMany; omega
theorem wz_M_X8_laysAll_X8_chance {P a j : Nat} (h : ¬ WM_X8_chance P a j) : ¬ WM_X8_laysAll P a j := by unfold WM_X8_laysAll; unfold WM_X8_chance at h; omega
theorem wz_N_X8_laysAll_X8_chance {P a j : Nat} (h : ¬ WN_X8_chance P a j) : ¬ WN_X8_laysAll P a j := by unfold WN_X8_laysAll; unfold WN_X8_chance at h; omega
theorem wc_X8_laysAll_7 {P : Nat} : ¬ WM_X8_laysAll P P 7 := by unfold WM_X8_laysAll; omega
theorem wc_X8_laysAll_8 {P : Nat} : ¬ WM_X8_laysAll P P 8 := by unfold WM_X8_laysAll; omega
theorem wf_nA_X8_laysAll {P a j : Nat} (h : (a = P + 1 ∨ (a = P ∧ j = 8))) : ¬ WM_X8_laysAll P a j := by unfold WM_X8_laysAll; omega
theorem wf_jS_X8_laysAll {P a j : Nat} (h : (a = P + 1 ∨ (a = P ∧ (j = 7 ∨ j = 8)))) : ¬ WM_X8_laysAll P a j := by unfold WM_X8_laysAll; omega
theorem wf_jK_X8_laysAll {P a j : Nat} (h : ((a = P ∧ (j = 7 ∨ j = 8 ∨ j = 9)) ∨ a = P + 4)) : ¬ WM_X8_laysAll P a j := by unfold WM_X8_laysAll; omega
theorem wf_jT_X8_laysAll {P a j : Nat} (h : (a = P ∧ (j = 9 ∨ j = 11 ∨ j = 64))) : ¬ WM_X8_laysAll P a j := by unfold WM_X8_laysAll; omega
set_option maxRecDepth 100000 in
set_option maxHeartbeats 4000000 in
theorem v_X8_chance {P : Nat} {v0 : Int32} {v1 : Int32} {M0 : zMt} {N0 : zNt}  (p_jB : jB P M0) (p_jS : jS P M0) (p_jR : jR P M0) (p_jK : jK P M0) (p_jT : jT P M0) : ∃ r, D_X8_chance P v0 v1 M0 N0 = some r ∧ ((∀ a j, ¬ WM_X8_chance P a j → r.2.1 a j = M0 a j) ∧ (∀ a j, ¬ WN_X8_chance P a j → r.2.2 a j = N0 a j) ∧ ((jB P r.2.1) ∧ (jS P r.2.1) ∧ (jR P r.2.1) ∧ (jK P r.2.1) ∧ (jT P r.2.1))) := by
  obtain ⟨u0_jB, u1_jB, u2_jB, u3_jB, u4_jB, u5_jB⟩ := id p_jB
  obtain ⟨u0_jS, u1_jS, u2_jS, u3_jS, u4_jS, u5_jS, u6_jS, u7_jS⟩ := jS.ints p_jS
  obtain ⟨u0_jT, u1_jT, u2_jT, u3_jT, u4_jT, u5_jT⟩ := id p_jT
  have T_85 : ∀ (y1_85 : Int64) (M_85 : zMt) (N_85 : zNt), (∀ a j, ¬ WM_X8_chance P a j → M_85 a j = M0 a j) → (∀ a j, ¬ WN_X8_chance P a j → N_85 a j = N0 a j) → (jB P M_85) → (jH P M_85) → (jK P M_85) → (jL P M_85) → (jR P M_85) → (jS P M_85) → (jT P M_85) → ∃ r, D_X8_chance_85 P y1_85 M_85 N_85 = some r ∧ ((∀ a j, ¬ WM_X8_chance P a j → r.2.1 a j = M0 a j) ∧ (∀ a j, ¬ WN_X8_chance P a j → r.2.2 a j = N0 a j) ∧ ((jB P r.2.1) ∧ (jS P r.2.1) ∧ (jR P r.2.1) ∧ (jK P r.2.1) ∧ (jT P r.2.1))) := by
    intro y1_85 M_85 N_85 k_85 kn_85 p_jB_85 p_jH_85 p_jK_85 p_jL_85 p_jR_85 p_jS_85 p_jT_85
    obtain ⟨u0_jB_85, u1_jB_85, u2_jB_85, u3_jB_85, u4_jB_85, u5_jB_85⟩ := id p_jB_85
    obtain ⟨u0_jS_85, u1_jS_85, u2_jS_85, u3_jS_85, u4_jS_85, u5_jS_85, u6_jS_85, u7_jS_85⟩ := jS.ints p_jS_85
    obtain ⟨u0_jT_85, u1_jT_85, u2_jT_85, u3_jT_85, u4_jT_85, u5_jT_85⟩ := id p_jT_85
    unfold D_X8_chance_85
    refine vB (v_X8_givesLong) (fun e_85 f_85 q_85 => ?_)
    have k_85 : ∀ a j, ¬ WM_X8_chance P a j → e_85.2 a j = M0 a j := fun a j h => (q_85 a j (wz_M_X8_givesLong_X8_chance h)).trans (k_85 a j h)
    have c7_85 : Int32.toInt (e_85.2 P 7) = Int32.toInt (M_85 P 7) := congrArg Int32.toInt (q_85 P 7 (wc_X8_givesLong_7))
    have c8_85 : Int32.toInt (e_85.2 P 8) = Int32.toInt (M_85 P 8) := congrArg Int32.toInt (q_85 P 8 (wc_X8_givesLong_8))
    have c33_85 : Int32.toInt (e_85.2 P 33) = Int32.toInt (M_85 P 33) := congrArg Int32.toInt (q_85 P 33 (wc_X8_givesLong_33))
    have n_85 : nA P e_85.2 = nA P M_85 := nA_congr (fun a j h => q_85 a j (wf_nA_X8_givesLong h))
    have p_jB_85 : jB P e_85.2 := jB.mono p_jB_85 (fun a j h => q_85 a j (wf_jB_X8_givesLong h))
    obtain ⟨u0_jB_85, u1_jB_85, u2_jB_85, u3_jB_85, u4_jB_85, u5_jB_85⟩ := id p_jB_85
    have p_jH_85 : jH P e_85.2 := jH.mono p_jH_85 (fun a j h => q_85 a j (wf_jH_X8_givesLong h))
    have p_jK_85 : jK P e_85.2 := jK.mono p_jK_85 (fun a j h => q_85 a j (wf_jK_X8_givesLong h))
    have p_jL_85 : jL P e_85.2 := jL.mono p_jL_85 (fun a j h => q_85 a j (wf_jL_X8_givesLong h))
    have p_jR_85 : jR P e_85.2 := jR.mono p_jR_85 (fun a j h => q_85 a j (wf_jR_X8_givesLong h))
    have p_jS_85 : jS P e_85.2 := jS.mono p_jS_85 (fun a j h => q_85 a j (wf_jS_X8_givesLong h))
    obtain ⟨u0_jS_85, u1_jS_85, u2_jS_85, u3_jS_85, u4_jS_85, u5_jS_85, u6_jS_85, u7_jS_85⟩ := jS.ints p_jS_85
    have p_jT_85 : jT P e_85.2 := jT.mono p_jT_85 (fun a j h => q_85 a j (wf_jT_X8_givesLong h))
    obtain ⟨u0_jT_85, u1_jT_85, u2_jT_85, u3_jT_85, u4_jT_85, u5_jT_85⟩ := id p_jT_85
    exact ⟨_, rfl, k_85, kn_85, ⟨p_jB_85, p_jS_85, p_jR_85, p_jK_85, p_jT_85⟩⟩
  unfold D_X8_chance
  refine vB (v_X8_isFrom) (fun e_6 f_6 q_6 => ?_)
  have b_6 := q_6.1
  have x0_6 := q_6.2
  (try simp only [Int32.toInt_add, Int32.toInt_sub, Int32.toInt_mul, Int32.toInt_toInt64, Int64.toInt_add, z_m1, Int32.reduceToInt, Int64.reduceToInt, Int32.reduceToNatClampNeg, Int.bmod_def] at x0_6)
  refine vIf (fun h_9 => ?_) (fun h_9 => ?_)
  · have i_9 := congrArg Int32.toInt h_9
    (try simp only [Int32.toInt_add, Int32.toInt_sub, Int32.toInt_mul, Int32.toInt_toInt64, Int64.toInt_add, z_m1, Int32.reduceToInt, Int64.reduceToInt, Int32.reduceToNatClampNeg, Int.bmod_def] at i_9)
    refine vB (v_X8_refuse) (fun e_14 f_14 q_14 => ?_)
    have k_14 : ∀ a j, ¬ WM_X8_chance P a j → e_14.2 a j = M0 a j := fun a j h => (q_14 a j (wz_M_X8_refuse_X8_chance h))
    have c7_14 : Int32.toInt (e_14.2 P 7) = Int32.toInt (M0 P 7) := congrArg Int32.toInt (q_14 P 7 (wc_X8_refuse_7))
    have c8_14 : Int32.toInt (e_14.2 P 8) = Int32.toInt (M0 P 8) := congrArg Int32.toInt (q_14 P 8 (wc_X8_refuse_8))
    have c33_14 : Int32.toInt (e_14.2 P 33) = Int32.toInt (M0 P 33) := congrArg Int32.toInt (q_14 P 33 (wc_X8_refuse_33))
    have n_14 : nA P e_14.2 = nA P M0 := nA_congr (fun a j h => q_14 a j (wf_nA_X8_refuse h))
    have p_jB_14 : jB P e_14.2 := jB.mono p_jB (fun a j h => q_14 a j (wf_jB_X8_refuse h))
    obtain ⟨u0_jB_14, u1_jB_14, u2_jB_14, u3_jB_14, u4_jB_14, u5_jB_14⟩ := id p_jB_14
    have p_jS_14 : jS P e_14.2 := jS.mono p_jS (fun a j h => q_14 a j (wf_jS_X8_refuse h))
    obtain ⟨u0_jS_14, u1_jS_14, u2_jS_14, u3_jS_14, u4_jS_14, u5_jS_14, u6_jS_14, u7_jS_14⟩ := jS.ints p_jS_14
    have p_jR_14 : jR P e_14.2 := jR.mono p_jR (fun a j h => q_14 a j (wf_jR_X8_refuse h))
    have p_jK_14 : jK P e_14.2 := jK.mono p_jK (fun a j h => q_14 a j (wf_jK_X8_refuse h))
    have p_jT_14 : jT P e_14.2 := jT.mono p_jT (fun a j h => q_14 a j (wf_jT_X8_refuse h))
    obtain ⟨u0_jT_14, u1_jT_14, u2_jT_14, u3_jT_14, u4_jT_14, u5_jT_14⟩ := id p_jT_14
    exact ⟨_, rfl, k_14, (fun _ _ _ => rfl), ⟨p_jB_14, p_jS_14, p_jR_14, p_jK_14, p_jT_14⟩⟩
  · have i_9 : ¬ Int32.toInt e_6 = Int32.toInt (0 : Int32) := fun q => h_9 (Int32.toInt_inj.mp q)
    (try simp only [Int32.toInt_add, Int32.toInt_sub, Int32.toInt_mul, Int32.toInt_toInt64, Int64.toInt_add, z_m1, Int32.reduceToInt, Int64.reduceToInt, Int32.reduceToNatClampNeg, Int.bmod_def] at i_9)
    refine vB (v_X8_isApplicant p_jB p_jS) (fun e_21 f_21 q_21 => ?_)
    have k_21 : ∀ a j, ¬ WM_X8_chance P a j → e_21.2 a j = M0 a j := fun a j h => (q_21.1 a j (wz_M_X8_isApplicant_X8_chance h))
    have b_21 := q_21.2.1
    have c7_21 : Int32.toInt (e_21.2 P 7) = Int32.toInt (M0 P 7) := congrArg Int32.toInt (q_21.1 P 7 (wc_X8_isApplicant_7))
    have c8_21 : Int32.toInt (e_21.2 P 8) = Int32.toInt (M0 P 8) := congrArg Int32.toInt (q_21.1 P 8 (wc_X8_isApplicant_8))
    have n_21 : nA P e_21.2 = nA P M0 := nA_congr (fun a j h => q_21.1 a j (wf_nA_X8_isApplicant h))
    have p_jS_21 : jS P e_21.2 := jS.mono p_jS (fun a j h => q_21.1 a j (wf_jS_X8_isApplicant h))
    obtain ⟨u0_jS_21, u1_jS_21, u2_jS_21, u3_jS_21, u4_jS_21, u5_jS_21, u6_jS_21, u7_jS_21⟩ := jS.ints p_jS_21
    have p_jR_21 : jR P e_21.2 := jR.mono p_jR (fun a j h => q_21.1 a j (wf_jR_X8_isApplicant h))
    have p_jK_21 : jK P e_21.2 := jK.mono p_jK (fun a j h => q_21.1 a j (wf_jK_X8_isApplicant h))
    have p_jT_21 : jT P e_21.2 := jT.mono p_jT (fun a j h => q_21.1 a j (wf_jT_X8_isApplicant h))
    obtain ⟨u0_jT_21, u1_jT_21, u2_jT_21, u3_jT_21, u4_jT_21, u5_jT_21⟩ := id p_jT_21
    obtain ⟨x0_21, x1_21, x2_21, x3_21, x4_21⟩ := q_21.2.2
    obtain ⟨u0_jB_21, u1_jB_21, u2_jB_21, u3_jB_21, u4_jB_21, u5_jB_21⟩ := id x0_21
    (try simp only [Int32.toInt_add, Int32.toInt_sub, Int32.toInt_mul, Int32.toInt_toInt64, Int64.toInt_add, z_m1, Int32.reduceToInt, Int64.reduceToInt, Int32.reduceToNatClampNeg, Int.bmod_def] at x3_21)
    (try simp only [Int32.toInt_add, Int32.toInt_sub, Int32.toInt_mul, Int32.toInt_toInt64, Int64.toInt_add, z_m1, Int32.reduceToInt, Int64.reduceToInt, Int32.reduceToNatClampNeg, Int.bmod_def] at x4_21)
    refine vIf (fun h_24 => ?_) (fun h_24 => ?_)
    · have i_24 := congrArg Int32.toInt h_24
      (try simp only [Int32.toInt_add, Int32.toInt_sub, Int32.toInt_mul, Int32.toInt_toInt64, Int64.toInt_add, z_m1, Int32.reduceToInt, Int64.reduceToInt, Int32.reduceToNatClampNeg, Int.bmod_def] at i_24)
      refine vB (v_X8_refuse) (fun e_29 f_29 q_29 => ?_)
      have k_29 : ∀ a j, ¬ WM_X8_chance P a j → e_29.2 a j = M0 a j := fun a j h => (q_29 a j (wz_M_X8_refuse_X8_chance h)).trans (k_21 a j h)
      have c7_29 : Int32.toInt (e_29.2 P 7) = Int32.toInt (e_21.2 P 7) := congrArg Int32.toInt (q_29 P 7 (wc_X8_refuse_7))
      have c8_29 : Int32.toInt (e_29.2 P 8) = Int32.toInt (e_21.2 P 8) := congrArg Int32.toInt (q_29 P 8 (wc_X8_refuse_8))
      have c33_29 : Int32.toInt (e_29.2 P 33) = Int32.toInt (e_21.2 P 33) := congrArg Int32.toInt (q_29 P 33 (wc_X8_refuse_33))
      have n_29 : nA P e_29.2 = nA P e_21.2 := nA_congr (fun a j h => q_29 a j (wf_nA_X8_refuse h))
      have p_jS_29 : jS P e_29.2 := jS.mono p_jS_21 (fun a j h => q_29 a j (wf_jS_X8_refuse h))
      obtain ⟨u0_jS_29, u1_jS_29, u2_jS_29, u3_jS_29, u4_jS_29, u5_jS_29, u6_jS_29, u7_jS_29⟩ := jS.ints p_jS_29
      have p_jR_29 : jR P e_29.2 := jR.mono p_jR_21 (fun a j h => q_29 a j (wf_jR_X8_refuse h))
      have p_jK_29 : jK P e_29.2 := jK.mono p_jK_21 (fun a j h => q_29 a j (wf_jK_X8_refuse h))
      have p_jT_29 : jT P e_29.2 := jT.mono p_jT_21 (fun a j h => q_29 a j (wf_jT_X8_refuse h))
      obtain ⟨u0_jT_29, u1_jT_29, u2_jT_29, u3_jT_29, u4_jT_29, u5_jT_29⟩ := id p_jT_29
      have p_jB_29 : jB P e_29.2 := jB.mono x0_21 (fun a j h => q_29 a j (wf_jB_X8_refuse h))
      obtain ⟨u0_jB_29, u1_jB_29, u2_jB_29, u3_jB_29, u4_jB_29, u5_jB_29⟩ := id p_jB_29
      have p_jL_29 : jL P e_29.2 := jL.mono x1_21 (fun a j h => q_29 a j (wf_jL_X8_refuse h))
      have p_jH_29 : jH P e_29.2 := jH.mono x2_21 (fun a j h => q_29 a j (wf_jH_X8_refuse h))
      exact ⟨_, rfl, k_29, (fun _ _ _ => rfl), ⟨p_jB_29, p_jS_29, p_jR_29, p_jK_29, p_jT_29⟩⟩
    · have i_24 : ¬ Int32.toInt e_21.1 = Int32.toInt (0 : Int32) := fun q => h_24 (Int32.toInt_inj.mp q)
      (try simp only [Int32.toInt_add, Int32.toInt_sub, Int32.toInt_mul, Int32.toInt_toInt64, Int64.toInt_add, z_m1, Int32.reduceToInt, Int64.reduceToInt, Int32.reduceToNatClampNeg, Int.bmod_def] at i_24)
      refine vB (v_X8_areMany x0_21 p_jS_21) (fun e_35 f_35 q_35 => ?_)
      have k_35 : ∀ a j, ¬ WM_X8_chance P a j → e_35.2 a j = M0 a j := fun a j h => (q_35.1 a j (wz_M_X8_areMany_X8_chance h)).trans (k_21 a j h)
      have b_35 := q_35.2.1
      have c7_35 : Int32.toInt (e_35.2 P 7) = Int32.toInt (e_21.2 P 7) := congrArg Int32.toInt (q_35.1 P 7 (wc_X8_areMany_7))
      have c8_35 : Int32.toInt (e_35.2 P 8) = Int32.toInt (e_21.2 P 8) := congrArg Int32.toInt (q_35.1 P 8 (wc_X8_areMany_8))
      have n_35 : nA P e_35.2 = nA P e_21.2 := nA_congr (fun a j h => q_35.1 a j (wf_nA_X8_areMany h))
      have p_jS_35 : jS P e_35.2 := jS.mono p_jS_21 (fun a j h => q_35.1 a j (wf_jS_X8_areMany h))
      obtain ⟨u0_jS_35, u1_jS_35, u2_jS_35, u3_jS_35, u4_jS_35, u5_jS_35, u6_jS_35, u7_jS_35⟩ := jS.ints p_jS_35
      have p_jR_35 : jR P e_35.2 := jR.mono p_jR_21 (fun a j h => q_35.1 a j (wf_jR_X8_areMany h))
      have p_jK_35 : jK P e_35.2 := jK.mono p_jK_21 (fun a j h => q_35.1 a j (wf_jK_X8_areMany h))
      have p_jT_35 : jT P e_35.2 := jT.mono p_jT_21 (fun a j h => q_35.1 a j (wf_jT_X8_areMany h))
      obtain ⟨u0_jT_35, u1_jT_35, u2_jT_35, u3_jT_35, u4_jT_35, u5_jT_35⟩ := id p_jT_35
      obtain ⟨x0_35, x1_35, x2_35, x3_35, x4_35⟩ := q_35.2.2
      obtain ⟨u0_jB_35, u1_jB_35, u2_jB_35, u3_jB_35, u4_jB_35, u5_jB_35⟩ := id x0_35
      (try simp only [Int32.toInt_add, Int32.toInt_sub, Int32.toInt_mul, Int32.toInt_toInt64, Int64.toInt_add, z_m1, Int32.reduceToInt, Int64.reduceToInt, Int32.reduceToNatClampNeg, Int.bmod_def] at x3_35)
      (try simp only [Int32.toInt_add, Int32.toInt_sub, Int32.toInt_mul, Int32.toInt_toInt64, Int64.toInt_add, z_m1, Int32.reduceToInt, Int64.reduceToInt, Int32.reduceToNatClampNeg, Int.bmod_def] at x4_35)
      refine vIf (fun h_38 => ?_) (fun h_38 => ?_)
      · have i_38 := congrArg Int32.toInt h_38
        (try simp only [Int32.toInt_add, Int32.toInt_sub, Int32.toInt_mul, Int32.toInt_toInt64, Int64.toInt_add, z_m1, Int32.reduceToInt, Int64.reduceToInt, Int32.reduceToNatClampNeg, Int.bmod_def] at i_38)
        refine vB (v_X8_laysAll x0_35 p_jS_35 p_jR_35 (by first | omega | (simp only [Int32.toInt_add, Int32.toInt_sub, Int32.toInt_mul, Int32.toInt_toInt64, Int64.toInt_add, z_m1, Int32.reduceToInt, Int64.reduceToInt, Int32.reduceToNatClampNeg, Int.bmod_def, or_true, true_or, and_true, true_and] <;> omega))) (fun e_49 f_49 q_49 => ?_)
        have k_49 : ∀ a j, ¬ WM_X8_chance P a j → e_49.1 a j = M0 a j := fun a j h => (q_49.1 a j (wz_M_X8_laysAll_X8_chance h)).trans (k_35 a j h)
        have kn_49 : ∀ a j, ¬ WN_X8_chance P a j → e_49.2 a j = N0 a j := fun a j h => (q_49.2.1 a j (wz_N_X8_laysAll_X8_chance h))
        have c7_49 : Int32.toInt (e_49.1 P 7) = Int32.toInt (e_35.2 P 7) := congrArg Int32.toInt (q_49.1 P 7 (wc_X8_laysAll_7))
        have c8_49 : Int32.toInt (e_49.1 P 8) = Int32.toInt (e_35.2 P 8) := congrArg Int32.toInt (q_49.1 P 8 (wc_X8_laysAll_8))
        have n_49 : nA P e_49.1 = nA P e_35.2 := nA_congr (fun a j h => q_49.1 a j (wf_nA_X8_laysAll h))
        have p_jS_49 : jS P e_49.1 := jS.mono p_jS_35 (fun a j h => q_49.1 a j (wf_jS_X8_laysAll h))
        obtain ⟨u0_jS_49, u1_jS_49, u2_jS_49, u3_jS_49, u4_jS_49, u5_jS_49, u6_jS_49, u7_jS_49⟩ := jS.ints p_jS_49
        have p_jK_49 : jK P e_49.1 := jK.mono p_jK_35 (fun a j h => q_49.1 a j (wf_jK_X8_laysAll h))
        have p_jT_49 : jT P e_49.1 := jT.mono p_jT_35 (fun a j h => q_49.1 a j (wf_jT_X8_laysAll h))
        obtain ⟨u0_jT_49, u1_jT_49, u2_jT_49, u3_jT_49, u4_jT_49, u5_jT_49⟩ := id p_jT_49
        obtain ⟨x0_49, x1_49, x2_49, x3_49, x4_49⟩ := q_49.2.2
        obtain ⟨u0_jB_49, u1_jB_49, u2_jB_49, u3_jB_49, u4_jB_49, u5_jB_49⟩ := id x0_49
        (try simp only [Int32.toInt_add, Int32.toInt_sub, Int32.toInt_mul, Int32.toInt_toInt64, Int64.toInt_add, z_m1, Int32.reduceToInt, Int64.reduceToInt, Int32.reduceToNatClampNeg, Int.bmod_def] at x4_49)
        refine vIf (fun h_54 => ?_) (fun h_54 => ?_)
        · have i_54 := congrArg Int32.toInt h_54
          (try simp only [Int32.toInt_add, Int32.toInt_sub, Int32.toInt_mul, Int32.toInt_toInt64, Int64.toInt_add, z_m1, Int32.reduceToInt, Int64.reduceToInt, Int32.reduceToNatClampNeg, Int.bmod_def] at i_54)
          refine vB (v_X8_chanceOf x0_49 (by first | omega | (simp only [Int32.toInt_add, Int32.toInt_sub, Int32.toInt_mul, Int32.toInt_toInt64, Int64.toInt_add, z_m1, Int32.reduceToInt, Int64.reduceToInt, Int32.reduceToNatClampNeg, Int.bmod_def, or_true, true_or, and_true, true_and] <;> omega)) (by first | omega | (simp only [Int32.toInt_add, Int32.toInt_sub, Int32.toInt_mul, Int32.toInt_toInt64, Int64.toInt_add, z_m1, Int32.reduceToInt, Int64.reduceToInt, Int32.reduceToNatClampNeg, Int.bmod_def, or_true, true_or, and_true, true_and] <;> omega))) (fun e_59 f_59 q_59 => ?_)
          exact T_85 _ _ _ k_49 kn_49 x0_49 x2_49 p_jK_49 x1_49 x3_49 p_jS_49 p_jT_49
        · have i_54 : ¬ Int32.toInt v1 = Int32.toInt (0 : Int32) := fun q => h_54 (Int32.toInt_inj.mp q)
          (try simp only [Int32.toInt_add, Int32.toInt_sub, Int32.toInt_mul, Int32.toInt_toInt64, Int64.toInt_add, z_m1, Int32.reduceToInt, Int64.reduceToInt, Int32.reduceToNatClampNeg, Int.bmod_def] at i_54)
          refine vIf (fun h_67 => ?_) (fun h_67 => ?_)
          · have i_67 := congrArg Int32.toInt h_67
            (try simp only [Int32.toInt_add, Int32.toInt_sub, Int32.toInt_mul, Int32.toInt_toInt64, Int64.toInt_add, z_m1, Int32.reduceToInt, Int64.reduceToInt, Int32.reduceToNatClampNeg, Int.bmod_def] at i_67)
            refine vI (vp_of (by first | omega | (simp only [Int32.toInt_add, Int32.toInt_sub, Int32.toInt_mul, Int32.toInt_toInt64, Int64.toInt_add, z_m1, Int32.reduceToInt, Int64.reduceToInt, Int32.reduceToNatClampNeg, Int.bmod_def, or_true, true_or, and_true, true_and] <;> omega)) (by first | omega | (simp only [Int32.toInt_add, Int32.toInt_sub, Int32.toInt_mul, Int32.toInt_toInt64, Int64.toInt_add, z_m1, Int32.reduceToInt, Int64.reduceToInt, Int32.reduceToNatClampNeg, Int.bmod_def, or_true, true_or, and_true, true_and] <;> omega))) ?_
            exact T_85 _ _ _ k_49 kn_49 x0_49 x2_49 p_jK_49 x1_49 x3_49 p_jS_49 p_jT_49
          · have i_67 : ¬ Int32.toInt v1 = Int32.toInt (1 : Int32) := fun q => h_67 (Int32.toInt_inj.mp q)
            (try simp only [Int32.toInt_add, Int32.toInt_sub, Int32.toInt_mul, Int32.toInt_toInt64, Int64.toInt_add, z_m1, Int32.reduceToInt, Int64.reduceToInt, Int32.reduceToNatClampNeg, Int.bmod_def] at i_67)
            refine vI (vp_of (by first | omega | (simp only [Int32.toInt_add, Int32.toInt_sub, Int32.toInt_mul, Int32.toInt_toInt64, Int64.toInt_add, z_m1, Int32.reduceToInt, Int64.reduceToInt, Int32.reduceToNatClampNeg, Int.bmod_def, or_true, true_or, and_true, true_and] <;> omega)) (by first | omega | (simp only [Int32.toInt_add, Int32.toInt_sub, Int32.toInt_mul, Int32.toInt_toInt64, Int64.toInt_add, z_m1, Int32.reduceToInt, Int64.reduceToInt, Int32.reduceToNatClampNeg, Int.bmod_def, or_true, true_or, and_true, true_and] <;> omega))) ?_
            exact T_85 _ _ _ k_49 kn_49 x0_49 x2_49 p_jK_49 x1_49 x3_49 p_jS_49 p_jT_49
      · have i_38 : ¬ Int32.toInt e_35.1 = Int32.toInt (0 : Int32) := fun q => h_38 (Int32.toInt_inj.mp q)
        (try simp only [Int32.toInt_add, Int32.toInt_sub, Int32.toInt_mul, Int32.toInt_toInt64, Int64.toInt_add, z_m1, Int32.reduceToInt, Int64.reduceToInt, Int32.reduceToNatClampNeg, Int.bmod_def] at i_38)
        refine vB (v_X8_refuse) (fun e_43 f_43 q_43 => ?_)
        have k_43 : ∀ a j, ¬ WM_X8_chance P a j → e_43.2 a j = M0 a j := fun a j h => (q_43 a j (wz_M_X8_refuse_X8_chance h)).trans (k_35 a j h)
        have c7_43 : Int32.toInt (e_43.2 P 7) = Int32.toInt (e_35.2 P 7) := congrArg Int32.toInt (q_43 P 7 (wc_X8_refuse_7))
        have c8_43 : Int32.toInt (e_43.2 P 8) = Int32.toInt (e_35.2 P 8) := congrArg Int32.toInt (q_43 P 8 (wc_X8_refuse_8))
        have c33_43 : Int32.toInt (e_43.2 P 33) = Int32.toInt (e_35.2 P 33) := congrArg Int32.toInt (q_43 P 33 (wc_X8_refuse_33))
        have n_43 : nA P e_43.2 = nA P e_35.2 := nA_congr (fun a j h => q_43 a j (wf_nA_X8_refuse h))
        have p_jS_43 : jS P e_43.2 := jS.mono p_jS_35 (fun a j h => q_43 a j (wf_jS_X8_refuse h))
        obtain ⟨u0_jS_43, u1_jS_43, u2_jS_43, u3_jS_43, u4_jS_43, u5_jS_43, u6_jS_43, u7_jS_43⟩ := jS.ints p_jS_43
        have p_jR_43 : jR P e_43.2 := jR.mono p_jR_35 (fun a j h => q_43 a j (wf_jR_X8_refuse h))
        have p_jK_43 : jK P e_43.2 := jK.mono p_jK_35 (fun a j h => q_43 a j (wf_jK_X8_refuse h))
        have p_jT_43 : jT P e_43.2 := jT.mono p_jT_35 (fun a j h => q_43 a j (wf_jT_X8_refuse h))
        obtain ⟨u0_jT_43, u1_jT_43, u2_jT_43, u3_jT_43, u4_jT_43, u5_jT_43⟩ := id p_jT_43
        have p_jB_43 : jB P e_43.2 := jB.mono x0_35 (fun a j h => q_43 a j (wf_jB_X8_refuse h))
        obtain ⟨u0_jB_43, u1_jB_43, u2_jB_43, u3_jB_43, u4_jB_43, u5_jB_43⟩ := id p_jB_43
        have p_jL_43 : jL P e_43.2 := jL.mono x1_35 (fun a j h => q_43 a j (wf_jL_X8_refuse h))
        have p_jH_43 : jH P e_43.2 := jH.mono x2_35 (fun a j h => q_43 a j (wf_jH_X8_refuse h))
        exact ⟨_, rfl, k_43, (fun _ _ _ => rfl), ⟨p_jB_43, p_jS_43, p_jR_43, p_jK_43, p_jT_43⟩⟩
def WM_X8_at (P : Nat) (a j : Nat) : Prop := (P + 11 ≤ a ∧ a < P + 23) ∨ (P + 29 ≤ a ∧ a < P + 30) ∨ (a = P ∧ (j = 6 ∨ j = 12 ∨ j = 33 ∨ j = 54 ∨ j = 55 ∨ j = 56 ∨ j = 57))
def WN_X8_at (P : Nat) (a j : Nat) : Prop := (P + 24 ≤ a ∧ a < P + 29) ∨ (a = P ∧ (j = 59))
theorem wz_M_X8_refuse_X8_at {P a j : Nat} (h : ¬ WM_X8_at P a j) : ¬ WM_X8_refuse P a j := by unfold WM_X8_refuse; unfold WM_X8_at at h; omega
theorem wz_M_X8_isApplicant_X8_at {P a j : Nat} (h : ¬ WM_X8_at P a j) : ¬ WM_X8_isApplicant P a j := by unfold WM_X8_isApplicant; unfold WM_X8_at at h; omega
theorem wz_M_X8_areMany_X8_at {P a j : Nat} (h : ¬ WM_X8_at P a j) : ¬ WM_X8_areMany P a j := by unfold WM_X8_areMany; unfold WM_X8_at at h; omega
theorem wz_M_X8_laysAll_X8_at {P a j : Nat} (h : ¬ WM_X8_at P a j) : ¬ WM_X8_laysAll P a j := by unfold WM_X8_laysAll; unfold WM_X8_at at h; omega
theorem wz_N_X8_laysAll_X8_at {P a j : Nat} (h : ¬ WN_X8_at P a j) : ¬ WN_X8_laysAll P a j := by unfold WN_X8_laysAll; unfold WN_X8_at at h; omega
theorem wz_M_X8_givesLong_X8_at {P a j : Nat} (h : ¬ WM_X8_at P a j) : ¬ WM_X8_givesLong P a j := by unfold WM_X8_givesLong; unfold WM_X8_at at h; omega
set_option maxRecDepth 100000 in
set_option maxHeartbeats 4000000 in
theorem v_X8_at {P : Nat} {v0 : Int32} {v1 : Int32} {M0 : zMt} {N0 : zNt}  (p_jB : jB P M0) (p_jS : jS P M0) (p_jR : jR P M0) (p_jK : jK P M0) (p_jT : jT P M0) : ∃ r, D_X8_at P v0 v1 M0 N0 = some r ∧ ((∀ a j, ¬ WM_X8_at P a j → r.2.1 a j = M0 a j) ∧ (∀ a j, ¬ WN_X8_at P a j → r.2.2 a j = N0 a j) ∧ ((jB P r.2.1) ∧ (jS P r.2.1) ∧ (jR P r.2.1) ∧ (jK P r.2.1) ∧ (jT P r.2.1))) := by
  obtain ⟨u0_jB, u1_jB, u2_jB, u3_jB, u4_jB, u5_jB⟩ := id p_jB
  obtain ⟨u0_jS, u1_jS, u2_jS, u3_jS, u4_jS, u5_jS, u6_jS, u7_jS⟩ := jS.ints p_jS
  obtain ⟨u0_jT, u1_jT, u2_jT, u3_jT, u4_jT, u5_jT⟩ := id p_jT
  have T_16 : ∀ (M_16 : zMt) (N_16 : zNt), (∀ a j, ¬ WM_X8_at P a j → M_16 a j = M0 a j) → (∀ a j, ¬ WN_X8_at P a j → N_16 a j = N0 a j) → (jB P M_16) → (jH P M_16) → (jK P M_16) → (jL P M_16) → (jR P M_16) → (jS P M_16) → (jT P M_16) → ∃ r, D_X8_at_16 P M_16 N_16 = some r ∧ ((∀ a j, ¬ WM_X8_at P a j → r.2.1 a j = M0 a j) ∧ (∀ a j, ¬ WN_X8_at P a j → r.2.2 a j = N0 a j) ∧ ((jB P r.2.1) ∧ (jS P r.2.1) ∧ (jR P r.2.1) ∧ (jK P r.2.1) ∧ (jT P r.2.1))) := by
    intro M_16 N_16 k_16 kn_16 p_jB_16 p_jH_16 p_jK_16 p_jL_16 p_jR_16 p_jS_16 p_jT_16
    obtain ⟨u0_jB_16, u1_jB_16, u2_jB_16, u3_jB_16, u4_jB_16, u5_jB_16⟩ := id p_jB_16
    obtain ⟨u0_jS_16, u1_jS_16, u2_jS_16, u3_jS_16, u4_jS_16, u5_jS_16, u6_jS_16, u7_jS_16⟩ := jS.ints p_jS_16
    obtain ⟨u0_jT_16, u1_jT_16, u2_jT_16, u3_jT_16, u4_jT_16, u5_jT_16⟩ := id p_jT_16
    unfold D_X8_at_16
    refine vB (v_X8_refuse) (fun e_18 f_18 q_18 => ?_)
    have k_18 : ∀ a j, ¬ WM_X8_at P a j → e_18.2 a j = M0 a j := fun a j h => (q_18 a j (wz_M_X8_refuse_X8_at h)).trans (k_16 a j h)
    have c7_18 : Int32.toInt (e_18.2 P 7) = Int32.toInt (M_16 P 7) := congrArg Int32.toInt (q_18 P 7 (wc_X8_refuse_7))
    have c8_18 : Int32.toInt (e_18.2 P 8) = Int32.toInt (M_16 P 8) := congrArg Int32.toInt (q_18 P 8 (wc_X8_refuse_8))
    have c33_18 : Int32.toInt (e_18.2 P 33) = Int32.toInt (M_16 P 33) := congrArg Int32.toInt (q_18 P 33 (wc_X8_refuse_33))
    have n_18 : nA P e_18.2 = nA P M_16 := nA_congr (fun a j h => q_18 a j (wf_nA_X8_refuse h))
    have p_jB_18 : jB P e_18.2 := jB.mono p_jB_16 (fun a j h => q_18 a j (wf_jB_X8_refuse h))
    obtain ⟨u0_jB_18, u1_jB_18, u2_jB_18, u3_jB_18, u4_jB_18, u5_jB_18⟩ := id p_jB_18
    have p_jH_18 : jH P e_18.2 := jH.mono p_jH_16 (fun a j h => q_18 a j (wf_jH_X8_refuse h))
    have p_jK_18 : jK P e_18.2 := jK.mono p_jK_16 (fun a j h => q_18 a j (wf_jK_X8_refuse h))
    have p_jL_18 : jL P e_18.2 := jL.mono p_jL_16 (fun a j h => q_18 a j (wf_jL_X8_refuse h))
    have p_jR_18 : jR P e_18.2 := jR.mono p_jR_16 (fun a j h => q_18 a j (wf_jR_X8_refuse h))
    have p_jS_18 : jS P e_18.2 := jS.mono p_jS_16 (fun a j h => q_18 a j (wf_jS_X8_refuse h))
    obtain ⟨u0_jS_18, u1_jS_18, u2_jS_18, u3_jS_18, u4_jS_18, u5_jS_18, u6_jS_18, u7_jS_18⟩ := jS.ints p_jS_18
    have p_jT_18 : jT P e_18.2 := jT.mono p_jT_16 (fun a j h => q_18 a j (wf_jT_X8_refuse h))
    obtain ⟨u0_jT_18, u1_jT_18, u2_jT_18, u3_jT_18, u4_jT_18, u5_jT_18⟩ := id p_jT_18
    exact ⟨_, rfl, k_18, kn_16, ⟨p_jB_18, p_jS_18, p_jR_18, p_jK_18, p_jT_18⟩⟩
  unfold D_X8_at
  refine vB (v_X8_isApplicant p_jB p_jS) (fun e_2 f_2 q_2 => ?_)
  have k_2 : ∀ a j, ¬ WM_X8_at P a j → e_2.2 a j = M0 a j := fun a j h => (q_2.1 a j (wz_M_X8_isApplicant_X8_at h))
  have b_2 := q_2.2.1
  have c7_2 : Int32.toInt (e_2.2 P 7) = Int32.toInt (M0 P 7) := congrArg Int32.toInt (q_2.1 P 7 (wc_X8_isApplicant_7))
  have c8_2 : Int32.toInt (e_2.2 P 8) = Int32.toInt (M0 P 8) := congrArg Int32.toInt (q_2.1 P 8 (wc_X8_isApplicant_8))
  have n_2 : nA P e_2.2 = nA P M0 := nA_congr (fun a j h => q_2.1 a j (wf_nA_X8_isApplicant h))
  have p_jS_2 : jS P e_2.2 := jS.mono p_jS (fun a j h => q_2.1 a j (wf_jS_X8_isApplicant h))
  obtain ⟨u0_jS_2, u1_jS_2, u2_jS_2, u3_jS_2, u4_jS_2, u5_jS_2, u6_jS_2, u7_jS_2⟩ := jS.ints p_jS_2
  have p_jR_2 : jR P e_2.2 := jR.mono p_jR (fun a j h => q_2.1 a j (wf_jR_X8_isApplicant h))
  have p_jK_2 : jK P e_2.2 := jK.mono p_jK (fun a j h => q_2.1 a j (wf_jK_X8_isApplicant h))
  have p_jT_2 : jT P e_2.2 := jT.mono p_jT (fun a j h => q_2.1 a j (wf_jT_X8_isApplicant h))
  obtain ⟨u0_jT_2, u1_jT_2, u2_jT_2, u3_jT_2, u4_jT_2, u5_jT_2⟩ := id p_jT_2
  obtain ⟨x0_2, x1_2, x2_2, x3_2, x4_2⟩ := q_2.2.2
  obtain ⟨u0_jB_2, u1_jB_2, u2_jB_2, u3_jB_2, u4_jB_2, u5_jB_2⟩ := id x0_2
  (try simp only [Int32.toInt_add, Int32.toInt_sub, Int32.toInt_mul, Int32.toInt_toInt64, Int64.toInt_add, z_m1, Int32.reduceToInt, Int64.reduceToInt, Int32.reduceToNatClampNeg, Int.bmod_def] at x3_2)
  (try simp only [Int32.toInt_add, Int32.toInt_sub, Int32.toInt_mul, Int32.toInt_toInt64, Int64.toInt_add, z_m1, Int32.reduceToInt, Int64.reduceToInt, Int32.reduceToNatClampNeg, Int.bmod_def] at x4_2)
  refine vIf (fun h_5 => ?_) (fun h_5 => ?_)
  · have i_5 := congrArg Int32.toInt h_5
    (try simp only [Int32.toInt_add, Int32.toInt_sub, Int32.toInt_mul, Int32.toInt_toInt64, Int64.toInt_add, z_m1, Int32.reduceToInt, Int64.reduceToInt, Int32.reduceToNatClampNeg, Int.bmod_def] at i_5)
    exact T_16 _ _ k_2 (fun _ _ _ => rfl) x0_2 x2_2 p_jK_2 x1_2 p_jR_2 p_jS_2 p_jT_2
  · have i_5 : ¬ Int32.toInt e_2.1 = Int32.toInt (0 : Int32) := fun q => h_5 (Int32.toInt_inj.mp q)
    (try simp only [Int32.toInt_add, Int32.toInt_sub, Int32.toInt_mul, Int32.toInt_toInt64, Int64.toInt_add, z_m1, Int32.reduceToInt, Int64.reduceToInt, Int32.reduceToNatClampNeg, Int.bmod_def] at i_5)
    refine vB (v_X8_isUnit x0_2) (fun e_10 f_10 q_10 => ?_)
    have b_10 := q_10.1
    have x0_10 := q_10.2
    (try simp only [Int32.toInt_add, Int32.toInt_sub, Int32.toInt_mul, Int32.toInt_toInt64, Int64.toInt_add, z_m1, Int32.reduceToInt, Int64.reduceToInt, Int32.reduceToNatClampNeg, Int.bmod_def] at x0_10)
    refine vIf (fun h_13 => ?_) (fun h_13 => ?_)
    · have i_13 := congrArg Int32.toInt h_13
      (try simp only [Int32.toInt_add, Int32.toInt_sub, Int32.toInt_mul, Int32.toInt_toInt64, Int64.toInt_add, z_m1, Int32.reduceToInt, Int64.reduceToInt, Int32.reduceToNatClampNeg, Int.bmod_def] at i_13)
      exact T_16 _ _ k_2 (fun _ _ _ => rfl) x0_2 x2_2 p_jK_2 x1_2 p_jR_2 p_jS_2 p_jT_2
    · have i_13 : ¬ Int32.toInt e_10 = Int32.toInt (0 : Int32) := fun q => h_13 (Int32.toInt_inj.mp q)
      (try simp only [Int32.toInt_add, Int32.toInt_sub, Int32.toInt_mul, Int32.toInt_toInt64, Int64.toInt_add, z_m1, Int32.reduceToInt, Int64.reduceToInt, Int32.reduceToNatClampNeg, Int.bmod_def] at i_13)
      refine vB (v_X8_areMany x0_2 p_jS_2) (fun e_24 f_24 q_24 => ?_)
      have k_24 : ∀ a j, ¬ WM_X8_at P a j → e_24.2 a j = M0 a j := fun a j h => (q_24.1 a j (wz_M_X8_areMany_X8_at h)).trans (k_2 a j h)
      have b_24 := q_24.2.1
      have c7_24 : Int32.toInt (e_24.2 P 7) = Int32.toInt (e_2.2 P 7) := congrArg Int32.toInt (q_24.1 P 7 (wc_X8_areMany_7))
      have c8_24 : Int32.toInt (e_24.2 P 8) = Int32.toInt (e_2.2 P 8) := congrArg Int32.toInt (q_24.1 P 8 (wc_X8_areMany_8))
      have n_24 : nA P e_24.2 = nA P e_2.2 := nA_congr (fun a j h => q_24.1 a j (wf_nA_X8_areMany h))
      have p_jS_24 : jS P e_24.2 := jS.mono p_jS_2 (fun a j h => q_24.1 a j (wf_jS_X8_areMany h))
      obtain ⟨u0_jS_24, u1_jS_24, u2_jS_24, u3_jS_24, u4_jS_24, u5_jS_24, u6_jS_24, u7_jS_24⟩ := jS.ints p_jS_24
      have p_jR_24 : jR P e_24.2 := jR.mono p_jR_2 (fun a j h => q_24.1 a j (wf_jR_X8_areMany h))
      have p_jK_24 : jK P e_24.2 := jK.mono p_jK_2 (fun a j h => q_24.1 a j (wf_jK_X8_areMany h))
      have p_jT_24 : jT P e_24.2 := jT.mono p_jT_2 (fun a j h => q_24.1 a j (wf_jT_X8_areMany h))
      obtain ⟨u0_jT_24, u1_jT_24, u2_jT_24, u3_jT_24, u4_jT_24, u5_jT_24⟩ := id p_jT_24
      obtain ⟨x0_24, x1_24, x2_24, x3_24, x4_24⟩ := q_24.2.2
      obtain ⟨u0_jB_24, u1_jB_24, u2_jB_24, u3_jB_24, u4_jB_24, u5_jB_24⟩ := id x0_24
      (try simp only [Int32.toInt_add, Int32.toInt_sub, Int32.toInt_mul, Int32.toInt_toInt64, Int64.toInt_add, z_m1, Int32.reduceToInt, Int64.reduceToInt, Int32.reduceToNatClampNeg, Int.bmod_def] at x3_24)
      (try simp only [Int32.toInt_add, Int32.toInt_sub, Int32.toInt_mul, Int32.toInt_toInt64, Int64.toInt_add, z_m1, Int32.reduceToInt, Int64.reduceToInt, Int32.reduceToNatClampNeg, Int.bmod_def] at x4_24)
      refine vIf (fun h_27 => ?_) (fun h_27 => ?_)
      · have i_27 := congrArg Int32.toInt h_27
        (try simp only [Int32.toInt_add, Int32.toInt_sub, Int32.toInt_mul, Int32.toInt_toInt64, Int64.toInt_add, z_m1, Int32.reduceToInt, Int64.reduceToInt, Int32.reduceToNatClampNeg, Int.bmod_def] at i_27)
        refine vB (v_X8_laysAll x0_24 p_jS_24 p_jR_24 (by first | omega | (simp only [Int32.toInt_add, Int32.toInt_sub, Int32.toInt_mul, Int32.toInt_toInt64, Int64.toInt_add, z_m1, Int32.reduceToInt, Int64.reduceToInt, Int32.reduceToNatClampNeg, Int.bmod_def, or_true, true_or, and_true, true_and] <;> omega))) (fun e_38 f_38 q_38 => ?_)
        have k_38 : ∀ a j, ¬ WM_X8_at P a j → e_38.1 a j = M0 a j := fun a j h => (q_38.1 a j (wz_M_X8_laysAll_X8_at h)).trans (k_24 a j h)
        have kn_38 : ∀ a j, ¬ WN_X8_at P a j → e_38.2 a j = N0 a j := fun a j h => (q_38.2.1 a j (wz_N_X8_laysAll_X8_at h))
        have c7_38 : Int32.toInt (e_38.1 P 7) = Int32.toInt (e_24.2 P 7) := congrArg Int32.toInt (q_38.1 P 7 (wc_X8_laysAll_7))
        have c8_38 : Int32.toInt (e_38.1 P 8) = Int32.toInt (e_24.2 P 8) := congrArg Int32.toInt (q_38.1 P 8 (wc_X8_laysAll_8))
        have n_38 : nA P e_38.1 = nA P e_24.2 := nA_congr (fun a j h => q_38.1 a j (wf_nA_X8_laysAll h))
        have p_jS_38 : jS P e_38.1 := jS.mono p_jS_24 (fun a j h => q_38.1 a j (wf_jS_X8_laysAll h))
        obtain ⟨u0_jS_38, u1_jS_38, u2_jS_38, u3_jS_38, u4_jS_38, u5_jS_38, u6_jS_38, u7_jS_38⟩ := jS.ints p_jS_38
        have p_jK_38 : jK P e_38.1 := jK.mono p_jK_24 (fun a j h => q_38.1 a j (wf_jK_X8_laysAll h))
        have p_jT_38 : jT P e_38.1 := jT.mono p_jT_24 (fun a j h => q_38.1 a j (wf_jT_X8_laysAll h))
        obtain ⟨u0_jT_38, u1_jT_38, u2_jT_38, u3_jT_38, u4_jT_38, u5_jT_38⟩ := id p_jT_38
        obtain ⟨x0_38, x1_38, x2_38, x3_38, x4_38⟩ := q_38.2.2
        obtain ⟨u0_jB_38, u1_jB_38, u2_jB_38, u3_jB_38, u4_jB_38, u5_jB_38⟩ := id x0_38
        (try simp only [Int32.toInt_add, Int32.toInt_sub, Int32.toInt_mul, Int32.toInt_toInt64, Int64.toInt_add, z_m1, Int32.reduceToInt, Int64.reduceToInt, Int32.reduceToNatClampNeg, Int.bmod_def] at x4_38)
        have th_51_0 : Int32.toInt ((5 : Int32) * v0) = Int32.toInt (5 : Int32) * Int32.toInt v0 := z_mul (by first | omega | (simp only [Int32.toInt_add, Int32.toInt_sub, Int32.toInt_mul, Int32.toInt_toInt64, Int64.toInt_add, z_m1, Int32.reduceToInt, Int64.reduceToInt, Int32.reduceToNatClampNeg, Int.bmod_def, or_true, true_or, and_true, true_and] <;> omega)) (by first | omega | (simp only [Int32.toInt_add, Int32.toInt_sub, Int32.toInt_mul, Int32.toInt_toInt64, Int64.toInt_add, z_m1, Int32.reduceToInt, Int64.reduceToInt, Int32.reduceToNatClampNeg, Int.bmod_def, or_true, true_or, and_true, true_and] <;> omega))
        (try simp only [Int32.reduceToInt, z_m1] at th_51_0)
        have th_51_2 : Int32.toInt (((5 : Int32) * v0) + v1) = Int32.toInt ((5 : Int32) * v0) + Int32.toInt v1 := z_add (by first | omega | (simp only [Int32.toInt_add, Int32.toInt_sub, Int32.toInt_mul, Int32.toInt_toInt64, Int64.toInt_add, z_m1, Int32.reduceToInt, Int64.reduceToInt, Int32.reduceToNatClampNeg, Int.bmod_def, or_true, true_or, and_true, true_and] <;> omega)) (by first | omega | (simp only [Int32.toInt_add, Int32.toInt_sub, Int32.toInt_mul, Int32.toInt_toInt64, Int64.toInt_add, z_m1, Int32.reduceToInt, Int64.reduceToInt, Int32.reduceToNatClampNeg, Int.bmod_def, or_true, true_or, and_true, true_and] <;> omega))
        (try simp only [Int32.reduceToInt, z_m1] at th_51_2)
        refine vI (vp_of (by first | omega | (simp only [Int32.toInt_add, Int32.toInt_sub, Int32.toInt_mul, Int32.toInt_toInt64, Int64.toInt_add, z_m1, Int32.reduceToInt, Int64.reduceToInt, Int32.reduceToNatClampNeg, Int.bmod_def, or_true, true_or, and_true, true_and] <;> omega)) (by first | omega | (simp only [Int32.toInt_add, Int32.toInt_sub, Int32.toInt_mul, Int32.toInt_toInt64, Int64.toInt_add, z_m1, Int32.reduceToInt, Int64.reduceToInt, Int32.reduceToNatClampNeg, Int.bmod_def, or_true, true_or, and_true, true_and] <;> omega))) ?_
        refine vB (v_X8_givesLong) (fun e_52 f_52 q_52 => ?_)
        have k_52 : ∀ a j, ¬ WM_X8_at P a j → e_52.2 a j = M0 a j := fun a j h => (q_52 a j (wz_M_X8_givesLong_X8_at h)).trans (k_38 a j h)
        have c7_52 : Int32.toInt (e_52.2 P 7) = Int32.toInt (e_38.1 P 7) := congrArg Int32.toInt (q_52 P 7 (wc_X8_givesLong_7))
        have c8_52 : Int32.toInt (e_52.2 P 8) = Int32.toInt (e_38.1 P 8) := congrArg Int32.toInt (q_52 P 8 (wc_X8_givesLong_8))
        have c33_52 : Int32.toInt (e_52.2 P 33) = Int32.toInt (e_38.1 P 33) := congrArg Int32.toInt (q_52 P 33 (wc_X8_givesLong_33))
        have n_52 : nA P e_52.2 = nA P e_38.1 := nA_congr (fun a j h => q_52 a j (wf_nA_X8_givesLong h))
        have p_jS_52 : jS P e_52.2 := jS.mono p_jS_38 (fun a j h => q_52 a j (wf_jS_X8_givesLong h))
        obtain ⟨u0_jS_52, u1_jS_52, u2_jS_52, u3_jS_52, u4_jS_52, u5_jS_52, u6_jS_52, u7_jS_52⟩ := jS.ints p_jS_52
        have p_jK_52 : jK P e_52.2 := jK.mono p_jK_38 (fun a j h => q_52 a j (wf_jK_X8_givesLong h))
        have p_jT_52 : jT P e_52.2 := jT.mono p_jT_38 (fun a j h => q_52 a j (wf_jT_X8_givesLong h))
        obtain ⟨u0_jT_52, u1_jT_52, u2_jT_52, u3_jT_52, u4_jT_52, u5_jT_52⟩ := id p_jT_52
        have p_jB_52 : jB P e_52.2 := jB.mono x0_38 (fun a j h => q_52 a j (wf_jB_X8_givesLong h))
        obtain ⟨u0_jB_52, u1_jB_52, u2_jB_52, u3_jB_52, u4_jB_52, u5_jB_52⟩ := id p_jB_52
        have p_jL_52 : jL P e_52.2 := jL.mono x1_38 (fun a j h => q_52 a j (wf_jL_X8_givesLong h))
        have p_jH_52 : jH P e_52.2 := jH.mono x2_38 (fun a j h => q_52 a j (wf_jH_X8_givesLong h))
        have p_jR_52 : jR P e_52.2 := jR.mono x3_38 (fun a j h => q_52 a j (wf_jR_X8_givesLong h))
        exact ⟨_, rfl, k_52, kn_38, ⟨p_jB_52, p_jS_52, p_jR_52, p_jK_52, p_jT_52⟩⟩
      · have i_27 : ¬ Int32.toInt e_24.1 = Int32.toInt (0 : Int32) := fun q => h_27 (Int32.toInt_inj.mp q)
        (try simp only [Int32.toInt_add, Int32.toInt_sub, Int32.toInt_mul, Int32.toInt_toInt64, Int64.toInt_add, z_m1, Int32.reduceToInt, Int64.reduceToInt, Int32.reduceToNatClampNeg, Int.bmod_def] at i_27)
        refine vB (v_X8_refuse) (fun e_32 f_32 q_32 => ?_)
        have k_32 : ∀ a j, ¬ WM_X8_at P a j → e_32.2 a j = M0 a j := fun a j h => (q_32 a j (wz_M_X8_refuse_X8_at h)).trans (k_24 a j h)
        have c7_32 : Int32.toInt (e_32.2 P 7) = Int32.toInt (e_24.2 P 7) := congrArg Int32.toInt (q_32 P 7 (wc_X8_refuse_7))
        have c8_32 : Int32.toInt (e_32.2 P 8) = Int32.toInt (e_24.2 P 8) := congrArg Int32.toInt (q_32 P 8 (wc_X8_refuse_8))
        have c33_32 : Int32.toInt (e_32.2 P 33) = Int32.toInt (e_24.2 P 33) := congrArg Int32.toInt (q_32 P 33 (wc_X8_refuse_33))
        have n_32 : nA P e_32.2 = nA P e_24.2 := nA_congr (fun a j h => q_32 a j (wf_nA_X8_refuse h))
        have p_jS_32 : jS P e_32.2 := jS.mono p_jS_24 (fun a j h => q_32 a j (wf_jS_X8_refuse h))
        obtain ⟨u0_jS_32, u1_jS_32, u2_jS_32, u3_jS_32, u4_jS_32, u5_jS_32, u6_jS_32, u7_jS_32⟩ := jS.ints p_jS_32
        have p_jR_32 : jR P e_32.2 := jR.mono p_jR_24 (fun a j h => q_32 a j (wf_jR_X8_refuse h))
        have p_jK_32 : jK P e_32.2 := jK.mono p_jK_24 (fun a j h => q_32 a j (wf_jK_X8_refuse h))
        have p_jT_32 : jT P e_32.2 := jT.mono p_jT_24 (fun a j h => q_32 a j (wf_jT_X8_refuse h))
        obtain ⟨u0_jT_32, u1_jT_32, u2_jT_32, u3_jT_32, u4_jT_32, u5_jT_32⟩ := id p_jT_32
        have p_jB_32 : jB P e_32.2 := jB.mono x0_24 (fun a j h => q_32 a j (wf_jB_X8_refuse h))
        obtain ⟨u0_jB_32, u1_jB_32, u2_jB_32, u3_jB_32, u4_jB_32, u5_jB_32⟩ := id p_jB_32
        have p_jL_32 : jL P e_32.2 := jL.mono x1_24 (fun a j h => q_32 a j (wf_jL_X8_refuse h))
        have p_jH_32 : jH P e_32.2 := jH.mono x2_24 (fun a j h => q_32 a j (wf_jH_X8_refuse h))
        exact ⟨_, rfl, k_32, (fun _ _ _ => rfl), ⟨p_jB_32, p_jS_32, p_jR_32, p_jK_32, p_jT_32⟩⟩
def WM_X8_both (P : Nat) (a j : Nat) : Prop := (P + 11 ≤ a ∧ a < P + 23) ∨ (P + 29 ≤ a ∧ a < P + 30) ∨ (a = P ∧ (j = 6 ∨ j = 12 ∨ j = 33 ∨ j = 54 ∨ j = 55 ∨ j = 56 ∨ j = 57))
def WN_X8_both (P : Nat) (a j : Nat) : Prop := (P + 24 ≤ a ∧ a < P + 29) ∨ (a = P ∧ (j = 59))
theorem wz_M_X8_refuse_X8_both {P a j : Nat} (h : ¬ WM_X8_both P a j) : ¬ WM_X8_refuse P a j := by unfold WM_X8_refuse; unfold WM_X8_both at h; omega
theorem wz_M_X8_isApplicant_X8_both {P a j : Nat} (h : ¬ WM_X8_both P a j) : ¬ WM_X8_isApplicant P a j := by unfold WM_X8_isApplicant; unfold WM_X8_both at h; omega
theorem wz_M_X8_areMany_X8_both {P a j : Nat} (h : ¬ WM_X8_both P a j) : ¬ WM_X8_areMany P a j := by unfold WM_X8_areMany; unfold WM_X8_both at h; omega
theorem wz_M_X8_laysAll_X8_both {P a j : Nat} (h : ¬ WM_X8_both P a j) : ¬ WM_X8_laysAll P a j := by unfold WM_X8_laysAll; unfold WM_X8_both at h; omega
theorem wz_N_X8_laysAll_X8_both {P a j : Nat} (h : ¬ WN_X8_both P a j) : ¬ WN_X8_laysAll P a j := by unfold WN_X8_laysAll; unfold WN_X8_both at h; omega
theorem wz_M_X8_givesLong_X8_both {P a j : Nat} (h : ¬ WM_X8_both P a j) : ¬ WM_X8_givesLong P a j := by unfold WM_X8_givesLong; unfold WM_X8_both at h; omega
set_option maxRecDepth 100000 in
set_option maxHeartbeats 4000000 in
theorem v_X8_both {P : Nat} {v0 : Int32} {v1 : Int32} {M0 : zMt} {N0 : zNt}  (p_jB : jB P M0) (p_jS : jS P M0) (p_jR : jR P M0) (p_jK : jK P M0) (p_jT : jT P M0) : ∃ r, D_X8_both P v0 v1 M0 N0 = some r ∧ ((∀ a j, ¬ WM_X8_both P a j → r.2.1 a j = M0 a j) ∧ (∀ a j, ¬ WN_X8_both P a j → r.2.2 a j = N0 a j) ∧ ((jB P r.2.1) ∧ (jS P r.2.1) ∧ (jR P r.2.1) ∧ (jK P r.2.1) ∧ (jT P r.2.1))) := by
  obtain ⟨u0_jB, u1_jB, u2_jB, u3_jB, u4_jB, u5_jB⟩ := id p_jB
  obtain ⟨u0_jS, u1_jS, u2_jS, u3_jS, u4_jS, u5_jS, u6_jS, u7_jS⟩ := jS.ints p_jS
  obtain ⟨u0_jT, u1_jT, u2_jT, u3_jT, u4_jT, u5_jT⟩ := id p_jT
  have T_16 : ∀ (M_16 : zMt) (N_16 : zNt), (∀ a j, ¬ WM_X8_both P a j → M_16 a j = M0 a j) → (∀ a j, ¬ WN_X8_both P a j → N_16 a j = N0 a j) → (jB P M_16) → (jH P M_16) → (jK P M_16) → (jL P M_16) → (jR P M_16) → (jS P M_16) → (jT P M_16) → ∃ r, D_X8_both_16 P M_16 N_16 = some r ∧ ((∀ a j, ¬ WM_X8_both P a j → r.2.1 a j = M0 a j) ∧ (∀ a j, ¬ WN_X8_both P a j → r.2.2 a j = N0 a j) ∧ ((jB P r.2.1) ∧ (jS P r.2.1) ∧ (jR P r.2.1) ∧ (jK P r.2.1) ∧ (jT P r.2.1))) := by
    intro M_16 N_16 k_16 kn_16 p_jB_16 p_jH_16 p_jK_16 p_jL_16 p_jR_16 p_jS_16 p_jT_16
    obtain ⟨u0_jB_16, u1_jB_16, u2_jB_16, u3_jB_16, u4_jB_16, u5_jB_16⟩ := id p_jB_16
    obtain ⟨u0_jS_16, u1_jS_16, u2_jS_16, u3_jS_16, u4_jS_16, u5_jS_16, u6_jS_16, u7_jS_16⟩ := jS.ints p_jS_16
    obtain ⟨u0_jT_16, u1_jT_16, u2_jT_16, u3_jT_16, u4_jT_16, u5_jT_16⟩ := id p_jT_16
    unfold D_X8_both_16
    refine vB (v_X8_refuse) (fun e_18 f_18 q_18 => ?_)
    have k_18 : ∀ a j, ¬ WM_X8_both P a j → e_18.2 a j = M0 a j := fun a j h => (q_18 a j (wz_M_X8_refuse_X8_both h)).trans (k_16 a j h)
    have c7_18 : Int32.toInt (e_18.2 P 7) = Int32.toInt (M_16 P 7) := congrArg Int32.toInt (q_18 P 7 (wc_X8_refuse_7))
    have c8_18 : Int32.toInt (e_18.2 P 8) = Int32.toInt (M_16 P 8) := congrArg Int32.toInt (q_18 P 8 (wc_X8_refuse_8))
    have c33_18 : Int32.toInt (e_18.2 P 33) = Int32.toInt (M_16 P 33) := congrArg Int32.toInt (q_18 P 33 (wc_X8_refuse_33))
    have n_18 : nA P e_18.2 = nA P M_16 := nA_congr (fun a j h => q_18 a j (wf_nA_X8_refuse h))
    have p_jB_18 : jB P e_18.2 := jB.mono p_jB_16 (fun a j h => q_18 a j (wf_jB_X8_refuse h))
    obtain ⟨u0_jB_18, u1_jB_18, u2_jB_18, u3_jB_18, u4_jB_18, u5_jB_18⟩ := id p_jB_18
    have p_jH_18 : jH P e_18.2 := jH.mono p_jH_16 (fun a j h => q_18 a j (wf_jH_X8_refuse h))
    have p_jK_18 : jK P e_18.2 := jK.mono p_jK_16 (fun a j h => q_18 a j (wf_jK_X8_refuse h))
    have p_jL_18 : jL P e_18.2 := jL.mono p_jL_16 (fun a j h => q_18 a j (wf_jL_X8_refuse h))
    have p_jR_18 : jR P e_18.2 := jR.mono p_jR_16 (fun a j h => q_18 a j (wf_jR_X8_refuse h))
    have p_jS_18 : jS P e_18.2 := jS.mono p_jS_16 (fun a j h => q_18 a j (wf_jS_X8_refuse h))
    obtain ⟨u0_jS_18, u1_jS_18, u2_jS_18, u3_jS_18, u4_jS_18, u5_jS_18, u6_jS_18, u7_jS_18⟩ := jS.ints p_jS_18
    have p_jT_18 : jT P e_18.2 := jT.mono p_jT_16 (fun a j h => q_18 a j (wf_jT_X8_refuse h))
    obtain ⟨u0_jT_18, u1_jT_18, u2_jT_18, u3_jT_18, u4_jT_18, u5_jT_18⟩ := id p_jT_18
    exact ⟨_, rfl, k_18, kn_16, ⟨p_jB_18, p_jS_18, p_jR_18, p_jK_18, p_jT_18⟩⟩
  unfold D_X8_both
  refine vB (v_X8_isApplicant p_jB p_jS) (fun e_2 f_2 q_2 => ?_)
  have k_2 : ∀ a j, ¬ WM_X8_both P a j → e_2.2 a j = M0 a j := fun a j h => (q_2.1 a j (wz_M_X8_isApplicant_X8_both h))
  have b_2 := q_2.2.1
  have c7_2 : Int32.toInt (e_2.2 P 7) = Int32.toInt (M0 P 7) := congrArg Int32.toInt (q_2.1 P 7 (wc_X8_isApplicant_7))
  have c8_2 : Int32.toInt (e_2.2 P 8) = Int32.toInt (M0 P 8) := congrArg Int32.toInt (q_2.1 P 8 (wc_X8_isApplicant_8))
  have n_2 : nA P e_2.2 = nA P M0 := nA_congr (fun a j h => q_2.1 a j (wf_nA_X8_isApplicant h))
  have p_jS_2 : jS P e_2.2 := jS.mono p_jS (fun a j h => q_2.1 a j (wf_jS_X8_isApplicant h))
  obtain ⟨u0_jS_2, u1_jS_2, u2_jS_2, u3_jS_2, u4_jS_2, u5_jS_2, u6_jS_2, u7_jS_2⟩ := jS.ints p_jS_2
  have p_jR_2 : jR P e_2.2 := jR.mono p_jR (fun a j h => q_2.1 a j (wf_jR_X8_isApplicant h))
  have p_jK_2 : jK P e_2.2 := jK.mono p_jK (fun a j h => q_2.1 a j (wf_jK_X8_isApplicant h))
  have p_jT_2 : jT P e_2.2 := jT.mono p_jT (fun a j h => q_2.1 a j (wf_jT_X8_isApplicant h))
  obtain ⟨u0_jT_2, u1_jT_2, u2_jT_2, u3_jT_2, u4_jT_2, u5_jT_2⟩ := id p_jT_2
  obtain ⟨x0_2, x1_2, x2_2, x3_2, x4_2⟩ := q_2.2.2
  obtain ⟨u0_jB_2, u1_jB_2, u2_jB_2, u3_jB_2, u4_jB_2, u5_jB_2⟩ := id x0_2
  (try simp only [Int32.toInt_add, Int32.toInt_sub, Int32.toInt_mul, Int32.toInt_toInt64, Int64.toInt_add, z_m1, Int32.reduceToInt, Int64.reduceToInt, Int32.reduceToNatClampNeg, Int.bmod_def] at x3_2)
  (try simp only [Int32.toInt_add, Int32.toInt_sub, Int32.toInt_mul, Int32.toInt_toInt64, Int64.toInt_add, z_m1, Int32.reduceToInt, Int64.reduceToInt, Int32.reduceToNatClampNeg, Int.bmod_def] at x4_2)
  refine vIf (fun h_5 => ?_) (fun h_5 => ?_)
  · have i_5 := congrArg Int32.toInt h_5
    (try simp only [Int32.toInt_add, Int32.toInt_sub, Int32.toInt_mul, Int32.toInt_toInt64, Int64.toInt_add, z_m1, Int32.reduceToInt, Int64.reduceToInt, Int32.reduceToNatClampNeg, Int.bmod_def] at i_5)
    exact T_16 _ _ k_2 (fun _ _ _ => rfl) x0_2 x2_2 p_jK_2 x1_2 p_jR_2 p_jS_2 p_jT_2
  · have i_5 : ¬ Int32.toInt e_2.1 = Int32.toInt (0 : Int32) := fun q => h_5 (Int32.toInt_inj.mp q)
    (try simp only [Int32.toInt_add, Int32.toInt_sub, Int32.toInt_mul, Int32.toInt_toInt64, Int64.toInt_add, z_m1, Int32.reduceToInt, Int64.reduceToInt, Int32.reduceToNatClampNeg, Int.bmod_def] at i_5)
    refine vB (v_X8_isApplicant x0_2 p_jS_2) (fun e_10 f_10 q_10 => ?_)
    have k_10 : ∀ a j, ¬ WM_X8_both P a j → e_10.2 a j = M0 a j := fun a j h => (q_10.1 a j (wz_M_X8_isApplicant_X8_both h)).trans (k_2 a j h)
    have b_10 := q_10.2.1
    have c7_10 : Int32.toInt (e_10.2 P 7) = Int32.toInt (e_2.2 P 7) := congrArg Int32.toInt (q_10.1 P 7 (wc_X8_isApplicant_7))
    have c8_10 : Int32.toInt (e_10.2 P 8) = Int32.toInt (e_2.2 P 8) := congrArg Int32.toInt (q_10.1 P 8 (wc_X8_isApplicant_8))
    have n_10 : nA P e_10.2 = nA P e_2.2 := nA_congr (fun a j h => q_10.1 a j (wf_nA_X8_isApplicant h))
    have p_jS_10 : jS P e_10.2 := jS.mono p_jS_2 (fun a j h => q_10.1 a j (wf_jS_X8_isApplicant h))
    obtain ⟨u0_jS_10, u1_jS_10, u2_jS_10, u3_jS_10, u4_jS_10, u5_jS_10, u6_jS_10, u7_jS_10⟩ := jS.ints p_jS_10
    have p_jR_10 : jR P e_10.2 := jR.mono p_jR_2 (fun a j h => q_10.1 a j (wf_jR_X8_isApplicant h))
    have p_jK_10 : jK P e_10.2 := jK.mono p_jK_2 (fun a j h => q_10.1 a j (wf_jK_X8_isApplicant h))
    have p_jT_10 : jT P e_10.2 := jT.mono p_jT_2 (fun a j h => q_10.1 a j (wf_jT_X8_isApplicant h))
    obtain ⟨u0_jT_10, u1_jT_10, u2_jT_10, u3_jT_10, u4_jT_10, u5_jT_10⟩ := id p_jT_10
    obtain ⟨x0_10, x1_10, x2_10, x3_10, x4_10⟩ := q_10.2.2
    obtain ⟨u0_jB_10, u1_jB_10, u2_jB_10, u3_jB_10, u4_jB_10, u5_jB_10⟩ := id x0_10
    (try simp only [Int32.toInt_add, Int32.toInt_sub, Int32.toInt_mul, Int32.toInt_toInt64, Int64.toInt_add, z_m1, Int32.reduceToInt, Int64.reduceToInt, Int32.reduceToNatClampNeg, Int.bmod_def] at x3_10)
    (try simp only [Int32.toInt_add, Int32.toInt_sub, Int32.toInt_mul, Int32.toInt_toInt64, Int64.toInt_add, z_m1, Int32.reduceToInt, Int64.reduceToInt, Int32.reduceToNatClampNeg, Int.bmod_def] at x4_10)
    refine vIf (fun h_13 => ?_) (fun h_13 => ?_)
    · have i_13 := congrArg Int32.toInt h_13
      (try simp only [Int32.toInt_add, Int32.toInt_sub, Int32.toInt_mul, Int32.toInt_toInt64, Int64.toInt_add, z_m1, Int32.reduceToInt, Int64.reduceToInt, Int32.reduceToNatClampNeg, Int.bmod_def] at i_13)
      exact T_16 _ _ k_10 (fun _ _ _ => rfl) x0_10 x2_10 p_jK_10 x1_10 p_jR_10 p_jS_10 p_jT_10
    · have i_13 : ¬ Int32.toInt e_10.1 = Int32.toInt (0 : Int32) := fun q => h_13 (Int32.toInt_inj.mp q)
      (try simp only [Int32.toInt_add, Int32.toInt_sub, Int32.toInt_mul, Int32.toInt_toInt64, Int64.toInt_add, z_m1, Int32.reduceToInt, Int64.reduceToInt, Int32.reduceToNatClampNeg, Int.bmod_def] at i_13)
      refine vIf (fun h_25 => ?_) (fun h_25 => ?_)
      · have i_25 := congrArg Int32.toInt h_25
        (try simp only [Int32.toInt_add, Int32.toInt_sub, Int32.toInt_mul, Int32.toInt_toInt64, Int64.toInt_add, z_m1, Int32.reduceToInt, Int64.reduceToInt, Int32.reduceToNatClampNeg, Int.bmod_def] at i_25)
        refine vB (v_X8_refuse) (fun e_30 f_30 q_30 => ?_)
        have k_30 : ∀ a j, ¬ WM_X8_both P a j → e_30.2 a j = M0 a j := fun a j h => (q_30 a j (wz_M_X8_refuse_X8_both h)).trans (k_10 a j h)
        have c7_30 : Int32.toInt (e_30.2 P 7) = Int32.toInt (e_10.2 P 7) := congrArg Int32.toInt (q_30 P 7 (wc_X8_refuse_7))
        have c8_30 : Int32.toInt (e_30.2 P 8) = Int32.toInt (e_10.2 P 8) := congrArg Int32.toInt (q_30 P 8 (wc_X8_refuse_8))
        have c33_30 : Int32.toInt (e_30.2 P 33) = Int32.toInt (e_10.2 P 33) := congrArg Int32.toInt (q_30 P 33 (wc_X8_refuse_33))
        have n_30 : nA P e_30.2 = nA P e_10.2 := nA_congr (fun a j h => q_30 a j (wf_nA_X8_refuse h))
        have p_jS_30 : jS P e_30.2 := jS.mono p_jS_10 (fun a j h => q_30 a j (wf_jS_X8_refuse h))
        obtain ⟨u0_jS_30, u1_jS_30, u2_jS_30, u3_jS_30, u4_jS_30, u5_jS_30, u6_jS_30, u7_jS_30⟩ := jS.ints p_jS_30
        have p_jR_30 : jR P e_30.2 := jR.mono p_jR_10 (fun a j h => q_30 a j (wf_jR_X8_refuse h))
        have p_jK_30 : jK P e_30.2 := jK.mono p_jK_10 (fun a j h => q_30 a j (wf_jK_X8_refuse h))
        have p_jT_30 : jT P e_30.2 := jT.mono p_jT_10 (fun a j h => q_30 a j (wf_jT_X8_refuse h))
        obtain ⟨u0_jT_30, u1_jT_30, u2_jT_30, u3_jT_30, u4_jT_30, u5_jT_30⟩ := id p_jT_30
        have p_jB_30 : jB P e_30.2 := jB.mono x0_10 (fun a j h => q_30 a j (wf_jB_X8_refuse h))
        obtain ⟨u0_jB_30, u1_jB_30, u2_jB_30, u3_jB_30, u4_jB_30, u5_jB_30⟩ := id p_jB_30
        have p_jL_30 : jL P e_30.2 := jL.mono x1_10 (fun a j h => q_30 a j (wf_jL_X8_refuse h))
        have p_jH_30 : jH P e_30.2 := jH.mono x2_10 (fun a j h => q_30 a j (wf_jH_X8_refuse h))
        exact ⟨_, rfl, k_30, (fun _ _ _ => rfl), ⟨p_jB_30, p_jS_30, p_jR_30, p_jK_30, p_jT_30⟩⟩
      · have i_25 : ¬ Int32.toInt v0 = Int32.toInt v1 := fun q => h_25 (Int32.toInt_inj.mp q)
        (try simp only [Int32.toInt_add, Int32.toInt_sub, Int32.toInt_mul, Int32.toInt_toInt64, Int64.toInt_add, z_m1, Int32.reduceToInt, Int64.reduceToInt, Int32.reduceToNatClampNeg, Int.bmod_def] at i_25)
        refine vB (v_X8_areMany x0_10 p_jS_10) (fun e_36 f_36 q_36 => ?_)
        have k_36 : ∀ a j, ¬ WM_X8_both P a j → e_36.2 a j = M0 a j := fun a j h => (q_36.1 a j (wz_M_X8_areMany_X8_both h)).trans (k_10 a j h)
        have b_36 := q_36.2.1
        have c7_36 : Int32.toInt (e_36.2 P 7) = Int32.toInt (e_10.2 P 7) := congrArg Int32.toInt (q_36.1 P 7 (wc_X8_areMany_7))
        have c8_36 : Int32.toInt (e_36.2 P 8) = Int32.toInt (e_10.2 P 8) := congrArg Int32.toInt (q_36.1 P 8 (wc_X8_areMany_8))
        have n_36 : nA P e_36.2 = nA P e_10.2 := nA_congr (fun a j h => q_36.1 a j (wf_nA_X8_areMany h))
        have p_jS_36 : jS P e_36.2 := jS.mono p_jS_10 (fun a j h => q_36.1 a j (wf_jS_X8_areMany h))
        obtain ⟨u0_jS_36, u1_jS_36, u2_jS_36, u3_jS_36, u4_jS_36, u5_jS_36, u6_jS_36, u7_jS_36⟩ := jS.ints p_jS_36
        have p_jR_36 : jR P e_36.2 := jR.mono p_jR_10 (fun a j h => q_36.1 a j (wf_jR_X8_areMany h))
        have p_jK_36 : jK P e_36.2 := jK.mono p_jK_10 (fun a j h => q_36.1 a j (wf_jK_X8_areMany h))
        have p_jT_36 : jT P e_36.2 := jT.mono p_jT_10 (fun a j h => q_36.1 a j (wf_jT_X8_areMany h))
        obtain ⟨u0_jT_36, u1_jT_36, u2_jT_36, u3_jT_36, u4_jT_36, u5_jT_36⟩ := id p_jT_36
        obtain ⟨x0_36, x1_36, x2_36, x3_36, x4_36⟩ := q_36.2.2
        obtain ⟨u0_jB_36, u1_jB_36, u2_jB_36, u3_jB_36, u4_jB_36, u5_jB_36⟩ := id x0_36
        (try simp only [Int32.toInt_add, Int32.toInt_sub, Int32.toInt_mul, Int32.toInt_toInt64, Int64.toInt_add, z_m1, Int32.reduceToInt, Int64.reduceToInt, Int32.reduceToNatClampNeg, Int.bmod_def] at x3_36)
        (try simp only [Int32.toInt_add, Int32.toInt_sub, Int32.toInt_mul, Int32.toInt_toInt64, Int64.toInt_add, z_m1, Int32.reduceToInt, Int64.reduceToInt, Int32.reduceToNatClampNeg, Int.bmod_def] at x4_36)
        refine vIf (fun h_39 => ?_) (fun h_39 => ?_)
        · have i_39 := congrArg Int32.toInt h_39
          (try simp only [Int32.toInt_add, Int32.toInt_sub, Int32.toInt_mul, Int32.toInt_toInt64, Int64.toInt_add, z_m1, Int32.reduceToInt, Int64.reduceToInt, Int32.reduceToNatClampNeg, Int.bmod_def] at i_39)
          refine vB (v_X8_laysAll x0_36 p_jS_36 p_jR_36 (by first | omega | (simp only [Int32.toInt_add, Int32.toInt_sub, Int32.toInt_mul, Int32.toInt_toInt64, Int64.toInt_add, z_m1, Int32.reduceToInt, Int64.reduceToInt, Int32.reduceToNatClampNeg, Int.bmod_def, or_true, true_or, and_true, true_and] <;> omega))) (fun e_50 f_50 q_50 => ?_)
          have k_50 : ∀ a j, ¬ WM_X8_both P a j → e_50.1 a j = M0 a j := fun a j h => (q_50.1 a j (wz_M_X8_laysAll_X8_both h)).trans (k_36 a j h)
          have kn_50 : ∀ a j, ¬ WN_X8_both P a j → e_50.2 a j = N0 a j := fun a j h => (q_50.2.1 a j (wz_N_X8_laysAll_X8_both h))
          have c7_50 : Int32.toInt (e_50.1 P 7) = Int32.toInt (e_36.2 P 7) := congrArg Int32.toInt (q_50.1 P 7 (wc_X8_laysAll_7))
          have c8_50 : Int32.toInt (e_50.1 P 8) = Int32.toInt (e_36.2 P 8) := congrArg Int32.toInt (q_50.1 P 8 (wc_X8_laysAll_8))
          have n_50 : nA P e_50.1 = nA P e_36.2 := nA_congr (fun a j h => q_50.1 a j (wf_nA_X8_laysAll h))
          have p_jS_50 : jS P e_50.1 := jS.mono p_jS_36 (fun a j h => q_50.1 a j (wf_jS_X8_laysAll h))
          obtain ⟨u0_jS_50, u1_jS_50, u2_jS_50, u3_jS_50, u4_jS_50, u5_jS_50, u6_jS_50, u7_jS_50⟩ := jS.ints p_jS_50
          have p_jK_50 : jK P e_50.1 := jK.mono p_jK_36 (fun a j h => q_50.1 a j (wf_jK_X8_laysAll h))
          have p_jT_50 : jT P e_50.1 := jT.mono p_jT_36 (fun a j h => q_50.1 a j (wf_jT_X8_laysAll h))
          obtain ⟨u0_jT_50, u1_jT_50, u2_jT_50, u3_jT_50, u4_jT_50, u5_jT_50⟩ := id p_jT_50
          obtain ⟨x0_50, x1_50, x2_50, x3_50, x4_50⟩ := q_50.2.2
          obtain ⟨u0_jB_50, u1_jB_50, u2_jB_50, u3_jB_50, u4_jB_50, u5_jB_50⟩ := id x0_50
          (try simp only [Int32.toInt_add, Int32.toInt_sub, Int32.toInt_mul, Int32.toInt_toInt64, Int64.toInt_add, z_m1, Int32.reduceToInt, Int64.reduceToInt, Int32.reduceToNatClampNeg, Int.bmod_def] at x4_50)
          have th_64_0 : Int32.toInt ((7 : Int32) * v0) = Int32.toInt (7 : Int32) * Int32.toInt v0 := z_mul (by first | omega | (simp only [Int32.toInt_add, Int32.toInt_sub, Int32.toInt_mul, Int32.toInt_toInt64, Int64.toInt_add, z_m1, Int32.reduceToInt, Int64.reduceToInt, Int32.reduceToNatClampNeg, Int.bmod_def, or_true, true_or, and_true, true_and] <;> omega)) (by first | omega | (simp only [Int32.toInt_add, Int32.toInt_sub, Int32.toInt_mul, Int32.toInt_toInt64, Int64.toInt_add, z_m1, Int32.reduceToInt, Int64.reduceToInt, Int32.reduceToNatClampNeg, Int.bmod_def, or_true, true_or, and_true, true_and] <;> omega))
          (try simp only [Int32.reduceToInt, z_m1] at th_64_0)
          have th_64_2 : Int32.toInt (((7 : Int32) * v0) + v1) = Int32.toInt ((7 : Int32) * v0) + Int32.toInt v1 := z_add (by first | omega | (simp only [Int32.toInt_add, Int32.toInt_sub, Int32.toInt_mul, Int32.toInt_toInt64, Int64.toInt_add, z_m1, Int32.reduceToInt, Int64.reduceToInt, Int32.reduceToNatClampNeg, Int.bmod_def, or_true, true_or, and_true, true_and] <;> omega)) (by first | omega | (simp only [Int32.toInt_add, Int32.toInt_sub, Int32.toInt_mul, Int32.toInt_toInt64, Int64.toInt_add, z_m1, Int32.reduceToInt, Int64.reduceToInt, Int32.reduceToNatClampNeg, Int.bmod_def, or_true, true_or, and_true, true_and] <;> omega))
          (try simp only [Int32.reduceToInt, z_m1] at th_64_2)
          refine vI (vp_of (by first | omega | (simp only [Int32.toInt_add, Int32.toInt_sub, Int32.toInt_mul, Int32.toInt_toInt64, Int64.toInt_add, z_m1, Int32.reduceToInt, Int64.reduceToInt, Int32.reduceToNatClampNeg, Int.bmod_def, or_true, true_or, and_true, true_and] <;> omega)) (by first | omega | (simp only [Int32.toInt_add, Int32.toInt_sub, Int32.toInt_mul, Int32.toInt_toInt64, Int64.toInt_add, z_m1, Int32.reduceToInt, Int64.reduceToInt, Int32.reduceToNatClampNeg, Int.bmod_def, or_true, true_or, and_true, true_and] <;> omega))) ?_
          refine vB (v_X8_givesLong) (fun e_65 f_65 q_65 => ?_)
          have k_65 : ∀ a j, ¬ WM_X8_both P a j → e_65.2 a j = M0 a j := fun a j h => (q_65 a j (wz_M_X8_givesLong_X8_both h)).trans (k_50 a j h)
          have c7_65 : Int32.toInt (e_65.2 P 7) = Int32.toInt (e_50.1 P 7) := congrArg Int32.toInt (q_65 P 7 (wc_X8_givesLong_7))
          have c8_65 : Int32.toInt (e_65.2 P 8) = Int32.toInt (e_50.1 P 8) := congrArg Int32.toInt (q_65 P 8 (wc_X8_givesLong_8))
          have c33_65 : Int32.toInt (e_65.2 P 33) = Int32.toInt (e_50.1 P 33) := congrArg Int32.toInt (q_65 P 33 (wc_X8_givesLong_33))
          have n_65 : nA P e_65.2 = nA P e_50.1 := nA_congr (fun a j h => q_65 a j (wf_nA_X8_givesLong h))
          have p_jS_65 : jS P e_65.2 := jS.mono p_jS_50 (fun a j h => q_65 a j (wf_jS_X8_givesLong h))
          obtain ⟨u0_jS_65, u1_jS_65, u2_jS_65, u3_jS_65, u4_jS_65, u5_jS_65, u6_jS_65, u7_jS_65⟩ := jS.ints p_jS_65
          have p_jK_65 : jK P e_65.2 := jK.mono p_jK_50 (fun a j h => q_65 a j (wf_jK_X8_givesLong h))
          have p_jT_65 : jT P e_65.2 := jT.mono p_jT_50 (fun a j h => q_65 a j (wf_jT_X8_givesLong h))
          obtain ⟨u0_jT_65, u1_jT_65, u2_jT_65, u3_jT_65, u4_jT_65, u5_jT_65⟩ := id p_jT_65
          have p_jB_65 : jB P e_65.2 := jB.mono x0_50 (fun a j h => q_65 a j (wf_jB_X8_givesLong h))
          obtain ⟨u0_jB_65, u1_jB_65, u2_jB_65, u3_jB_65, u4_jB_65, u5_jB_65⟩ := id p_jB_65
          have p_jL_65 : jL P e_65.2 := jL.mono x1_50 (fun a j h => q_65 a j (wf_jL_X8_givesLong h))
          have p_jH_65 : jH P e_65.2 := jH.mono x2_50 (fun a j h => q_65 a j (wf_jH_X8_givesLong h))
          have p_jR_65 : jR P e_65.2 := jR.mono x3_50 (fun a j h => q_65 a j (wf_jR_X8_givesLong h))
          exact ⟨_, rfl, k_65, kn_50, ⟨p_jB_65, p_jS_65, p_jR_65, p_jK_65, p_jT_65⟩⟩
        · have i_39 : ¬ Int32.toInt e_36.1 = Int32.toInt (0 : Int32) := fun q => h_39 (Int32.toInt_inj.mp q)
          (try simp only [Int32.toInt_add, Int32.toInt_sub, Int32.toInt_mul, Int32.toInt_toInt64, Int64.toInt_add, z_m1, Int32.reduceToInt, Int64.reduceToInt, Int32.reduceToNatClampNeg, Int.bmod_def] at i_39)
          refine vB (v_X8_refuse) (fun e_44 f_44 q_44 => ?_)
          have k_44 : ∀ a j, ¬ WM_X8_both P a j → e_44.2 a j = M0 a j := fun a j h => (q_44 a j (wz_M_X8_refuse_X8_both h)).trans (k_36 a j h)
          have c7_44 : Int32.toInt (e_44.2 P 7) = Int32.toInt (e_36.2 P 7) := congrArg Int32.toInt (q_44 P 7 (wc_X8_refuse_7))
          have c8_44 : Int32.toInt (e_44.2 P 8) = Int32.toInt (e_36.2 P 8) := congrArg Int32.toInt (q_44 P 8 (wc_X8_refuse_8))
          have c33_44 : Int32.toInt (e_44.2 P 33) = Int32.toInt (e_36.2 P 33) := congrArg Int32.toInt (q_44 P 33 (wc_X8_refuse_33))
          have n_44 : nA P e_44.2 = nA P e_36.2 := nA_congr (fun a j h => q_44 a j (wf_nA_X8_refuse h))
          have p_jS_44 : jS P e_44.2 := jS.mono p_jS_36 (fun a j h => q_44 a j (wf_jS_X8_refuse h))
          obtain ⟨u0_jS_44, u1_jS_44, u2_jS_44, u3_jS_44, u4_jS_44, u5_jS_44, u6_jS_44, u7_jS_44⟩ := jS.ints p_jS_44
          have p_jR_44 : jR P e_44.2 := jR.mono p_jR_36 (fun a j h => q_44 a j (wf_jR_X8_refuse h))
          have p_jK_44 : jK P e_44.2 := jK.mono p_jK_36 (fun a j h => q_44 a j (wf_jK_X8_refuse h))
          have p_jT_44 : jT P e_44.2 := jT.mono p_jT_36 (fun a j h => q_44 a j (wf_jT_X8_refuse h))
          obtain ⟨u0_jT_44, u1_jT_44, u2_jT_44, u3_jT_44, u4_jT_44, u5_jT_44⟩ := id p_jT_44
          have p_jB_44 : jB P e_44.2 := jB.mono x0_36 (fun a j h => q_44 a j (wf_jB_X8_refuse h))
          obtain ⟨u0_jB_44, u1_jB_44, u2_jB_44, u3_jB_44, u4_jB_44, u5_jB_44⟩ := id p_jB_44
          have p_jL_44 : jL P e_44.2 := jL.mono x1_36 (fun a j h => q_44 a j (wf_jL_X8_refuse h))
          have p_jH_44 : jH P e_44.2 := jH.mono x2_36 (fun a j h => q_44 a j (wf_jH_X8_refuse h))
          exact ⟨_, rfl, k_44, (fun _ _ _ => rfl), ⟨p_jB_44, p_jS_44, p_jR_44, p_jK_44, p_jT_44⟩⟩
def WM_X8_sure (P : Nat) (a j : Nat) : Prop := (P + 11 ≤ a ∧ a < P + 23) ∨ (P + 29 ≤ a ∧ a < P + 30) ∨ (a = P ∧ (j = 6 ∨ j = 12 ∨ j = 33 ∨ j = 54 ∨ j = 55 ∨ j = 56 ∨ j = 57))
def WN_X8_sure (P : Nat) (a j : Nat) : Prop := (P + 24 ≤ a ∧ a < P + 29) ∨ (a = P ∧ (j = 59))
theorem wz_M_X8_gives_X8_sure {P a j : Nat} (h : ¬ WM_X8_sure P a j) : ¬ WM_X8_gives P a j := by unfold WM_X8_gives; unfold WM_X8_sure at h; omega
theorem wz_M_X8_refuse_X8_sure {P a j : Nat} (h : ¬ WM_X8_sure P a j) : ¬ WM_X8_refuse P a j := by unfold WM_X8_refuse; unfold WM_X8_sure at h; omega
theorem wz_M_X8_areMany_X8_sure {P a j : Nat} (h : ¬ WM_X8_sure P a j) : ¬ WM_X8_areMany P a j := by unfold WM_X8_areMany; unfold WM_X8_sure at h; omega
theorem wz_M_X8_laysAll_X8_sure {P a j : Nat} (h : ¬ WM_X8_sure P a j) : ¬ WM_X8_laysAll P a j := by unfold WM_X8_laysAll; unfold WM_X8_sure at h; omega
theorem wz_N_X8_laysAll_X8_sure {P a j : Nat} (h : ¬ WN_X8_sure P a j) : ¬ WN_X8_laysAll P a j := by unfold WN_X8_laysAll; unfold WN_X8_sure at h; omega
set_option maxRecDepth 100000 in
set_option maxHeartbeats 4000000 in
theorem v_X8_sure {P : Nat} {v0 : Int32} {M0 : zMt} {N0 : zNt}  (p_jB : jB P M0) (p_jS : jS P M0) (p_jR : jR P M0) (p_jK : jK P M0) (p_jT : jT P M0) : ∃ r, D_X8_sure P v0 M0 N0 = some r ∧ ((∀ a j, ¬ WM_X8_sure P a j → r.2.1 a j = M0 a j) ∧ (∀ a j, ¬ WN_X8_sure P a j → r.2.2 a j = N0 a j) ∧ ((jB P r.2.1) ∧ (jS P r.2.1) ∧ (jR P r.2.1) ∧ (jK P r.2.1) ∧ (jT P r.2.1))) := by
  obtain ⟨u0_jB, u1_jB, u2_jB, u3_jB, u4_jB, u5_jB⟩ := id p_jB
  obtain ⟨u0_jS, u1_jS, u2_jS, u3_jS, u4_jS, u5_jS, u6_jS, u7_jS⟩ := jS.ints p_jS
  obtain ⟨u0_jT, u1_jT, u2_jT, u3_jT, u4_jT, u5_jT⟩ := id p_jT
  have T_60 : ∀ (y1_60 : Int32) (M_60 : zMt) (N_60 : zNt), (∀ a j, ¬ WM_X8_sure P a j → M_60 a j = M0 a j) → (∀ a j, ¬ WN_X8_sure P a j → N_60 a j = N0 a j) → (jB P M_60) → (jH P M_60) → (jK P M_60) → (jL P M_60) → (jR P M_60) → (jS P M_60) → (jT P M_60) → ∃ r, D_X8_sure_60 P y1_60 M_60 N_60 = some r ∧ ((∀ a j, ¬ WM_X8_sure P a j → r.2.1 a j = M0 a j) ∧ (∀ a j, ¬ WN_X8_sure P a j → r.2.2 a j = N0 a j) ∧ ((jB P r.2.1) ∧ (jS P r.2.1) ∧ (jR P r.2.1) ∧ (jK P r.2.1) ∧ (jT P r.2.1))) := by
    intro y1_60 M_60 N_60 k_60 kn_60 p_jB_60 p_jH_60 p_jK_60 p_jL_60 p_jR_60 p_jS_60 p_jT_60
    obtain ⟨u0_jB_60, u1_jB_60, u2_jB_60, u3_jB_60, u4_jB_60, u5_jB_60⟩ := id p_jB_60
    obtain ⟨u0_jS_60, u1_jS_60, u2_jS_60, u3_jS_60, u4_jS_60, u5_jS_60, u6_jS_60, u7_jS_60⟩ := jS.ints p_jS_60
    obtain ⟨u0_jT_60, u1_jT_60, u2_jT_60, u3_jT_60, u4_jT_60, u5_jT_60⟩ := id p_jT_60
    unfold D_X8_sure_60
    refine vB (v_X8_gives) (fun e_60 f_60 q_60 => ?_)
    have k_60 : ∀ a j, ¬ WM_X8_sure P a j → e_60.2 a j = M0 a j := fun a j h => (q_60 a j (wz_M_X8_gives_X8_sure h)).trans (k_60 a j h)
    have c7_60 : Int32.toInt (e_60.2 P 7) = Int32.toInt (M_60 P 7) := congrArg Int32.toInt (q_60 P 7 (wc_X8_gives_7))
    have c8_60 : Int32.toInt (e_60.2 P 8) = Int32.toInt (M_60 P 8) := congrArg Int32.toInt (q_60 P 8 (wc_X8_gives_8))
    have c33_60 : Int32.toInt (e_60.2 P 33) = Int32.toInt (M_60 P 33) := congrArg Int32.toInt (q_60 P 33 (wc_X8_gives_33))
    have n_60 : nA P e_60.2 = nA P M_60 := nA_congr (fun a j h => q_60 a j (wf_nA_X8_gives h))
    have p_jB_60 : jB P e_60.2 := jB.mono p_jB_60 (fun a j h => q_60 a j (wf_jB_X8_gives h))
    obtain ⟨u0_jB_60, u1_jB_60, u2_jB_60, u3_jB_60, u4_jB_60, u5_jB_60⟩ := id p_jB_60
    have p_jH_60 : jH P e_60.2 := jH.mono p_jH_60 (fun a j h => q_60 a j (wf_jH_X8_gives h))
    have p_jK_60 : jK P e_60.2 := jK.mono p_jK_60 (fun a j h => q_60 a j (wf_jK_X8_gives h))
    have p_jL_60 : jL P e_60.2 := jL.mono p_jL_60 (fun a j h => q_60 a j (wf_jL_X8_gives h))
    have p_jR_60 : jR P e_60.2 := jR.mono p_jR_60 (fun a j h => q_60 a j (wf_jR_X8_gives h))
    have p_jS_60 : jS P e_60.2 := jS.mono p_jS_60 (fun a j h => q_60 a j (wf_jS_X8_gives h))
    obtain ⟨u0_jS_60, u1_jS_60, u2_jS_60, u3_jS_60, u4_jS_60, u5_jS_60, u6_jS_60, u7_jS_60⟩ := jS.ints p_jS_60
    have p_jT_60 : jT P e_60.2 := jT.mono p_jT_60 (fun a j h => q_60 a j (wf_jT_X8_gives h))
    obtain ⟨u0_jT_60, u1_jT_60, u2_jT_60, u3_jT_60, u4_jT_60, u5_jT_60⟩ := id p_jT_60
    exact ⟨_, rfl, k_60, kn_60, ⟨p_jB_60, p_jS_60, p_jR_60, p_jK_60, p_jT_60⟩⟩
  unfold D_X8_sure
  refine vB (v_X8_isFrom) (fun e_4 f_4 q_4 => ?_)
  have b_4 := q_4.1
  have x0_4 := q_4.2
  (try simp only [Int32.toInt_add, Int32.toInt_sub, Int32.toInt_mul, Int32.toInt_toInt64, Int64.toInt_add, z_m1, Int32.reduceToInt, Int64.reduceToInt, Int32.reduceToNatClampNeg, Int.bmod_def] at x0_4)
  refine vIf (fun h_7 => ?_) (fun h_7 => ?_)
  · have i_7 := congrArg Int32.toInt h_7
    (try simp only [Int32.toInt_add, Int32.toInt_sub, Int32.toInt_mul, Int32.toInt_toInt64, Int64.toInt_add, z_m1, Int32.reduceToInt, Int64.reduceToInt, Int32.reduceToNatClampNeg, Int.bmod_def] at i_7)
    refine vB (v_X8_refuse) (fun e_12 f_12 q_12 => ?_)
    have k_12 : ∀ a j, ¬ WM_X8_sure P a j → e_12.2 a j = M0 a j := fun a j h => (q_12 a j (wz_M_X8_refuse_X8_sure h))
    have c7_12 : Int32.toInt (e_12.2 P 7) = Int32.toInt (M0 P 7) := congrArg Int32.toInt (q_12 P 7 (wc_X8_refuse_7))
    have c8_12 : Int32.toInt (e_12.2 P 8) = Int32.toInt (M0 P 8) := congrArg Int32.toInt (q_12 P 8 (wc_X8_refuse_8))
    have c33_12 : Int32.toInt (e_12.2 P 33) = Int32.toInt (M0 P 33) := congrArg Int32.toInt (q_12 P 33 (wc_X8_refuse_33))
    have n_12 : nA P e_12.2 = nA P M0 := nA_congr (fun a j h => q_12 a j (wf_nA_X8_refuse h))
    have p_jB_12 : jB P e_12.2 := jB.mono p_jB (fun a j h => q_12 a j (wf_jB_X8_refuse h))
    obtain ⟨u0_jB_12, u1_jB_12, u2_jB_12, u3_jB_12, u4_jB_12, u5_jB_12⟩ := id p_jB_12
    have p_jS_12 : jS P e_12.2 := jS.mono p_jS (fun a j h => q_12 a j (wf_jS_X8_refuse h))
    obtain ⟨u0_jS_12, u1_jS_12, u2_jS_12, u3_jS_12, u4_jS_12, u5_jS_12, u6_jS_12, u7_jS_12⟩ := jS.ints p_jS_12
    have p_jR_12 : jR P e_12.2 := jR.mono p_jR (fun a j h => q_12 a j (wf_jR_X8_refuse h))
    have p_jK_12 : jK P e_12.2 := jK.mono p_jK (fun a j h => q_12 a j (wf_jK_X8_refuse h))
    have p_jT_12 : jT P e_12.2 := jT.mono p_jT (fun a j h => q_12 a j (wf_jT_X8_refuse h))
    obtain ⟨u0_jT_12, u1_jT_12, u2_jT_12, u3_jT_12, u4_jT_12, u5_jT_12⟩ := id p_jT_12
    exact ⟨_, rfl, k_12, (fun _ _ _ => rfl), ⟨p_jB_12, p_jS_12, p_jR_12, p_jK_12, p_jT_12⟩⟩
  · have i_7 : ¬ Int32.toInt e_4 = Int32.toInt (0 : Int32) := fun q => h_7 (Int32.toInt_inj.mp q)
    (try simp only [Int32.toInt_add, Int32.toInt_sub, Int32.toInt_mul, Int32.toInt_toInt64, Int64.toInt_add, z_m1, Int32.reduceToInt, Int64.reduceToInt, Int32.reduceToNatClampNeg, Int.bmod_def] at i_7)
    refine vB (v_X8_areMany p_jB p_jS) (fun e_17 f_17 q_17 => ?_)
    have k_17 : ∀ a j, ¬ WM_X8_sure P a j → e_17.2 a j = M0 a j := fun a j h => (q_17.1 a j (wz_M_X8_areMany_X8_sure h))
    have b_17 := q_17.2.1
    have c7_17 : Int32.toInt (e_17.2 P 7) = Int32.toInt (M0 P 7) := congrArg Int32.toInt (q_17.1 P 7 (wc_X8_areMany_7))
    have c8_17 : Int32.toInt (e_17.2 P 8) = Int32.toInt (M0 P 8) := congrArg Int32.toInt (q_17.1 P 8 (wc_X8_areMany_8))
    have n_17 : nA P e_17.2 = nA P M0 := nA_congr (fun a j h => q_17.1 a j (wf_nA_X8_areMany h))
    have p_jS_17 : jS P e_17.2 := jS.mono p_jS (fun a j h => q_17.1 a j (wf_jS_X8_areMany h))
    obtain ⟨u0_jS_17, u1_jS_17, u2_jS_17, u3_jS_17, u4_jS_17, u5_jS_17, u6_jS_17, u7_jS_17⟩ := jS.ints p_jS_17
    have p_jR_17 : jR P e_17.2 := jR.mono p_jR (fun a j h => q_17.1 a j (wf_jR_X8_areMany h))
    have p_jK_17 : jK P e_17.2 := jK.mono p_jK (fun a j h => q_17.1 a j (wf_jK_X8_areMany h))
    have p_jT_17 : jT P e_17.2 := jT.mono p_jT (fun a j h => q_17.1 a j (wf_jT_X8_areMany h))
    obtain ⟨u0_jT_17, u1_jT_17, u2_jT_17, u3_jT_17, u4_jT_17, u5_jT_17⟩ := id p_jT_17
    obtain ⟨x0_17, x1_17, x2_17, x3_17, x4_17⟩ := q_17.2.2
    obtain ⟨u0_jB_17, u1_jB_17, u2_jB_17, u3_jB_17, u4_jB_17, u5_jB_17⟩ := id x0_17
    (try simp only [Int32.toInt_add, Int32.toInt_sub, Int32.toInt_mul, Int32.toInt_toInt64, Int64.toInt_add, z_m1, Int32.reduceToInt, Int64.reduceToInt, Int32.reduceToNatClampNeg, Int.bmod_def] at x3_17)
    (try simp only [Int32.toInt_add, Int32.toInt_sub, Int32.toInt_mul, Int32.toInt_toInt64, Int64.toInt_add, z_m1, Int32.reduceToInt, Int64.reduceToInt, Int32.reduceToNatClampNeg, Int.bmod_def] at x4_17)
    refine vIf (fun h_20 => ?_) (fun h_20 => ?_)
    · have i_20 := congrArg Int32.toInt h_20
      (try simp only [Int32.toInt_add, Int32.toInt_sub, Int32.toInt_mul, Int32.toInt_toInt64, Int64.toInt_add, z_m1, Int32.reduceToInt, Int64.reduceToInt, Int32.reduceToNatClampNeg, Int.bmod_def] at i_20)
      refine vB (v_X8_laysAll x0_17 p_jS_17 p_jR_17 (by first | omega | (simp only [Int32.toInt_add, Int32.toInt_sub, Int32.toInt_mul, Int32.toInt_toInt64, Int64.toInt_add, z_m1, Int32.reduceToInt, Int64.reduceToInt, Int32.reduceToNatClampNeg, Int.bmod_def, or_true, true_or, and_true, true_and] <;> omega))) (fun e_30 f_30 q_30 => ?_)
      have k_30 : ∀ a j, ¬ WM_X8_sure P a j → e_30.1 a j = M0 a j := fun a j h => (q_30.1 a j (wz_M_X8_laysAll_X8_sure h)).trans (k_17 a j h)
      have kn_30 : ∀ a j, ¬ WN_X8_sure P a j → e_30.2 a j = N0 a j := fun a j h => (q_30.2.1 a j (wz_N_X8_laysAll_X8_sure h))
      have c7_30 : Int32.toInt (e_30.1 P 7) = Int32.toInt (e_17.2 P 7) := congrArg Int32.toInt (q_30.1 P 7 (wc_X8_laysAll_7))
      have c8_30 : Int32.toInt (e_30.1 P 8) = Int32.toInt (e_17.2 P 8) := congrArg Int32.toInt (q_30.1 P 8 (wc_X8_laysAll_8))
      have n_30 : nA P e_30.1 = nA P e_17.2 := nA_congr (fun a j h => q_30.1 a j (wf_nA_X8_laysAll h))
      have p_jS_30 : jS P e_30.1 := jS.mono p_jS_17 (fun a j h => q_30.1 a j (wf_jS_X8_laysAll h))
      obtain ⟨u0_jS_30, u1_jS_30, u2_jS_30, u3_jS_30, u4_jS_30, u5_jS_30, u6_jS_30, u7_jS_30⟩ := jS.ints p_jS_30
      have p_jK_30 : jK P e_30.1 := jK.mono p_jK_17 (fun a j h => q_30.1 a j (wf_jK_X8_laysAll h))
      have p_jT_30 : jT P e_30.1 := jT.mono p_jT_17 (fun a j h => q_30.1 a j (wf_jT_X8_laysAll h))
      obtain ⟨u0_jT_30, u1_jT_30, u2_jT_30, u3_jT_30, u4_jT_30, u5_jT_30⟩ := id p_jT_30
      obtain ⟨x0_30, x1_30, x2_30, x3_30, x4_30⟩ := q_30.2.2
      obtain ⟨u0_jB_30, u1_jB_30, u2_jB_30, u3_jB_30, u4_jB_30, u5_jB_30⟩ := id x0_30
      (try simp only [Int32.toInt_add, Int32.toInt_sub, Int32.toInt_mul, Int32.toInt_toInt64, Int64.toInt_add, z_m1, Int32.reduceToInt, Int64.reduceToInt, Int32.reduceToNatClampNeg, Int.bmod_def] at x4_30)
      refine vIf (fun h_35 => ?_) (fun h_35 => ?_)
      · have i_35 := congrArg Int32.toInt h_35
        (try simp only [Int32.toInt_add, Int32.toInt_sub, Int32.toInt_mul, Int32.toInt_toInt64, Int64.toInt_add, z_m1, Int32.reduceToInt, Int64.reduceToInt, Int32.reduceToNatClampNeg, Int.bmod_def] at i_35)
        exact T_60 _ _ _ k_30 kn_30 x0_30 x2_30 p_jK_30 x1_30 x3_30 p_jS_30 p_jT_30
      · have i_35 : ¬ Int32.toInt v0 = Int32.toInt (0 : Int32) := fun q => h_35 (Int32.toInt_inj.mp q)
        (try simp only [Int32.toInt_add, Int32.toInt_sub, Int32.toInt_mul, Int32.toInt_toInt64, Int64.toInt_add, z_m1, Int32.reduceToInt, Int64.reduceToInt, Int32.reduceToNatClampNeg, Int.bmod_def] at i_35)
        exact T_60 _ _ _ k_30 kn_30 x0_30 x2_30 p_jK_30 x1_30 x3_30 p_jS_30 p_jT_30
    · have i_20 : ¬ Int32.toInt e_17.1 = Int32.toInt (0 : Int32) := fun q => h_20 (Int32.toInt_inj.mp q)
      (try simp only [Int32.toInt_add, Int32.toInt_sub, Int32.toInt_mul, Int32.toInt_toInt64, Int64.toInt_add, z_m1, Int32.reduceToInt, Int64.reduceToInt, Int32.reduceToNatClampNeg, Int.bmod_def] at i_20)
      refine vB (v_X8_refuse) (fun e_25 f_25 q_25 => ?_)
      have k_25 : ∀ a j, ¬ WM_X8_sure P a j → e_25.2 a j = M0 a j := fun a j h => (q_25 a j (wz_M_X8_refuse_X8_sure h)).trans (k_17 a j h)
      have c7_25 : Int32.toInt (e_25.2 P 7) = Int32.toInt (e_17.2 P 7) := congrArg Int32.toInt (q_25 P 7 (wc_X8_refuse_7))
      have c8_25 : Int32.toInt (e_25.2 P 8) = Int32.toInt (e_17.2 P 8) := congrArg Int32.toInt (q_25 P 8 (wc_X8_refuse_8))
      have c33_25 : Int32.toInt (e_25.2 P 33) = Int32.toInt (e_17.2 P 33) := congrArg Int32.toInt (q_25 P 33 (wc_X8_refuse_33))
      have n_25 : nA P e_25.2 = nA P e_17.2 := nA_congr (fun a j h => q_25 a j (wf_nA_X8_refuse h))
      have p_jS_25 : jS P e_25.2 := jS.mono p_jS_17 (fun a j h => q_25 a j (wf_jS_X8_refuse h))
      obtain ⟨u0_jS_25, u1_jS_25, u2_jS_25, u3_jS_25, u4_jS_25, u5_jS_25, u6_jS_25, u7_jS_25⟩ := jS.ints p_jS_25
      have p_jR_25 : jR P e_25.2 := jR.mono p_jR_17 (fun a j h => q_25 a j (wf_jR_X8_refuse h))
      have p_jK_25 : jK P e_25.2 := jK.mono p_jK_17 (fun a j h => q_25 a j (wf_jK_X8_refuse h))
      have p_jT_25 : jT P e_25.2 := jT.mono p_jT_17 (fun a j h => q_25 a j (wf_jT_X8_refuse h))
      obtain ⟨u0_jT_25, u1_jT_25, u2_jT_25, u3_jT_25, u4_jT_25, u5_jT_25⟩ := id p_jT_25
      have p_jB_25 : jB P e_25.2 := jB.mono x0_17 (fun a j h => q_25 a j (wf_jB_X8_refuse h))
      obtain ⟨u0_jB_25, u1_jB_25, u2_jB_25, u3_jB_25, u4_jB_25, u5_jB_25⟩ := id p_jB_25
      have p_jL_25 : jL P e_25.2 := jL.mono x1_17 (fun a j h => q_25 a j (wf_jL_X8_refuse h))
      have p_jH_25 : jH P e_25.2 := jH.mono x2_17 (fun a j h => q_25 a j (wf_jH_X8_refuse h))
      exact ⟨_, rfl, k_25, (fun _ _ _ => rfl), ⟨p_jB_25, p_jS_25, p_jR_25, p_jK_25, p_jT_25⟩⟩
def WM_X8_mean (P : Nat) (a j : Nat) : Prop := (P + 11 ≤ a ∧ a < P + 23) ∨ (P + 29 ≤ a ∧ a < P + 30) ∨ (a = P ∧ (j = 6 ∨ j = 12 ∨ j = 33 ∨ j = 54 ∨ j = 55 ∨ j = 56 ∨ j = 57))
def WN_X8_mean (P : Nat) (a j : Nat) : Prop := (P + 24 ≤ a ∧ a < P + 29) ∨ (a = P ∧ (j = 59))
theorem wz_M_X8_refuse_X8_mean {P a j : Nat} (h : ¬ WM_X8_mean P a j) : ¬ WM_X8_refuse P a j := by unfold WM_X8_refuse; unfold WM_X8_mean at h; omega
theorem wz_M_X8_areMany_X8_mean {P a j : Nat} (h : ¬ WM_X8_mean P a j) : ¬ WM_X8_areMany P a j := by unfold WM_X8_areMany; unfold WM_X8_mean at h; omega
theorem wz_M_X8_laysAll_X8_mean {P a j : Nat} (h : ¬ WM_X8_mean P a j) : ¬ WM_X8_laysAll P a j := by unfold WM_X8_laysAll; unfold WM_X8_mean at h; omega
theorem wz_N_X8_laysAll_X8_mean {P a j : Nat} (h : ¬ WN_X8_mean P a j) : ¬ WN_X8_laysAll P a j := by unfold WN_X8_laysAll; unfold WN_X8_mean at h; omega
theorem wz_M_X8_givesLong_X8_mean {P a j : Nat} (h : ¬ WM_X8_mean P a j) : ¬ WM_X8_givesLong P a j := by unfold WM_X8_givesLong; unfold WM_X8_mean at h; omega
set_option maxRecDepth 100000 in
set_option maxHeartbeats 4000000 in
theorem v_X8_mean {P : Nat} {v0 : Int32} {M0 : zMt} {N0 : zNt}  (p_jB : jB P M0) (p_jS : jS P M0) (p_jR : jR P M0) (p_jK : jK P M0) (p_jT : jT P M0) : ∃ r, D_X8_mean P v0 M0 N0 = some r ∧ ((∀ a j, ¬ WM_X8_mean P a j → r.2.1 a j = M0 a j) ∧ (∀ a j, ¬ WN_X8_mean P a j → r.2.2 a j = N0 a j) ∧ ((jB P r.2.1) ∧ (jS P r.2.1) ∧ (jR P r.2.1) ∧ (jK P r.2.1) ∧ (jT P r.2.1))) := by
  obtain ⟨u0_jB, u1_jB, u2_jB, u3_jB, u4_jB, u5_jB⟩ := id p_jB
  obtain ⟨u0_jS, u1_jS, u2_jS, u3_jS, u4_jS, u5_jS, u6_jS, u7_jS⟩ := jS.ints p_jS
  obtain ⟨u0_jT, u1_jT, u2_jT, u3_jT, u4_jT, u5_jT⟩ := id p_jT
  unfold D_X8_mean
  refine vB (v_X8_isUnit p_jB) (fun e_2 f_2 q_2 => ?_)
  have b_2 := q_2.1
  have x0_2 := q_2.2
  (try simp only [Int32.toInt_add, Int32.toInt_sub, Int32.toInt_mul, Int32.toInt_toInt64, Int64.toInt_add, z_m1, Int32.reduceToInt, Int64.reduceToInt, Int32.reduceToNatClampNeg, Int.bmod_def] at x0_2)
  refine vIf (fun h_5 => ?_) (fun h_5 => ?_)
  · have i_5 := congrArg Int32.toInt h_5
    (try simp only [Int32.toInt_add, Int32.toInt_sub, Int32.toInt_mul, Int32.toInt_toInt64, Int64.toInt_add, z_m1, Int32.reduceToInt, Int64.reduceToInt, Int32.reduceToNatClampNeg, Int.bmod_def] at i_5)
    refine vB (v_X8_refuse) (fun e_10 f_10 q_10 => ?_)
    have k_10 : ∀ a j, ¬ WM_X8_mean P a j → e_10.2 a j = M0 a j := fun a j h => (q_10 a j (wz_M_X8_refuse_X8_mean h))
    have c7_10 : Int32.toInt (e_10.2 P 7) = Int32.toInt (M0 P 7) := congrArg Int32.toInt (q_10 P 7 (wc_X8_refuse_7))
    have c8_10 : Int32.toInt (e_10.2 P 8) = Int32.toInt (M0 P 8) := congrArg Int32.toInt (q_10 P 8 (wc_X8_refuse_8))
    have c33_10 : Int32.toInt (e_10.2 P 33) = Int32.toInt (M0 P 33) := congrArg Int32.toInt (q_10 P 33 (wc_X8_refuse_33))
    have n_10 : nA P e_10.2 = nA P M0 := nA_congr (fun a j h => q_10 a j (wf_nA_X8_refuse h))
    have p_jB_10 : jB P e_10.2 := jB.mono p_jB (fun a j h => q_10 a j (wf_jB_X8_refuse h))
    obtain ⟨u0_jB_10, u1_jB_10, u2_jB_10, u3_jB_10, u4_jB_10, u5_jB_10⟩ := id p_jB_10
    have p_jS_10 : jS P e_10.2 := jS.mono p_jS (fun a j h => q_10 a j (wf_jS_X8_refuse h))
    obtain ⟨u0_jS_10, u1_jS_10, u2_jS_10, u3_jS_10, u4_jS_10, u5_jS_10, u6_jS_10, u7_jS_10⟩ := jS.ints p_jS_10
    have p_jR_10 : jR P e_10.2 := jR.mono p_jR (fun a j h => q_10 a j (wf_jR_X8_refuse h))
    have p_jK_10 : jK P e_10.2 := jK.mono p_jK (fun a j h => q_10 a j (wf_jK_X8_refuse h))
    have p_jT_10 : jT P e_10.2 := jT.mono p_jT (fun a j h => q_10 a j (wf_jT_X8_refuse h))
    obtain ⟨u0_jT_10, u1_jT_10, u2_jT_10, u3_jT_10, u4_jT_10, u5_jT_10⟩ := id p_jT_10
    exact ⟨_, rfl, k_10, (fun _ _ _ => rfl), ⟨p_jB_10, p_jS_10, p_jR_10, p_jK_10, p_jT_10⟩⟩
  · have i_5 : ¬ Int32.toInt e_2 = Int32.toInt (0 : Int32) := fun q => h_5 (Int32.toInt_inj.mp q)
    (try simp only [Int32.toInt_add, Int32.toInt_sub, Int32.toInt_mul, Int32.toInt_toInt64, Int64.toInt_add, z_m1, Int32.reduceToInt, Int64.reduceToInt, Int32.reduceToNatClampNeg, Int.bmod_def] at i_5)
    refine vB (v_X8_areMany p_jB p_jS) (fun e_16 f_16 q_16 => ?_)
    have k_16 : ∀ a j, ¬ WM_X8_mean P a j → e_16.2 a j = M0 a j := fun a j h => (q_16.1 a j (wz_M_X8_areMany_X8_mean h))
    have b_16 := q_16.2.1
    have c7_16 : Int32.toInt (e_16.2 P 7) = Int32.toInt (M0 P 7) := congrArg Int32.toInt (q_16.1 P 7 (wc_X8_areMany_7))
    have c8_16 : Int32.toInt (e_16.2 P 8) = Int32.toInt (M0 P 8) := congrArg Int32.toInt (q_16.1 P 8 (wc_X8_areMany_8))
    have n_16 : nA P e_16.2 = nA P M0 := nA_congr (fun a j h => q_16.1 a j (wf_nA_X8_areMany h))
    have p_jS_16 : jS P e_16.2 := jS.mono p_jS (fun a j h => q_16.1 a j (wf_jS_X8_areMany h))
    obtain ⟨u0_jS_16, u1_jS_16, u2_jS_16, u3_jS_16, u4_jS_16, u5_jS_16, u6_jS_16, u7_jS_16⟩ := jS.ints p_jS_16
    have p_jR_16 : jR P e_16.2 := jR.mono p_jR (fun a j h => q_16.1 a j (wf_jR_X8_areMany h))
    have p_jK_16 : jK P e_16.2 := jK.mono p_jK (fun a j h => q_16.1 a j (wf_jK_X8_areMany h))
    have p_jT_16 : jT P e_16.2 := jT.mono p_jT (fun a j h => q_16.1 a j (wf_jT_X8_areMany h))
    obtain ⟨u0_jT_16, u1_jT_16, u2_jT_16, u3_jT_16, u4_jT_16, u5_jT_16⟩ := id p_jT_16
    obtain ⟨x0_16, x1_16, x2_16, x3_16, x4_16⟩ := q_16.2.2
    obtain ⟨u0_jB_16, u1_jB_16, u2_jB_16, u3_jB_16, u4_jB_16, u5_jB_16⟩ := id x0_16
    (try simp only [Int32.toInt_add, Int32.toInt_sub, Int32.toInt_mul, Int32.toInt_toInt64, Int64.toInt_add, z_m1, Int32.reduceToInt, Int64.reduceToInt, Int32.reduceToNatClampNeg, Int.bmod_def] at x3_16)
    (try simp only [Int32.toInt_add, Int32.toInt_sub, Int32.toInt_mul, Int32.toInt_toInt64, Int64.toInt_add, z_m1, Int32.reduceToInt, Int64.reduceToInt, Int32.reduceToNatClampNeg, Int.bmod_def] at x4_16)
    refine vIf (fun h_19 => ?_) (fun h_19 => ?_)
    · have i_19 := congrArg Int32.toInt h_19
      (try simp only [Int32.toInt_add, Int32.toInt_sub, Int32.toInt_mul, Int32.toInt_toInt64, Int64.toInt_add, z_m1, Int32.reduceToInt, Int64.reduceToInt, Int32.reduceToNatClampNeg, Int.bmod_def] at i_19)
      refine vB (v_X8_laysAll x0_16 p_jS_16 p_jR_16 (by first | omega | (simp only [Int32.toInt_add, Int32.toInt_sub, Int32.toInt_mul, Int32.toInt_toInt64, Int64.toInt_add, z_m1, Int32.reduceToInt, Int64.reduceToInt, Int32.reduceToNatClampNeg, Int.bmod_def, or_true, true_or, and_true, true_and] <;> omega))) (fun e_30 f_30 q_30 => ?_)
      have k_30 : ∀ a j, ¬ WM_X8_mean P a j → e_30.1 a j = M0 a j := fun a j h => (q_30.1 a j (wz_M_X8_laysAll_X8_mean h)).trans (k_16 a j h)
      have kn_30 : ∀ a j, ¬ WN_X8_mean P a j → e_30.2 a j = N0 a j := fun a j h => (q_30.2.1 a j (wz_N_X8_laysAll_X8_mean h))
      have c7_30 : Int32.toInt (e_30.1 P 7) = Int32.toInt (e_16.2 P 7) := congrArg Int32.toInt (q_30.1 P 7 (wc_X8_laysAll_7))
      have c8_30 : Int32.toInt (e_30.1 P 8) = Int32.toInt (e_16.2 P 8) := congrArg Int32.toInt (q_30.1 P 8 (wc_X8_laysAll_8))
      have n_30 : nA P e_30.1 = nA P e_16.2 := nA_congr (fun a j h => q_30.1 a j (wf_nA_X8_laysAll h))
      have p_jS_30 : jS P e_30.1 := jS.mono p_jS_16 (fun a j h => q_30.1 a j (wf_jS_X8_laysAll h))
      obtain ⟨u0_jS_30, u1_jS_30, u2_jS_30, u3_jS_30, u4_jS_30, u5_jS_30, u6_jS_30, u7_jS_30⟩ := jS.ints p_jS_30
      have p_jK_30 : jK P e_30.1 := jK.mono p_jK_16 (fun a j h => q_30.1 a j (wf_jK_X8_laysAll h))
      have p_jT_30 : jT P e_30.1 := jT.mono p_jT_16 (fun a j h => q_30.1 a j (wf_jT_X8_laysAll h))
      obtain ⟨u0_jT_30, u1_jT_30, u2_jT_30, u3_jT_30, u4_jT_30, u5_jT_30⟩ := id p_jT_30
      obtain ⟨x0_30, x1_30, x2_30, x3_30, x4_30⟩ := q_30.2.2
      obtain ⟨u0_jB_30, u1_jB_30, u2_jB_30, u3_jB_30, u4_jB_30, u5_jB_30⟩ := id x0_30
      (try simp only [Int32.toInt_add, Int32.toInt_sub, Int32.toInt_mul, Int32.toInt_toInt64, Int64.toInt_add, z_m1, Int32.reduceToInt, Int64.reduceToInt, Int32.reduceToNatClampNeg, Int.bmod_def] at x4_30)
      refine vI (vp_of (by first | omega | (simp only [Int32.toInt_add, Int32.toInt_sub, Int32.toInt_mul, Int32.toInt_toInt64, Int64.toInt_add, z_m1, Int32.reduceToInt, Int64.reduceToInt, Int32.reduceToNatClampNeg, Int.bmod_def, or_true, true_or, and_true, true_and] <;> omega)) (by first | omega | (simp only [Int32.toInt_add, Int32.toInt_sub, Int32.toInt_mul, Int32.toInt_toInt64, Int64.toInt_add, z_m1, Int32.reduceToInt, Int64.reduceToInt, Int32.reduceToNatClampNeg, Int.bmod_def, or_true, true_or, and_true, true_and] <;> omega))) ?_
      refine vB (v_X8_givesLong) (fun e_40 f_40 q_40 => ?_)
      have k_40 : ∀ a j, ¬ WM_X8_mean P a j → e_40.2 a j = M0 a j := fun a j h => (q_40 a j (wz_M_X8_givesLong_X8_mean h)).trans (k_30 a j h)
      have c7_40 : Int32.toInt (e_40.2 P 7) = Int32.toInt (e_30.1 P 7) := congrArg Int32.toInt (q_40 P 7 (wc_X8_givesLong_7))
      have c8_40 : Int32.toInt (e_40.2 P 8) = Int32.toInt (e_30.1 P 8) := congrArg Int32.toInt (q_40 P 8 (wc_X8_givesLong_8))
      have c33_40 : Int32.toInt (e_40.2 P 33) = Int32.toInt (e_30.1 P 33) := congrArg Int32.toInt (q_40 P 33 (wc_X8_givesLong_33))
      have n_40 : nA P e_40.2 = nA P e_30.1 := nA_congr (fun a j h => q_40 a j (wf_nA_X8_givesLong h))
      have p_jS_40 : jS P e_40.2 := jS.mono p_jS_30 (fun a j h => q_40 a j (wf_jS_X8_givesLong h))
      obtain ⟨u0_jS_40, u1_jS_40, u2_jS_40, u3_jS_40, u4_jS_40, u5_jS_40, u6_jS_40, u7_jS_40⟩ := jS.ints p_jS_40
      have p_jK_40 : jK P e_40.2 := jK.mono p_jK_30 (fun a j h => q_40 a j (wf_jK_X8_givesLong h))
      have p_jT_40 : jT P e_40.2 := jT.mono p_jT_30 (fun a j h => q_40 a j (wf_jT_X8_givesLong h))
      obtain ⟨u0_jT_40, u1_jT_40, u2_jT_40, u3_jT_40, u4_jT_40, u5_jT_40⟩ := id p_jT_40
      have p_jB_40 : jB P e_40.2 := jB.mono x0_30 (fun a j h => q_40 a j (wf_jB_X8_givesLong h))
      obtain ⟨u0_jB_40, u1_jB_40, u2_jB_40, u3_jB_40, u4_jB_40, u5_jB_40⟩ := id p_jB_40
      have p_jL_40 : jL P e_40.2 := jL.mono x1_30 (fun a j h => q_40 a j (wf_jL_X8_givesLong h))
      have p_jH_40 : jH P e_40.2 := jH.mono x2_30 (fun a j h => q_40 a j (wf_jH_X8_givesLong h))
      have p_jR_40 : jR P e_40.2 := jR.mono x3_30 (fun a j h => q_40 a j (wf_jR_X8_givesLong h))
      exact ⟨_, rfl, k_40, kn_30, ⟨p_jB_40, p_jS_40, p_jR_40, p_jK_40, p_jT_40⟩⟩
    · have i_19 : ¬ Int32.toInt e_16.1 = Int32.toInt (0 : Int32) := fun q => h_19 (Int32.toInt_inj.mp q)
      (try simp only [Int32.toInt_add, Int32.toInt_sub, Int32.toInt_mul, Int32.toInt_toInt64, Int64.toInt_add, z_m1, Int32.reduceToInt, Int64.reduceToInt, Int32.reduceToNatClampNeg, Int.bmod_def] at i_19)
      refine vB (v_X8_refuse) (fun e_24 f_24 q_24 => ?_)
      have k_24 : ∀ a j, ¬ WM_X8_mean P a j → e_24.2 a j = M0 a j := fun a j h => (q_24 a j (wz_M_X8_refuse_X8_mean h)).trans (k_16 a j h)
      have c7_24 : Int32.toInt (e_24.2 P 7) = Int32.toInt (e_16.2 P 7) := congrArg Int32.toInt (q_24 P 7 (wc_X8_refuse_7))
      have c8_24 : Int32.toInt (e_24.2 P 8) = Int32.toInt (e_16.2 P 8) := congrArg Int32.toInt (q_24 P 8 (wc_X8_refuse_8))
      have c33_24 : Int32.toInt (e_24.2 P 33) = Int32.toInt (e_16.2 P 33) := congrArg Int32.toInt (q_24 P 33 (wc_X8_refuse_33))
      have n_24 : nA P e_24.2 = nA P e_16.2 := nA_congr (fun a j h => q_24 a j (wf_nA_X8_refuse h))
      have p_jS_24 : jS P e_24.2 := jS.mono p_jS_16 (fun a j h => q_24 a j (wf_jS_X8_refuse h))
      obtain ⟨u0_jS_24, u1_jS_24, u2_jS_24, u3_jS_24, u4_jS_24, u5_jS_24, u6_jS_24, u7_jS_24⟩ := jS.ints p_jS_24
      have p_jR_24 : jR P e_24.2 := jR.mono p_jR_16 (fun a j h => q_24 a j (wf_jR_X8_refuse h))
      have p_jK_24 : jK P e_24.2 := jK.mono p_jK_16 (fun a j h => q_24 a j (wf_jK_X8_refuse h))
      have p_jT_24 : jT P e_24.2 := jT.mono p_jT_16 (fun a j h => q_24 a j (wf_jT_X8_refuse h))
      obtain ⟨u0_jT_24, u1_jT_24, u2_jT_24, u3_jT_24, u4_jT_24, u5_jT_24⟩ := id p_jT_24
      have p_jB_24 : jB P e_24.2 := jB.mono x0_16 (fun a j h => q_24 a j (wf_jB_X8_refuse h))
      obtain ⟨u0_jB_24, u1_jB_24, u2_jB_24, u3_jB_24, u4_jB_24, u5_jB_24⟩ := id p_jB_24
      have p_jL_24 : jL P e_24.2 := jL.mono x1_16 (fun a j h => q_24 a j (wf_jL_X8_refuse h))
      have p_jH_24 : jH P e_24.2 := jH.mono x2_16 (fun a j h => q_24 a j (wf_jH_X8_refuse h))
      exact ⟨_, rfl, k_24, (fun _ _ _ => rfl), ⟨p_jB_24, p_jS_24, p_jR_24, p_jK_24, p_jT_24⟩⟩
def WM_X8_given (P : Nat) (a j : Nat) : Prop := (P + 11 ≤ a ∧ a < P + 23) ∨ (P + 29 ≤ a ∧ a < P + 30) ∨ (a = P ∧ (j = 6 ∨ j = 12 ∨ j = 33 ∨ j = 54 ∨ j = 55 ∨ j = 56 ∨ j = 57))
def WN_X8_given (P : Nat) (a j : Nat) : Prop := (P + 24 ≤ a ∧ a < P + 29) ∨ (a = P ∧ (j = 59))
theorem wz_M_X8_gives_X8_given {P a j : Nat} (h : ¬ WM_X8_given P a j) : ¬ WM_X8_gives P a j := by unfold WM_X8_gives; unfold WM_X8_given at h; omega
theorem wz_M_X8_refuse_X8_given {P a j : Nat} (h : ¬ WM_X8_given P a j) : ¬ WM_X8_refuse P a j := by unfold WM_X8_refuse; unfold WM_X8_given at h; omega
theorem wz_M_X8_areMany_X8_given {P a j : Nat} (h : ¬ WM_X8_given P a j) : ¬ WM_X8_areMany P a j := by unfold WM_X8_areMany; unfold WM_X8_given at h; omega
theorem wz_M_X8_laysAll_X8_given {P a j : Nat} (h : ¬ WM_X8_given P a j) : ¬ WM_X8_laysAll P a j := by unfold WM_X8_laysAll; unfold WM_X8_given at h; omega
theorem wz_N_X8_laysAll_X8_given {P a j : Nat} (h : ¬ WN_X8_given P a j) : ¬ WN_X8_laysAll P a j := by unfold WN_X8_laysAll; unfold WN_X8_given at h; omega
set_option maxRecDepth 100000 in
set_option maxHeartbeats 4000000 in
theorem v_X8_given {P : Nat} {v0 : Int32} {M0 : zMt} {N0 : zNt}  (p_jB : jB P M0) (p_jS : jS P M0) (p_jR : jR P M0) (p_jK : jK P M0) (p_jT : jT P M0) : ∃ r, D_X8_given P v0 M0 N0 = some r ∧ ((∀ a j, ¬ WM_X8_given P a j → r.2.1 a j = M0 a j) ∧ (∀ a j, ¬ WN_X8_given P a j → r.2.2 a j = N0 a j) ∧ ((jB P r.2.1) ∧ (jS P r.2.1) ∧ (jR P r.2.1) ∧ (jK P r.2.1) ∧ (jT P r.2.1))) := by
  obtain ⟨u0_jB, u1_jB, u2_jB, u3_jB, u4_jB, u5_jB⟩ := id p_jB
  obtain ⟨u0_jS, u1_jS, u2_jS, u3_jS, u4_jS, u5_jS, u6_jS, u7_jS⟩ := jS.ints p_jS
  obtain ⟨u0_jT, u1_jT, u2_jT, u3_jT, u4_jT, u5_jT⟩ := id p_jT
  have T_49 : ∀ (y1_49 : Int32) (M_49 : zMt) (N_49 : zNt), (∀ a j, ¬ WM_X8_given P a j → M_49 a j = M0 a j) → (∀ a j, ¬ WN_X8_given P a j → N_49 a j = N0 a j) → (jB P M_49) → (jH P M_49) → (jK P M_49) → (jL P M_49) → (jR P M_49) → (jS P M_49) → (jT P M_49) → ∃ r, D_X8_given_49 P y1_49 M_49 N_49 = some r ∧ ((∀ a j, ¬ WM_X8_given P a j → r.2.1 a j = M0 a j) ∧ (∀ a j, ¬ WN_X8_given P a j → r.2.2 a j = N0 a j) ∧ ((jB P r.2.1) ∧ (jS P r.2.1) ∧ (jR P r.2.1) ∧ (jK P r.2.1) ∧ (jT P r.2.1))) := by
    intro y1_49 M_49 N_49 k_49 kn_49 p_jB_49 p_jH_49 p_jK_49 p_jL_49 p_jR_49 p_jS_49 p_jT_49
    obtain ⟨u0_jB_49, u1_jB_49, u2_jB_49, u3_jB_49, u4_jB_49, u5_jB_49⟩ := id p_jB_49
    obtain ⟨u0_jS_49, u1_jS_49, u2_jS_49, u3_jS_49, u4_jS_49, u5_jS_49, u6_jS_49, u7_jS_49⟩ := jS.ints p_jS_49
    obtain ⟨u0_jT_49, u1_jT_49, u2_jT_49, u3_jT_49, u4_jT_49, u5_jT_49⟩ := id p_jT_49
    unfold D_X8_given_49
    refine vB (v_X8_gives) (fun e_49 f_49 q_49 => ?_)
    have k_49 : ∀ a j, ¬ WM_X8_given P a j → e_49.2 a j = M0 a j := fun a j h => (q_49 a j (wz_M_X8_gives_X8_given h)).trans (k_49 a j h)
    have c7_49 : Int32.toInt (e_49.2 P 7) = Int32.toInt (M_49 P 7) := congrArg Int32.toInt (q_49 P 7 (wc_X8_gives_7))
    have c8_49 : Int32.toInt (e_49.2 P 8) = Int32.toInt (M_49 P 8) := congrArg Int32.toInt (q_49 P 8 (wc_X8_gives_8))
    have c33_49 : Int32.toInt (e_49.2 P 33) = Int32.toInt (M_49 P 33) := congrArg Int32.toInt (q_49 P 33 (wc_X8_gives_33))
    have n_49 : nA P e_49.2 = nA P M_49 := nA_congr (fun a j h => q_49 a j (wf_nA_X8_gives h))
    have p_jB_49 : jB P e_49.2 := jB.mono p_jB_49 (fun a j h => q_49 a j (wf_jB_X8_gives h))
    obtain ⟨u0_jB_49, u1_jB_49, u2_jB_49, u3_jB_49, u4_jB_49, u5_jB_49⟩ := id p_jB_49
    have p_jH_49 : jH P e_49.2 := jH.mono p_jH_49 (fun a j h => q_49 a j (wf_jH_X8_gives h))
    have p_jK_49 : jK P e_49.2 := jK.mono p_jK_49 (fun a j h => q_49 a j (wf_jK_X8_gives h))
    have p_jL_49 : jL P e_49.2 := jL.mono p_jL_49 (fun a j h => q_49 a j (wf_jL_X8_gives h))
    have p_jR_49 : jR P e_49.2 := jR.mono p_jR_49 (fun a j h => q_49 a j (wf_jR_X8_gives h))
    have p_jS_49 : jS P e_49.2 := jS.mono p_jS_49 (fun a j h => q_49 a j (wf_jS_X8_gives h))
    obtain ⟨u0_jS_49, u1_jS_49, u2_jS_49, u3_jS_49, u4_jS_49, u5_jS_49, u6_jS_49, u7_jS_49⟩ := jS.ints p_jS_49
    have p_jT_49 : jT P e_49.2 := jT.mono p_jT_49 (fun a j h => q_49 a j (wf_jT_X8_gives h))
    obtain ⟨u0_jT_49, u1_jT_49, u2_jT_49, u3_jT_49, u4_jT_49, u5_jT_49⟩ := id p_jT_49
    exact ⟨_, rfl, k_49, kn_49, ⟨p_jB_49, p_jS_49, p_jR_49, p_jK_49, p_jT_49⟩⟩
  unfold D_X8_given
  refine vB (v_X8_isFrom) (fun e_4 f_4 q_4 => ?_)
  have b_4 := q_4.1
  have x0_4 := q_4.2
  (try simp only [Int32.toInt_add, Int32.toInt_sub, Int32.toInt_mul, Int32.toInt_toInt64, Int64.toInt_add, z_m1, Int32.reduceToInt, Int64.reduceToInt, Int32.reduceToNatClampNeg, Int.bmod_def] at x0_4)
  refine vIf (fun h_7 => ?_) (fun h_7 => ?_)
  · have i_7 := congrArg Int32.toInt h_7
    (try simp only [Int32.toInt_add, Int32.toInt_sub, Int32.toInt_mul, Int32.toInt_toInt64, Int64.toInt_add, z_m1, Int32.reduceToInt, Int64.reduceToInt, Int32.reduceToNatClampNeg, Int.bmod_def] at i_7)
    refine vB (v_X8_refuse) (fun e_12 f_12 q_12 => ?_)
    have k_12 : ∀ a j, ¬ WM_X8_given P a j → e_12.2 a j = M0 a j := fun a j h => (q_12 a j (wz_M_X8_refuse_X8_given h))
    have c7_12 : Int32.toInt (e_12.2 P 7) = Int32.toInt (M0 P 7) := congrArg Int32.toInt (q_12 P 7 (wc_X8_refuse_7))
    have c8_12 : Int32.toInt (e_12.2 P 8) = Int32.toInt (M0 P 8) := congrArg Int32.toInt (q_12 P 8 (wc_X8_refuse_8))
    have c33_12 : Int32.toInt (e_12.2 P 33) = Int32.toInt (M0 P 33) := congrArg Int32.toInt (q_12 P 33 (wc_X8_refuse_33))
    have n_12 : nA P e_12.2 = nA P M0 := nA_congr (fun a j h => q_12 a j (wf_nA_X8_refuse h))
    have p_jB_12 : jB P e_12.2 := jB.mono p_jB (fun a j h => q_12 a j (wf_jB_X8_refuse h))
    obtain ⟨u0_jB_12, u1_jB_12, u2_jB_12, u3_jB_12, u4_jB_12, u5_jB_12⟩ := id p_jB_12
    have p_jS_12 : jS P e_12.2 := jS.mono p_jS (fun a j h => q_12 a j (wf_jS_X8_refuse h))
    obtain ⟨u0_jS_12, u1_jS_12, u2_jS_12, u3_jS_12, u4_jS_12, u5_jS_12, u6_jS_12, u7_jS_12⟩ := jS.ints p_jS_12
    have p_jR_12 : jR P e_12.2 := jR.mono p_jR (fun a j h => q_12 a j (wf_jR_X8_refuse h))
    have p_jK_12 : jK P e_12.2 := jK.mono p_jK (fun a j h => q_12 a j (wf_jK_X8_refuse h))
    have p_jT_12 : jT P e_12.2 := jT.mono p_jT (fun a j h => q_12 a j (wf_jT_X8_refuse h))
    obtain ⟨u0_jT_12, u1_jT_12, u2_jT_12, u3_jT_12, u4_jT_12, u5_jT_12⟩ := id p_jT_12
    exact ⟨_, rfl, k_12, (fun _ _ _ => rfl), ⟨p_jB_12, p_jS_12, p_jR_12, p_jK_12, p_jT_12⟩⟩
  · have i_7 : ¬ Int32.toInt e_4 = Int32.toInt (0 : Int32) := fun q => h_7 (Int32.toInt_inj.mp q)
    (try simp only [Int32.toInt_add, Int32.toInt_sub, Int32.toInt_mul, Int32.toInt_toInt64, Int64.toInt_add, z_m1, Int32.reduceToInt, Int64.reduceToInt, Int32.reduceToNatClampNeg, Int.bmod_def] at i_7)
    refine vB (v_X8_areMany p_jB p_jS) (fun e_17 f_17 q_17 => ?_)
    have k_17 : ∀ a j, ¬ WM_X8_given P a j → e_17.2 a j = M0 a j := fun a j h => (q_17.1 a j (wz_M_X8_areMany_X8_given h))
    have b_17 := q_17.2.1
    have c7_17 : Int32.toInt (e_17.2 P 7) = Int32.toInt (M0 P 7) := congrArg Int32.toInt (q_17.1 P 7 (wc_X8_areMany_7))
    have c8_17 : Int32.toInt (e_17.2 P 8) = Int32.toInt (M0 P 8) := congrArg Int32.toInt (q_17.1 P 8 (wc_X8_areMany_8))
    have n_17 : nA P e_17.2 = nA P M0 := nA_congr (fun a j h => q_17.1 a j (wf_nA_X8_areMany h))
    have p_jS_17 : jS P e_17.2 := jS.mono p_jS (fun a j h => q_17.1 a j (wf_jS_X8_areMany h))
    obtain ⟨u0_jS_17, u1_jS_17, u2_jS_17, u3_jS_17, u4_jS_17, u5_jS_17, u6_jS_17, u7_jS_17⟩ := jS.ints p_jS_17
    have p_jR_17 : jR P e_17.2 := jR.mono p_jR (fun a j h => q_17.1 a j (wf_jR_X8_areMany h))
    have p_jK_17 : jK P e_17.2 := jK.mono p_jK (fun a j h => q_17.1 a j (wf_jK_X8_areMany h))
    have p_jT_17 : jT P e_17.2 := jT.mono p_jT (fun a j h => q_17.1 a j (wf_jT_X8_areMany h))
    obtain ⟨u0_jT_17, u1_jT_17, u2_jT_17, u3_jT_17, u4_jT_17, u5_jT_17⟩ := id p_jT_17
    obtain ⟨x0_17, x1_17, x2_17, x3_17, x4_17⟩ := q_17.2.2
    obtain ⟨u0_jB_17, u1_jB_17, u2_jB_17, u3_jB_17, u4_jB_17, u5_jB_17⟩ := id x0_17
    (try simp only [Int32.toInt_add, Int32.toInt_sub, Int32.toInt_mul, Int32.toInt_toInt64, Int64.toInt_add, z_m1, Int32.reduceToInt, Int64.reduceToInt, Int32.reduceToNatClampNeg, Int.bmod_def] at x3_17)
    (try simp only [Int32.toInt_add, Int32.toInt_sub, Int32.toInt_mul, Int32.toInt_toInt64, Int64.toInt_add, z_m1, Int32.reduceToInt, Int64.reduceToInt, Int32.reduceToNatClampNeg, Int.bmod_def] at x4_17)
    refine vIf (fun h_20 => ?_) (fun h_20 => ?_)
    · have i_20 := congrArg Int32.toInt h_20
      (try simp only [Int32.toInt_add, Int32.toInt_sub, Int32.toInt_mul, Int32.toInt_toInt64, Int64.toInt_add, z_m1, Int32.reduceToInt, Int64.reduceToInt, Int32.reduceToNatClampNeg, Int.bmod_def] at i_20)
      refine vB (v_X8_laysAll x0_17 p_jS_17 p_jR_17 (by first | omega | (simp only [Int32.toInt_add, Int32.toInt_sub, Int32.toInt_mul, Int32.toInt_toInt64, Int64.toInt_add, z_m1, Int32.reduceToInt, Int64.reduceToInt, Int32.reduceToNatClampNeg, Int.bmod_def, or_true, true_or, and_true, true_and] <;> omega))) (fun e_30 f_30 q_30 => ?_)
      have k_30 : ∀ a j, ¬ WM_X8_given P a j → e_30.1 a j = M0 a j := fun a j h => (q_30.1 a j (wz_M_X8_laysAll_X8_given h)).trans (k_17 a j h)
      have kn_30 : ∀ a j, ¬ WN_X8_given P a j → e_30.2 a j = N0 a j := fun a j h => (q_30.2.1 a j (wz_N_X8_laysAll_X8_given h))
      have c7_30 : Int32.toInt (e_30.1 P 7) = Int32.toInt (e_17.2 P 7) := congrArg Int32.toInt (q_30.1 P 7 (wc_X8_laysAll_7))
      have c8_30 : Int32.toInt (e_30.1 P 8) = Int32.toInt (e_17.2 P 8) := congrArg Int32.toInt (q_30.1 P 8 (wc_X8_laysAll_8))
      have n_30 : nA P e_30.1 = nA P e_17.2 := nA_congr (fun a j h => q_30.1 a j (wf_nA_X8_laysAll h))
      have p_jS_30 : jS P e_30.1 := jS.mono p_jS_17 (fun a j h => q_30.1 a j (wf_jS_X8_laysAll h))
      obtain ⟨u0_jS_30, u1_jS_30, u2_jS_30, u3_jS_30, u4_jS_30, u5_jS_30, u6_jS_30, u7_jS_30⟩ := jS.ints p_jS_30
      have p_jK_30 : jK P e_30.1 := jK.mono p_jK_17 (fun a j h => q_30.1 a j (wf_jK_X8_laysAll h))
      have p_jT_30 : jT P e_30.1 := jT.mono p_jT_17 (fun a j h => q_30.1 a j (wf_jT_X8_laysAll h))
      obtain ⟨u0_jT_30, u1_jT_30, u2_jT_30, u3_jT_30, u4_jT_30, u5_jT_30⟩ := id p_jT_30
      obtain ⟨x0_30, x1_30, x2_30, x3_30, x4_30⟩ := q_30.2.2
      obtain ⟨u0_jB_30, u1_jB_30, u2_jB_30, u3_jB_30, u4_jB_30, u5_jB_30⟩ := id x0_30
      (try simp only [Int32.toInt_add, Int32.toInt_sub, Int32.toInt_mul, Int32.toInt_toInt64, Int64.toInt_add, z_m1, Int32.reduceToInt, Int64.reduceToInt, Int32.reduceToNatClampNeg, Int.bmod_def] at x4_30)
      refine vIf (fun h_35 => ?_) (fun h_35 => ?_)
      · have i_35 := congrArg Int32.toInt h_35
        (try simp only [Int32.toInt_add, Int32.toInt_sub, Int32.toInt_mul, Int32.toInt_toInt64, Int64.toInt_add, z_m1, Int32.reduceToInt, Int64.reduceToInt, Int32.reduceToNatClampNeg, Int.bmod_def] at i_35)
        exact T_49 _ _ _ k_30 kn_30 x0_30 x2_30 p_jK_30 x1_30 x3_30 p_jS_30 p_jT_30
      · have i_35 : ¬ Int32.toInt v0 = Int32.toInt (0 : Int32) := fun q => h_35 (Int32.toInt_inj.mp q)
        (try simp only [Int32.toInt_add, Int32.toInt_sub, Int32.toInt_mul, Int32.toInt_toInt64, Int64.toInt_add, z_m1, Int32.reduceToInt, Int64.reduceToInt, Int32.reduceToNatClampNeg, Int.bmod_def] at i_35)
        exact T_49 _ _ _ k_30 kn_30 x0_30 x2_30 p_jK_30 x1_30 x3_30 p_jS_30 p_jT_30
    · have i_20 : ¬ Int32.toInt e_17.1 = Int32.toInt (0 : Int32) := fun q => h_20 (Int32.toInt_inj.mp q)
      (try simp only [Int32.toInt_add, Int32.toInt_sub, Int32.toInt_mul, Int32.toInt_toInt64, Int64.toInt_add, z_m1, Int32.reduceToInt, Int64.reduceToInt, Int32.reduceToNatClampNeg, Int.bmod_def] at i_20)
      refine vB (v_X8_refuse) (fun e_25 f_25 q_25 => ?_)
      have k_25 : ∀ a j, ¬ WM_X8_given P a j → e_25.2 a j = M0 a j := fun a j h => (q_25 a j (wz_M_X8_refuse_X8_given h)).trans (k_17 a j h)
      have c7_25 : Int32.toInt (e_25.2 P 7) = Int32.toInt (e_17.2 P 7) := congrArg Int32.toInt (q_25 P 7 (wc_X8_refuse_7))
      have c8_25 : Int32.toInt (e_25.2 P 8) = Int32.toInt (e_17.2 P 8) := congrArg Int32.toInt (q_25 P 8 (wc_X8_refuse_8))
      have c33_25 : Int32.toInt (e_25.2 P 33) = Int32.toInt (e_17.2 P 33) := congrArg Int32.toInt (q_25 P 33 (wc_X8_refuse_33))
      have n_25 : nA P e_25.2 = nA P e_17.2 := nA_congr (fun a j h => q_25 a j (wf_nA_X8_refuse h))
      have p_jS_25 : jS P e_25.2 := jS.mono p_jS_17 (fun a j h => q_25 a j (wf_jS_X8_refuse h))
      obtain ⟨u0_jS_25, u1_jS_25, u2_jS_25, u3_jS_25, u4_jS_25, u5_jS_25, u6_jS_25, u7_jS_25⟩ := jS.ints p_jS_25
      have p_jR_25 : jR P e_25.2 := jR.mono p_jR_17 (fun a j h => q_25 a j (wf_jR_X8_refuse h))
      have p_jK_25 : jK P e_25.2 := jK.mono p_jK_17 (fun a j h => q_25 a j (wf_jK_X8_refuse h))
      have p_jT_25 : jT P e_25.2 := jT.mono p_jT_17 (fun a j h => q_25 a j (wf_jT_X8_refuse h))
      obtain ⟨u0_jT_25, u1_jT_25, u2_jT_25, u3_jT_25, u4_jT_25, u5_jT_25⟩ := id p_jT_25
      have p_jB_25 : jB P e_25.2 := jB.mono x0_17 (fun a j h => q_25 a j (wf_jB_X8_refuse h))
      obtain ⟨u0_jB_25, u1_jB_25, u2_jB_25, u3_jB_25, u4_jB_25, u5_jB_25⟩ := id p_jB_25
      have p_jL_25 : jL P e_25.2 := jL.mono x1_17 (fun a j h => q_25 a j (wf_jL_X8_refuse h))
      have p_jH_25 : jH P e_25.2 := jH.mono x2_17 (fun a j h => q_25 a j (wf_jH_X8_refuse h))
      exact ⟨_, rfl, k_25, (fun _ _ _ => rfl), ⟨p_jB_25, p_jS_25, p_jR_25, p_jK_25, p_jT_25⟩⟩
def WM_X8_ends (P : Nat) (a j : Nat) : Prop := (P + 11 ≤ a ∧ a < P + 23) ∨ (P + 29 ≤ a ∧ a < P + 30) ∨ (a = P ∧ (j = 6 ∨ j = 12 ∨ j = 33 ∨ j = 54 ∨ j = 55 ∨ j = 56 ∨ j = 57))
def WN_X8_ends (P : Nat) (a j : Nat) : Prop := (P + 24 ≤ a ∧ a < P + 29) ∨ (a = P ∧ (j = 59))
theorem wz_M_X8_gives_X8_ends {P a j : Nat} (h : ¬ WM_X8_ends P a j) : ¬ WM_X8_gives P a j := by unfold WM_X8_gives; unfold WM_X8_ends at h; omega
theorem wz_M_X8_areMany_X8_ends {P a j : Nat} (h : ¬ WM_X8_ends P a j) : ¬ WM_X8_areMany P a j := by unfold WM_X8_areMany; unfold WM_X8_ends at h; omega
theorem wz_M_X8_laysAll_X8_ends {P a j : Nat} (h : ¬ WM_X8_ends P a j) : ¬ WM_X8_laysAll P a j := by unfold WM_X8_laysAll; unfold WM_X8_ends at h; omega
theorem wz_N_X8_laysAll_X8_ends {P a j : Nat} (h : ¬ WN_X8_ends P a j) : ¬ WN_X8_laysAll P a j := by unfold WN_X8_laysAll; unfold WN_X8_ends at h; omega
theorem wz_M_X8_refuse_X8_ends {P a j : Nat} (h : ¬ WM_X8_ends P a j) : ¬ WM_X8_refuse P a j := by unfold WM_X8_refuse; unfold WM_X8_ends at h; omega
set_option maxRecDepth 100000 in
set_option maxHeartbeats 4000000 in
theorem v_X8_ends {P : Nat}  {M0 : zMt} {N0 : zNt}  (p_jB : jB P M0) (p_jS : jS P M0) (p_jR : jR P M0) (p_jK : jK P M0) (p_jT : jT P M0) : ∃ r, D_X8_ends P M0 N0 = some r ∧ ((∀ a j, ¬ WM_X8_ends P a j → r.2.1 a j = M0 a j) ∧ (∀ a j, ¬ WN_X8_ends P a j → r.2.2 a j = N0 a j) ∧ ((jB P r.2.1) ∧ (jS P r.2.1) ∧ (jR P r.2.1) ∧ (jK P r.2.1) ∧ (jT P r.2.1))) := by
  obtain ⟨u0_jB, u1_jB, u2_jB, u3_jB, u4_jB, u5_jB⟩ := id p_jB
  obtain ⟨u0_jS, u1_jS, u2_jS, u3_jS, u4_jS, u5_jS, u6_jS, u7_jS⟩ := jS.ints p_jS
  obtain ⟨u0_jT, u1_jT, u2_jT, u3_jT, u4_jT, u5_jT⟩ := id p_jT
  have TL_21 : ∀ u : Nat, ∀ (x1_21 : Int32) (x2_21 : Int32) (M_21 : zMt) (N_21 : zNt), (∀ a j, ¬ WM_X8_ends P a j → M_21 a j = M0 a j) → (∀ a j, ¬ WN_X8_ends P a j → N_21 a j = N0 a j) → (jB P M_21) → (jH P M_21) → (jK P M_21) → (jL P M_21) → (jR P M_21) → (jS P M_21) → (jT P M_21) → (0 ≤ Int32.toInt x2_21) → (Int32.toInt x2_21 ≤ 128) → (2147483648 - Int32.toInt x2_21).toNat < u → ∃ r, D_X8_ends_21 P u x1_21 x2_21 M_21 N_21 = some r ∧ ((∀ a j, ¬ WM_X8_ends P a j → r.2.1 a j = M0 a j) ∧ (∀ a j, ¬ WN_X8_ends P a j → r.2.2 a j = N0 a j) ∧ ((jB P r.2.1) ∧ (jS P r.2.1) ∧ (jR P r.2.1) ∧ (jK P r.2.1) ∧ (jT P r.2.1))) := by
    intro u
    induction u with
    | zero => intro x1_21 x2_21 M_21 N_21 k_21 kn_21 p_jB_21 p_jH_21 p_jK_21 p_jL_21 p_jR_21 p_jS_21 p_jT_21 f0_21 f1_21 hm_21; exact absurd hm_21 (Nat.not_lt_zero _)
    | succ u_21 ih_21 =>
      have T_43 : ∀ (x2_43 : Int32) (y0_43 : Int32) (y1_43 : Int32) (M_43 : zMt) (N_43 : zNt), (∀ a j, ¬ WM_X8_ends P a j → M_43 a j = M0 a j) → (∀ a j, ¬ WN_X8_ends P a j → N_43 a j = N0 a j) → (jB P M_43) → (jH P M_43) → (jK P M_43) → (jL P M_43) → (jR P M_43) → (jS P M_43) → (jT P M_43) → (y1_43 = 0 ∨ y1_43 = 1) → (0 ≤ Int32.toInt x2_43) → (Int32.toInt x2_43 < 128) → ((2147483648 - Int32.toInt x2_43).toNat < u_21 + 1) → (Int32.toInt x2_43 < 2147483647) → ∃ r, D_X8_ends_43 P (D_X8_ends_21 P u_21) x2_43 y0_43 y1_43 M_43 N_43 = some r ∧ ((∀ a j, ¬ WM_X8_ends P a j → r.2.1 a j = M0 a j) ∧ (∀ a j, ¬ WN_X8_ends P a j → r.2.2 a j = N0 a j) ∧ ((jB P r.2.1) ∧ (jS P r.2.1) ∧ (jR P r.2.1) ∧ (jK P r.2.1) ∧ (jT P r.2.1))) := by
        intro x2_43 y0_43 y1_43 M_43 N_43 k_43 kn_43 p_jB_43 p_jH_43 p_jK_43 p_jL_43 p_jR_43 p_jS_43 p_jT_43 f0_43 f1_43 f2_43 f3_43 f4_43
        obtain ⟨u0_jB_43, u1_jB_43, u2_jB_43, u3_jB_43, u4_jB_43, u5_jB_43⟩ := id p_jB_43
        obtain ⟨u0_jS_43, u1_jS_43, u2_jS_43, u3_jS_43, u4_jS_43, u5_jS_43, u6_jS_43, u7_jS_43⟩ := jS.ints p_jS_43
        obtain ⟨u0_jT_43, u1_jT_43, u2_jT_43, u3_jT_43, u4_jT_43, u5_jT_43⟩ := id p_jT_43
        unfold D_X8_ends_43
        exact ih_21 _ _ _ _ k_43 kn_43 p_jB_43 p_jH_43 p_jK_43 p_jL_43 p_jR_43 p_jS_43 p_jT_43 (by first | omega | (simp only [Int32.toInt_add, Int32.toInt_sub, Int32.toInt_mul, Int32.toInt_toInt64, Int64.toInt_add, z_m1, Int32.reduceToInt, Int64.reduceToInt, Int32.reduceToNatClampNeg, Int.bmod_def, or_true, true_or, and_true, true_and] <;> omega)) (by first | omega | (simp only [Int32.toInt_add, Int32.toInt_sub, Int32.toInt_mul, Int32.toInt_toInt64, Int64.toInt_add, z_m1, Int32.reduceToInt, Int64.reduceToInt, Int32.reduceToNatClampNeg, Int.bmod_def, or_true, true_or, and_true, true_and] <;> omega)) (z_up1 f4_43 f3_43)
      intro x1_21 x2_21 M_21 N_21 k_21 kn_21 p_jB_21 p_jH_21 p_jK_21 p_jL_21 p_jR_21 p_jS_21 p_jT_21 f0_21 f1_21 hm_21
      obtain ⟨u0_jB_21, u1_jB_21, u2_jB_21, u3_jB_21, u4_jB_21, u5_jB_21⟩ := id p_jB_21
      obtain ⟨u0_jS_21, u1_jS_21, u2_jS_21, u3_jS_21, u4_jS_21, u5_jS_21, u6_jS_21, u7_jS_21⟩ := jS.ints p_jS_21
      obtain ⟨u0_jT_21, u1_jT_21, u2_jT_21, u3_jT_21, u4_jT_21, u5_jT_21⟩ := id p_jT_21
      rw [D_X8_ends_21]
      refine vIf (fun h_25 => ?_) (fun h_25 => ?_)
      · have i_25 := Int32.le_iff_toInt_le.mp h_25
        (try simp only [Int32.toInt_add, Int32.toInt_sub, Int32.toInt_mul, Int32.toInt_toInt64, Int64.toInt_add, z_m1, Int32.reduceToInt, Int64.reduceToInt, Int32.reduceToNatClampNeg, Int.bmod_def] at i_25)
        refine vB (v_X8_gives) (fun e_53 f_53 q_53 => ?_)
        have k_53 : ∀ a j, ¬ WM_X8_ends P a j → e_53.2 a j = M0 a j := fun a j h => (q_53 a j (wz_M_X8_gives_X8_ends h)).trans (k_21 a j h)
        have c7_53 : Int32.toInt (e_53.2 P 7) = Int32.toInt (M_21 P 7) := congrArg Int32.toInt (q_53 P 7 (wc_X8_gives_7))
        have c8_53 : Int32.toInt (e_53.2 P 8) = Int32.toInt (M_21 P 8) := congrArg Int32.toInt (q_53 P 8 (wc_X8_gives_8))
        have c33_53 : Int32.toInt (e_53.2 P 33) = Int32.toInt (M_21 P 33) := congrArg Int32.toInt (q_53 P 33 (wc_X8_gives_33))
        have n_53 : nA P e_53.2 = nA P M_21 := nA_congr (fun a j h => q_53 a j (wf_nA_X8_gives h))
        have p_jB_53 : jB P e_53.2 := jB.mono p_jB_21 (fun a j h => q_53 a j (wf_jB_X8_gives h))
        obtain ⟨u0_jB_53, u1_jB_53, u2_jB_53, u3_jB_53, u4_jB_53, u5_jB_53⟩ := id p_jB_53
        have p_jH_53 : jH P e_53.2 := jH.mono p_jH_21 (fun a j h => q_53 a j (wf_jH_X8_gives h))
        have p_jK_53 : jK P e_53.2 := jK.mono p_jK_21 (fun a j h => q_53 a j (wf_jK_X8_gives h))
        have p_jL_53 : jL P e_53.2 := jL.mono p_jL_21 (fun a j h => q_53 a j (wf_jL_X8_gives h))
        have p_jR_53 : jR P e_53.2 := jR.mono p_jR_21 (fun a j h => q_53 a j (wf_jR_X8_gives h))
        have p_jS_53 : jS P e_53.2 := jS.mono p_jS_21 (fun a j h => q_53 a j (wf_jS_X8_gives h))
        obtain ⟨u0_jS_53, u1_jS_53, u2_jS_53, u3_jS_53, u4_jS_53, u5_jS_53, u6_jS_53, u7_jS_53⟩ := jS.ints p_jS_53
        have p_jT_53 : jT P e_53.2 := jT.mono p_jT_21 (fun a j h => q_53 a j (wf_jT_X8_gives h))
        obtain ⟨u0_jT_53, u1_jT_53, u2_jT_53, u3_jT_53, u4_jT_53, u5_jT_53⟩ := id p_jT_53
        exact ⟨_, rfl, k_53, kn_21, ⟨p_jB_53, p_jS_53, p_jR_53, p_jK_53, p_jT_53⟩⟩
      · have i_25 := Int32.lt_iff_toInt_lt.mp (Int32.not_le.mp h_25)
        (try simp only [Int32.toInt_add, Int32.toInt_sub, Int32.toInt_mul, Int32.toInt_toInt64, Int64.toInt_add, z_m1, Int32.reduceToInt, Int64.reduceToInt, Int32.reduceToNatClampNeg, Int.bmod_def] at i_25)
        refine vI (vp_of (by first | omega | (simp only [Int32.toInt_add, Int32.toInt_sub, Int32.toInt_mul, Int32.toInt_toInt64, Int64.toInt_add, z_m1, Int32.reduceToInt, Int64.reduceToInt, Int32.reduceToNatClampNeg, Int.bmod_def, or_true, true_or, and_true, true_and] <;> omega)) (by first | omega | (simp only [Int32.toInt_add, Int32.toInt_sub, Int32.toInt_mul, Int32.toInt_toInt64, Int64.toInt_add, z_m1, Int32.reduceToInt, Int64.reduceToInt, Int32.reduceToNatClampNeg, Int.bmod_def, or_true, true_or, and_true, true_and] <;> omega))) ?_
        refine vIf (fun h_35 => ?_) (fun h_35 => ?_)
        · have i_35 := congrArg Int32.toInt h_35
          (try simp only [Int32.toInt_add, Int32.toInt_sub, Int32.toInt_mul, Int32.toInt_toInt64, Int64.toInt_add, z_m1, Int32.reduceToInt, Int64.reduceToInt, Int32.reduceToNatClampNeg, Int.bmod_def] at i_35)
          exact T_43 _ _ _ _ _ k_21 kn_21 p_jB_21 p_jH_21 p_jK_21 p_jL_21 p_jR_21 p_jS_21 p_jT_21 (by first | exact Or.inl rfl | exact Or.inr rfl | assumption) (by first | omega | (simp only [Int32.toInt_add, Int32.toInt_sub, Int32.toInt_mul, Int32.toInt_toInt64, Int64.toInt_add, z_m1, Int32.reduceToInt, Int64.reduceToInt, Int32.reduceToNatClampNeg, Int.bmod_def, or_true, true_or, and_true, true_and] <;> omega)) (by first | omega | (simp only [Int32.toInt_add, Int32.toInt_sub, Int32.toInt_mul, Int32.toInt_toInt64, Int64.toInt_add, z_m1, Int32.reduceToInt, Int64.reduceToInt, Int32.reduceToNatClampNeg, Int.bmod_def, or_true, true_or, and_true, true_and] <;> omega)) hm_21 (by first | assumption | exact z_lt (by assumption) | exact z_lt2 (by assumption) | exact z_lt3 (by assumption) (by first | assumption | decide))
        · have i_35 : ¬ Int32.toInt (M_21 (P + 29) x2_21.toNatClampNeg) = Int32.toInt (0 : Int32) := fun q => h_35 (Int32.toInt_inj.mp q)
          (try simp only [Int32.toInt_add, Int32.toInt_sub, Int32.toInt_mul, Int32.toInt_toInt64, Int64.toInt_add, z_m1, Int32.reduceToInt, Int64.reduceToInt, Int32.reduceToNatClampNeg, Int.bmod_def] at i_35)
          exact T_43 _ _ _ _ _ k_21 kn_21 p_jB_21 p_jH_21 p_jK_21 p_jL_21 p_jR_21 p_jS_21 p_jT_21 (by first | exact Or.inl rfl | exact Or.inr rfl | assumption) (by first | omega | (simp only [Int32.toInt_add, Int32.toInt_sub, Int32.toInt_mul, Int32.toInt_toInt64, Int64.toInt_add, z_m1, Int32.reduceToInt, Int64.reduceToInt, Int32.reduceToNatClampNeg, Int.bmod_def, or_true, true_or, and_true, true_and] <;> omega)) (by first | omega | (simp only [Int32.toInt_add, Int32.toInt_sub, Int32.toInt_mul, Int32.toInt_toInt64, Int64.toInt_add, z_m1, Int32.reduceToInt, Int64.reduceToInt, Int32.reduceToNatClampNeg, Int.bmod_def, or_true, true_or, and_true, true_and] <;> omega)) hm_21 (by first | assumption | exact z_lt (by assumption) | exact z_lt2 (by assumption) | exact z_lt3 (by assumption) (by first | assumption | decide))
  have T_21 : ∀ (x1_21 : Int32) (x2_21 : Int32) (M_21 : zMt) (N_21 : zNt), (∀ a j, ¬ WM_X8_ends P a j → M_21 a j = M0 a j) → (∀ a j, ¬ WN_X8_ends P a j → N_21 a j = N0 a j) → (jB P M_21) → (jH P M_21) → (jK P M_21) → (jL P M_21) → (jR P M_21) → (jS P M_21) → (jT P M_21) → (0 ≤ Int32.toInt x2_21) → (Int32.toInt x2_21 ≤ 128) → ∃ r, D_X8_ends_21 P zFu x1_21 x2_21 M_21 N_21 = some r ∧ ((∀ a j, ¬ WM_X8_ends P a j → r.2.1 a j = M0 a j) ∧ (∀ a j, ¬ WN_X8_ends P a j → r.2.2 a j = N0 a j) ∧ ((jB P r.2.1) ∧ (jS P r.2.1) ∧ (jR P r.2.1) ∧ (jK P r.2.1) ∧ (jT P r.2.1))) := fun x1_21 x2_21 M_21 N_21 k_21 kn_21 p_jB_21 p_jH_21 p_jK_21 p_jL_21 p_jR_21 p_jS_21 p_jT_21 f0_21 f1_21 => TL_21 zFu x1_21 x2_21 M_21 N_21 k_21 kn_21 p_jB_21 p_jH_21 p_jK_21 p_jL_21 p_jR_21 p_jS_21 p_jT_21 f0_21 f1_21 (zFu_up _)
  unfold D_X8_ends
  refine vB (v_X8_areMany p_jB p_jS) (fun e_1 f_1 q_1 => ?_)
  have k_1 : ∀ a j, ¬ WM_X8_ends P a j → e_1.2 a j = M0 a j := fun a j h => (q_1.1 a j (wz_M_X8_areMany_X8_ends h))
  have b_1 := q_1.2.1
  have c7_1 : Int32.toInt (e_1.2 P 7) = Int32.toInt (M0 P 7) := congrArg Int32.toInt (q_1.1 P 7 (wc_X8_areMany_7))
  have c8_1 : Int32.toInt (e_1.2 P 8) = Int32.toInt (M0 P 8) := congrArg Int32.toInt (q_1.1 P 8 (wc_X8_areMany_8))
  have n_1 : nA P e_1.2 = nA P M0 := nA_congr (fun a j h => q_1.1 a j (wf_nA_X8_areMany h))
  have p_jS_1 : jS P e_1.2 := jS.mono p_jS (fun a j h => q_1.1 a j (wf_jS_X8_areMany h))
  obtain ⟨u0_jS_1, u1_jS_1, u2_jS_1, u3_jS_1, u4_jS_1, u5_jS_1, u6_jS_1, u7_jS_1⟩ := jS.ints p_jS_1
  have p_jR_1 : jR P e_1.2 := jR.mono p_jR (fun a j h => q_1.1 a j (wf_jR_X8_areMany h))
  have p_jK_1 : jK P e_1.2 := jK.mono p_jK (fun a j h => q_1.1 a j (wf_jK_X8_areMany h))
  have p_jT_1 : jT P e_1.2 := jT.mono p_jT (fun a j h => q_1.1 a j (wf_jT_X8_areMany h))
  obtain ⟨u0_jT_1, u1_jT_1, u2_jT_1, u3_jT_1, u4_jT_1, u5_jT_1⟩ := id p_jT_1
  obtain ⟨x0_1, x1_1, x2_1, x3_1, x4_1⟩ := q_1.2.2
  obtain ⟨u0_jB_1, u1_jB_1, u2_jB_1, u3_jB_1, u4_jB_1, u5_jB_1⟩ := id x0_1
  (try simp only [Int32.toInt_add, Int32.toInt_sub, Int32.toInt_mul, Int32.toInt_toInt64, Int64.toInt_add, z_m1, Int32.reduceToInt, Int64.reduceToInt, Int32.reduceToNatClampNeg, Int.bmod_def] at x3_1)
  (try simp only [Int32.toInt_add, Int32.toInt_sub, Int32.toInt_mul, Int32.toInt_toInt64, Int64.toInt_add, z_m1, Int32.reduceToInt, Int64.reduceToInt, Int32.reduceToNatClampNeg, Int.bmod_def] at x4_1)
  refine vIf (fun h_4 => ?_) (fun h_4 => ?_)
  · have i_4 := congrArg Int32.toInt h_4
    (try simp only [Int32.toInt_add, Int32.toInt_sub, Int32.toInt_mul, Int32.toInt_toInt64, Int64.toInt_add, z_m1, Int32.reduceToInt, Int64.reduceToInt, Int32.reduceToNatClampNeg, Int.bmod_def] at i_4)
    refine vB (v_X8_laysAll x0_1 p_jS_1 p_jR_1 (by first | omega | (simp only [Int32.toInt_add, Int32.toInt_sub, Int32.toInt_mul, Int32.toInt_toInt64, Int64.toInt_add, z_m1, Int32.reduceToInt, Int64.reduceToInt, Int32.reduceToNatClampNeg, Int.bmod_def, or_true, true_or, and_true, true_and] <;> omega))) (fun e_14 f_14 q_14 => ?_)
    have k_14 : ∀ a j, ¬ WM_X8_ends P a j → e_14.1 a j = M0 a j := fun a j h => (q_14.1 a j (wz_M_X8_laysAll_X8_ends h)).trans (k_1 a j h)
    have kn_14 : ∀ a j, ¬ WN_X8_ends P a j → e_14.2 a j = N0 a j := fun a j h => (q_14.2.1 a j (wz_N_X8_laysAll_X8_ends h))
    have c7_14 : Int32.toInt (e_14.1 P 7) = Int32.toInt (e_1.2 P 7) := congrArg Int32.toInt (q_14.1 P 7 (wc_X8_laysAll_7))
    have c8_14 : Int32.toInt (e_14.1 P 8) = Int32.toInt (e_1.2 P 8) := congrArg Int32.toInt (q_14.1 P 8 (wc_X8_laysAll_8))
    have n_14 : nA P e_14.1 = nA P e_1.2 := nA_congr (fun a j h => q_14.1 a j (wf_nA_X8_laysAll h))
    have p_jS_14 : jS P e_14.1 := jS.mono p_jS_1 (fun a j h => q_14.1 a j (wf_jS_X8_laysAll h))
    obtain ⟨u0_jS_14, u1_jS_14, u2_jS_14, u3_jS_14, u4_jS_14, u5_jS_14, u6_jS_14, u7_jS_14⟩ := jS.ints p_jS_14
    have p_jK_14 : jK P e_14.1 := jK.mono p_jK_1 (fun a j h => q_14.1 a j (wf_jK_X8_laysAll h))
    have p_jT_14 : jT P e_14.1 := jT.mono p_jT_1 (fun a j h => q_14.1 a j (wf_jT_X8_laysAll h))
    obtain ⟨u0_jT_14, u1_jT_14, u2_jT_14, u3_jT_14, u4_jT_14, u5_jT_14⟩ := id p_jT_14
    obtain ⟨x0_14, x1_14, x2_14, x3_14, x4_14⟩ := q_14.2.2
    obtain ⟨u0_jB_14, u1_jB_14, u2_jB_14, u3_jB_14, u4_jB_14, u5_jB_14⟩ := id x0_14
    (try simp only [Int32.toInt_add, Int32.toInt_sub, Int32.toInt_mul, Int32.toInt_toInt64, Int64.toInt_add, z_m1, Int32.reduceToInt, Int64.reduceToInt, Int32.reduceToNatClampNeg, Int.bmod_def] at x4_14)
    exact T_21 _ _ _ _ k_14 kn_14 x0_14 x2_14 p_jK_14 x1_14 x3_14 p_jS_14 p_jT_14 (by first | omega | (simp only [Int32.toInt_add, Int32.toInt_sub, Int32.toInt_mul, Int32.toInt_toInt64, Int64.toInt_add, z_m1, Int32.reduceToInt, Int64.reduceToInt, Int32.reduceToNatClampNeg, Int.bmod_def, or_true, true_or, and_true, true_and] <;> omega)) (by first | omega | (simp only [Int32.toInt_add, Int32.toInt_sub, Int32.toInt_mul, Int32.toInt_toInt64, Int64.toInt_add, z_m1, Int32.reduceToInt, Int64.reduceToInt, Int32.reduceToNatClampNeg, Int.bmod_def, or_true, true_or, and_true, true_and] <;> omega))
  · have i_4 : ¬ Int32.toInt e_1.1 = Int32.toInt (0 : Int32) := fun q => h_4 (Int32.toInt_inj.mp q)
    (try simp only [Int32.toInt_add, Int32.toInt_sub, Int32.toInt_mul, Int32.toInt_toInt64, Int64.toInt_add, z_m1, Int32.reduceToInt, Int64.reduceToInt, Int32.reduceToNatClampNeg, Int.bmod_def] at i_4)
    refine vB (v_X8_refuse) (fun e_9 f_9 q_9 => ?_)
    have k_9 : ∀ a j, ¬ WM_X8_ends P a j → e_9.2 a j = M0 a j := fun a j h => (q_9 a j (wz_M_X8_refuse_X8_ends h)).trans (k_1 a j h)
    have c7_9 : Int32.toInt (e_9.2 P 7) = Int32.toInt (e_1.2 P 7) := congrArg Int32.toInt (q_9 P 7 (wc_X8_refuse_7))
    have c8_9 : Int32.toInt (e_9.2 P 8) = Int32.toInt (e_1.2 P 8) := congrArg Int32.toInt (q_9 P 8 (wc_X8_refuse_8))
    have c33_9 : Int32.toInt (e_9.2 P 33) = Int32.toInt (e_1.2 P 33) := congrArg Int32.toInt (q_9 P 33 (wc_X8_refuse_33))
    have n_9 : nA P e_9.2 = nA P e_1.2 := nA_congr (fun a j h => q_9 a j (wf_nA_X8_refuse h))
    have p_jS_9 : jS P e_9.2 := jS.mono p_jS_1 (fun a j h => q_9 a j (wf_jS_X8_refuse h))
    obtain ⟨u0_jS_9, u1_jS_9, u2_jS_9, u3_jS_9, u4_jS_9, u5_jS_9, u6_jS_9, u7_jS_9⟩ := jS.ints p_jS_9
    have p_jR_9 : jR P e_9.2 := jR.mono p_jR_1 (fun a j h => q_9 a j (wf_jR_X8_refuse h))
    have p_jK_9 : jK P e_9.2 := jK.mono p_jK_1 (fun a j h => q_9 a j (wf_jK_X8_refuse h))
    have p_jT_9 : jT P e_9.2 := jT.mono p_jT_1 (fun a j h => q_9 a j (wf_jT_X8_refuse h))
    obtain ⟨u0_jT_9, u1_jT_9, u2_jT_9, u3_jT_9, u4_jT_9, u5_jT_9⟩ := id p_jT_9
    have p_jB_9 : jB P e_9.2 := jB.mono x0_1 (fun a j h => q_9 a j (wf_jB_X8_refuse h))
    obtain ⟨u0_jB_9, u1_jB_9, u2_jB_9, u3_jB_9, u4_jB_9, u5_jB_9⟩ := id p_jB_9
    have p_jL_9 : jL P e_9.2 := jL.mono x1_1 (fun a j h => q_9 a j (wf_jL_X8_refuse h))
    have p_jH_9 : jH P e_9.2 := jH.mono x2_1 (fun a j h => q_9 a j (wf_jH_X8_refuse h))
    exact ⟨_, rfl, k_9, (fun _ _ _ => rfl), ⟨p_jB_9, p_jS_9, p_jR_9, p_jK_9, p_jT_9⟩⟩
