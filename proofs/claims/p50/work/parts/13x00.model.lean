def WM_X8_status (P : Nat) (a j : Nat) : Prop := (a = P ∧ (j = 6))
theorem wq_X8_status_M0_6 {P a j : Nat} (h : ¬ WM_X8_status P a j) : ¬ (a = P ∧ j = 6) := by unfold WM_X8_status at h; omega
theorem wf_nA_M0_6 {P a j : Nat} (h : (a = P + 1 ∨ (a = P ∧ j = 8))) : ¬ (a = P ∧ j = 6) := by omega
set_option maxRecDepth 100000 in
set_option maxHeartbeats 4000000 in
theorem v_X8_status {P : Nat}  {M0 : zMt}  : ∃ r, D_X8_status P M0 = some r ∧ ((∀ a j, ¬ WM_X8_status P a j → r.2 a j = M0 a j)) := by
  unfold D_X8_status
  refine vLm (W := WM_X8_status P) (fun a j h => (zu_ne (wq_X8_status_M0_6 h))) (fun M_2 f_2 k_2 => ?_)
  have c7_2 : Int32.toInt (M_2 P 7) = Int32.toInt (M0 P 7) := congrArg Int32.toInt ((congrFun (congrFun f_2.symm P) 7).trans (zu_ne (fun z => absurd z.2 (by decide))))
  have c8_2 : Int32.toInt (M_2 P 8) = Int32.toInt (M0 P 8) := congrArg Int32.toInt ((congrFun (congrFun f_2.symm P) 8).trans (zu_ne (fun z => absurd z.2 (by decide))))
  have c33_2 : Int32.toInt (M_2 P 33) = Int32.toInt (M0 P 33) := congrArg Int32.toInt ((congrFun (congrFun f_2.symm P) 33).trans (zu_ne (fun z => absurd z.2 (by decide))))
  have n_2 : nA P M_2 = nA P M0 := nA_congr (fun a j h => (congrFun (congrFun f_2.symm a) j).trans (zu_ne (wf_nA_M0_6 h)))
  exact ⟨_, rfl, k_2⟩
def WM_X8_refuse (P : Nat) (a j : Nat) : Prop := (a = P ∧ (j = 6 ∨ j = 12))
theorem wq_X8_refuse_M0_6 {P a j : Nat} (h : ¬ WM_X8_refuse P a j) : ¬ (a = P ∧ j = 6) := by unfold WM_X8_refuse at h; omega
theorem wq_X8_refuse_M0_12 {P a j : Nat} (h : ¬ WM_X8_refuse P a j) : ¬ (a = P ∧ j = 12) := by unfold WM_X8_refuse at h; omega
theorem wf_nA_M0_12 {P a j : Nat} (h : (a = P + 1 ∨ (a = P ∧ j = 8))) : ¬ (a = P ∧ j = 12) := by omega
set_option maxRecDepth 100000 in
set_option maxHeartbeats 4000000 in
theorem v_X8_refuse {P : Nat} {v0 : Int32} {M0 : zMt}  : ∃ r, D_X8_refuse P v0 M0 = some r ∧ ((∀ a j, ¬ WM_X8_refuse P a j → r.2 a j = M0 a j)) := by
  unfold D_X8_refuse
  refine vLm (W := WM_X8_refuse P) (fun a j h => (zu_ne (wq_X8_refuse_M0_6 h))) (fun M_2 f_2 k_2 => ?_)
  have c7_2 : Int32.toInt (M_2 P 7) = Int32.toInt (M0 P 7) := congrArg Int32.toInt ((congrFun (congrFun f_2.symm P) 7).trans (zu_ne (fun z => absurd z.2 (by decide))))
  have c8_2 : Int32.toInt (M_2 P 8) = Int32.toInt (M0 P 8) := congrArg Int32.toInt ((congrFun (congrFun f_2.symm P) 8).trans (zu_ne (fun z => absurd z.2 (by decide))))
  have c33_2 : Int32.toInt (M_2 P 33) = Int32.toInt (M0 P 33) := congrArg Int32.toInt ((congrFun (congrFun f_2.symm P) 33).trans (zu_ne (fun z => absurd z.2 (by decide))))
  have n_2 : nA P M_2 = nA P M0 := nA_congr (fun a j h => (congrFun (congrFun f_2.symm a) j).trans (zu_ne (wf_nA_M0_6 h)))
  refine vLm (W := WM_X8_refuse P) (fun a j h => (zu_ne (wq_X8_refuse_M0_12 h)).trans (k_2 a j h)) (fun M_7 f_7 k_7 => ?_)
  have c7_7 : Int32.toInt (M_7 P 7) = Int32.toInt (M_2 P 7) := congrArg Int32.toInt ((congrFun (congrFun f_7.symm P) 7).trans (zu_ne (fun z => absurd z.2 (by decide))))
  have c8_7 : Int32.toInt (M_7 P 8) = Int32.toInt (M_2 P 8) := congrArg Int32.toInt ((congrFun (congrFun f_7.symm P) 8).trans (zu_ne (fun z => absurd z.2 (by decide))))
  have c33_7 : Int32.toInt (M_7 P 33) = Int32.toInt (M_2 P 33) := congrArg Int32.toInt ((congrFun (congrFun f_7.symm P) 33).trans (zu_ne (fun z => absurd z.2 (by decide))))
  have n_7 : nA P M_7 = nA P M_2 := nA_congr (fun a j h => (congrFun (congrFun f_7.symm a) j).trans (zu_ne (wf_nA_M0_12 h)))
  exact ⟨_, rfl, k_7⟩
def WM_X8_gives (P : Nat) (a j : Nat) : Prop := (a = P ∧ (j = 6 ∨ j = 12))
theorem wq_X8_gives_M0_6 {P a j : Nat} (h : ¬ WM_X8_gives P a j) : ¬ (a = P ∧ j = 6) := by unfold WM_X8_gives at h; omega
theorem wq_X8_gives_M0_12 {P a j : Nat} (h : ¬ WM_X8_gives P a j) : ¬ (a = P ∧ j = 12) := by unfold WM_X8_gives at h; omega
set_option maxRecDepth 100000 in
set_option maxHeartbeats 4000000 in
theorem v_X8_gives {P : Nat} {v0 : Int32} {M0 : zMt}  : ∃ r, D_X8_gives P v0 M0 = some r ∧ ((∀ a j, ¬ WM_X8_gives P a j → r.2 a j = M0 a j)) := by
  unfold D_X8_gives
  refine vLm (W := WM_X8_gives P) (fun a j h => (zu_ne (wq_X8_gives_M0_6 h))) (fun M_2 f_2 k_2 => ?_)
  have c7_2 : Int32.toInt (M_2 P 7) = Int32.toInt (M0 P 7) := congrArg Int32.toInt ((congrFun (congrFun f_2.symm P) 7).trans (zu_ne (fun z => absurd z.2 (by decide))))
  have c8_2 : Int32.toInt (M_2 P 8) = Int32.toInt (M0 P 8) := congrArg Int32.toInt ((congrFun (congrFun f_2.symm P) 8).trans (zu_ne (fun z => absurd z.2 (by decide))))
  have c33_2 : Int32.toInt (M_2 P 33) = Int32.toInt (M0 P 33) := congrArg Int32.toInt ((congrFun (congrFun f_2.symm P) 33).trans (zu_ne (fun z => absurd z.2 (by decide))))
  have n_2 : nA P M_2 = nA P M0 := nA_congr (fun a j h => (congrFun (congrFun f_2.symm a) j).trans (zu_ne (wf_nA_M0_6 h)))
  refine vLm (W := WM_X8_gives P) (fun a j h => (zu_ne (wq_X8_gives_M0_12 h)).trans (k_2 a j h)) (fun M_7 f_7 k_7 => ?_)
  have c7_7 : Int32.toInt (M_7 P 7) = Int32.toInt (M_2 P 7) := congrArg Int32.toInt ((congrFun (congrFun f_7.symm P) 7).trans (zu_ne (fun z => absurd z.2 (by decide))))
  have c8_7 : Int32.toInt (M_7 P 8) = Int32.toInt (M_2 P 8) := congrArg Int32.toInt ((congrFun (congrFun f_7.symm P) 8).trans (zu_ne (fun z => absurd z.2 (by decide))))
  have c33_7 : Int32.toInt (M_7 P 33) = Int32.toInt (M_2 P 33) := congrArg Int32.toInt ((congrFun (congrFun f_7.symm P) 33).trans (zu_ne (fun z => absurd z.2 (by decide))))
  have n_7 : nA P M_7 = nA P M_2 := nA_congr (fun a j h => (congrFun (congrFun f_7.symm a) j).trans (zu_ne (wf_nA_M0_12 h)))
  exact ⟨_, rfl, k_7⟩
def WM_X8_givesLong (P : Nat) (a j : Nat) : Prop := (a = P ∧ (j = 6 ∨ j = 12))
theorem wq_X8_givesLong_M0_6 {P a j : Nat} (h : ¬ WM_X8_givesLong P a j) : ¬ (a = P ∧ j = 6) := by unfold WM_X8_givesLong at h; omega
theorem wq_X8_givesLong_M0_12 {P a j : Nat} (h : ¬ WM_X8_givesLong P a j) : ¬ (a = P ∧ j = 12) := by unfold WM_X8_givesLong at h; omega
set_option maxRecDepth 100000 in
set_option maxHeartbeats 4000000 in
theorem v_X8_givesLong {P : Nat} {v0 : Int64} {M0 : zMt}  : ∃ r, D_X8_givesLong P v0 M0 = some r ∧ ((∀ a j, ¬ WM_X8_givesLong P a j → r.2 a j = M0 a j)) := by
  unfold D_X8_givesLong
  refine vLm (W := WM_X8_givesLong P) (fun a j h => (zu_ne (wq_X8_givesLong_M0_6 h))) (fun M_2 f_2 k_2 => ?_)
  have c7_2 : Int32.toInt (M_2 P 7) = Int32.toInt (M0 P 7) := congrArg Int32.toInt ((congrFun (congrFun f_2.symm P) 7).trans (zu_ne (fun z => absurd z.2 (by decide))))
  have c8_2 : Int32.toInt (M_2 P 8) = Int32.toInt (M0 P 8) := congrArg Int32.toInt ((congrFun (congrFun f_2.symm P) 8).trans (zu_ne (fun z => absurd z.2 (by decide))))
  have c33_2 : Int32.toInt (M_2 P 33) = Int32.toInt (M0 P 33) := congrArg Int32.toInt ((congrFun (congrFun f_2.symm P) 33).trans (zu_ne (fun z => absurd z.2 (by decide))))
  have n_2 : nA P M_2 = nA P M0 := nA_congr (fun a j h => (congrFun (congrFun f_2.symm a) j).trans (zu_ne (wf_nA_M0_6 h)))
  refine vLm (W := WM_X8_givesLong P) (fun a j h => (zu_ne (wq_X8_givesLong_M0_12 h)).trans (k_2 a j h)) (fun M_7 f_7 k_7 => ?_)
  have c7_7 : Int32.toInt (M_7 P 7) = Int32.toInt (M_2 P 7) := congrArg Int32.toInt ((congrFun (congrFun f_7.symm P) 7).trans (zu_ne (fun z => absurd z.2 (by decide))))
  have c8_7 : Int32.toInt (M_7 P 8) = Int32.toInt (M_2 P 8) := congrArg Int32.toInt ((congrFun (congrFun f_7.symm P) 8).trans (zu_ne (fun z => absurd z.2 (by decide))))
  have c33_7 : Int32.toInt (M_7 P 33) = Int32.toInt (M_2 P 33) := congrArg Int32.toInt ((congrFun (congrFun f_7.symm P) 33).trans (zu_ne (fun z => absurd z.2 (by decide))))
  have n_7 : nA P M_7 = nA P M_2 := nA_congr (fun a j h => (congrFun (congrFun f_7.symm a) j).trans (zu_ne (wf_nA_M0_12 h)))
  exact ⟨_, rfl, k_7⟩
theorem v_X8_common {v0 v1 : Int32} : ∃ r, D_X8_common v0 v1 = some r ∧ (Int32.toInt v1 = 0 ∨ ¬ Int32.toInt r = 0) := by
  have L : ∀ (u : Nat) (x y : Int32), y.toInt.natAbs < u → ∃ r, D_X8_common_4 u x y = some r ∧ ((Int32.toInt y = 0 ∧ Int32.toInt x = 0) ∨ ¬ Int32.toInt r = 0) := by
    intro u
    induction u with
    | zero => intro x y h; omega
    | succ u ih =>
      intro x y hu
      rw [D_X8_common_4]
      refine vIf (fun h => ⟨_, rfl, ?_⟩) (fun h => vZ h ?_)
      · subst h
        by_cases q : x.toInt = 0
        · exact Or.inl ⟨by decide, q⟩
        · exact Or.inr q
      · have hy : ¬ y.toInt = 0 := fun q => h (Int32.toInt_inj.mp (by rw [q]; decide))
        have e : (x - x / y * y) = x % y := by
          rw [← Int32.toInt_inj]
          rw [Int32.toInt_sub, Int32.toInt_mul, Int32.toInt_div, Int32.toInt_mod]
          have h1 := Int.tmod_add_tdiv_mul x.toInt y.toInt
          rw [Int.bmod_mul_bmod, Int.sub_bmod_bmod]
          rw [show x.toInt - x.toInt.tdiv y.toInt * y.toInt = x.toInt.tmod y.toInt by omega]
          rw [← Int32.toInt_mod]
          exact Int32.toInt_bmod_size _
        rw [e]
        have hm : (x % y).toInt.natAbs < y.toInt.natAbs := by
          rw [Int32.toInt_mod, Int.natAbs_tmod]
          exact Nat.mod_lt _ (by omega)
        obtain ⟨r, h1, h2⟩ := ih y (x % y) (by omega)
        refine ⟨r, h1, ?_⟩
        rcases h2 with ⟨_, q⟩ | q
        · exact absurd q hy
        · exact Or.inr q
  unfold D_X8_common
  obtain ⟨r, h1, h2⟩ := L zFu v0 v1 (by have := Int32.le_toInt v1; have := Int32.toInt_lt v1; unfold zFu; omega)
  refine ⟨r, h1, ?_⟩
  rcases h2 with ⟨q, _⟩ | q
  · exact Or.inl q
  · exact Or.inr q
set_option maxRecDepth 100000 in
set_option maxHeartbeats 4000000 in
theorem v_X8_isUnit {P : Nat} {M : zMt} {v0 : Int32}  (p_jB : jB P M) : ∃ r, D_X8_isUnit P M v0 = some r ∧ ((r = 0 ∨ r = 1) ∧ ((Int32.toInt r = 0 ∨ (0 ≤ Int32.toInt v0 ∧ Int32.toInt v0 < Int32.toInt (M P 7))))) := by
  obtain ⟨u0_jB, u1_jB, u2_jB, u3_jB, u4_jB, u5_jB⟩ := id p_jB
  unfold D_X8_isUnit
  refine vB (v_X8_isFrom) (fun e_10 f_10 q_10 => ?_)
  have b_10 := q_10.1
  have x0_10 := q_10.2
  (try simp only [Int32.toInt_add, Int32.toInt_sub, Int32.toInt_mul, Int32.toInt_toInt64, Int64.toInt_add, z_m1, Int32.reduceToInt, Int64.reduceToInt, Int32.reduceToNatClampNeg, Int.bmod_def] at x0_10)
  exact ⟨_, rfl, (by first | exact Or.inl rfl | exact Or.inr rfl | assumption), (by first | omega | (simp only [Int32.toInt_add, Int32.toInt_sub, Int32.toInt_mul, Int32.toInt_toInt64, Int64.toInt_add, z_m1, Int32.reduceToInt, Int64.reduceToInt, Int32.reduceToNatClampNeg, Int.bmod_def, or_true, true_or, and_true, true_and] <;> omega))⟩
set_option maxRecDepth 100000 in
set_option maxHeartbeats 4000000 in
theorem v_X8_isHunter {P : Nat} {M : zMt} {v0 : Int32}  (p_jB : jB P M) : ∃ r, D_X8_isHunter P M v0 = some r ∧ ((r = 0 ∨ r = 1) ∧ ((Int32.toInt r = 0 ∨ (0 ≤ Int32.toInt v0 ∧ Int32.toInt v0 < Int32.toInt (M P 8))))) := by
  obtain ⟨u0_jB, u1_jB, u2_jB, u3_jB, u4_jB, u5_jB⟩ := id p_jB
  unfold D_X8_isHunter
  refine vB (v_X8_isFrom) (fun e_10 f_10 q_10 => ?_)
  have b_10 := q_10.1
  have x0_10 := q_10.2
  (try simp only [Int32.toInt_add, Int32.toInt_sub, Int32.toInt_mul, Int32.toInt_toInt64, Int64.toInt_add, z_m1, Int32.reduceToInt, Int64.reduceToInt, Int32.reduceToNatClampNeg, Int.bmod_def] at x0_10)
  exact ⟨_, rfl, (by first | exact Or.inl rfl | exact Or.inr rfl | assumption), (by first | omega | (simp only [Int32.toInt_add, Int32.toInt_sub, Int32.toInt_mul, Int32.toInt_toInt64, Int64.toInt_add, z_m1, Int32.reduceToInt, Int64.reduceToInt, Int32.reduceToNatClampNeg, Int.bmod_def, or_true, true_or, and_true, true_and] <;> omega))⟩
set_option maxRecDepth 100000 in
set_option maxHeartbeats 4000000 in
theorem v_X8_isParty {P : Nat} {M : zMt} {v0 : Int32}  (p_jS : jS P M) : ∃ r, D_X8_isParty P M v0 = some r ∧ ((r = 0 ∨ r = 1) ∧ ((Int32.toInt r = 0 ∨ (0 ≤ Int32.toInt v0 ∧ Int32.toInt v0 < Int32.toInt (M (P + 1) 70))))) := by
  obtain ⟨u0_jS, u1_jS, u2_jS, u3_jS, u4_jS, u5_jS, u6_jS, u7_jS⟩ := jS.ints p_jS
  unfold D_X8_isParty
  refine vI (vp_of (by first | omega | (simp only [Int32.toInt_add, Int32.toInt_sub, Int32.toInt_mul, Int32.toInt_toInt64, Int64.toInt_add, z_m1, Int32.reduceToInt, Int64.reduceToInt, Int32.reduceToNatClampNeg, Int.bmod_def, or_true, true_or, and_true, true_and] <;> omega)) (by first | omega | (simp only [Int32.toInt_add, Int32.toInt_sub, Int32.toInt_mul, Int32.toInt_toInt64, Int64.toInt_add, z_m1, Int32.reduceToInt, Int64.reduceToInt, Int32.reduceToNatClampNeg, Int.bmod_def, or_true, true_or, and_true, true_and] <;> omega))) ?_
  refine vB (v_X8_isFrom) (fun e_13 f_13 q_13 => ?_)
  have b_13 := q_13.1
  have x0_13 := q_13.2
  (try simp only [Int32.toInt_add, Int32.toInt_sub, Int32.toInt_mul, Int32.toInt_toInt64, Int64.toInt_add, z_m1, Int32.reduceToInt, Int64.reduceToInt, Int32.reduceToNatClampNeg, Int.bmod_def] at x0_13)
  exact ⟨_, rfl, (by first | exact Or.inl rfl | exact Or.inr rfl | assumption), (by first | omega | (simp only [Int32.toInt_add, Int32.toInt_sub, Int32.toInt_mul, Int32.toInt_toInt64, Int64.toInt_add, z_m1, Int32.reduceToInt, Int64.reduceToInt, Int32.reduceToNatClampNeg, Int.bmod_def, or_true, true_or, and_true, true_and] <;> omega))⟩
set_option maxRecDepth 100000 in
set_option maxHeartbeats 4000000 in
theorem v_X8_isSeed  {v0 : Int32}  : ∃ r, D_X8_isSeed v0 = some r ∧ ((r = 0 ∨ r = 1) ∧ ((Int32.toInt r = 0 ∨ (0 ≤ Int32.toInt v0 ∧ Int32.toInt v0 ≤ 999999999)))) := by
  unfold D_X8_isSeed
  refine vB (v_X8_isFrom) (fun e_6 f_6 q_6 => ?_)
  have b_6 := q_6.1
  have x0_6 := q_6.2
  (try simp only [Int32.toInt_add, Int32.toInt_sub, Int32.toInt_mul, Int32.toInt_toInt64, Int64.toInt_add, z_m1, Int32.reduceToInt, Int64.reduceToInt, Int32.reduceToNatClampNeg, Int.bmod_def] at x0_6)
  exact ⟨_, rfl, (by first | exact Or.inl rfl | exact Or.inr rfl | assumption), (by first | omega | (simp only [Int32.toInt_add, Int32.toInt_sub, Int32.toInt_mul, Int32.toInt_toInt64, Int64.toInt_add, z_m1, Int32.reduceToInt, Int64.reduceToInt, Int32.reduceToNatClampNeg, Int.bmod_def, or_true, true_or, and_true, true_and] <;> omega))⟩
def WM_X8_fault (P : Nat) (a j : Nat) : Prop := (a = P ∧ (j = 6))
theorem wq_X8_fault_M0_6 {P a j : Nat} (h : ¬ WM_X8_fault P a j) : ¬ (a = P ∧ j = 6) := by unfold WM_X8_fault at h; omega
set_option maxRecDepth 100000 in
set_option maxHeartbeats 4000000 in
theorem v_X8_fault {P : Nat} {v0 : Int32} {M0 : zMt}  : ∃ r, D_X8_fault P v0 M0 = some r ∧ ((∀ a j, ¬ WM_X8_fault P a j → r.2 a j = M0 a j)) := by
  have T_29 : ∀ (y0_29 : Int32) (M_29 : zMt), (∀ a j, ¬ WM_X8_fault P a j → M_29 a j = M0 a j) → ∃ r, D_X8_fault_29 P y0_29 M_29 = some r ∧ ((∀ a j, ¬ WM_X8_fault P a j → r.2 a j = M0 a j)) := by
    intro y0_29 M_29 k_29
    unfold D_X8_fault_29
    exact ⟨_, rfl, k_29⟩
  unfold D_X8_fault
  refine vLm (W := WM_X8_fault P) (fun a j h => (zu_ne (wq_X8_fault_M0_6 h))) (fun M_2 f_2 k_2 => ?_)
  have c7_2 : Int32.toInt (M_2 P 7) = Int32.toInt (M0 P 7) := congrArg Int32.toInt ((congrFun (congrFun f_2.symm P) 7).trans (zu_ne (fun z => absurd z.2 (by decide))))
  have c8_2 : Int32.toInt (M_2 P 8) = Int32.toInt (M0 P 8) := congrArg Int32.toInt ((congrFun (congrFun f_2.symm P) 8).trans (zu_ne (fun z => absurd z.2 (by decide))))
  have c33_2 : Int32.toInt (M_2 P 33) = Int32.toInt (M0 P 33) := congrArg Int32.toInt ((congrFun (congrFun f_2.symm P) 33).trans (zu_ne (fun z => absurd z.2 (by decide))))
  have n_2 : nA P M_2 = nA P M0 := nA_congr (fun a j h => (congrFun (congrFun f_2.symm a) j).trans (zu_ne (wf_nA_M0_6 h)))
  refine vIf (fun h_6 => ?_) (fun h_6 => ?_)
  · have i_6 := congrArg Int32.toInt h_6
    (try simp only [Int32.toInt_add, Int32.toInt_sub, Int32.toInt_mul, Int32.toInt_toInt64, Int64.toInt_add, z_m1, Int32.reduceToInt, Int64.reduceToInt, Int32.reduceToNatClampNeg, Int.bmod_def] at i_6)
    exact T_29 _ _ k_2
  · have i_6 : ¬ Int32.toInt v0 = Int32.toInt (0 : Int32) := fun q => h_6 (Int32.toInt_inj.mp q)
    (try simp only [Int32.toInt_add, Int32.toInt_sub, Int32.toInt_mul, Int32.toInt_toInt64, Int64.toInt_add, z_m1, Int32.reduceToInt, Int64.reduceToInt, Int32.reduceToNatClampNeg, Int.bmod_def] at i_6)
    refine vIf (fun h_18 => ?_) (fun h_18 => ?_)
    · have i_18 := congrArg Int32.toInt h_18
      (try simp only [Int32.toInt_add, Int32.toInt_sub, Int32.toInt_mul, Int32.toInt_toInt64, Int64.toInt_add, z_m1, Int32.reduceToInt, Int64.reduceToInt, Int32.reduceToNatClampNeg, Int.bmod_def] at i_18)
      exact T_29 _ _ k_2
    · have i_18 : ¬ Int32.toInt v0 = Int32.toInt (1 : Int32) := fun q => h_18 (Int32.toInt_inj.mp q)
      (try simp only [Int32.toInt_add, Int32.toInt_sub, Int32.toInt_mul, Int32.toInt_toInt64, Int64.toInt_add, z_m1, Int32.reduceToInt, Int64.reduceToInt, Int32.reduceToNatClampNeg, Int.bmod_def] at i_18)
      exact T_29 _ _ k_2
def WM_X8_laysOne (P : Nat) (a j : Nat) : Prop := (P + 14 ≤ a ∧ a < P + 18)

def WM_X8_laysApplicants (P : Nat) (a j : Nat) : Prop := (P + 11 ≤ a ∧ a < P + 18) ∨ (a = P ∧ (j = 33))
theorem v_X8_laysApplicants {P : Nat} {M0 : zMt} (p_jB : jB P M0) (p_jS : jS P M0) : ∃ r, D_X8_laysApplicants P M0 = some r ∧ ((∀ a j, ¬ WM_X8_laysApplicants P a j → r a j = M0 a j) ∧ (jB P r) ∧ (jL P r) ∧ (jH P r) ∧ (Int32.toInt (r P 33) = nA P r)) := by obtain ⟨r, e, k, q⟩ := h_X8_laysApplicants p_jB p_jS; exact ⟨r, e, fun a j h => k a j (by unfold WA; unfold WM_X8_laysApplicants at h; omega), q⟩
def WM_X8_isApplicant (P : Nat) (a j : Nat) : Prop := (P + 11 ≤ a ∧ a < P + 18) ∨ (a = P ∧ (j = 33))
theorem wz_M_X8_laysApplicants_X8_isApplicant {P a j : Nat} (h : ¬ WM_X8_isApplicant P a j) : ¬ WM_X8_laysApplicants P a j := by unfold WM_X8_laysApplicants; unfold WM_X8_isApplicant at h; omega
theorem wc_X8_laysApplicants_7 {P : Nat} : ¬ WM_X8_laysApplicants P P 7 := by unfold WM_X8_laysApplicants; omega
theorem wc_X8_laysApplicants_8 {P : Nat} : ¬ WM_X8_laysApplicants P P 8 := by unfold WM_X8_laysApplicants; omega
theorem wf_nA_X8_laysApplicants {P a j : Nat} (h : (a = P + 1 ∨ (a = P ∧ j = 8))) : ¬ WM_X8_laysApplicants P a j := by unfold WM_X8_laysApplicants; omega
theorem wf_jS_X8_laysApplicants {P a j : Nat} (h : (a = P + 1 ∨ (a = P ∧ (j = 7 ∨ j = 8)))) : ¬ WM_X8_laysApplicants P a j := by unfold WM_X8_laysApplicants; omega
set_option maxRecDepth 100000 in
set_option maxHeartbeats 4000000 in
theorem v_X8_isApplicant {P : Nat} {v0 : Int32} {M0 : zMt}  (p_jB : jB P M0) (p_jS : jS P M0) : ∃ r, D_X8_isApplicant P v0 M0 = some r ∧ ((∀ a j, ¬ WM_X8_isApplicant P a j → r.2 a j = M0 a j) ∧ (r.1 = 0 ∨ r.1 = 1) ∧ ((jB P r.2) ∧ (jL P r.2) ∧ (jH P r.2) ∧ (Int32.toInt (r.2 P 33) = nA P r.2) ∧ (Int32.toInt r.1 = 0 ∨ (0 ≤ Int32.toInt v0 ∧ Int32.toInt v0 < Int32.toInt (r.2 P 33))))) := by
  obtain ⟨u0_jB, u1_jB, u2_jB, u3_jB, u4_jB, u5_jB⟩ := id p_jB
  obtain ⟨u0_jS, u1_jS, u2_jS, u3_jS, u4_jS, u5_jS, u6_jS, u7_jS⟩ := jS.ints p_jS
  unfold D_X8_isApplicant
  refine vB (v_X8_laysApplicants p_jB p_jS) (fun e_1 f_1 q_1 => ?_)
  have k_1 : ∀ a j, ¬ WM_X8_isApplicant P a j → e_1 a j = M0 a j := fun a j h => (q_1.1 a j (wz_M_X8_laysApplicants_X8_isApplicant h))
  have c7_1 : Int32.toInt (e_1 P 7) = Int32.toInt (M0 P 7) := congrArg Int32.toInt (q_1.1 P 7 (wc_X8_laysApplicants_7))
  have c8_1 : Int32.toInt (e_1 P 8) = Int32.toInt (M0 P 8) := congrArg Int32.toInt (q_1.1 P 8 (wc_X8_laysApplicants_8))
  have n_1 : nA P e_1 = nA P M0 := nA_congr (fun a j h => q_1.1 a j (wf_nA_X8_laysApplicants h))
  have p_jS_1 : jS P e_1 := jS.mono p_jS (fun a j h => q_1.1 a j (wf_jS_X8_laysApplicants h))
  obtain ⟨u0_jS_1, u1_jS_1, u2_jS_1, u3_jS_1, u4_jS_1, u5_jS_1, u6_jS_1, u7_jS_1⟩ := jS.ints p_jS_1
  obtain ⟨x0_1, x1_1, x2_1, x3_1⟩ := q_1.2
  obtain ⟨u0_jB_1, u1_jB_1, u2_jB_1, u3_jB_1, u4_jB_1, u5_jB_1⟩ := id x0_1
  (try simp only [Int32.toInt_add, Int32.toInt_sub, Int32.toInt_mul, Int32.toInt_toInt64, Int64.toInt_add, z_m1, Int32.reduceToInt, Int64.reduceToInt, Int32.reduceToNatClampNeg, Int.bmod_def] at x3_1)
  refine vB (v_X8_isFrom) (fun e_14 f_14 q_14 => ?_)
  have b_14 := q_14.1
  have x0_14 := q_14.2
  (try simp only [Int32.toInt_add, Int32.toInt_sub, Int32.toInt_mul, Int32.toInt_toInt64, Int64.toInt_add, z_m1, Int32.reduceToInt, Int64.reduceToInt, Int32.reduceToNatClampNeg, Int.bmod_def] at x0_14)
  exact ⟨_, rfl, k_1, (by first | exact Or.inl rfl | exact Or.inr rfl | assumption), ⟨x0_1, x1_1, x2_1, (by first | omega | (simp only [Int32.toInt_add, Int32.toInt_sub, Int32.toInt_mul, Int32.toInt_toInt64, Int64.toInt_add, z_m1, Int32.reduceToInt, Int64.reduceToInt, Int32.reduceToNatClampNeg, Int.bmod_def, or_true, true_or, and_true, true_and] <;> omega)), (by first | omega | (simp only [Int32.toInt_add, Int32.toInt_sub, Int32.toInt_mul, Int32.toInt_toInt64, Int64.toInt_add, z_m1, Int32.reduceToInt, Int64.reduceToInt, Int32.reduceToNatClampNeg, Int.bmod_def, or_true, true_or, and_true, true_and] <;> omega))⟩⟩
set_option maxRecDepth 100000 in
set_option maxHeartbeats 4000000 in
theorem v_X8_choiceOf {P : Nat} {M : zMt} {v0 : Int32} {v1 : Int32}  (p_jB : jB P M) (p_jS : jS P M) (p_jL : jL P M) (i_3 : 0 ≤ Int32.toInt v0) (i_4 : Int32.toInt v0 < Int32.toInt (M P 33)) (i_5 : 0 ≤ Int32.toInt v1) : ∃ r, D_X8_choiceOf P M v0 v1 = some r ∧ (((-1 ≤ Int32.toInt r) ∧ (Int32.toInt r < Int32.toInt (M P 7)) ∧ ((Int32.toInt v1 < 3 ∨ Int32.toInt r = -1)))) := by
  obtain ⟨u0_jB, u1_jB, u2_jB, u3_jB, u4_jB, u5_jB⟩ := id p_jB
  obtain ⟨u0_jS, u1_jS, u2_jS, u3_jS, u4_jS, u5_jS, u6_jS, u7_jS⟩ := jS.ints p_jS
  have T_22 : ∀ (y0_22 : Int32), (jB P M) → (jL P M) → (jS P M) → (-1 ≤ Int32.toInt y0_22 ∧ Int32.toInt y0_22 < Int32.toInt (M P 7)) → (Int32.toInt v1 < 3 ∨ Int32.toInt y0_22 = -1) → ∃ r, D_X8_choiceOf_22 P M y0_22 = some r ∧ (((-1 ≤ Int32.toInt r) ∧ (Int32.toInt r < Int32.toInt (M P 7)) ∧ ((Int32.toInt v1 < 3 ∨ Int32.toInt r = -1)))) := by
    intro y0_22 p_jB_22 p_jL_22 p_jS_22 f0_22 f1_22
    obtain ⟨u0_jB_22, u1_jB_22, u2_jB_22, u3_jB_22, u4_jB_22, u5_jB_22⟩ := id p_jB_22
    obtain ⟨u0_jS_22, u1_jS_22, u2_jS_22, u3_jS_22, u4_jS_22, u5_jS_22, u6_jS_22, u7_jS_22⟩ := jS.ints p_jS_22
    unfold D_X8_choiceOf_22
    exact ⟨_, rfl, ⟨(by first | omega | (simp only [Int32.toInt_add, Int32.toInt_sub, Int32.toInt_mul, Int32.toInt_toInt64, Int64.toInt_add, z_m1, Int32.reduceToInt, Int64.reduceToInt, Int32.reduceToNatClampNeg, Int.bmod_def, or_true, true_or, and_true, true_and] <;> omega)), (by first | omega | (simp only [Int32.toInt_add, Int32.toInt_sub, Int32.toInt_mul, Int32.toInt_toInt64, Int64.toInt_add, z_m1, Int32.reduceToInt, Int64.reduceToInt, Int32.reduceToNatClampNeg, Int.bmod_def, or_true, true_or, and_true, true_and] <;> omega)), (by first | omega | (simp only [Int32.toInt_add, Int32.toInt_sub, Int32.toInt_mul, Int32.toInt_toInt64, Int64.toInt_add, z_m1, Int32.reduceToInt, Int64.reduceToInt, Int32.reduceToNatClampNeg, Int.bmod_def, or_true, true_or, and_true, true_and] <;> omega))⟩⟩
  unfold D_X8_choiceOf
  refine vIf (fun h_2 => ?_) (fun h_2 => ?_)
  · have i_2 := Int32.le_iff_toInt_le.mp h_2
    (try simp only [Int32.toInt_add, Int32.toInt_sub, Int32.toInt_mul, Int32.toInt_toInt64, Int64.toInt_add, z_m1, Int32.reduceToInt, Int64.reduceToInt, Int32.reduceToNatClampNeg, Int.bmod_def] at i_2)
    exact T_22 _ p_jB p_jL p_jS (by first | omega | (simp only [Int32.toInt_add, Int32.toInt_sub, Int32.toInt_mul, Int32.toInt_toInt64, Int64.toInt_add, z_m1, Int32.reduceToInt, Int64.reduceToInt, Int32.reduceToNatClampNeg, Int.bmod_def, or_true, true_or, and_true, true_and] <;> omega)) (by first | omega | (simp only [Int32.toInt_add, Int32.toInt_sub, Int32.toInt_mul, Int32.toInt_toInt64, Int64.toInt_add, z_m1, Int32.reduceToInt, Int64.reduceToInt, Int32.reduceToNatClampNeg, Int.bmod_def, or_true, true_or, and_true, true_and] <;> omega))
  · have i_2 := Int32.lt_iff_toInt_lt.mp (Int32.not_le.mp h_2)
    (try simp only [Int32.toInt_add, Int32.toInt_sub, Int32.toInt_mul, Int32.toInt_toInt64, Int64.toInt_add, z_m1, Int32.reduceToInt, Int64.reduceToInt, Int32.reduceToNatClampNeg, Int.bmod_def] at i_2)
    refine vI (vp_of (by first | omega | (simp only [Int32.toInt_add, Int32.toInt_sub, Int32.toInt_mul, Int32.toInt_toInt64, Int64.toInt_add, z_m1, Int32.reduceToInt, Int64.reduceToInt, Int32.reduceToNatClampNeg, Int.bmod_def, or_true, true_or, and_true, true_and] <;> omega)) (by first | omega | (simp only [Int32.toInt_add, Int32.toInt_sub, Int32.toInt_mul, Int32.toInt_toInt64, Int64.toInt_add, z_m1, Int32.reduceToInt, Int64.reduceToInt, Int32.reduceToNatClampNeg, Int.bmod_def, or_true, true_or, and_true, true_and] <;> omega))) ?_
    obtain ⟨w0_14, w1_14, w2_14, w3_14, w4_14, w5_14⟩ := jL.el p_jL (x := v0) (by first | omega | (simp only [Int32.toInt_add, Int32.toInt_sub, Int32.toInt_mul, Int32.toInt_toInt64, Int64.toInt_add, z_m1, Int32.reduceToInt, Int64.reduceToInt, Int32.reduceToNatClampNeg, Int.bmod_def, or_true, true_or, and_true, true_and] <;> omega)) (by first | omega | (simp only [Int32.toInt_add, Int32.toInt_sub, Int32.toInt_mul, Int32.toInt_toInt64, Int64.toInt_add, z_m1, Int32.reduceToInt, Int64.reduceToInt, Int32.reduceToNatClampNeg, Int.bmod_def, or_true, true_or, and_true, true_and] <;> omega))
    refine vI (vp_of (by first | omega | (simp only [Int32.toInt_add, Int32.toInt_sub, Int32.toInt_mul, Int32.toInt_toInt64, Int64.toInt_add, z_m1, Int32.reduceToInt, Int64.reduceToInt, Int32.reduceToNatClampNeg, Int.bmod_def, or_true, true_or, and_true, true_and] <;> omega)) (by first | omega | (simp only [Int32.toInt_add, Int32.toInt_sub, Int32.toInt_mul, Int32.toInt_toInt64, Int64.toInt_add, z_m1, Int32.reduceToInt, Int64.reduceToInt, Int32.reduceToNatClampNeg, Int.bmod_def, or_true, true_or, and_true, true_and] <;> omega))) ?_
    obtain ⟨w0_17, w1_17⟩ := jS.ch p_jS (x := ((M (P + 13) v0.toNatClampNeg) + v1)) (by first | omega | (simp only [Int32.toInt_add, Int32.toInt_sub, Int32.toInt_mul, Int32.toInt_toInt64, Int64.toInt_add, z_m1, Int32.reduceToInt, Int64.reduceToInt, Int32.reduceToNatClampNeg, Int.bmod_def, or_true, true_or, and_true, true_and] <;> omega)) (by first | omega | (simp only [Int32.toInt_add, Int32.toInt_sub, Int32.toInt_mul, Int32.toInt_toInt64, Int64.toInt_add, z_m1, Int32.reduceToInt, Int64.reduceToInt, Int32.reduceToNatClampNeg, Int.bmod_def, or_true, true_or, and_true, true_and] <;> omega))
    exact T_22 _ p_jB p_jL p_jS (by first | omega | (simp only [Int32.toInt_add, Int32.toInt_sub, Int32.toInt_mul, Int32.toInt_toInt64, Int64.toInt_add, z_m1, Int32.reduceToInt, Int64.reduceToInt, Int32.reduceToNatClampNeg, Int.bmod_def, or_true, true_or, and_true, true_and] <;> omega)) (by first | omega | (simp only [Int32.toInt_add, Int32.toInt_sub, Int32.toInt_mul, Int32.toInt_toInt64, Int64.toInt_add, z_m1, Int32.reduceToInt, Int64.reduceToInt, Int32.reduceToNatClampNeg, Int.bmod_def, or_true, true_or, and_true, true_and] <;> omega))
theorem v_X8_choiceMany {P : Nat} {M : zMt} {v0 : Int32} (p_jB : jB P M) (p_jS : jS P M) (p_jL : jL P M) (i_3 : 0 ≤ Int32.toInt v0) (i_4 : Int32.toInt v0 < Int32.toInt (M P 33)) : ∃ r, D_X8_choiceMany P M v0 = some r ∧ ((0 ≤ Int32.toInt r) ∧ (Int32.toInt r ≤ 3) ∧ (∀ x : Int32, 0 ≤ Int32.toInt x → Int32.toInt x < Int32.toInt r → ∀ y, D_X8_choiceOf P M v0 x = some y → ¬ Int32.toInt y = -1)) := by
  have L : ∀ (u : Nat) (x : Int32), 0 ≤ x.toInt → x.toInt ≤ 3 → (3 - x.toInt).toNat < u → (∀ z : Int32, 0 ≤ Int32.toInt z → Int32.toInt z < Int32.toInt x → ∀ y, D_X8_choiceOf P M v0 z = some y → ¬ Int32.toInt y = -1) → ∃ r, D_X8_choiceMany_2 P M u v0 x = some r ∧ ((0 ≤ Int32.toInt r) ∧ (Int32.toInt r ≤ 3) ∧ (∀ x : Int32, 0 ≤ Int32.toInt x → Int32.toInt x < Int32.toInt r → ∀ y, D_X8_choiceOf P M v0 x = some y → ¬ Int32.toInt y = -1)) := by
    intro u
    induction u with
    | zero => intro x h0 h1 h2; omega
    | succ u ih =>
      intro x h0 h1 h2 hz
      rw [D_X8_choiceMany_2]
      refine vB (v_X8_choiceOf p_jB p_jS p_jL i_3 i_4 h0) (fun e f q => ?_)
      refine vIf (fun _ => ⟨_, rfl, h0, h1, hz⟩) (fun hc => ?_)
      have h3 : ¬ 3 ≤ x.toInt := fun h => hc (Int32.toInt_inj.mp (by rw [q.2.2.resolve_left (by omega)]; decide))
      have o1 : (1 : Int32).toInt = 1 := by decide
      have e1 : (x + 1).toInt = x.toInt + 1 := by rw [z_add (by omega) (by omega), o1]
      refine ih (x + 1) (by omega) (by omega) (by omega) (fun z z0 z1 y hy => ?_)
      by_cases hzx : z = x
      · subst hzx
        rw [f] at hy
        cases hy
        exact fun h => hc (Int32.toInt_inj.mp (by rw [h]; decide))
      · have : z.toInt ≠ x.toInt := fun h => hzx (Int32.toInt_inj.mp h)
        exact hz z z0 (by omega) y hy
  unfold D_X8_choiceMany
  exact L zFu 0 (by decide) (by decide) (by unfold zFu; decide) (fun z z0 z1 => absurd z1 (by rw [show (0 : Int32).toInt = 0 by decide]; omega))
set_option maxRecDepth 100000 in
set_option maxHeartbeats 4000000 in
theorem v_X8_placeOf {P : Nat} {M : zMt} {v0 : Int32} {v1 : Int32}  (p_jB : jB P M) (p_jS : jS P M) (p_jL : jL P M) (i_3 : 0 ≤ Int32.toInt v0) (i_4 : Int32.toInt v0 < Int32.toInt (M P 33)) : ∃ r, D_X8_placeOf P M v0 v1 = some r ∧ (((-1 ≤ Int32.toInt r) ∧ (Int32.toInt r ≤ 2))) := by
  obtain ⟨u0_jB, u1_jB, u2_jB, u3_jB, u4_jB, u5_jB⟩ := id p_jB
  obtain ⟨u0_jS, u1_jS, u2_jS, u3_jS, u4_jS, u5_jS, u6_jS, u7_jS⟩ := jS.ints p_jS
  have TL_2 : ∀ u : Nat, ∀ (x1_2 : Int32) (x2_2 : Int32) (x3_2 : Int32), (jB P M) → (jL P M) → (jS P M) → (0 ≤ Int32.toInt x3_2) → (0 ≤ Int32.toInt x1_2 ∧ Int32.toInt x1_2 < Int32.toInt (M P 33)) → (2147483648 - Int32.toInt x3_2).toNat < u → ∃ r, D_X8_placeOf_2 P M u x1_2 x2_2 x3_2 = some r ∧ (((-1 ≤ Int32.toInt r) ∧ (Int32.toInt r ≤ 2))) := by
    intro u
    induction u with
    | zero => intro x1_2 x2_2 x3_2 p_jB_2 p_jL_2 p_jS_2 f0_2 f1_2 hm_2; exact absurd hm_2 (Nat.not_lt_zero _)
    | succ u_2 ih_2 =>
      intro x1_2 x2_2 x3_2 p_jB_2 p_jL_2 p_jS_2 f0_2 f1_2 hm_2
      obtain ⟨u0_jB_2, u1_jB_2, u2_jB_2, u3_jB_2, u4_jB_2, u5_jB_2⟩ := id p_jB_2
      obtain ⟨u0_jS_2, u1_jS_2, u2_jS_2, u3_jS_2, u4_jS_2, u5_jS_2, u6_jS_2, u7_jS_2⟩ := jS.ints p_jS_2
      rw [D_X8_placeOf_2]
      refine vB (v_X8_choiceMany p_jB_2 p_jS_2 p_jL_2 (by first | omega | (simp only [Int32.toInt_add, Int32.toInt_sub, Int32.toInt_mul, Int32.toInt_toInt64, Int64.toInt_add, z_m1, Int32.reduceToInt, Int64.reduceToInt, Int32.reduceToNatClampNeg, Int.bmod_def, or_true, true_or, and_true, true_and] <;> omega)) (by first | omega | (simp only [Int32.toInt_add, Int32.toInt_sub, Int32.toInt_mul, Int32.toInt_toInt64, Int64.toInt_add, z_m1, Int32.reduceToInt, Int64.reduceToInt, Int32.reduceToNatClampNeg, Int.bmod_def, or_true, true_or, and_true, true_and] <;> omega))) (fun e_5 f_5 q_5 => ?_)
      obtain ⟨x0_5, x1_5, x2_5⟩ := q_5
      (try simp only [Int32.toInt_add, Int32.toInt_sub, Int32.toInt_mul, Int32.toInt_toInt64, Int64.toInt_add, z_m1, Int32.reduceToInt, Int64.reduceToInt, Int32.reduceToNatClampNeg, Int.bmod_def] at x0_5)
      (try simp only [Int32.toInt_add, Int32.toInt_sub, Int32.toInt_mul, Int32.toInt_toInt64, Int64.toInt_add, z_m1, Int32.reduceToInt, Int64.reduceToInt, Int32.reduceToNatClampNeg, Int.bmod_def] at x1_5)
      refine vIf (fun h_8 => ?_) (fun h_8 => ?_)
      · have i_8 := Int32.le_iff_toInt_le.mp h_8
        (try simp only [Int32.toInt_add, Int32.toInt_sub, Int32.toInt_mul, Int32.toInt_toInt64, Int64.toInt_add, z_m1, Int32.reduceToInt, Int64.reduceToInt, Int32.reduceToNatClampNeg, Int.bmod_def] at i_8)
        exact ⟨_, rfl, ⟨(by first | omega | (simp only [Int32.toInt_add, Int32.toInt_sub, Int32.toInt_mul, Int32.toInt_toInt64, Int64.toInt_add, z_m1, Int32.reduceToInt, Int64.reduceToInt, Int32.reduceToNatClampNeg, Int.bmod_def, or_true, true_or, and_true, true_and] <;> omega)), (by first | omega | (simp only [Int32.toInt_add, Int32.toInt_sub, Int32.toInt_mul, Int32.toInt_toInt64, Int64.toInt_add, z_m1, Int32.reduceToInt, Int64.reduceToInt, Int32.reduceToNatClampNeg, Int.bmod_def, or_true, true_or, and_true, true_and] <;> omega))⟩⟩
      · have i_8 := Int32.lt_iff_toInt_lt.mp (Int32.not_le.mp h_8)
        (try simp only [Int32.toInt_add, Int32.toInt_sub, Int32.toInt_mul, Int32.toInt_toInt64, Int64.toInt_add, z_m1, Int32.reduceToInt, Int64.reduceToInt, Int32.reduceToNatClampNeg, Int.bmod_def] at i_8)
        refine vB (v_X8_choiceOf p_jB_2 p_jS_2 p_jL_2 (by first | omega | (simp only [Int32.toInt_add, Int32.toInt_sub, Int32.toInt_mul, Int32.toInt_toInt64, Int64.toInt_add, z_m1, Int32.reduceToInt, Int64.reduceToInt, Int32.reduceToNatClampNeg, Int.bmod_def, or_true, true_or, and_true, true_and] <;> omega)) (by first | omega | (simp only [Int32.toInt_add, Int32.toInt_sub, Int32.toInt_mul, Int32.toInt_toInt64, Int64.toInt_add, z_m1, Int32.reduceToInt, Int64.reduceToInt, Int32.reduceToNatClampNeg, Int.bmod_def, or_true, true_or, and_true, true_and] <;> omega)) (by first | omega | (simp only [Int32.toInt_add, Int32.toInt_sub, Int32.toInt_mul, Int32.toInt_toInt64, Int64.toInt_add, z_m1, Int32.reduceToInt, Int64.reduceToInt, Int32.reduceToNatClampNeg, Int.bmod_def, or_true, true_or, and_true, true_and] <;> omega))) (fun e_14 f_14 q_14 => ?_)
        obtain ⟨x0_14, x1_14, x2_14⟩ := q_14
        (try simp only [Int32.toInt_add, Int32.toInt_sub, Int32.toInt_mul, Int32.toInt_toInt64, Int64.toInt_add, z_m1, Int32.reduceToInt, Int64.reduceToInt, Int32.reduceToNatClampNeg, Int.bmod_def] at x0_14)
        (try simp only [Int32.toInt_add, Int32.toInt_sub, Int32.toInt_mul, Int32.toInt_toInt64, Int64.toInt_add, z_m1, Int32.reduceToInt, Int64.reduceToInt, Int32.reduceToNatClampNeg, Int.bmod_def] at x1_14)
        (try simp only [Int32.toInt_add, Int32.toInt_sub, Int32.toInt_mul, Int32.toInt_toInt64, Int64.toInt_add, z_m1, Int32.reduceToInt, Int64.reduceToInt, Int32.reduceToNatClampNeg, Int.bmod_def] at x2_14)
        refine vIf (fun h_18 => ?_) (fun h_18 => ?_)
        · have i_18 := congrArg Int32.toInt h_18
          (try simp only [Int32.toInt_add, Int32.toInt_sub, Int32.toInt_mul, Int32.toInt_toInt64, Int64.toInt_add, z_m1, Int32.reduceToInt, Int64.reduceToInt, Int32.reduceToNatClampNeg, Int.bmod_def] at i_18)
          exact ⟨_, rfl, ⟨(by first | omega | (simp only [Int32.toInt_add, Int32.toInt_sub, Int32.toInt_mul, Int32.toInt_toInt64, Int64.toInt_add, z_m1, Int32.reduceToInt, Int64.reduceToInt, Int32.reduceToNatClampNeg, Int.bmod_def, or_true, true_or, and_true, true_and] <;> omega)), (by first | omega | (simp only [Int32.toInt_add, Int32.toInt_sub, Int32.toInt_mul, Int32.toInt_toInt64, Int64.toInt_add, z_m1, Int32.reduceToInt, Int64.reduceToInt, Int32.reduceToNatClampNeg, Int.bmod_def, or_true, true_or, and_true, true_and] <;> omega))⟩⟩
        · have i_18 : ¬ Int32.toInt e_14 = Int32.toInt x2_2 := fun q => h_18 (Int32.toInt_inj.mp q)
          (try simp only [Int32.toInt_add, Int32.toInt_sub, Int32.toInt_mul, Int32.toInt_toInt64, Int64.toInt_add, z_m1, Int32.reduceToInt, Int64.reduceToInt, Int32.reduceToNatClampNeg, Int.bmod_def] at i_18)
          exact ih_2 _ _ _ p_jB_2 p_jL_2 p_jS_2 (by first | omega | (simp only [Int32.toInt_add, Int32.toInt_sub, Int32.toInt_mul, Int32.toInt_toInt64, Int64.toInt_add, z_m1, Int32.reduceToInt, Int64.reduceToInt, Int32.reduceToNatClampNeg, Int.bmod_def, or_true, true_or, and_true, true_and] <;> omega)) (by first | omega | (simp only [Int32.toInt_add, Int32.toInt_sub, Int32.toInt_mul, Int32.toInt_toInt64, Int64.toInt_add, z_m1, Int32.reduceToInt, Int64.reduceToInt, Int32.reduceToNatClampNeg, Int.bmod_def, or_true, true_or, and_true, true_and] <;> omega)) (z_up1 (by first | assumption | exact z_lt (by assumption) | exact z_lt2 (by assumption) | exact z_lt3 (by assumption) (by first | assumption | decide)) hm_2)
  have T_2 : ∀ (x1_2 : Int32) (x2_2 : Int32) (x3_2 : Int32), (jB P M) → (jL P M) → (jS P M) → (0 ≤ Int32.toInt x3_2) → (0 ≤ Int32.toInt x1_2 ∧ Int32.toInt x1_2 < Int32.toInt (M P 33)) → ∃ r, D_X8_placeOf_2 P M zFu x1_2 x2_2 x3_2 = some r ∧ (((-1 ≤ Int32.toInt r) ∧ (Int32.toInt r ≤ 2))) := fun x1_2 x2_2 x3_2 p_jB_2 p_jL_2 p_jS_2 f0_2 f1_2 => TL_2 zFu x1_2 x2_2 x3_2 p_jB_2 p_jL_2 p_jS_2 f0_2 f1_2 (zFu_up _)
  unfold D_X8_placeOf
  exact T_2 _ _ _ p_jB p_jL p_jS (by first | omega | (simp only [Int32.toInt_add, Int32.toInt_sub, Int32.toInt_mul, Int32.toInt_toInt64, Int64.toInt_add, z_m1, Int32.reduceToInt, Int64.reduceToInt, Int32.reduceToNatClampNeg, Int.bmod_def, or_true, true_or, and_true, true_and] <;> omega)) (by first | omega | (simp only [Int32.toInt_add, Int32.toInt_sub, Int32.toInt_mul, Int32.toInt_toInt64, Int64.toInt_add, z_m1, Int32.reduceToInt, Int64.reduceToInt, Int32.reduceToNatClampNeg, Int.bmod_def, or_true, true_or, and_true, true_and] <;> omega))
def WM_X8_applicantOf (P : Nat) (a j : Nat) : Prop := (P + 11 ≤ a ∧ a < P + 18) ∨ (a = P ∧ (j = 33))
/-- the first applicant in which a hunter stands -/
theorem z_scan {P : Nat} {M : zMt} {h : Nat} (hB : jB P M) (hH : jH P M) (hh : (h : Int) < (M P 8).toInt) : ∃ a : Nat, (a : Int) < (M P 33).toInt ∧ bitAt (M (P + 11) a) h ∧ ∀ b : Nat, b < a → ¬ bitAt (M (P + 11) b) h := by
  obtain ⟨a, h1, h2⟩ := hH h hh
  have key : ∀ n : Nat, (∃ a : Nat, a < n ∧ bitAt (M (P + 11) a) h) → ∃ a : Nat, a < n ∧ bitAt (M (P + 11) a) h ∧ ∀ b : Nat, b < a → ¬ bitAt (M (P + 11) b) h := by
    intro n
    induction n with
    | zero => rintro ⟨a, h1, _⟩; omega
    | succ n ih =>
      rintro ⟨a, h1, h2⟩
      by_cases q : ∃ a : Nat, a < n ∧ bitAt (M (P + 11) a) h
      · obtain ⟨b, b1, b2, b3⟩ := ih q
        exact ⟨b, by omega, b2, b3⟩
      · have : a = n := by
          by_cases z : a < n
          · exact absurd ⟨a, z, h2⟩ q
          · omega
        subst this
        exact ⟨a, h1, h2, fun b hb hc => q ⟨b, hb, hc⟩⟩
  obtain ⟨b, b1, b2, b3⟩ := key (a + 1) ⟨a, by omega, h2⟩
  exact ⟨b, by omega, b2, b3⟩
theorem z_toN {x : Int32} (h0 : 0 ≤ x.toInt) : x = nI x.toInt.toNat := Int32.toInt_inj.mp (by rw [nI_toInt (by have := Int32.toInt_lt x; omega)]; omega)
theorem v_X8_applicantOf {P : Nat} {v0 : Int32} {M0 : zMt} (p_jB : jB P M0) (p_jS : jS P M0) (i_2 : 0 ≤ Int32.toInt v0) (i_3 : Int32.toInt v0 < Int32.toInt (M0 P 8)) : ∃ r, D_X8_applicantOf P v0 M0 = some r ∧ ((∀ a j, ¬ WM_X8_applicantOf P a j → r.2 a j = M0 a j) ∧ (jB P r.2) ∧ (jL P r.2) ∧ (jH P r.2) ∧ (Int32.toInt (r.2 P 33) = nA P r.2) ∧ (0 ≤ Int32.toInt r.1) ∧ (Int32.toInt r.1 < Int32.toInt (r.2 P 33))) := by
  unfold D_X8_applicantOf
  refine vB (v_X8_laysApplicants p_jB p_jS) (fun M1 f1 q1 => ?_)
  obtain ⟨k1, hB, hL, hH, hN⟩ := q1
  have e8 : M1 P 8 = M0 P 8 := k1 P 8 (by unfold WM_X8_laysApplicants; omega)
  obtain ⟨b1, b2, b3, b4, b5, b6⟩ := id hB
  obtain ⟨h, hh, hlt⟩ : ∃ h : Nat, v0 = nI h ∧ (h : Int) = v0.toInt := ⟨v0.toInt.toNat, z_toN i_2, by omega⟩
  subst hh
  obtain ⟨a, a1, a2, a3⟩ := z_scan (h := h) hB hH (by rw [e8]; omega)
  have L : ∀ (u x : Nat), x ≤ a → a - x < u → D_X8_applicantOf_6 P u (nI h) (nI x) M1 = some (nI a, M1) := by
    intro u
    induction u with
    | zero => intro x h1 h2; omega
    | succ u ih =>
      intro x h1 h2
      rw [D_X8_applicantOf_6]
      unfold zI
      rw [if_neg (vp_in_nI (n := x) (by omega) (by decide)), nI_clamp (by omega)]
      obtain ⟨e, he, q⟩ := v_X8_has (v0 := M1 (P + 11) x) (v1 := nI h)
      rw [he]
      show (if e = 0 then _ else _) = _
      by_cases hx : x = a
      · subst hx
        rcases q.2 with ⟨q2, _⟩ | ⟨_, q2⟩
        · rw [q2, if_neg (by decide)]
        · exact absurd a2 q2
      · rcases q.2 with ⟨_, q2⟩ | ⟨q2, _⟩
        · exact absurd q2 (a3 x (by omega))
        · rw [q2, if_pos rfl, nI_1]
          exact ih (x + 1) (by omega) (by omega)
  refine ⟨_, L zFu 0 (Nat.zero_le _) (by unfold zFu; omega), fun x j h => k1 x j (by unfold WM_X8_laysApplicants; unfold WM_X8_applicantOf at h; omega), hB, hL, hH, hN, ?_, ?_⟩
  · show 0 ≤ (nI a).toInt
    rw [nI_toInt (by omega)]; omega
  · show (nI a).toInt < _
    rw [nI_toInt (by omega)]; exact a1
def WM_X8_many (P : Nat) (a j : Nat) : Prop := (P + 11 ≤ a ∧ a < P + 18) ∨ (a = P ∧ (j = 6 ∨ j = 12 ∨ j = 33))
theorem wz_M_X8_gives_X8_many {P a j : Nat} (h : ¬ WM_X8_many P a j) : ¬ WM_X8_gives P a j := by unfold WM_X8_gives; unfold WM_X8_many at h; omega
theorem wc_X8_gives_7 {P : Nat} : ¬ WM_X8_gives P P 7 := by unfold WM_X8_gives; omega
theorem wc_X8_gives_8 {P : Nat} : ¬ WM_X8_gives P P 8 := by unfold WM_X8_gives; omega
theorem wc_X8_gives_33 {P : Nat} : ¬ WM_X8_gives P P 33 := by unfold WM_X8_gives; omega
theorem wf_nA_X8_gives {P a j : Nat} (h : (a = P + 1 ∨ (a = P ∧ j = 8))) : ¬ WM_X8_gives P a j := by unfold WM_X8_gives; omega
theorem wf_jB_X8_gives {P a j : Nat} (h : (a = P ∧ (j = 7 ∨ j = 8 ∨ j = 33))) : ¬ WM_X8_gives P a j := by unfold WM_X8_gives; omega
theorem wf_jH_X8_gives {P a j : Nat} (h : ((a = P ∧ (j = 8 ∨ j = 33)) ∨ a = P + 11)) : ¬ WM_X8_gives P a j := by unfold WM_X8_gives; omega
theorem wf_jK_X8_gives {P a j : Nat} (h : ((a = P ∧ (j = 7 ∨ j = 8 ∨ j = 9)) ∨ a = P + 4)) : ¬ WM_X8_gives P a j := by unfold WM_X8_gives; omega
theorem wf_jL_X8_gives {P a j : Nat} (h : ((a = P ∧ j = 33) ∨ a = P + 13 ∨ a = P + 14 ∨ a = P + 17)) : ¬ WM_X8_gives P a j := by unfold WM_X8_gives; omega
theorem wf_jR_X8_gives {P a j : Nat} (h : a = P + 19) : ¬ WM_X8_gives P a j := by unfold WM_X8_gives; omega
theorem wf_jS_X8_gives {P a j : Nat} (h : (a = P + 1 ∨ (a = P ∧ (j = 7 ∨ j = 8)))) : ¬ WM_X8_gives P a j := by unfold WM_X8_gives; omega
theorem wf_jT_X8_gives {P a j : Nat} (h : (a = P ∧ (j = 9 ∨ j = 11 ∨ j = 64))) : ¬ WM_X8_gives P a j := by unfold WM_X8_gives; omega
theorem wz_M_X8_laysApplicants_X8_many {P a j : Nat} (h : ¬ WM_X8_many P a j) : ¬ WM_X8_laysApplicants P a j := by unfold WM_X8_laysApplicants; unfold WM_X8_many at h; omega
theorem wf_jR_X8_laysApplicants {P a j : Nat} (h : a = P + 19) : ¬ WM_X8_laysApplicants P a j := by unfold WM_X8_laysApplicants; omega
theorem wf_jK_X8_laysApplicants {P a j : Nat} (h : ((a = P ∧ (j = 7 ∨ j = 8 ∨ j = 9)) ∨ a = P + 4)) : ¬ WM_X8_laysApplicants P a j := by unfold WM_X8_laysApplicants; omega
theorem wf_jT_X8_laysApplicants {P a j : Nat} (h : (a = P ∧ (j = 9 ∨ j = 11 ∨ j = 64))) : ¬ WM_X8_laysApplicants P a j := by unfold WM_X8_laysApplicants; omega
theorem wz_M_X8_refuse_X8_many {P a j : Nat} (h : ¬ WM_X8_many P a j) : ¬ WM_X8_refuse P a j := by unfold WM_X8_refuse; unfold WM_X8_many at h; omega
theorem wc_X8_refuse_7 {P : Nat} : ¬ WM_X8_refuse P P 7 := by unfold WM_X8_refuse; omega
theorem wc_X8_refuse_8 {P : Nat} : ¬ WM_X8_refuse P P 8 := by unfold WM_X8_refuse; omega
theorem wc_X8_refuse_33 {P : Nat} : ¬ WM_X8_refuse P P 33 := by unfold WM_X8_refuse; omega
theorem wf_nA_X8_refuse {P a j : Nat} (h : (a = P + 1 ∨ (a = P ∧ j = 8))) : ¬ WM_X8_refuse P a j := by unfold WM_X8_refuse; omega
theorem wf_jS_X8_refuse {P a j : Nat} (h : (a = P + 1 ∨ (a = P ∧ (j = 7 ∨ j = 8)))) : ¬ WM_X8_refuse P a j := by unfold WM_X8_refuse; omega
theorem wf_jR_X8_refuse {P a j : Nat} (h : a = P + 19) : ¬ WM_X8_refuse P a j := by unfold WM_X8_refuse; omega
theorem wf_jK_X8_refuse {P a j : Nat} (h : ((a = P ∧ (j = 7 ∨ j = 8 ∨ j = 9)) ∨ a = P + 4)) : ¬ WM_X8_refuse P a j := by unfold WM_X8_refuse; omega
theorem wf_jT_X8_refuse {P a j : Nat} (h : (a = P ∧ (j = 9 ∨ j = 11 ∨ j = 64))) : ¬ WM_X8_refuse P a j := by unfold WM_X8_refuse; omega
theorem wf_jB_X8_refuse {P a j : Nat} (h : (a = P ∧ (j = 7 ∨ j = 8 ∨ j = 33))) : ¬ WM_X8_refuse P a j := by unfold WM_X8_refuse; omega
theorem wf_jL_X8_refuse {P a j : Nat} (h : ((a = P ∧ j = 33) ∨ a = P + 13 ∨ a = P + 14 ∨ a = P + 17)) : ¬ WM_X8_refuse P a j := by unfold WM_X8_refuse; omega
theorem wf_jH_X8_refuse {P a j : Nat} (h : ((a = P ∧ (j = 8 ∨ j = 33)) ∨ a = P + 11)) : ¬ WM_X8_refuse P a j := by unfold WM_X8_refuse; omega
set_option maxRecDepth 100000 in
set_option maxHeartbeats 4000000 in
theorem v_X8_many {P : Nat} {v0 : Int32} {M0 : zMt}  (p_jB : jB P M0) (p_jS : jS P M0) (p_jR : jR P M0) (p_jK : jK P M0) (p_jT : jT P M0) : ∃ r, D_X8_many P v0 M0 = some r ∧ ((∀ a j, ¬ WM_X8_many P a j → r.2 a j = M0 a j) ∧ ((jB P r.2) ∧ (jS P r.2) ∧ (jR P r.2) ∧ (jK P r.2) ∧ (jT P r.2))) := by
  obtain ⟨u0_jB, u1_jB, u2_jB, u3_jB, u4_jB, u5_jB⟩ := id p_jB
  obtain ⟨u0_jS, u1_jS, u2_jS, u3_jS, u4_jS, u5_jS, u6_jS, u7_jS⟩ := jS.ints p_jS
  obtain ⟨u0_jT, u1_jT, u2_jT, u3_jT, u4_jT, u5_jT⟩ := id p_jT
  have TL_196 : ∀ u : Nat, ∀ (x2_196 : Int32) (x3_196 : Int32) (M_196 : zMt), (∀ a j, ¬ WM_X8_many P a j → M_196 a j = M0 a j) → (jB P M_196) → (jH P M_196) → (jK P M_196) → (jL P M_196) → (jR P M_196) → (jS P M_196) → (jT P M_196) → (0 ≤ Int32.toInt x3_196) → (Int32.toInt x3_196 ≤ 10) → (2147483648 - Int32.toInt x3_196).toNat < u → ∃ r, D_X8_many_196 P u x2_196 x3_196 M_196 = some r ∧ ((∀ a j, ¬ WM_X8_many P a j → r.2 a j = M0 a j) ∧ ((jB P r.2) ∧ (jS P r.2) ∧ (jR P r.2) ∧ (jK P r.2) ∧ (jT P r.2))) := by
    intro u
    induction u with
    | zero => intro x2_196 x3_196 M_196 k_196 p_jB_196 p_jH_196 p_jK_196 p_jL_196 p_jR_196 p_jS_196 p_jT_196 f0_196 f1_196 hm_196; exact absurd hm_196 (Nat.not_lt_zero _)
    | succ u_196 ih_196 =>
      have T_219 : ∀ (x3_219 : Int32) (y0_219 : Int32) (y1_219 : Int32) (M_219 : zMt), (∀ a j, ¬ WM_X8_many P a j → M_219 a j = M0 a j) → (jB P M_219) → (jH P M_219) → (jK P M_219) → (jL P M_219) → (jR P M_219) → (jS P M_219) → (jT P M_219) → (y1_219 = 0 ∨ y1_219 = 1) → (0 ≤ Int32.toInt x3_219) → (Int32.toInt x3_219 < Int32.toInt (M_219 P 8)) → ((2147483648 - Int32.toInt x3_219).toNat < u_196 + 1) → (Int32.toInt x3_219 < 2147483647) → ∃ r, D_X8_many_219 P (D_X8_many_196 P u_196) x3_219 y0_219 y1_219 M_219 = some r ∧ ((∀ a j, ¬ WM_X8_many P a j → r.2 a j = M0 a j) ∧ ((jB P r.2) ∧ (jS P r.2) ∧ (jR P r.2) ∧ (jK P r.2) ∧ (jT P r.2))) := by
        intro x3_219 y0_219 y1_219 M_219 k_219 p_jB_219 p_jH_219 p_jK_219 p_jL_219 p_jR_219 p_jS_219 p_jT_219 f0_219 f1_219 f2_219 f3_219 f4_219
        obtain ⟨u0_jB_219, u1_jB_219, u2_jB_219, u3_jB_219, u4_jB_219, u5_jB_219⟩ := id p_jB_219
        obtain ⟨u0_jS_219, u1_jS_219, u2_jS_219, u3_jS_219, u4_jS_219, u5_jS_219, u6_jS_219, u7_jS_219⟩ := jS.ints p_jS_219
        obtain ⟨u0_jT_219, u1_jT_219, u2_jT_219, u3_jT_219, u4_jT_219, u5_jT_219⟩ := id p_jT_219
        unfold D_X8_many_219
        exact ih_196 _ _ _ k_219 p_jB_219 p_jH_219 p_jK_219 p_jL_219 p_jR_219 p_jS_219 p_jT_219 (by first | omega | (simp only [Int32.toInt_add, Int32.toInt_sub, Int32.toInt_mul, Int32.toInt_toInt64, Int64.toInt_add, z_m1, Int32.reduceToInt, Int64.reduceToInt, Int32.reduceToNatClampNeg, Int.bmod_def, or_true, true_or, and_true, true_and] <;> omega)) (by first | omega | (simp only [Int32.toInt_add, Int32.toInt_sub, Int32.toInt_mul, Int32.toInt_toInt64, Int64.toInt_add, z_m1, Int32.reduceToInt, Int64.reduceToInt, Int32.reduceToNatClampNeg, Int.bmod_def, or_true, true_or, and_true, true_and] <;> omega)) (z_up1 f4_219 f3_219)
      intro x2_196 x3_196 M_196 k_196 p_jB_196 p_jH_196 p_jK_196 p_jL_196 p_jR_196 p_jS_196 p_jT_196 f0_196 f1_196 hm_196
      obtain ⟨u0_jB_196, u1_jB_196, u2_jB_196, u3_jB_196, u4_jB_196, u5_jB_196⟩ := id p_jB_196
      obtain ⟨u0_jS_196, u1_jS_196, u2_jS_196, u3_jS_196, u4_jS_196, u5_jS_196, u6_jS_196, u7_jS_196⟩ := jS.ints p_jS_196
      obtain ⟨u0_jT_196, u1_jT_196, u2_jT_196, u3_jT_196, u4_jT_196, u5_jT_196⟩ := id p_jT_196
      rw [D_X8_many_196]
      refine vIf (fun h_201 => ?_) (fun h_201 => ?_)
      · have i_201 := Int32.le_iff_toInt_le.mp h_201
        (try simp only [Int32.toInt_add, Int32.toInt_sub, Int32.toInt_mul, Int32.toInt_toInt64, Int64.toInt_add, z_m1, Int32.reduceToInt, Int64.reduceToInt, Int32.reduceToNatClampNeg, Int.bmod_def] at i_201)
        refine vB (v_X8_gives) (fun e_229 f_229 q_229 => ?_)
        have k_229 : ∀ a j, ¬ WM_X8_many P a j → e_229.2 a j = M0 a j := fun a j h => (q_229 a j (wz_M_X8_gives_X8_many h)).trans (k_196 a j h)
        have c7_229 : Int32.toInt (e_229.2 P 7) = Int32.toInt (M_196 P 7) := congrArg Int32.toInt (q_229 P 7 (wc_X8_gives_7))
        have c8_229 : Int32.toInt (e_229.2 P 8) = Int32.toInt (M_196 P 8) := congrArg Int32.toInt (q_229 P 8 (wc_X8_gives_8))
        have c33_229 : Int32.toInt (e_229.2 P 33) = Int32.toInt (M_196 P 33) := congrArg Int32.toInt (q_229 P 33 (wc_X8_gives_33))
        have n_229 : nA P e_229.2 = nA P M_196 := nA_congr (fun a j h => q_229 a j (wf_nA_X8_gives h))
        have p_jB_229 : jB P e_229.2 := jB.mono p_jB_196 (fun a j h => q_229 a j (wf_jB_X8_gives h))
        obtain ⟨u0_jB_229, u1_jB_229, u2_jB_229, u3_jB_229, u4_jB_229, u5_jB_229⟩ := id p_jB_229
        have p_jH_229 : jH P e_229.2 := jH.mono p_jH_196 (fun a j h => q_229 a j (wf_jH_X8_gives h))
        have p_jK_229 : jK P e_229.2 := jK.mono p_jK_196 (fun a j h => q_229 a j (wf_jK_X8_gives h))
        have p_jL_229 : jL P e_229.2 := jL.mono p_jL_196 (fun a j h => q_229 a j (wf_jL_X8_gives h))
        have p_jR_229 : jR P e_229.2 := jR.mono p_jR_196 (fun a j h => q_229 a j (wf_jR_X8_gives h))
        have p_jS_229 : jS P e_229.2 := jS.mono p_jS_196 (fun a j h => q_229 a j (wf_jS_X8_gives h))
        obtain ⟨u0_jS_229, u1_jS_229, u2_jS_229, u3_jS_229, u4_jS_229, u5_jS_229, u6_jS_229, u7_jS_229⟩ := jS.ints p_jS_229
        have p_jT_229 : jT P e_229.2 := jT.mono p_jT_196 (fun a j h => q_229 a j (wf_jT_X8_gives h))
        obtain ⟨u0_jT_229, u1_jT_229, u2_jT_229, u3_jT_229, u4_jT_229, u5_jT_229⟩ := id p_jT_229
        exact ⟨_, rfl, k_229, ⟨p_jB_229, p_jS_229, p_jR_229, p_jK_229, p_jT_229⟩⟩
      · have i_201 := Int32.lt_iff_toInt_lt.mp (Int32.not_le.mp h_201)
        (try simp only [Int32.toInt_add, Int32.toInt_sub, Int32.toInt_mul, Int32.toInt_toInt64, Int64.toInt_add, z_m1, Int32.reduceToInt, Int64.reduceToInt, Int32.reduceToNatClampNeg, Int.bmod_def] at i_201)
        refine vI (vp_of (by first | omega | (simp only [Int32.toInt_add, Int32.toInt_sub, Int32.toInt_mul, Int32.toInt_toInt64, Int64.toInt_add, z_m1, Int32.reduceToInt, Int64.reduceToInt, Int32.reduceToNatClampNeg, Int.bmod_def, or_true, true_or, and_true, true_and] <;> omega)) (by first | omega | (simp only [Int32.toInt_add, Int32.toInt_sub, Int32.toInt_mul, Int32.toInt_toInt64, Int64.toInt_add, z_m1, Int32.reduceToInt, Int64.reduceToInt, Int32.reduceToNatClampNeg, Int.bmod_def, or_true, true_or, and_true, true_and] <;> omega))) ?_
        refine vIf (fun h_211 => ?_) (fun h_211 => ?_)
        · have i_211 := congrArg Int32.toInt h_211
          (try simp only [Int32.toInt_add, Int32.toInt_sub, Int32.toInt_mul, Int32.toInt_toInt64, Int64.toInt_add, z_m1, Int32.reduceToInt, Int64.reduceToInt, Int32.reduceToNatClampNeg, Int.bmod_def] at i_211)
          exact T_219 _ _ _ _ k_196 p_jB_196 p_jH_196 p_jK_196 p_jL_196 p_jR_196 p_jS_196 p_jT_196 (by first | exact Or.inl rfl | exact Or.inr rfl | assumption) (by first | omega | (simp only [Int32.toInt_add, Int32.toInt_sub, Int32.toInt_mul, Int32.toInt_toInt64, Int64.toInt_add, z_m1, Int32.reduceToInt, Int64.reduceToInt, Int32.reduceToNatClampNeg, Int.bmod_def, or_true, true_or, and_true, true_and] <;> omega)) (by first | omega | (simp only [Int32.toInt_add, Int32.toInt_sub, Int32.toInt_mul, Int32.toInt_toInt64, Int64.toInt_add, z_m1, Int32.reduceToInt, Int64.reduceToInt, Int32.reduceToNatClampNeg, Int.bmod_def, or_true, true_or, and_true, true_and] <;> omega)) hm_196 (by first | assumption | exact z_lt (by assumption) | exact z_lt2 (by assumption) | exact z_lt3 (by assumption) (by first | assumption | decide))
        · have i_211 : ¬ Int32.toInt (M_196 (P + 5) x3_196.toNatClampNeg) = Int32.toInt (0 : Int32) := fun q => h_211 (Int32.toInt_inj.mp q)
          (try simp only [Int32.toInt_add, Int32.toInt_sub, Int32.toInt_mul, Int32.toInt_toInt64, Int64.toInt_add, z_m1, Int32.reduceToInt, Int64.reduceToInt, Int32.reduceToNatClampNeg, Int.bmod_def] at i_211)
          exact T_219 _ _ _ _ k_196 p_jB_196 p_jH_196 p_jK_196 p_jL_196 p_jR_196 p_jS_196 p_jT_196 (by first | exact Or.inl rfl | exact Or.inr rfl | assumption) (by first | omega | (simp only [Int32.toInt_add, Int32.toInt_sub, Int32.toInt_mul, Int32.toInt_toInt64, Int64.toInt_add, z_m1, Int32.reduceToInt, Int64.reduceToInt, Int32.reduceToNatClampNeg, Int.bmod_def, or_true, true_or, and_true, true_and] <;> omega)) (by first | omega | (simp only [Int32.toInt_add, Int32.toInt_sub, Int32.toInt_mul, Int32.toInt_toInt64, Int64.toInt_add, z_m1, Int32.reduceToInt, Int64.reduceToInt, Int32.reduceToNatClampNeg, Int.bmod_def, or_true, true_or, and_true, true_and] <;> omega)) hm_196 (by first | assumption | exact z_lt (by assumption) | exact z_lt2 (by assumption) | exact z_lt3 (by assumption) (by first | assumption | decide))
  have T_196 : ∀ (x2_196 : Int32) (x3_196 : Int32) (M_196 : zMt), (∀ a j, ¬ WM_X8_many P a j → M_196 a j = M0 a j) → (jB P M_196) → (jH P M_196) → (jK P M_196) → (jL P M_196) → (jR P M_196) → (jS P M_196) → (jT P M_196) → (0 ≤ Int32.toInt x3_196) → (Int32.toInt x3_196 ≤ 10) → ∃ r, D_X8_many_196 P zFu x2_196 x3_196 M_196 = some r ∧ ((∀ a j, ¬ WM_X8_many P a j → r.2 a j = M0 a j) ∧ ((jB P r.2) ∧ (jS P r.2) ∧ (jR P r.2) ∧ (jK P r.2) ∧ (jT P r.2))) := fun x2_196 x3_196 M_196 k_196 p_jB_196 p_jH_196 p_jK_196 p_jL_196 p_jR_196 p_jS_196 p_jT_196 f0_196 f1_196 => TL_196 zFu x2_196 x3_196 M_196 k_196 p_jB_196 p_jH_196 p_jK_196 p_jL_196 p_jR_196 p_jS_196 p_jT_196 f0_196 f1_196 (zFu_up _)
  have TL_162 : ∀ u : Nat, ∀ (x2_162 : Int32) (x3_162 : Int32) (M_162 : zMt), (∀ a j, ¬ WM_X8_many P a j → M_162 a j = M0 a j) → (jB P M_162) → (jH P M_162) → (jK P M_162) → (jL P M_162) → (jR P M_162) → (jS P M_162) → (jT P M_162) → (0 ≤ Int32.toInt x3_162) → (Int32.toInt x3_162 ≤ 5) → (2147483648 - Int32.toInt x3_162).toNat < u → ∃ r, D_X8_many_162 P u x2_162 x3_162 M_162 = some r ∧ ((∀ a j, ¬ WM_X8_many P a j → r.2 a j = M0 a j) ∧ ((jB P r.2) ∧ (jS P r.2) ∧ (jR P r.2) ∧ (jK P r.2) ∧ (jT P r.2))) := by
    intro u
    induction u with
    | zero => intro x2_162 x3_162 M_162 k_162 p_jB_162 p_jH_162 p_jK_162 p_jL_162 p_jR_162 p_jS_162 p_jT_162 f0_162 f1_162 hm_162; exact absurd hm_162 (Nat.not_lt_zero _)
    | succ u_162 ih_162 =>
      intro x2_162 x3_162 M_162 k_162 p_jB_162 p_jH_162 p_jK_162 p_jL_162 p_jR_162 p_jS_162 p_jT_162 f0_162 f1_162 hm_162
      obtain ⟨u0_jB_162, u1_jB_162, u2_jB_162, u3_jB_162, u4_jB_162, u5_jB_162⟩ := id p_jB_162
      obtain ⟨u0_jS_162, u1_jS_162, u2_jS_162, u3_jS_162, u4_jS_162, u5_jS_162, u6_jS_162, u7_jS_162⟩ := jS.ints p_jS_162
      obtain ⟨u0_jT_162, u1_jT_162, u2_jT_162, u3_jT_162, u4_jT_162, u5_jT_162⟩ := id p_jT_162
      rw [D_X8_many_162]
      refine vIf (fun h_167 => ?_) (fun h_167 => ?_)
      · have i_167 := Int32.le_iff_toInt_le.mp h_167
        (try simp only [Int32.toInt_add, Int32.toInt_sub, Int32.toInt_mul, Int32.toInt_toInt64, Int64.toInt_add, z_m1, Int32.reduceToInt, Int64.reduceToInt, Int32.reduceToNatClampNeg, Int.bmod_def] at i_167)
        refine vB (v_X8_gives) (fun e_190 f_190 q_190 => ?_)
        have k_190 : ∀ a j, ¬ WM_X8_many P a j → e_190.2 a j = M0 a j := fun a j h => (q_190 a j (wz_M_X8_gives_X8_many h)).trans (k_162 a j h)
        have c7_190 : Int32.toInt (e_190.2 P 7) = Int32.toInt (M_162 P 7) := congrArg Int32.toInt (q_190 P 7 (wc_X8_gives_7))
        have c8_190 : Int32.toInt (e_190.2 P 8) = Int32.toInt (M_162 P 8) := congrArg Int32.toInt (q_190 P 8 (wc_X8_gives_8))
        have c33_190 : Int32.toInt (e_190.2 P 33) = Int32.toInt (M_162 P 33) := congrArg Int32.toInt (q_190 P 33 (wc_X8_gives_33))
        have n_190 : nA P e_190.2 = nA P M_162 := nA_congr (fun a j h => q_190 a j (wf_nA_X8_gives h))
        have p_jB_190 : jB P e_190.2 := jB.mono p_jB_162 (fun a j h => q_190 a j (wf_jB_X8_gives h))
        obtain ⟨u0_jB_190, u1_jB_190, u2_jB_190, u3_jB_190, u4_jB_190, u5_jB_190⟩ := id p_jB_190
        have p_jH_190 : jH P e_190.2 := jH.mono p_jH_162 (fun a j h => q_190 a j (wf_jH_X8_gives h))
        have p_jK_190 : jK P e_190.2 := jK.mono p_jK_162 (fun a j h => q_190 a j (wf_jK_X8_gives h))
        have p_jL_190 : jL P e_190.2 := jL.mono p_jL_162 (fun a j h => q_190 a j (wf_jL_X8_gives h))
        have p_jR_190 : jR P e_190.2 := jR.mono p_jR_162 (fun a j h => q_190 a j (wf_jR_X8_gives h))
        have p_jS_190 : jS P e_190.2 := jS.mono p_jS_162 (fun a j h => q_190 a j (wf_jS_X8_gives h))
        obtain ⟨u0_jS_190, u1_jS_190, u2_jS_190, u3_jS_190, u4_jS_190, u5_jS_190, u6_jS_190, u7_jS_190⟩ := jS.ints p_jS_190
        have p_jT_190 : jT P e_190.2 := jT.mono p_jT_162 (fun a j h => q_190 a j (wf_jT_X8_gives h))
        obtain ⟨u0_jT_190, u1_jT_190, u2_jT_190, u3_jT_190, u4_jT_190, u5_jT_190⟩ := id p_jT_190
        exact ⟨_, rfl, k_190, ⟨p_jB_190, p_jS_190, p_jR_190, p_jK_190, p_jT_190⟩⟩
      · have i_167 := Int32.lt_iff_toInt_lt.mp (Int32.not_le.mp h_167)
        (try simp only [Int32.toInt_add, Int32.toInt_sub, Int32.toInt_mul, Int32.toInt_toInt64, Int64.toInt_add, z_m1, Int32.reduceToInt, Int64.reduceToInt, Int32.reduceToNatClampNeg, Int.bmod_def] at i_167)
        refine vI (vp_of (by first | omega | (simp only [Int32.toInt_add, Int32.toInt_sub, Int32.toInt_mul, Int32.toInt_toInt64, Int64.toInt_add, z_m1, Int32.reduceToInt, Int64.reduceToInt, Int32.reduceToNatClampNeg, Int.bmod_def, or_true, true_or, and_true, true_and] <;> omega)) (by first | omega | (simp only [Int32.toInt_add, Int32.toInt_sub, Int32.toInt_mul, Int32.toInt_toInt64, Int64.toInt_add, z_m1, Int32.reduceToInt, Int64.reduceToInt, Int32.reduceToNatClampNeg, Int.bmod_def, or_true, true_or, and_true, true_and] <;> omega))) ?_
        exact ih_162 _ _ _ k_162 p_jB_162 p_jH_162 p_jK_162 p_jL_162 p_jR_162 p_jS_162 p_jT_162 (by first | omega | (simp only [Int32.toInt_add, Int32.toInt_sub, Int32.toInt_mul, Int32.toInt_toInt64, Int64.toInt_add, z_m1, Int32.reduceToInt, Int64.reduceToInt, Int32.reduceToNatClampNeg, Int.bmod_def, or_true, true_or, and_true, true_and] <;> omega)) (by first | omega | (simp only [Int32.toInt_add, Int32.toInt_sub, Int32.toInt_mul, Int32.toInt_toInt64, Int64.toInt_add, z_m1, Int32.reduceToInt, Int64.reduceToInt, Int32.reduceToNatClampNeg, Int.bmod_def, or_true, true_or, and_true, true_and] <;> omega)) (z_up1 (by first | assumption | exact z_lt (by assumption) | exact z_lt2 (by assumption) | exact z_lt3 (by assumption) (by first | assumption | decide)) hm_162)
  have T_162 : ∀ (x2_162 : Int32) (x3_162 : Int32) (M_162 : zMt), (∀ a j, ¬ WM_X8_many P a j → M_162 a j = M0 a j) → (jB P M_162) → (jH P M_162) → (jK P M_162) → (jL P M_162) → (jR P M_162) → (jS P M_162) → (jT P M_162) → (0 ≤ Int32.toInt x3_162) → (Int32.toInt x3_162 ≤ 5) → ∃ r, D_X8_many_162 P zFu x2_162 x3_162 M_162 = some r ∧ ((∀ a j, ¬ WM_X8_many P a j → r.2 a j = M0 a j) ∧ ((jB P r.2) ∧ (jS P r.2) ∧ (jR P r.2) ∧ (jK P r.2) ∧ (jT P r.2))) := fun x2_162 x3_162 M_162 k_162 p_jB_162 p_jH_162 p_jK_162 p_jL_162 p_jR_162 p_jS_162 p_jT_162 f0_162 f1_162 => TL_162 zFu x2_162 x3_162 M_162 k_162 p_jB_162 p_jH_162 p_jK_162 p_jL_162 p_jR_162 p_jS_162 p_jT_162 f0_162 f1_162 (zFu_up _)
  unfold D_X8_many
  refine vB (v_X8_laysApplicants p_jB p_jS) (fun e_1 f_1 q_1 => ?_)
  have k_1 : ∀ a j, ¬ WM_X8_many P a j → e_1 a j = M0 a j := fun a j h => (q_1.1 a j (wz_M_X8_laysApplicants_X8_many h))
  have c7_1 : Int32.toInt (e_1 P 7) = Int32.toInt (M0 P 7) := congrArg Int32.toInt (q_1.1 P 7 (wc_X8_laysApplicants_7))
  have c8_1 : Int32.toInt (e_1 P 8) = Int32.toInt (M0 P 8) := congrArg Int32.toInt (q_1.1 P 8 (wc_X8_laysApplicants_8))
  have n_1 : nA P e_1 = nA P M0 := nA_congr (fun a j h => q_1.1 a j (wf_nA_X8_laysApplicants h))
  have p_jS_1 : jS P e_1 := jS.mono p_jS (fun a j h => q_1.1 a j (wf_jS_X8_laysApplicants h))
  obtain ⟨u0_jS_1, u1_jS_1, u2_jS_1, u3_jS_1, u4_jS_1, u5_jS_1, u6_jS_1, u7_jS_1⟩ := jS.ints p_jS_1
  have p_jR_1 : jR P e_1 := jR.mono p_jR (fun a j h => q_1.1 a j (wf_jR_X8_laysApplicants h))
  have p_jK_1 : jK P e_1 := jK.mono p_jK (fun a j h => q_1.1 a j (wf_jK_X8_laysApplicants h))
  have p_jT_1 : jT P e_1 := jT.mono p_jT (fun a j h => q_1.1 a j (wf_jT_X8_laysApplicants h))
  obtain ⟨u0_jT_1, u1_jT_1, u2_jT_1, u3_jT_1, u4_jT_1, u5_jT_1⟩ := id p_jT_1
  obtain ⟨x0_1, x1_1, x2_1, x3_1⟩ := q_1.2
  obtain ⟨u0_jB_1, u1_jB_1, u2_jB_1, u3_jB_1, u4_jB_1, u5_jB_1⟩ := id x0_1
  (try simp only [Int32.toInt_add, Int32.toInt_sub, Int32.toInt_mul, Int32.toInt_toInt64, Int64.toInt_add, z_m1, Int32.reduceToInt, Int64.reduceToInt, Int32.reduceToNatClampNeg, Int.bmod_def] at x3_1)
  refine vIf (fun h_7 => ?_) (fun h_7_0 => ?_)
  · skip
    refine vB (v_X8_gives) (fun e_69 f_69 q_69 => ?_)
    have k_69 : ∀ a j, ¬ WM_X8_many P a j → e_69.2 a j = M0 a j := fun a j h => (q_69 a j (wz_M_X8_gives_X8_many h)).trans (k_1 a j h)
    have c7_69 : Int32.toInt (e_69.2 P 7) = Int32.toInt (e_1 P 7) := congrArg Int32.toInt (q_69 P 7 (wc_X8_gives_7))
    have c8_69 : Int32.toInt (e_69.2 P 8) = Int32.toInt (e_1 P 8) := congrArg Int32.toInt (q_69 P 8 (wc_X8_gives_8))
    have c33_69 : Int32.toInt (e_69.2 P 33) = Int32.toInt (e_1 P 33) := congrArg Int32.toInt (q_69 P 33 (wc_X8_gives_33))
    have n_69 : nA P e_69.2 = nA P e_1 := nA_congr (fun a j h => q_69 a j (wf_nA_X8_gives h))
    have p_jS_69 : jS P e_69.2 := jS.mono p_jS_1 (fun a j h => q_69 a j (wf_jS_X8_gives h))
    obtain ⟨u0_jS_69, u1_jS_69, u2_jS_69, u3_jS_69, u4_jS_69, u5_jS_69, u6_jS_69, u7_jS_69⟩ := jS.ints p_jS_69
    have p_jR_69 : jR P e_69.2 := jR.mono p_jR_1 (fun a j h => q_69 a j (wf_jR_X8_gives h))
    have p_jK_69 : jK P e_69.2 := jK.mono p_jK_1 (fun a j h => q_69 a j (wf_jK_X8_gives h))
    have p_jT_69 : jT P e_69.2 := jT.mono p_jT_1 (fun a j h => q_69 a j (wf_jT_X8_gives h))
    obtain ⟨u0_jT_69, u1_jT_69, u2_jT_69, u3_jT_69, u4_jT_69, u5_jT_69⟩ := id p_jT_69
    have p_jB_69 : jB P e_69.2 := jB.mono x0_1 (fun a j h => q_69 a j (wf_jB_X8_gives h))
    obtain ⟨u0_jB_69, u1_jB_69, u2_jB_69, u3_jB_69, u4_jB_69, u5_jB_69⟩ := id p_jB_69
    have p_jL_69 : jL P e_69.2 := jL.mono x1_1 (fun a j h => q_69 a j (wf_jL_X8_gives h))
    have p_jH_69 : jH P e_69.2 := jH.mono x2_1 (fun a j h => q_69 a j (wf_jH_X8_gives h))
    exact ⟨_, rfl, k_69, ⟨p_jB_69, p_jS_69, p_jR_69, p_jK_69, p_jT_69⟩⟩
  refine vIf (fun h_7 => ?_) (fun h_7_1 => ?_)
  · skip
    refine vB (v_X8_gives) (fun e_78 f_78 q_78 => ?_)
    have k_78 : ∀ a j, ¬ WM_X8_many P a j → e_78.2 a j = M0 a j := fun a j h => (q_78 a j (wz_M_X8_gives_X8_many h)).trans (k_1 a j h)
    have c7_78 : Int32.toInt (e_78.2 P 7) = Int32.toInt (e_1 P 7) := congrArg Int32.toInt (q_78 P 7 (wc_X8_gives_7))
    have c8_78 : Int32.toInt (e_78.2 P 8) = Int32.toInt (e_1 P 8) := congrArg Int32.toInt (q_78 P 8 (wc_X8_gives_8))
    have c33_78 : Int32.toInt (e_78.2 P 33) = Int32.toInt (e_1 P 33) := congrArg Int32.toInt (q_78 P 33 (wc_X8_gives_33))
    have n_78 : nA P e_78.2 = nA P e_1 := nA_congr (fun a j h => q_78 a j (wf_nA_X8_gives h))
    have p_jS_78 : jS P e_78.2 := jS.mono p_jS_1 (fun a j h => q_78 a j (wf_jS_X8_gives h))
    obtain ⟨u0_jS_78, u1_jS_78, u2_jS_78, u3_jS_78, u4_jS_78, u5_jS_78, u6_jS_78, u7_jS_78⟩ := jS.ints p_jS_78
    have p_jR_78 : jR P e_78.2 := jR.mono p_jR_1 (fun a j h => q_78 a j (wf_jR_X8_gives h))
    have p_jK_78 : jK P e_78.2 := jK.mono p_jK_1 (fun a j h => q_78 a j (wf_jK_X8_gives h))
    have p_jT_78 : jT P e_78.2 := jT.mono p_jT_1 (fun a j h => q_78 a j (wf_jT_X8_gives h))
    obtain ⟨u0_jT_78, u1_jT_78, u2_jT_78, u3_jT_78, u4_jT_78, u5_jT_78⟩ := id p_jT_78
    have p_jB_78 : jB P e_78.2 := jB.mono x0_1 (fun a j h => q_78 a j (wf_jB_X8_gives h))
    obtain ⟨u0_jB_78, u1_jB_78, u2_jB_78, u3_jB_78, u4_jB_78, u5_jB_78⟩ := id p_jB_78
    have p_jL_78 : jL P e_78.2 := jL.mono x1_1 (fun a j h => q_78 a j (wf_jL_X8_gives h))
    have p_jH_78 : jH P e_78.2 := jH.mono x2_1 (fun a j h => q_78 a j (wf_jH_X8_gives h))
    exact ⟨_, rfl, k_78, ⟨p_jB_78, p_jS_78, p_jR_78, p_jK_78, p_jT_78⟩⟩
  refine vIf (fun h_7 => ?_) (fun h_7_2 => ?_)
  · skip
    refine vI (vp_of (by first | omega | (simp only [Int32.toInt_add, Int32.toInt_sub, Int32.toInt_mul, Int32.toInt_toInt64, Int64.toInt_add, z_m1, Int32.reduceToInt, Int64.reduceToInt, Int32.reduceToNatClampNeg, Int.bmod_def, or_true, true_or, and_true, true_and] <;> omega)) (by first | omega | (simp only [Int32.toInt_add, Int32.toInt_sub, Int32.toInt_mul, Int32.toInt_toInt64, Int64.toInt_add, z_m1, Int32.reduceToInt, Int64.reduceToInt, Int32.reduceToNatClampNeg, Int.bmod_def, or_true, true_or, and_true, true_and] <;> omega))) ?_
    refine vB (v_X8_gives) (fun e_90 f_90 q_90 => ?_)
    have k_90 : ∀ a j, ¬ WM_X8_many P a j → e_90.2 a j = M0 a j := fun a j h => (q_90 a j (wz_M_X8_gives_X8_many h)).trans (k_1 a j h)
    have c7_90 : Int32.toInt (e_90.2 P 7) = Int32.toInt (e_1 P 7) := congrArg Int32.toInt (q_90 P 7 (wc_X8_gives_7))
    have c8_90 : Int32.toInt (e_90.2 P 8) = Int32.toInt (e_1 P 8) := congrArg Int32.toInt (q_90 P 8 (wc_X8_gives_8))
    have c33_90 : Int32.toInt (e_90.2 P 33) = Int32.toInt (e_1 P 33) := congrArg Int32.toInt (q_90 P 33 (wc_X8_gives_33))
    have n_90 : nA P e_90.2 = nA P e_1 := nA_congr (fun a j h => q_90 a j (wf_nA_X8_gives h))
    have p_jS_90 : jS P e_90.2 := jS.mono p_jS_1 (fun a j h => q_90 a j (wf_jS_X8_gives h))
    obtain ⟨u0_jS_90, u1_jS_90, u2_jS_90, u3_jS_90, u4_jS_90, u5_jS_90, u6_jS_90, u7_jS_90⟩ := jS.ints p_jS_90
    have p_jR_90 : jR P e_90.2 := jR.mono p_jR_1 (fun a j h => q_90 a j (wf_jR_X8_gives h))
    have p_jK_90 : jK P e_90.2 := jK.mono p_jK_1 (fun a j h => q_90 a j (wf_jK_X8_gives h))
    have p_jT_90 : jT P e_90.2 := jT.mono p_jT_1 (fun a j h => q_90 a j (wf_jT_X8_gives h))
    obtain ⟨u0_jT_90, u1_jT_90, u2_jT_90, u3_jT_90, u4_jT_90, u5_jT_90⟩ := id p_jT_90
    have p_jB_90 : jB P e_90.2 := jB.mono x0_1 (fun a j h => q_90 a j (wf_jB_X8_gives h))
    obtain ⟨u0_jB_90, u1_jB_90, u2_jB_90, u3_jB_90, u4_jB_90, u5_jB_90⟩ := id p_jB_90
    have p_jL_90 : jL P e_90.2 := jL.mono x1_1 (fun a j h => q_90 a j (wf_jL_X8_gives h))
    have p_jH_90 : jH P e_90.2 := jH.mono x2_1 (fun a j h => q_90 a j (wf_jH_X8_gives h))
    exact ⟨_, rfl, k_90, ⟨p_jB_90, p_jS_90, p_jR_90, p_jK_90, p_jT_90⟩⟩
  refine vIf (fun h_7 => ?_) (fun h_7_3 => ?_)
  · skip
    refine vB (v_X8_gives) (fun e_99 f_99 q_99 => ?_)
    have k_99 : ∀ a j, ¬ WM_X8_many P a j → e_99.2 a j = M0 a j := fun a j h => (q_99 a j (wz_M_X8_gives_X8_many h)).trans (k_1 a j h)
    have c7_99 : Int32.toInt (e_99.2 P 7) = Int32.toInt (e_1 P 7) := congrArg Int32.toInt (q_99 P 7 (wc_X8_gives_7))
    have c8_99 : Int32.toInt (e_99.2 P 8) = Int32.toInt (e_1 P 8) := congrArg Int32.toInt (q_99 P 8 (wc_X8_gives_8))
    have c33_99 : Int32.toInt (e_99.2 P 33) = Int32.toInt (e_1 P 33) := congrArg Int32.toInt (q_99 P 33 (wc_X8_gives_33))
    have n_99 : nA P e_99.2 = nA P e_1 := nA_congr (fun a j h => q_99 a j (wf_nA_X8_gives h))
    have p_jS_99 : jS P e_99.2 := jS.mono p_jS_1 (fun a j h => q_99 a j (wf_jS_X8_gives h))
    obtain ⟨u0_jS_99, u1_jS_99, u2_jS_99, u3_jS_99, u4_jS_99, u5_jS_99, u6_jS_99, u7_jS_99⟩ := jS.ints p_jS_99
    have p_jR_99 : jR P e_99.2 := jR.mono p_jR_1 (fun a j h => q_99 a j (wf_jR_X8_gives h))
    have p_jK_99 : jK P e_99.2 := jK.mono p_jK_1 (fun a j h => q_99 a j (wf_jK_X8_gives h))
    have p_jT_99 : jT P e_99.2 := jT.mono p_jT_1 (fun a j h => q_99 a j (wf_jT_X8_gives h))
    obtain ⟨u0_jT_99, u1_jT_99, u2_jT_99, u3_jT_99, u4_jT_99, u5_jT_99⟩ := id p_jT_99
    have p_jB_99 : jB P e_99.2 := jB.mono x0_1 (fun a j h => q_99 a j (wf_jB_X8_gives h))
    obtain ⟨u0_jB_99, u1_jB_99, u2_jB_99, u3_jB_99, u4_jB_99, u5_jB_99⟩ := id p_jB_99
    have p_jL_99 : jL P e_99.2 := jL.mono x1_1 (fun a j h => q_99 a j (wf_jL_X8_gives h))
    have p_jH_99 : jH P e_99.2 := jH.mono x2_1 (fun a j h => q_99 a j (wf_jH_X8_gives h))
    exact ⟨_, rfl, k_99, ⟨p_jB_99, p_jS_99, p_jR_99, p_jK_99, p_jT_99⟩⟩
  refine vIf (fun h_7 => ?_) (fun h_7_4 => ?_)
  · skip
    refine vI (vp_of (by first | omega | (simp only [Int32.toInt_add, Int32.toInt_sub, Int32.toInt_mul, Int32.toInt_toInt64, Int64.toInt_add, z_m1, Int32.reduceToInt, Int64.reduceToInt, Int32.reduceToNatClampNeg, Int.bmod_def, or_true, true_or, and_true, true_and] <;> omega)) (by first | omega | (simp only [Int32.toInt_add, Int32.toInt_sub, Int32.toInt_mul, Int32.toInt_toInt64, Int64.toInt_add, z_m1, Int32.reduceToInt, Int64.reduceToInt, Int32.reduceToNatClampNeg, Int.bmod_def, or_true, true_or, and_true, true_and] <;> omega))) ?_
    refine vB (v_X8_gives) (fun e_111 f_111 q_111 => ?_)
    have k_111 : ∀ a j, ¬ WM_X8_many P a j → e_111.2 a j = M0 a j := fun a j h => (q_111 a j (wz_M_X8_gives_X8_many h)).trans (k_1 a j h)
    have c7_111 : Int32.toInt (e_111.2 P 7) = Int32.toInt (e_1 P 7) := congrArg Int32.toInt (q_111 P 7 (wc_X8_gives_7))
    have c8_111 : Int32.toInt (e_111.2 P 8) = Int32.toInt (e_1 P 8) := congrArg Int32.toInt (q_111 P 8 (wc_X8_gives_8))
    have c33_111 : Int32.toInt (e_111.2 P 33) = Int32.toInt (e_1 P 33) := congrArg Int32.toInt (q_111 P 33 (wc_X8_gives_33))
    have n_111 : nA P e_111.2 = nA P e_1 := nA_congr (fun a j h => q_111 a j (wf_nA_X8_gives h))
    have p_jS_111 : jS P e_111.2 := jS.mono p_jS_1 (fun a j h => q_111 a j (wf_jS_X8_gives h))
    obtain ⟨u0_jS_111, u1_jS_111, u2_jS_111, u3_jS_111, u4_jS_111, u5_jS_111, u6_jS_111, u7_jS_111⟩ := jS.ints p_jS_111
    have p_jR_111 : jR P e_111.2 := jR.mono p_jR_1 (fun a j h => q_111 a j (wf_jR_X8_gives h))
    have p_jK_111 : jK P e_111.2 := jK.mono p_jK_1 (fun a j h => q_111 a j (wf_jK_X8_gives h))
    have p_jT_111 : jT P e_111.2 := jT.mono p_jT_1 (fun a j h => q_111 a j (wf_jT_X8_gives h))
    obtain ⟨u0_jT_111, u1_jT_111, u2_jT_111, u3_jT_111, u4_jT_111, u5_jT_111⟩ := id p_jT_111
    have p_jB_111 : jB P e_111.2 := jB.mono x0_1 (fun a j h => q_111 a j (wf_jB_X8_gives h))
    obtain ⟨u0_jB_111, u1_jB_111, u2_jB_111, u3_jB_111, u4_jB_111, u5_jB_111⟩ := id p_jB_111
    have p_jL_111 : jL P e_111.2 := jL.mono x1_1 (fun a j h => q_111 a j (wf_jL_X8_gives h))
    have p_jH_111 : jH P e_111.2 := jH.mono x2_1 (fun a j h => q_111 a j (wf_jH_X8_gives h))
    exact ⟨_, rfl, k_111, ⟨p_jB_111, p_jS_111, p_jR_111, p_jK_111, p_jT_111⟩⟩
  refine vIf (fun h_7 => ?_) (fun h_7_5 => ?_)
  · skip
    refine vI (vp_of (by first | omega | (simp only [Int32.toInt_add, Int32.toInt_sub, Int32.toInt_mul, Int32.toInt_toInt64, Int64.toInt_add, z_m1, Int32.reduceToInt, Int64.reduceToInt, Int32.reduceToNatClampNeg, Int.bmod_def, or_true, true_or, and_true, true_and] <;> omega)) (by first | omega | (simp only [Int32.toInt_add, Int32.toInt_sub, Int32.toInt_mul, Int32.toInt_toInt64, Int64.toInt_add, z_m1, Int32.reduceToInt, Int64.reduceToInt, Int32.reduceToNatClampNeg, Int.bmod_def, or_true, true_or, and_true, true_and] <;> omega))) ?_
    refine vB (v_X8_gives) (fun e_123 f_123 q_123 => ?_)
    have k_123 : ∀ a j, ¬ WM_X8_many P a j → e_123.2 a j = M0 a j := fun a j h => (q_123 a j (wz_M_X8_gives_X8_many h)).trans (k_1 a j h)
    have c7_123 : Int32.toInt (e_123.2 P 7) = Int32.toInt (e_1 P 7) := congrArg Int32.toInt (q_123 P 7 (wc_X8_gives_7))
    have c8_123 : Int32.toInt (e_123.2 P 8) = Int32.toInt (e_1 P 8) := congrArg Int32.toInt (q_123 P 8 (wc_X8_gives_8))
    have c33_123 : Int32.toInt (e_123.2 P 33) = Int32.toInt (e_1 P 33) := congrArg Int32.toInt (q_123 P 33 (wc_X8_gives_33))
    have n_123 : nA P e_123.2 = nA P e_1 := nA_congr (fun a j h => q_123 a j (wf_nA_X8_gives h))
    have p_jS_123 : jS P e_123.2 := jS.mono p_jS_1 (fun a j h => q_123 a j (wf_jS_X8_gives h))
    obtain ⟨u0_jS_123, u1_jS_123, u2_jS_123, u3_jS_123, u4_jS_123, u5_jS_123, u6_jS_123, u7_jS_123⟩ := jS.ints p_jS_123
    have p_jR_123 : jR P e_123.2 := jR.mono p_jR_1 (fun a j h => q_123 a j (wf_jR_X8_gives h))
    have p_jK_123 : jK P e_123.2 := jK.mono p_jK_1 (fun a j h => q_123 a j (wf_jK_X8_gives h))
    have p_jT_123 : jT P e_123.2 := jT.mono p_jT_1 (fun a j h => q_123 a j (wf_jT_X8_gives h))
    obtain ⟨u0_jT_123, u1_jT_123, u2_jT_123, u3_jT_123, u4_jT_123, u5_jT_123⟩ := id p_jT_123
    have p_jB_123 : jB P e_123.2 := jB.mono x0_1 (fun a j h => q_123 a j (wf_jB_X8_gives h))
    obtain ⟨u0_jB_123, u1_jB_123, u2_jB_123, u3_jB_123, u4_jB_123, u5_jB_123⟩ := id p_jB_123
    have p_jL_123 : jL P e_123.2 := jL.mono x1_1 (fun a j h => q_123 a j (wf_jL_X8_gives h))
    have p_jH_123 : jH P e_123.2 := jH.mono x2_1 (fun a j h => q_123 a j (wf_jH_X8_gives h))
    exact ⟨_, rfl, k_123, ⟨p_jB_123, p_jS_123, p_jR_123, p_jK_123, p_jT_123⟩⟩
  refine vIf (fun h_7 => ?_) (fun h_7_6 => ?_)
  · skip
    refine vI (vp_of (by first | omega | (simp only [Int32.toInt_add, Int32.toInt_sub, Int32.toInt_mul, Int32.toInt_toInt64, Int64.toInt_add, z_m1, Int32.reduceToInt, Int64.reduceToInt, Int32.reduceToNatClampNeg, Int.bmod_def, or_true, true_or, and_true, true_and] <;> omega)) (by first | omega | (simp only [Int32.toInt_add, Int32.toInt_sub, Int32.toInt_mul, Int32.toInt_toInt64, Int64.toInt_add, z_m1, Int32.reduceToInt, Int64.reduceToInt, Int32.reduceToNatClampNeg, Int.bmod_def, or_true, true_or, and_true, true_and] <;> omega))) ?_
    refine vB (v_X8_gives) (fun e_135 f_135 q_135 => ?_)
    have k_135 : ∀ a j, ¬ WM_X8_many P a j → e_135.2 a j = M0 a j := fun a j h => (q_135 a j (wz_M_X8_gives_X8_many h)).trans (k_1 a j h)
    have c7_135 : Int32.toInt (e_135.2 P 7) = Int32.toInt (e_1 P 7) := congrArg Int32.toInt (q_135 P 7 (wc_X8_gives_7))
    have c8_135 : Int32.toInt (e_135.2 P 8) = Int32.toInt (e_1 P 8) := congrArg Int32.toInt (q_135 P 8 (wc_X8_gives_8))
    have c33_135 : Int32.toInt (e_135.2 P 33) = Int32.toInt (e_1 P 33) := congrArg Int32.toInt (q_135 P 33 (wc_X8_gives_33))
    have n_135 : nA P e_135.2 = nA P e_1 := nA_congr (fun a j h => q_135 a j (wf_nA_X8_gives h))
    have p_jS_135 : jS P e_135.2 := jS.mono p_jS_1 (fun a j h => q_135 a j (wf_jS_X8_gives h))
    obtain ⟨u0_jS_135, u1_jS_135, u2_jS_135, u3_jS_135, u4_jS_135, u5_jS_135, u6_jS_135, u7_jS_135⟩ := jS.ints p_jS_135
    have p_jR_135 : jR P e_135.2 := jR.mono p_jR_1 (fun a j h => q_135 a j (wf_jR_X8_gives h))
    have p_jK_135 : jK P e_135.2 := jK.mono p_jK_1 (fun a j h => q_135 a j (wf_jK_X8_gives h))
    have p_jT_135 : jT P e_135.2 := jT.mono p_jT_1 (fun a j h => q_135 a j (wf_jT_X8_gives h))
    obtain ⟨u0_jT_135, u1_jT_135, u2_jT_135, u3_jT_135, u4_jT_135, u5_jT_135⟩ := id p_jT_135
    have p_jB_135 : jB P e_135.2 := jB.mono x0_1 (fun a j h => q_135 a j (wf_jB_X8_gives h))
    obtain ⟨u0_jB_135, u1_jB_135, u2_jB_135, u3_jB_135, u4_jB_135, u5_jB_135⟩ := id p_jB_135
    have p_jL_135 : jL P e_135.2 := jL.mono x1_1 (fun a j h => q_135 a j (wf_jL_X8_gives h))
    have p_jH_135 : jH P e_135.2 := jH.mono x2_1 (fun a j h => q_135 a j (wf_jH_X8_gives h))
    exact ⟨_, rfl, k_135, ⟨p_jB_135, p_jS_135, p_jR_135, p_jK_135, p_jT_135⟩⟩
  refine vIf (fun h_7 => ?_) (fun h_7_7 => ?_)
  · skip
    refine vI (vp_of (by first | omega | (simp only [Int32.toInt_add, Int32.toInt_sub, Int32.toInt_mul, Int32.toInt_toInt64, Int64.toInt_add, z_m1, Int32.reduceToInt, Int64.reduceToInt, Int32.reduceToNatClampNeg, Int.bmod_def, or_true, true_or, and_true, true_and] <;> omega)) (by first | omega | (simp only [Int32.toInt_add, Int32.toInt_sub, Int32.toInt_mul, Int32.toInt_toInt64, Int64.toInt_add, z_m1, Int32.reduceToInt, Int64.reduceToInt, Int32.reduceToNatClampNeg, Int.bmod_def, or_true, true_or, and_true, true_and] <;> omega))) ?_
    refine vB (v_X8_gives) (fun e_147 f_147 q_147 => ?_)
    have k_147 : ∀ a j, ¬ WM_X8_many P a j → e_147.2 a j = M0 a j := fun a j h => (q_147 a j (wz_M_X8_gives_X8_many h)).trans (k_1 a j h)
    have c7_147 : Int32.toInt (e_147.2 P 7) = Int32.toInt (e_1 P 7) := congrArg Int32.toInt (q_147 P 7 (wc_X8_gives_7))
    have c8_147 : Int32.toInt (e_147.2 P 8) = Int32.toInt (e_1 P 8) := congrArg Int32.toInt (q_147 P 8 (wc_X8_gives_8))
    have c33_147 : Int32.toInt (e_147.2 P 33) = Int32.toInt (e_1 P 33) := congrArg Int32.toInt (q_147 P 33 (wc_X8_gives_33))
    have n_147 : nA P e_147.2 = nA P e_1 := nA_congr (fun a j h => q_147 a j (wf_nA_X8_gives h))
    have p_jS_147 : jS P e_147.2 := jS.mono p_jS_1 (fun a j h => q_147 a j (wf_jS_X8_gives h))
    obtain ⟨u0_jS_147, u1_jS_147, u2_jS_147, u3_jS_147, u4_jS_147, u5_jS_147, u6_jS_147, u7_jS_147⟩ := jS.ints p_jS_147
    have p_jR_147 : jR P e_147.2 := jR.mono p_jR_1 (fun a j h => q_147 a j (wf_jR_X8_gives h))
    have p_jK_147 : jK P e_147.2 := jK.mono p_jK_1 (fun a j h => q_147 a j (wf_jK_X8_gives h))
    have p_jT_147 : jT P e_147.2 := jT.mono p_jT_1 (fun a j h => q_147 a j (wf_jT_X8_gives h))
    obtain ⟨u0_jT_147, u1_jT_147, u2_jT_147, u3_jT_147, u4_jT_147, u5_jT_147⟩ := id p_jT_147
    have p_jB_147 : jB P e_147.2 := jB.mono x0_1 (fun a j h => q_147 a j (wf_jB_X8_gives h))
    obtain ⟨u0_jB_147, u1_jB_147, u2_jB_147, u3_jB_147, u4_jB_147, u5_jB_147⟩ := id p_jB_147
    have p_jL_147 : jL P e_147.2 := jL.mono x1_1 (fun a j h => q_147 a j (wf_jL_X8_gives h))
    have p_jH_147 : jH P e_147.2 := jH.mono x2_1 (fun a j h => q_147 a j (wf_jH_X8_gives h))
    exact ⟨_, rfl, k_147, ⟨p_jB_147, p_jS_147, p_jR_147, p_jK_147, p_jT_147⟩⟩
  refine vIf (fun h_7 => ?_) (fun h_7_8 => ?_)
  · skip
    refine vB (v_X8_gives) (fun e_156 f_156 q_156 => ?_)
    have k_156 : ∀ a j, ¬ WM_X8_many P a j → e_156.2 a j = M0 a j := fun a j h => (q_156 a j (wz_M_X8_gives_X8_many h)).trans (k_1 a j h)
    have c7_156 : Int32.toInt (e_156.2 P 7) = Int32.toInt (e_1 P 7) := congrArg Int32.toInt (q_156 P 7 (wc_X8_gives_7))
    have c8_156 : Int32.toInt (e_156.2 P 8) = Int32.toInt (e_1 P 8) := congrArg Int32.toInt (q_156 P 8 (wc_X8_gives_8))
    have c33_156 : Int32.toInt (e_156.2 P 33) = Int32.toInt (e_1 P 33) := congrArg Int32.toInt (q_156 P 33 (wc_X8_gives_33))
    have n_156 : nA P e_156.2 = nA P e_1 := nA_congr (fun a j h => q_156 a j (wf_nA_X8_gives h))
    have p_jS_156 : jS P e_156.2 := jS.mono p_jS_1 (fun a j h => q_156 a j (wf_jS_X8_gives h))
    obtain ⟨u0_jS_156, u1_jS_156, u2_jS_156, u3_jS_156, u4_jS_156, u5_jS_156, u6_jS_156, u7_jS_156⟩ := jS.ints p_jS_156
    have p_jR_156 : jR P e_156.2 := jR.mono p_jR_1 (fun a j h => q_156 a j (wf_jR_X8_gives h))
    have p_jK_156 : jK P e_156.2 := jK.mono p_jK_1 (fun a j h => q_156 a j (wf_jK_X8_gives h))
    have p_jT_156 : jT P e_156.2 := jT.mono p_jT_1 (fun a j h => q_156 a j (wf_jT_X8_gives h))
    obtain ⟨u0_jT_156, u1_jT_156, u2_jT_156, u3_jT_156, u4_jT_156, u5_jT_156⟩ := id p_jT_156
    have p_jB_156 : jB P e_156.2 := jB.mono x0_1 (fun a j h => q_156 a j (wf_jB_X8_gives h))
    obtain ⟨u0_jB_156, u1_jB_156, u2_jB_156, u3_jB_156, u4_jB_156, u5_jB_156⟩ := id p_jB_156
    have p_jL_156 : jL P e_156.2 := jL.mono x1_1 (fun a j h => q_156 a j (wf_jL_X8_gives h))
    have p_jH_156 : jH P e_156.2 := jH.mono x2_1 (fun a j h => q_156 a j (wf_jH_X8_gives h))
    exact ⟨_, rfl, k_156, ⟨p_jB_156, p_jS_156, p_jR_156, p_jK_156, p_jT_156⟩⟩
  refine vIf (fun h_7 => ?_) (fun h_7_9 => ?_)
  · skip
    exact T_162 _ _ _ k_1 x0_1 x2_1 p_jK_1 x1_1 p_jR_1 p_jS_1 p_jT_1 (by first | omega | (simp only [Int32.toInt_add, Int32.toInt_sub, Int32.toInt_mul, Int32.toInt_toInt64, Int64.toInt_add, z_m1, Int32.reduceToInt, Int64.reduceToInt, Int32.reduceToNatClampNeg, Int.bmod_def, or_true, true_or, and_true, true_and] <;> omega)) (by first | omega | (simp only [Int32.toInt_add, Int32.toInt_sub, Int32.toInt_mul, Int32.toInt_toInt64, Int64.toInt_add, z_m1, Int32.reduceToInt, Int64.reduceToInt, Int32.reduceToNatClampNeg, Int.bmod_def, or_true, true_or, and_true, true_and] <;> omega))
  refine vIf (fun h_7 => ?_) (fun h_7_10 => ?_)
  · skip
    exact T_196 _ _ _ k_1 x0_1 x2_1 p_jK_1 x1_1 p_jR_1 p_jS_1 p_jT_1 (by first | omega | (simp only [Int32.toInt_add, Int32.toInt_sub, Int32.toInt_mul, Int32.toInt_toInt64, Int64.toInt_add, z_m1, Int32.reduceToInt, Int64.reduceToInt, Int32.reduceToNatClampNeg, Int.bmod_def, or_true, true_or, and_true, true_and] <;> omega)) (by first | omega | (simp only [Int32.toInt_add, Int32.toInt_sub, Int32.toInt_mul, Int32.toInt_toInt64, Int64.toInt_add, z_m1, Int32.reduceToInt, Int64.reduceToInt, Int32.reduceToNatClampNeg, Int.bmod_def, or_true, true_or, and_true, true_and] <;> omega))
  refine vB (v_X8_refuse) (fun e_235 f_235 q_235 => ?_)
  have k_235 : ∀ a j, ¬ WM_X8_many P a j → e_235.2 a j = M0 a j := fun a j h => (q_235 a j (wz_M_X8_refuse_X8_many h)).trans (k_1 a j h)
  have c7_235 : Int32.toInt (e_235.2 P 7) = Int32.toInt (e_1 P 7) := congrArg Int32.toInt (q_235 P 7 (wc_X8_refuse_7))
  have c8_235 : Int32.toInt (e_235.2 P 8) = Int32.toInt (e_1 P 8) := congrArg Int32.toInt (q_235 P 8 (wc_X8_refuse_8))
  have c33_235 : Int32.toInt (e_235.2 P 33) = Int32.toInt (e_1 P 33) := congrArg Int32.toInt (q_235 P 33 (wc_X8_refuse_33))
  have n_235 : nA P e_235.2 = nA P e_1 := nA_congr (fun a j h => q_235 a j (wf_nA_X8_refuse h))
  have p_jS_235 : jS P e_235.2 := jS.mono p_jS_1 (fun a j h => q_235 a j (wf_jS_X8_refuse h))
  obtain ⟨u0_jS_235, u1_jS_235, u2_jS_235, u3_jS_235, u4_jS_235, u5_jS_235, u6_jS_235, u7_jS_235⟩ := jS.ints p_jS_235
  have p_jR_235 : jR P e_235.2 := jR.mono p_jR_1 (fun a j h => q_235 a j (wf_jR_X8_refuse h))
  have p_jK_235 : jK P e_235.2 := jK.mono p_jK_1 (fun a j h => q_235 a j (wf_jK_X8_refuse h))
  have p_jT_235 : jT P e_235.2 := jT.mono p_jT_1 (fun a j h => q_235 a j (wf_jT_X8_refuse h))
  obtain ⟨u0_jT_235, u1_jT_235, u2_jT_235, u3_jT_235, u4_jT_235, u5_jT_235⟩ := id p_jT_235
  have p_jB_235 : jB P e_235.2 := jB.mono x0_1 (fun a j h => q_235 a j (wf_jB_X8_refuse h))
  obtain ⟨u0_jB_235, u1_jB_235, u2_jB_235, u3_jB_235, u4_jB_235, u5_jB_235⟩ := id p_jB_235
  have p_jL_235 : jL P e_235.2 := jL.mono x1_1 (fun a j h => q_235 a j (wf_jL_X8_refuse h))
  have p_jH_235 : jH P e_235.2 := jH.mono x2_1 (fun a j h => q_235 a j (wf_jH_X8_refuse h))
  exact ⟨_, rfl, k_235, ⟨p_jB_235, p_jS_235, p_jR_235, p_jK_235, p_jT_235⟩⟩
def WM_X8_hunter (P : Nat) (a j : Nat) : Prop := (P + 11 ≤ a ∧ a < P + 18) ∨ (a = P ∧ (j = 6 ∨ j = 12 ∨ j = 33))
theorem wz_M_X8_gives_X8_hunter {P a j : Nat} (h : ¬ WM_X8_hunter P a j) : ¬ WM_X8_gives P a j := by unfold WM_X8_gives; unfold WM_X8_hunter at h; omega
theorem wz_M_X8_refuse_X8_hunter {P a j : Nat} (h : ¬ WM_X8_hunter P a j) : ¬ WM_X8_refuse P a j := by unfold WM_X8_refuse; unfold WM_X8_hunter at h; omega
theorem wz_M_X8_applicantOf_X8_hunter {P a j : Nat} (h : ¬ WM_X8_hunter P a j) : ¬ WM_X8_applicantOf P a j := by unfold WM_X8_applicantOf; unfold WM_X8_hunter at h; omega
theorem wc_X8_applicantOf_7 {P : Nat} : ¬ WM_X8_applicantOf P P 7 := by unfold WM_X8_applicantOf; omega
theorem wc_X8_applicantOf_8 {P : Nat} : ¬ WM_X8_applicantOf P P 8 := by unfold WM_X8_applicantOf; omega
theorem wf_nA_X8_applicantOf {P a j : Nat} (h : (a = P + 1 ∨ (a = P ∧ j = 8))) : ¬ WM_X8_applicantOf P a j := by unfold WM_X8_applicantOf; omega
theorem wf_jS_X8_applicantOf {P a j : Nat} (h : (a = P + 1 ∨ (a = P ∧ (j = 7 ∨ j = 8)))) : ¬ WM_X8_applicantOf P a j := by unfold WM_X8_applicantOf; omega
theorem wf_jR_X8_applicantOf {P a j : Nat} (h : a = P + 19) : ¬ WM_X8_applicantOf P a j := by unfold WM_X8_applicantOf; omega
theorem wf_jK_X8_applicantOf {P a j : Nat} (h : ((a = P ∧ (j = 7 ∨ j = 8 ∨ j = 9)) ∨ a = P + 4)) : ¬ WM_X8_applicantOf P a j := by unfold WM_X8_applicantOf; omega
theorem wf_jT_X8_applicantOf {P a j : Nat} (h : (a = P ∧ (j = 9 ∨ j = 11 ∨ j = 64))) : ¬ WM_X8_applicantOf P a j := by unfold WM_X8_applicantOf; omega
set_option maxRecDepth 100000 in
set_option maxHeartbeats 4000000 in
theorem v_X8_hunter {P : Nat} {v0 : Int32} {v1 : Int32} {M0 : zMt}  (p_jB : jB P M0) (p_jS : jS P M0) (p_jR : jR P M0) (p_jK : jK P M0) (p_jT : jT P M0) : ∃ r, D_X8_hunter P v0 v1 M0 = some r ∧ ((∀ a j, ¬ WM_X8_hunter P a j → r.2 a j = M0 a j) ∧ ((jB P r.2) ∧ (jS P r.2) ∧ (jR P r.2) ∧ (jK P r.2) ∧ (jT P r.2))) := by
  obtain ⟨u0_jB, u1_jB, u2_jB, u3_jB, u4_jB, u5_jB⟩ := id p_jB
  obtain ⟨u0_jS, u1_jS, u2_jS, u3_jS, u4_jS, u5_jS, u6_jS, u7_jS⟩ := jS.ints p_jS
  obtain ⟨u0_jT, u1_jT, u2_jT, u3_jT, u4_jT, u5_jT⟩ := id p_jT
  have T_92 : ∀ (y1_92 : Int32) (M_92 : zMt), (∀ a j, ¬ WM_X8_hunter P a j → M_92 a j = M0 a j) → (jB P M_92) → (jK P M_92) → (jR P M_92) → (jS P M_92) → (jT P M_92) → (y1_92 = 0 ∨ y1_92 = 1) → ∃ r, D_X8_hunter_92 P y1_92 M_92 = some r ∧ ((∀ a j, ¬ WM_X8_hunter P a j → r.2 a j = M0 a j) ∧ ((jB P r.2) ∧ (jS P r.2) ∧ (jR P r.2) ∧ (jK P r.2) ∧ (jT P r.2))) := by
    intro y1_92 M_92 k_92 p_jB_92 p_jK_92 p_jR_92 p_jS_92 p_jT_92 f0_92
    obtain ⟨u0_jB_92, u1_jB_92, u2_jB_92, u3_jB_92, u4_jB_92, u5_jB_92⟩ := id p_jB_92
    obtain ⟨u0_jS_92, u1_jS_92, u2_jS_92, u3_jS_92, u4_jS_92, u5_jS_92, u6_jS_92, u7_jS_92⟩ := jS.ints p_jS_92
    obtain ⟨u0_jT_92, u1_jT_92, u2_jT_92, u3_jT_92, u4_jT_92, u5_jT_92⟩ := id p_jT_92
    unfold D_X8_hunter_92
    refine vB (v_X8_gives) (fun e_92 f_92 q_92 => ?_)
    have k_92 : ∀ a j, ¬ WM_X8_hunter P a j → e_92.2 a j = M0 a j := fun a j h => (q_92 a j (wz_M_X8_gives_X8_hunter h)).trans (k_92 a j h)
    have c7_92 : Int32.toInt (e_92.2 P 7) = Int32.toInt (M_92 P 7) := congrArg Int32.toInt (q_92 P 7 (wc_X8_gives_7))
    have c8_92 : Int32.toInt (e_92.2 P 8) = Int32.toInt (M_92 P 8) := congrArg Int32.toInt (q_92 P 8 (wc_X8_gives_8))
    have c33_92 : Int32.toInt (e_92.2 P 33) = Int32.toInt (M_92 P 33) := congrArg Int32.toInt (q_92 P 33 (wc_X8_gives_33))
    have n_92 : nA P e_92.2 = nA P M_92 := nA_congr (fun a j h => q_92 a j (wf_nA_X8_gives h))
    have p_jB_92 : jB P e_92.2 := jB.mono p_jB_92 (fun a j h => q_92 a j (wf_jB_X8_gives h))
    obtain ⟨u0_jB_92, u1_jB_92, u2_jB_92, u3_jB_92, u4_jB_92, u5_jB_92⟩ := id p_jB_92
    have p_jK_92 : jK P e_92.2 := jK.mono p_jK_92 (fun a j h => q_92 a j (wf_jK_X8_gives h))
    have p_jR_92 : jR P e_92.2 := jR.mono p_jR_92 (fun a j h => q_92 a j (wf_jR_X8_gives h))
    have p_jS_92 : jS P e_92.2 := jS.mono p_jS_92 (fun a j h => q_92 a j (wf_jS_X8_gives h))
    obtain ⟨u0_jS_92, u1_jS_92, u2_jS_92, u3_jS_92, u4_jS_92, u5_jS_92, u6_jS_92, u7_jS_92⟩ := jS.ints p_jS_92
    have p_jT_92 : jT P e_92.2 := jT.mono p_jT_92 (fun a j h => q_92 a j (wf_jT_X8_gives h))
    obtain ⟨u0_jT_92, u1_jT_92, u2_jT_92, u3_jT_92, u4_jT_92, u5_jT_92⟩ := id p_jT_92
    exact ⟨_, rfl, k_92, ⟨p_jB_92, p_jS_92, p_jR_92, p_jK_92, p_jT_92⟩⟩
  unfold D_X8_hunter
  refine vB (v_X8_isFrom) (fun e_6 f_6 q_6 => ?_)
  have b_6 := q_6.1
  have x0_6 := q_6.2
  (try simp only [Int32.toInt_add, Int32.toInt_sub, Int32.toInt_mul, Int32.toInt_toInt64, Int64.toInt_add, z_m1, Int32.reduceToInt, Int64.reduceToInt, Int32.reduceToNatClampNeg, Int.bmod_def] at x0_6)
  refine vIf (fun h_9 => ?_) (fun h_9 => ?_)
  · have i_9 := congrArg Int32.toInt h_9
    (try simp only [Int32.toInt_add, Int32.toInt_sub, Int32.toInt_mul, Int32.toInt_toInt64, Int64.toInt_add, z_m1, Int32.reduceToInt, Int64.reduceToInt, Int32.reduceToNatClampNeg, Int.bmod_def] at i_9)
    refine vB (v_X8_refuse) (fun e_14 f_14 q_14 => ?_)
    have k_14 : ∀ a j, ¬ WM_X8_hunter P a j → e_14.2 a j = M0 a j := fun a j h => (q_14 a j (wz_M_X8_refuse_X8_hunter h))
    have c7_14 : Int32.toInt (e_14.2 P 7) = Int32.toInt (M0 P 7) := congrArg Int32.toInt (q_14 P 7 (wc_X8_refuse_7))
    have c8_14 : Int32.toInt (e_14.2 P 8) = Int32.toInt (M0 P 8) := congrArg Int32.toInt (q_14 P 8 (wc_X8_refuse_8))
    have c33_14 : Int32.toInt (e_14.2 P 33) = Int32.toInt (M0 P 33) := congrArg Int32.toInt (q_14 P 33 (wc_X8_refuse_33))
    have n_14 : nA P e_14.2 = nA P M0 := nA_congr (fun a j h => q_14 a j (wf_nA_X8_refuse h))
    have p_jB_14 : jB P e_14.2 := jB.mono p_jB (fun a j h => q_14 a j (wf_jB_X8_refuse h))
    obtain ⟨u0_jB_14, u1_jB_14, u2_jB_14, u3_jB_14, u4_jB_14, u5_jB_14⟩ := id p_jB_14
    have p_jS_14 : jS P e_14.2 := jS.mono p_jS (fun a j h => q_14 a j (wf_jS_X8_refuse h))
    obtain ⟨u0_jS_14, u1_jS_14, u2_jS_14, u3_jS_14, u4_jS_14, u5_jS_14, u6_jS_14, u7_jS_14⟩ := jS.ints p_jS_14
    have p_jR_14 : jR P e_14.2 := jR.mono p_jR (fun a j h => q_14 a j (wf_jR_X8_refuse h))
    have p_jK_14 : jK P e_14.2 := jK.mono p_jK (fun a j h => q_14 a j (wf_jK_X8_refuse h))
    have p_jT_14 : jT P e_14.2 := jT.mono p_jT (fun a j h => q_14 a j (wf_jT_X8_refuse h))
    obtain ⟨u0_jT_14, u1_jT_14, u2_jT_14, u3_jT_14, u4_jT_14, u5_jT_14⟩ := id p_jT_14
    exact ⟨_, rfl, k_14, ⟨p_jB_14, p_jS_14, p_jR_14, p_jK_14, p_jT_14⟩⟩
  · have i_9 : ¬ Int32.toInt e_6 = Int32.toInt (0 : Int32) := fun q => h_9 (Int32.toInt_inj.mp q)
    (try simp only [Int32.toInt_add, Int32.toInt_sub, Int32.toInt_mul, Int32.toInt_toInt64, Int64.toInt_add, z_m1, Int32.reduceToInt, Int64.reduceToInt, Int32.reduceToNatClampNeg, Int.bmod_def] at i_9)
    refine vB (v_X8_isHunter p_jB) (fun e_20 f_20 q_20 => ?_)
    have b_20 := q_20.1
    have x0_20 := q_20.2
    (try simp only [Int32.toInt_add, Int32.toInt_sub, Int32.toInt_mul, Int32.toInt_toInt64, Int64.toInt_add, z_m1, Int32.reduceToInt, Int64.reduceToInt, Int32.reduceToNatClampNeg, Int.bmod_def] at x0_20)
    refine vIf (fun h_23 => ?_) (fun h_23 => ?_)
    · have i_23 := congrArg Int32.toInt h_23
      (try simp only [Int32.toInt_add, Int32.toInt_sub, Int32.toInt_mul, Int32.toInt_toInt64, Int64.toInt_add, z_m1, Int32.reduceToInt, Int64.reduceToInt, Int32.reduceToNatClampNeg, Int.bmod_def] at i_23)
      refine vB (v_X8_refuse) (fun e_28 f_28 q_28 => ?_)
      have k_28 : ∀ a j, ¬ WM_X8_hunter P a j → e_28.2 a j = M0 a j := fun a j h => (q_28 a j (wz_M_X8_refuse_X8_hunter h))
      have c7_28 : Int32.toInt (e_28.2 P 7) = Int32.toInt (M0 P 7) := congrArg Int32.toInt (q_28 P 7 (wc_X8_refuse_7))
      have c8_28 : Int32.toInt (e_28.2 P 8) = Int32.toInt (M0 P 8) := congrArg Int32.toInt (q_28 P 8 (wc_X8_refuse_8))
      have c33_28 : Int32.toInt (e_28.2 P 33) = Int32.toInt (M0 P 33) := congrArg Int32.toInt (q_28 P 33 (wc_X8_refuse_33))
      have n_28 : nA P e_28.2 = nA P M0 := nA_congr (fun a j h => q_28 a j (wf_nA_X8_refuse h))
      have p_jB_28 : jB P e_28.2 := jB.mono p_jB (fun a j h => q_28 a j (wf_jB_X8_refuse h))
      obtain ⟨u0_jB_28, u1_jB_28, u2_jB_28, u3_jB_28, u4_jB_28, u5_jB_28⟩ := id p_jB_28
      have p_jS_28 : jS P e_28.2 := jS.mono p_jS (fun a j h => q_28 a j (wf_jS_X8_refuse h))
      obtain ⟨u0_jS_28, u1_jS_28, u2_jS_28, u3_jS_28, u4_jS_28, u5_jS_28, u6_jS_28, u7_jS_28⟩ := jS.ints p_jS_28
      have p_jR_28 : jR P e_28.2 := jR.mono p_jR (fun a j h => q_28 a j (wf_jR_X8_refuse h))
      have p_jK_28 : jK P e_28.2 := jK.mono p_jK (fun a j h => q_28 a j (wf_jK_X8_refuse h))
      have p_jT_28 : jT P e_28.2 := jT.mono p_jT (fun a j h => q_28 a j (wf_jT_X8_refuse h))
      obtain ⟨u0_jT_28, u1_jT_28, u2_jT_28, u3_jT_28, u4_jT_28, u5_jT_28⟩ := id p_jT_28
      exact ⟨_, rfl, k_28, ⟨p_jB_28, p_jS_28, p_jR_28, p_jK_28, p_jT_28⟩⟩
    · have i_23 : ¬ Int32.toInt e_20 = Int32.toInt (0 : Int32) := fun q => h_23 (Int32.toInt_inj.mp q)
      (try simp only [Int32.toInt_add, Int32.toInt_sub, Int32.toInt_mul, Int32.toInt_toInt64, Int64.toInt_add, z_m1, Int32.reduceToInt, Int64.reduceToInt, Int32.reduceToNatClampNeg, Int.bmod_def] at i_23)
      refine vIf (fun h_33 => ?_) (fun h_33_0 => ?_)
      · skip
        refine vI (vp_of (by first | omega | (simp only [Int32.toInt_add, Int32.toInt_sub, Int32.toInt_mul, Int32.toInt_toInt64, Int64.toInt_add, z_m1, Int32.reduceToInt, Int64.reduceToInt, Int32.reduceToNatClampNeg, Int.bmod_def, or_true, true_or, and_true, true_and] <;> omega)) (by first | omega | (simp only [Int32.toInt_add, Int32.toInt_sub, Int32.toInt_mul, Int32.toInt_toInt64, Int64.toInt_add, z_m1, Int32.reduceToInt, Int64.reduceToInt, Int32.reduceToNatClampNeg, Int.bmod_def, or_true, true_or, and_true, true_and] <;> omega))) ?_
        refine vB (v_X8_gives) (fun e_73 f_73 q_73 => ?_)
        have k_73 : ∀ a j, ¬ WM_X8_hunter P a j → e_73.2 a j = M0 a j := fun a j h => (q_73 a j (wz_M_X8_gives_X8_hunter h))
        have c7_73 : Int32.toInt (e_73.2 P 7) = Int32.toInt (M0 P 7) := congrArg Int32.toInt (q_73 P 7 (wc_X8_gives_7))
        have c8_73 : Int32.toInt (e_73.2 P 8) = Int32.toInt (M0 P 8) := congrArg Int32.toInt (q_73 P 8 (wc_X8_gives_8))
        have c33_73 : Int32.toInt (e_73.2 P 33) = Int32.toInt (M0 P 33) := congrArg Int32.toInt (q_73 P 33 (wc_X8_gives_33))
        have n_73 : nA P e_73.2 = nA P M0 := nA_congr (fun a j h => q_73 a j (wf_nA_X8_gives h))
        have p_jB_73 : jB P e_73.2 := jB.mono p_jB (fun a j h => q_73 a j (wf_jB_X8_gives h))
        obtain ⟨u0_jB_73, u1_jB_73, u2_jB_73, u3_jB_73, u4_jB_73, u5_jB_73⟩ := id p_jB_73
        have p_jS_73 : jS P e_73.2 := jS.mono p_jS (fun a j h => q_73 a j (wf_jS_X8_gives h))
        obtain ⟨u0_jS_73, u1_jS_73, u2_jS_73, u3_jS_73, u4_jS_73, u5_jS_73, u6_jS_73, u7_jS_73⟩ := jS.ints p_jS_73
        have p_jR_73 : jR P e_73.2 := jR.mono p_jR (fun a j h => q_73 a j (wf_jR_X8_gives h))
        have p_jK_73 : jK P e_73.2 := jK.mono p_jK (fun a j h => q_73 a j (wf_jK_X8_gives h))
        have p_jT_73 : jT P e_73.2 := jT.mono p_jT (fun a j h => q_73 a j (wf_jT_X8_gives h))
        obtain ⟨u0_jT_73, u1_jT_73, u2_jT_73, u3_jT_73, u4_jT_73, u5_jT_73⟩ := id p_jT_73
        exact ⟨_, rfl, k_73, ⟨p_jB_73, p_jS_73, p_jR_73, p_jK_73, p_jT_73⟩⟩
      refine vIf (fun h_33 => ?_) (fun h_33_1 => ?_)
      · skip
        refine vI (vp_of (by first | omega | (simp only [Int32.toInt_add, Int32.toInt_sub, Int32.toInt_mul, Int32.toInt_toInt64, Int64.toInt_add, z_m1, Int32.reduceToInt, Int64.reduceToInt, Int32.reduceToNatClampNeg, Int.bmod_def, or_true, true_or, and_true, true_and] <;> omega)) (by first | omega | (simp only [Int32.toInt_add, Int32.toInt_sub, Int32.toInt_mul, Int32.toInt_toInt64, Int64.toInt_add, z_m1, Int32.reduceToInt, Int64.reduceToInt, Int32.reduceToNatClampNeg, Int.bmod_def, or_true, true_or, and_true, true_and] <;> omega))) ?_
        refine vIf (fun h_84 => ?_) (fun h_84 => ?_)
        · have i_84 := congrArg Int32.toInt h_84
          (try simp only [Int32.toInt_add, Int32.toInt_sub, Int32.toInt_mul, Int32.toInt_toInt64, Int64.toInt_add, z_m1, Int32.reduceToInt, Int64.reduceToInt, Int32.reduceToNatClampNeg, Int.bmod_def] at i_84)
          exact T_92 _ _ (fun _ _ _ => rfl) p_jB p_jK p_jR p_jS p_jT (by first | exact Or.inl rfl | exact Or.inr rfl | assumption)
        · have i_84 : ¬ Int32.toInt (M0 (P + 5) v0.toNatClampNeg) = Int32.toInt (0 : Int32) := fun q => h_84 (Int32.toInt_inj.mp q)
          (try simp only [Int32.toInt_add, Int32.toInt_sub, Int32.toInt_mul, Int32.toInt_toInt64, Int64.toInt_add, z_m1, Int32.reduceToInt, Int64.reduceToInt, Int32.reduceToNatClampNeg, Int.bmod_def] at i_84)
          exact T_92 _ _ (fun _ _ _ => rfl) p_jB p_jK p_jR p_jS p_jT (by first | exact Or.inl rfl | exact Or.inr rfl | assumption)
      refine vIf (fun h_33 => ?_) (fun h_33_2 => ?_)
      · skip
        refine vI (vp_of (by first | omega | (simp only [Int32.toInt_add, Int32.toInt_sub, Int32.toInt_mul, Int32.toInt_toInt64, Int64.toInt_add, z_m1, Int32.reduceToInt, Int64.reduceToInt, Int32.reduceToNatClampNeg, Int.bmod_def, or_true, true_or, and_true, true_and] <;> omega)) (by first | omega | (simp only [Int32.toInt_add, Int32.toInt_sub, Int32.toInt_mul, Int32.toInt_toInt64, Int64.toInt_add, z_m1, Int32.reduceToInt, Int64.reduceToInt, Int32.reduceToNatClampNeg, Int.bmod_def, or_true, true_or, and_true, true_and] <;> omega))) ?_
        refine vB (v_X8_gives) (fun e_106 f_106 q_106 => ?_)
        have k_106 : ∀ a j, ¬ WM_X8_hunter P a j → e_106.2 a j = M0 a j := fun a j h => (q_106 a j (wz_M_X8_gives_X8_hunter h))
        have c7_106 : Int32.toInt (e_106.2 P 7) = Int32.toInt (M0 P 7) := congrArg Int32.toInt (q_106 P 7 (wc_X8_gives_7))
        have c8_106 : Int32.toInt (e_106.2 P 8) = Int32.toInt (M0 P 8) := congrArg Int32.toInt (q_106 P 8 (wc_X8_gives_8))
        have c33_106 : Int32.toInt (e_106.2 P 33) = Int32.toInt (M0 P 33) := congrArg Int32.toInt (q_106 P 33 (wc_X8_gives_33))
        have n_106 : nA P e_106.2 = nA P M0 := nA_congr (fun a j h => q_106 a j (wf_nA_X8_gives h))
        have p_jB_106 : jB P e_106.2 := jB.mono p_jB (fun a j h => q_106 a j (wf_jB_X8_gives h))
        obtain ⟨u0_jB_106, u1_jB_106, u2_jB_106, u3_jB_106, u4_jB_106, u5_jB_106⟩ := id p_jB_106
        have p_jS_106 : jS P e_106.2 := jS.mono p_jS (fun a j h => q_106 a j (wf_jS_X8_gives h))
        obtain ⟨u0_jS_106, u1_jS_106, u2_jS_106, u3_jS_106, u4_jS_106, u5_jS_106, u6_jS_106, u7_jS_106⟩ := jS.ints p_jS_106
        have p_jR_106 : jR P e_106.2 := jR.mono p_jR (fun a j h => q_106 a j (wf_jR_X8_gives h))
        have p_jK_106 : jK P e_106.2 := jK.mono p_jK (fun a j h => q_106 a j (wf_jK_X8_gives h))
        have p_jT_106 : jT P e_106.2 := jT.mono p_jT (fun a j h => q_106 a j (wf_jT_X8_gives h))
        obtain ⟨u0_jT_106, u1_jT_106, u2_jT_106, u3_jT_106, u4_jT_106, u5_jT_106⟩ := id p_jT_106
        exact ⟨_, rfl, k_106, ⟨p_jB_106, p_jS_106, p_jR_106, p_jK_106, p_jT_106⟩⟩
      refine vIf (fun h_33 => ?_) (fun h_33_3 => ?_)
      · skip
        refine vB (v_X8_applicantOf p_jB p_jS (by first | omega | (simp only [Int32.toInt_add, Int32.toInt_sub, Int32.toInt_mul, Int32.toInt_toInt64, Int64.toInt_add, z_m1, Int32.reduceToInt, Int64.reduceToInt, Int32.reduceToNatClampNeg, Int.bmod_def, or_true, true_or, and_true, true_and] <;> omega)) (by first | omega | (simp only [Int32.toInt_add, Int32.toInt_sub, Int32.toInt_mul, Int32.toInt_toInt64, Int64.toInt_add, z_m1, Int32.reduceToInt, Int64.reduceToInt, Int32.reduceToNatClampNeg, Int.bmod_def, or_true, true_or, and_true, true_and] <;> omega))) (fun e_113 f_113 q_113 => ?_)
        have k_113 : ∀ a j, ¬ WM_X8_hunter P a j → e_113.2 a j = M0 a j := fun a j h => (q_113.1 a j (wz_M_X8_applicantOf_X8_hunter h))
        have c7_113 : Int32.toInt (e_113.2 P 7) = Int32.toInt (M0 P 7) := congrArg Int32.toInt (q_113.1 P 7 (wc_X8_applicantOf_7))
        have c8_113 : Int32.toInt (e_113.2 P 8) = Int32.toInt (M0 P 8) := congrArg Int32.toInt (q_113.1 P 8 (wc_X8_applicantOf_8))
        have n_113 : nA P e_113.2 = nA P M0 := nA_congr (fun a j h => q_113.1 a j (wf_nA_X8_applicantOf h))
        have p_jS_113 : jS P e_113.2 := jS.mono p_jS (fun a j h => q_113.1 a j (wf_jS_X8_applicantOf h))
        obtain ⟨u0_jS_113, u1_jS_113, u2_jS_113, u3_jS_113, u4_jS_113, u5_jS_113, u6_jS_113, u7_jS_113⟩ := jS.ints p_jS_113
        have p_jR_113 : jR P e_113.2 := jR.mono p_jR (fun a j h => q_113.1 a j (wf_jR_X8_applicantOf h))
        have p_jK_113 : jK P e_113.2 := jK.mono p_jK (fun a j h => q_113.1 a j (wf_jK_X8_applicantOf h))
        have p_jT_113 : jT P e_113.2 := jT.mono p_jT (fun a j h => q_113.1 a j (wf_jT_X8_applicantOf h))
        obtain ⟨u0_jT_113, u1_jT_113, u2_jT_113, u3_jT_113, u4_jT_113, u5_jT_113⟩ := id p_jT_113
        obtain ⟨x0_113, x1_113, x2_113, x3_113, x4_113, x5_113⟩ := q_113.2
        obtain ⟨u0_jB_113, u1_jB_113, u2_jB_113, u3_jB_113, u4_jB_113, u5_jB_113⟩ := id x0_113
        (try simp only [Int32.toInt_add, Int32.toInt_sub, Int32.toInt_mul, Int32.toInt_toInt64, Int64.toInt_add, z_m1, Int32.reduceToInt, Int64.reduceToInt, Int32.reduceToNatClampNeg, Int.bmod_def] at x3_113)
        (try simp only [Int32.toInt_add, Int32.toInt_sub, Int32.toInt_mul, Int32.toInt_toInt64, Int64.toInt_add, z_m1, Int32.reduceToInt, Int64.reduceToInt, Int32.reduceToNatClampNeg, Int.bmod_def] at x4_113)
        (try simp only [Int32.toInt_add, Int32.toInt_sub, Int32.toInt_mul, Int32.toInt_toInt64, Int64.toInt_add, z_m1, Int32.reduceToInt, Int64.reduceToInt, Int32.reduceToNatClampNeg, Int.bmod_def] at x5_113)
        refine vB (v_X8_gives) (fun e_116 f_116 q_116 => ?_)
        have k_116 : ∀ a j, ¬ WM_X8_hunter P a j → e_116.2 a j = M0 a j := fun a j h => (q_116 a j (wz_M_X8_gives_X8_hunter h)).trans (k_113 a j h)
        have c7_116 : Int32.toInt (e_116.2 P 7) = Int32.toInt (e_113.2 P 7) := congrArg Int32.toInt (q_116 P 7 (wc_X8_gives_7))
        have c8_116 : Int32.toInt (e_116.2 P 8) = Int32.toInt (e_113.2 P 8) := congrArg Int32.toInt (q_116 P 8 (wc_X8_gives_8))
        have c33_116 : Int32.toInt (e_116.2 P 33) = Int32.toInt (e_113.2 P 33) := congrArg Int32.toInt (q_116 P 33 (wc_X8_gives_33))
        have n_116 : nA P e_116.2 = nA P e_113.2 := nA_congr (fun a j h => q_116 a j (wf_nA_X8_gives h))
        have p_jS_116 : jS P e_116.2 := jS.mono p_jS_113 (fun a j h => q_116 a j (wf_jS_X8_gives h))
        obtain ⟨u0_jS_116, u1_jS_116, u2_jS_116, u3_jS_116, u4_jS_116, u5_jS_116, u6_jS_116, u7_jS_116⟩ := jS.ints p_jS_116
        have p_jR_116 : jR P e_116.2 := jR.mono p_jR_113 (fun a j h => q_116 a j (wf_jR_X8_gives h))
        have p_jK_116 : jK P e_116.2 := jK.mono p_jK_113 (fun a j h => q_116 a j (wf_jK_X8_gives h))
        have p_jT_116 : jT P e_116.2 := jT.mono p_jT_113 (fun a j h => q_116 a j (wf_jT_X8_gives h))
        obtain ⟨u0_jT_116, u1_jT_116, u2_jT_116, u3_jT_116, u4_jT_116, u5_jT_116⟩ := id p_jT_116
        have p_jB_116 : jB P e_116.2 := jB.mono x0_113 (fun a j h => q_116 a j (wf_jB_X8_gives h))
        obtain ⟨u0_jB_116, u1_jB_116, u2_jB_116, u3_jB_116, u4_jB_116, u5_jB_116⟩ := id p_jB_116
        have p_jL_116 : jL P e_116.2 := jL.mono x1_113 (fun a j h => q_116 a j (wf_jL_X8_gives h))
        have p_jH_116 : jH P e_116.2 := jH.mono x2_113 (fun a j h => q_116 a j (wf_jH_X8_gives h))
        exact ⟨_, rfl, k_116, ⟨p_jB_116, p_jS_116, p_jR_116, p_jK_116, p_jT_116⟩⟩
      refine vI (vp_of (by first | omega | (simp only [Int32.toInt_add, Int32.toInt_sub, Int32.toInt_mul, Int32.toInt_toInt64, Int64.toInt_add, z_m1, Int32.reduceToInt, Int64.reduceToInt, Int32.reduceToNatClampNeg, Int.bmod_def, or_true, true_or, and_true, true_and] <;> omega)) (by first | omega | (simp only [Int32.toInt_add, Int32.toInt_sub, Int32.toInt_mul, Int32.toInt_toInt64, Int64.toInt_add, z_m1, Int32.reduceToInt, Int64.reduceToInt, Int32.reduceToNatClampNeg, Int.bmod_def, or_true, true_or, and_true, true_and] <;> omega))) ?_
      refine vB (v_X8_gives) (fun e_130 f_130 q_130 => ?_)
      have k_130 : ∀ a j, ¬ WM_X8_hunter P a j → e_130.2 a j = M0 a j := fun a j h => (q_130 a j (wz_M_X8_gives_X8_hunter h))
      have c7_130 : Int32.toInt (e_130.2 P 7) = Int32.toInt (M0 P 7) := congrArg Int32.toInt (q_130 P 7 (wc_X8_gives_7))
      have c8_130 : Int32.toInt (e_130.2 P 8) = Int32.toInt (M0 P 8) := congrArg Int32.toInt (q_130 P 8 (wc_X8_gives_8))
      have c33_130 : Int32.toInt (e_130.2 P 33) = Int32.toInt (M0 P 33) := congrArg Int32.toInt (q_130 P 33 (wc_X8_gives_33))
      have n_130 : nA P e_130.2 = nA P M0 := nA_congr (fun a j h => q_130 a j (wf_nA_X8_gives h))
      have p_jB_130 : jB P e_130.2 := jB.mono p_jB (fun a j h => q_130 a j (wf_jB_X8_gives h))
      obtain ⟨u0_jB_130, u1_jB_130, u2_jB_130, u3_jB_130, u4_jB_130, u5_jB_130⟩ := id p_jB_130
      have p_jS_130 : jS P e_130.2 := jS.mono p_jS (fun a j h => q_130 a j (wf_jS_X8_gives h))
      obtain ⟨u0_jS_130, u1_jS_130, u2_jS_130, u3_jS_130, u4_jS_130, u5_jS_130, u6_jS_130, u7_jS_130⟩ := jS.ints p_jS_130
      have p_jR_130 : jR P e_130.2 := jR.mono p_jR (fun a j h => q_130 a j (wf_jR_X8_gives h))
      have p_jK_130 : jK P e_130.2 := jK.mono p_jK (fun a j h => q_130 a j (wf_jK_X8_gives h))
      have p_jT_130 : jT P e_130.2 := jT.mono p_jT (fun a j h => q_130 a j (wf_jT_X8_gives h))
      obtain ⟨u0_jT_130, u1_jT_130, u2_jT_130, u3_jT_130, u4_jT_130, u5_jT_130⟩ := id p_jT_130
      exact ⟨_, rfl, k_130, ⟨p_jB_130, p_jS_130, p_jR_130, p_jK_130, p_jT_130⟩⟩
set_option maxRecDepth 100000 in
set_option maxHeartbeats 4000000 in
theorem v_X8_preferred {P : Nat} {M : zMt} {v0 : Int32}  (p_jS : jS P M) (i_1 : 0 ≤ Int32.toInt v0) (i_2 : Int32.toInt v0 < 5) : ∃ r, D_X8_preferred P M v0 = some r ∧ (True) := by
  obtain ⟨u0_jS, u1_jS, u2_jS, u3_jS, u4_jS, u5_jS, u6_jS, u7_jS⟩ := jS.ints p_jS
  unfold D_X8_preferred
  refine vI (vp_of (by first | omega | (simp only [Int32.toInt_add, Int32.toInt_sub, Int32.toInt_mul, Int32.toInt_toInt64, Int64.toInt_add, z_m1, Int32.reduceToInt, Int64.reduceToInt, Int32.reduceToNatClampNeg, Int.bmod_def, or_true, true_or, and_true, true_and] <;> omega)) (by first | omega | (simp only [Int32.toInt_add, Int32.toInt_sub, Int32.toInt_mul, Int32.toInt_toInt64, Int64.toInt_add, z_m1, Int32.reduceToInt, Int64.reduceToInt, Int32.reduceToNatClampNeg, Int.bmod_def, or_true, true_or, and_true, true_and] <;> omega))) ?_
  refine vI (vp_of (by first | omega | (simp only [Int32.toInt_add, Int32.toInt_sub, Int32.toInt_mul, Int32.toInt_toInt64, Int64.toInt_add, z_m1, Int32.reduceToInt, Int64.reduceToInt, Int32.reduceToNatClampNeg, Int.bmod_def, or_true, true_or, and_true, true_and] <;> omega)) (by first | omega | (simp only [Int32.toInt_add, Int32.toInt_sub, Int32.toInt_mul, Int32.toInt_toInt64, Int64.toInt_add, z_m1, Int32.reduceToInt, Int64.reduceToInt, Int32.reduceToNatClampNeg, Int.bmod_def, or_true, true_or, and_true, true_and] <;> omega))) ?_
  exact ⟨_, rfl, trivial⟩
set_option maxRecDepth 100000 in
set_option maxHeartbeats 4000000 in
theorem v_X8_forGuests {P : Nat} {M : zMt} {v0 : Int32}  (p_jS : jS P M) (i_1 : 0 ≤ Int32.toInt v0) (i_2 : Int32.toInt v0 < 5) : ∃ r, D_X8_forGuests P M v0 = some r ∧ (True) := by
  obtain ⟨u0_jS, u1_jS, u2_jS, u3_jS, u4_jS, u5_jS, u6_jS, u7_jS⟩ := jS.ints p_jS
  unfold D_X8_forGuests
  refine vI (vp_of (by first | omega | (simp only [Int32.toInt_add, Int32.toInt_sub, Int32.toInt_mul, Int32.toInt_toInt64, Int64.toInt_add, z_m1, Int32.reduceToInt, Int64.reduceToInt, Int32.reduceToNatClampNeg, Int.bmod_def, or_true, true_or, and_true, true_and] <;> omega)) (by first | omega | (simp only [Int32.toInt_add, Int32.toInt_sub, Int32.toInt_mul, Int32.toInt_toInt64, Int64.toInt_add, z_m1, Int32.reduceToInt, Int64.reduceToInt, Int32.reduceToNatClampNeg, Int.bmod_def, or_true, true_or, and_true, true_and] <;> omega))) ?_
  refine vI (vp_of (by first | omega | (simp only [Int32.toInt_add, Int32.toInt_sub, Int32.toInt_mul, Int32.toInt_toInt64, Int64.toInt_add, z_m1, Int32.reduceToInt, Int64.reduceToInt, Int32.reduceToNatClampNeg, Int.bmod_def, or_true, true_or, and_true, true_and] <;> omega)) (by first | omega | (simp only [Int32.toInt_add, Int32.toInt_sub, Int32.toInt_mul, Int32.toInt_toInt64, Int64.toInt_add, z_m1, Int32.reduceToInt, Int64.reduceToInt, Int32.reduceToNatClampNeg, Int.bmod_def, or_true, true_or, and_true, true_and] <;> omega))) ?_
  exact ⟨_, rfl, trivial⟩
def WM_X8_unit (P : Nat) (a j : Nat) : Prop := (P + 11 ≤ a ∧ a < P + 18) ∨ (a = P ∧ (j = 6 ∨ j = 12 ∨ j = 33))
theorem wz_M_X8_gives_X8_unit {P a j : Nat} (h : ¬ WM_X8_unit P a j) : ¬ WM_X8_gives P a j := by unfold WM_X8_gives; unfold WM_X8_unit at h; omega
theorem wz_M_X8_refuse_X8_unit {P a j : Nat} (h : ¬ WM_X8_unit P a j) : ¬ WM_X8_refuse P a j := by unfold WM_X8_refuse; unfold WM_X8_unit at h; omega
theorem wz_M_X8_laysApplicants_X8_unit {P a j : Nat} (h : ¬ WM_X8_unit P a j) : ¬ WM_X8_laysApplicants P a j := by unfold WM_X8_laysApplicants; unfold WM_X8_unit at h; omega
set_option maxRecDepth 100000 in
set_option maxHeartbeats 4000000 in
theorem v_X8_unit {P : Nat} {v0 : Int32} {v1 : Int32} {M0 : zMt}  (p_jB : jB P M0) (p_jS : jS P M0) (p_jR : jR P M0) (p_jK : jK P M0) (p_jT : jT P M0) : ∃ r, D_X8_unit P v0 v1 M0 = some r ∧ ((∀ a j, ¬ WM_X8_unit P a j → r.2 a j = M0 a j) ∧ ((jB P r.2) ∧ (jS P r.2) ∧ (jR P r.2) ∧ (jK P r.2) ∧ (jT P r.2))) := by
  obtain ⟨u0_jB, u1_jB, u2_jB, u3_jB, u4_jB, u5_jB⟩ := id p_jB
  obtain ⟨u0_jS, u1_jS, u2_jS, u3_jS, u4_jS, u5_jS, u6_jS, u7_jS⟩ := jS.ints p_jS
  obtain ⟨u0_jT, u1_jT, u2_jT, u3_jT, u4_jT, u5_jT⟩ := id p_jT
  have TL_85 : ∀ u : Nat, ∀ (x1_85 : Int32) (x2_85 : Int32) (x3_85 : Int32) (x4_85 : Int32) (M_85 : zMt), (∀ a j, ¬ WM_X8_unit P a j → M_85 a j = M0 a j) → (jB P M_85) → (jH P M_85) → (jK P M_85) → (jL P M_85) → (jR P M_85) → (jS P M_85) → (jT P M_85) → (0 ≤ Int32.toInt x4_85) → (Int32.toInt x4_85 ≤ 10) → (2147483648 - Int32.toInt x4_85).toNat < u → ∃ r, D_X8_unit_85 P u x1_85 x2_85 x3_85 x4_85 M_85 = some r ∧ ((∀ a j, ¬ WM_X8_unit P a j → r.2 a j = M0 a j) ∧ ((jB P r.2) ∧ (jS P r.2) ∧ (jR P r.2) ∧ (jK P r.2) ∧ (jT P r.2))) := by
    intro u
    induction u with
    | zero => intro x1_85 x2_85 x3_85 x4_85 M_85 k_85 p_jB_85 p_jH_85 p_jK_85 p_jL_85 p_jR_85 p_jS_85 p_jT_85 f0_85 f1_85 hm_85; exact absurd hm_85 (Nat.not_lt_zero _)
    | succ u_85 ih_85 =>
      have T_162 : ∀ (x1_162 : Int32) (x2_162 : Int32) (x4_162 : Int32) (y0_162 : Int32) (y1_162 : Int32) (M_162 : zMt), (∀ a j, ¬ WM_X8_unit P a j → M_162 a j = M0 a j) → (jB P M_162) → (jH P M_162) → (jK P M_162) → (jL P M_162) → (jR P M_162) → (jS P M_162) → (jT P M_162) → (0 ≤ Int32.toInt x4_162) → (Int32.toInt x4_162 < Int32.toInt (M_162 P 33)) → ((2147483648 - Int32.toInt x4_162).toNat < u_85 + 1) → (Int32.toInt x4_162 < 2147483647) → ∃ r, D_X8_unit_162 P (D_X8_unit_85 P u_85) x1_162 x2_162 x4_162 y0_162 y1_162 M_162 = some r ∧ ((∀ a j, ¬ WM_X8_unit P a j → r.2 a j = M0 a j) ∧ ((jB P r.2) ∧ (jS P r.2) ∧ (jR P r.2) ∧ (jK P r.2) ∧ (jT P r.2))) := by
        intro x1_162 x2_162 x4_162 y0_162 y1_162 M_162 k_162 p_jB_162 p_jH_162 p_jK_162 p_jL_162 p_jR_162 p_jS_162 p_jT_162 f0_162 f1_162 f2_162 f3_162
        obtain ⟨u0_jB_162, u1_jB_162, u2_jB_162, u3_jB_162, u4_jB_162, u5_jB_162⟩ := id p_jB_162
        obtain ⟨u0_jS_162, u1_jS_162, u2_jS_162, u3_jS_162, u4_jS_162, u5_jS_162, u6_jS_162, u7_jS_162⟩ := jS.ints p_jS_162
        obtain ⟨u0_jT_162, u1_jT_162, u2_jT_162, u3_jT_162, u4_jT_162, u5_jT_162⟩ := id p_jT_162
        unfold D_X8_unit_162
        exact ih_85 _ _ _ _ _ k_162 p_jB_162 p_jH_162 p_jK_162 p_jL_162 p_jR_162 p_jS_162 p_jT_162 (by first | omega | (simp only [Int32.toInt_add, Int32.toInt_sub, Int32.toInt_mul, Int32.toInt_toInt64, Int64.toInt_add, z_m1, Int32.reduceToInt, Int64.reduceToInt, Int32.reduceToNatClampNeg, Int.bmod_def, or_true, true_or, and_true, true_and] <;> omega)) (by first | omega | (simp only [Int32.toInt_add, Int32.toInt_sub, Int32.toInt_mul, Int32.toInt_toInt64, Int64.toInt_add, z_m1, Int32.reduceToInt, Int64.reduceToInt, Int32.reduceToNatClampNeg, Int.bmod_def, or_true, true_or, and_true, true_and] <;> omega)) (z_up1 f3_162 f2_162)
      have T_134 : ∀ (x1_134 : Int32) (x2_134 : Int32) (x3_134 : Int32) (x4_134 : Int32) (y0_134 : Int32) (M_134 : zMt), (∀ a j, ¬ WM_X8_unit P a j → M_134 a j = M0 a j) → (jB P M_134) → (jH P M_134) → (jK P M_134) → (jL P M_134) → (jR P M_134) → (jS P M_134) → (jT P M_134) → (y0_134 = 0 ∨ y0_134 = 1) → (0 ≤ Int32.toInt x4_134) → (Int32.toInt x4_134 < Int32.toInt (M_134 P 33)) → ((2147483648 - Int32.toInt x4_134).toNat < u_85 + 1) → (Int32.toInt x4_134 < 2147483647) → ∃ r, D_X8_unit_134 P (D_X8_unit_85 P u_85) x1_134 x2_134 x3_134 x4_134 y0_134 M_134 = some r ∧ ((∀ a j, ¬ WM_X8_unit P a j → r.2 a j = M0 a j) ∧ ((jB P r.2) ∧ (jS P r.2) ∧ (jR P r.2) ∧ (jK P r.2) ∧ (jT P r.2))) := by
        intro x1_134 x2_134 x3_134 x4_134 y0_134 M_134 k_134 p_jB_134 p_jH_134 p_jK_134 p_jL_134 p_jR_134 p_jS_134 p_jT_134 f0_134 f1_134 f2_134 f3_134 f4_134
        obtain ⟨u0_jB_134, u1_jB_134, u2_jB_134, u3_jB_134, u4_jB_134, u5_jB_134⟩ := id p_jB_134
        obtain ⟨u0_jS_134, u1_jS_134, u2_jS_134, u3_jS_134, u4_jS_134, u5_jS_134, u6_jS_134, u7_jS_134⟩ := jS.ints p_jS_134
        obtain ⟨u0_jT_134, u1_jT_134, u2_jT_134, u3_jT_134, u4_jT_134, u5_jT_134⟩ := id p_jT_134
        unfold D_X8_unit_134
        refine vIf (fun h_139 => ?_) (fun h_139 => ?_)
        · have i_139 := congrArg Int32.toInt h_139
          (try simp only [Int32.toInt_add, Int32.toInt_sub, Int32.toInt_mul, Int32.toInt_toInt64, Int64.toInt_add, z_m1, Int32.reduceToInt, Int64.reduceToInt, Int32.reduceToNatClampNeg, Int.bmod_def] at i_139)
          exact T_162 _ _ _ _ _ _ k_134 p_jB_134 p_jH_134 p_jK_134 p_jL_134 p_jR_134 p_jS_134 p_jT_134 (by first | omega | (simp only [Int32.toInt_add, Int32.toInt_sub, Int32.toInt_mul, Int32.toInt_toInt64, Int64.toInt_add, z_m1, Int32.reduceToInt, Int64.reduceToInt, Int32.reduceToNatClampNeg, Int.bmod_def, or_true, true_or, and_true, true_and] <;> omega)) (by first | omega | (simp only [Int32.toInt_add, Int32.toInt_sub, Int32.toInt_mul, Int32.toInt_toInt64, Int64.toInt_add, z_m1, Int32.reduceToInt, Int64.reduceToInt, Int32.reduceToNatClampNeg, Int.bmod_def, or_true, true_or, and_true, true_and] <;> omega)) f3_134 f4_134
        · have i_139 : ¬ Int32.toInt y0_134 = Int32.toInt (0 : Int32) := fun q => h_139 (Int32.toInt_inj.mp q)
          (try simp only [Int32.toInt_add, Int32.toInt_sub, Int32.toInt_mul, Int32.toInt_toInt64, Int64.toInt_add, z_m1, Int32.reduceToInt, Int64.reduceToInt, Int32.reduceToNatClampNeg, Int.bmod_def] at i_139)
          refine vIf (fun h_144 => ?_) (fun h_144 => ?_)
          · have i_144 := congrArg Int32.toInt h_144
            (try simp only [Int32.toInt_add, Int32.toInt_sub, Int32.toInt_mul, Int32.toInt_toInt64, Int64.toInt_add, z_m1, Int32.reduceToInt, Int64.reduceToInt, Int32.reduceToNatClampNeg, Int.bmod_def] at i_144)
            refine vI (vp_of (by first | omega | (simp only [Int32.toInt_add, Int32.toInt_sub, Int32.toInt_mul, Int32.toInt_toInt64, Int64.toInt_add, z_m1, Int32.reduceToInt, Int64.reduceToInt, Int32.reduceToNatClampNeg, Int.bmod_def, or_true, true_or, and_true, true_and] <;> omega)) (by first | omega | (simp only [Int32.toInt_add, Int32.toInt_sub, Int32.toInt_mul, Int32.toInt_toInt64, Int64.toInt_add, z_m1, Int32.reduceToInt, Int64.reduceToInt, Int32.reduceToNatClampNeg, Int.bmod_def, or_true, true_or, and_true, true_and] <;> omega))) ?_
            obtain ⟨w0_153, w1_153, w2_153, w3_153, w4_153, w5_153⟩ := jL.el p_jL_134 (x := x4_134) (by first | omega | (simp only [Int32.toInt_add, Int32.toInt_sub, Int32.toInt_mul, Int32.toInt_toInt64, Int64.toInt_add, z_m1, Int32.reduceToInt, Int64.reduceToInt, Int32.reduceToNatClampNeg, Int.bmod_def, or_true, true_or, and_true, true_and] <;> omega)) (by first | omega | (simp only [Int32.toInt_add, Int32.toInt_sub, Int32.toInt_mul, Int32.toInt_toInt64, Int64.toInt_add, z_m1, Int32.reduceToInt, Int64.reduceToInt, Int32.reduceToNatClampNeg, Int.bmod_def, or_true, true_or, and_true, true_and] <;> omega))
            exact T_162 _ _ _ _ _ _ k_134 p_jB_134 p_jH_134 p_jK_134 p_jL_134 p_jR_134 p_jS_134 p_jT_134 (by first | omega | (simp only [Int32.toInt_add, Int32.toInt_sub, Int32.toInt_mul, Int32.toInt_toInt64, Int64.toInt_add, z_m1, Int32.reduceToInt, Int64.reduceToInt, Int32.reduceToNatClampNeg, Int.bmod_def, or_true, true_or, and_true, true_and] <;> omega)) (by first | omega | (simp only [Int32.toInt_add, Int32.toInt_sub, Int32.toInt_mul, Int32.toInt_toInt64, Int64.toInt_add, z_m1, Int32.reduceToInt, Int64.reduceToInt, Int32.reduceToNatClampNeg, Int.bmod_def, or_true, true_or, and_true, true_and] <;> omega)) f3_134 f4_134
          · have i_144 : ¬ Int32.toInt x2_134 = Int32.toInt (4 : Int32) := fun q => h_144 (Int32.toInt_inj.mp q)
            (try simp only [Int32.toInt_add, Int32.toInt_sub, Int32.toInt_mul, Int32.toInt_toInt64, Int64.toInt_add, z_m1, Int32.reduceToInt, Int64.reduceToInt, Int32.reduceToNatClampNeg, Int.bmod_def] at i_144)
            exact T_162 _ _ _ _ _ _ k_134 p_jB_134 p_jH_134 p_jK_134 p_jL_134 p_jR_134 p_jS_134 p_jT_134 (by first | omega | (simp only [Int32.toInt_add, Int32.toInt_sub, Int32.toInt_mul, Int32.toInt_toInt64, Int64.toInt_add, z_m1, Int32.reduceToInt, Int64.reduceToInt, Int32.reduceToNatClampNeg, Int.bmod_def, or_true, true_or, and_true, true_and] <;> omega)) (by first | omega | (simp only [Int32.toInt_add, Int32.toInt_sub, Int32.toInt_mul, Int32.toInt_toInt64, Int64.toInt_add, z_m1, Int32.reduceToInt, Int64.reduceToInt, Int32.reduceToNatClampNeg, Int.bmod_def, or_true, true_or, and_true, true_and] <;> omega)) f3_134 f4_134
      intro x1_85 x2_85 x3_85 x4_85 M_85 k_85 p_jB_85 p_jH_85 p_jK_85 p_jL_85 p_jR_85 p_jS_85 p_jT_85 f0_85 f1_85 hm_85
      obtain ⟨u0_jB_85, u1_jB_85, u2_jB_85, u3_jB_85, u4_jB_85, u5_jB_85⟩ := id p_jB_85
      obtain ⟨u0_jS_85, u1_jS_85, u2_jS_85, u3_jS_85, u4_jS_85, u5_jS_85, u6_jS_85, u7_jS_85⟩ := jS.ints p_jS_85
      obtain ⟨u0_jT_85, u1_jT_85, u2_jT_85, u3_jT_85, u4_jT_85, u5_jT_85⟩ := id p_jT_85
      rw [D_X8_unit_85]
      refine vIf (fun h_91 => ?_) (fun h_91 => ?_)
      · have i_91 := Int32.le_iff_toInt_le.mp h_91
        (try simp only [Int32.toInt_add, Int32.toInt_sub, Int32.toInt_mul, Int32.toInt_toInt64, Int64.toInt_add, z_m1, Int32.reduceToInt, Int64.reduceToInt, Int32.reduceToNatClampNeg, Int.bmod_def] at i_91)
        refine vB (v_X8_gives) (fun e_172 f_172 q_172 => ?_)
        have k_172 : ∀ a j, ¬ WM_X8_unit P a j → e_172.2 a j = M0 a j := fun a j h => (q_172 a j (wz_M_X8_gives_X8_unit h)).trans (k_85 a j h)
        have c7_172 : Int32.toInt (e_172.2 P 7) = Int32.toInt (M_85 P 7) := congrArg Int32.toInt (q_172 P 7 (wc_X8_gives_7))
        have c8_172 : Int32.toInt (e_172.2 P 8) = Int32.toInt (M_85 P 8) := congrArg Int32.toInt (q_172 P 8 (wc_X8_gives_8))
        have c33_172 : Int32.toInt (e_172.2 P 33) = Int32.toInt (M_85 P 33) := congrArg Int32.toInt (q_172 P 33 (wc_X8_gives_33))
        have n_172 : nA P e_172.2 = nA P M_85 := nA_congr (fun a j h => q_172 a j (wf_nA_X8_gives h))
        have p_jB_172 : jB P e_172.2 := jB.mono p_jB_85 (fun a j h => q_172 a j (wf_jB_X8_gives h))
        obtain ⟨u0_jB_172, u1_jB_172, u2_jB_172, u3_jB_172, u4_jB_172, u5_jB_172⟩ := id p_jB_172
        have p_jH_172 : jH P e_172.2 := jH.mono p_jH_85 (fun a j h => q_172 a j (wf_jH_X8_gives h))
        have p_jK_172 : jK P e_172.2 := jK.mono p_jK_85 (fun a j h => q_172 a j (wf_jK_X8_gives h))
        have p_jL_172 : jL P e_172.2 := jL.mono p_jL_85 (fun a j h => q_172 a j (wf_jL_X8_gives h))
        have p_jR_172 : jR P e_172.2 := jR.mono p_jR_85 (fun a j h => q_172 a j (wf_jR_X8_gives h))
        have p_jS_172 : jS P e_172.2 := jS.mono p_jS_85 (fun a j h => q_172 a j (wf_jS_X8_gives h))
        obtain ⟨u0_jS_172, u1_jS_172, u2_jS_172, u3_jS_172, u4_jS_172, u5_jS_172, u6_jS_172, u7_jS_172⟩ := jS.ints p_jS_172
        have p_jT_172 : jT P e_172.2 := jT.mono p_jT_85 (fun a j h => q_172 a j (wf_jT_X8_gives h))
        obtain ⟨u0_jT_172, u1_jT_172, u2_jT_172, u3_jT_172, u4_jT_172, u5_jT_172⟩ := id p_jT_172
        exact ⟨_, rfl, k_172, ⟨p_jB_172, p_jS_172, p_jR_172, p_jK_172, p_jT_172⟩⟩
      · have i_91 := Int32.lt_iff_toInt_lt.mp (Int32.not_le.mp h_91)
        (try simp only [Int32.toInt_add, Int32.toInt_sub, Int32.toInt_mul, Int32.toInt_toInt64, Int64.toInt_add, z_m1, Int32.reduceToInt, Int64.reduceToInt, Int32.reduceToNatClampNeg, Int.bmod_def] at i_91)
        refine vIf (fun h_96 => ?_) (fun h_96 => ?_)
        · have i_96 := congrArg Int32.toInt h_96
          (try simp only [Int32.toInt_add, Int32.toInt_sub, Int32.toInt_mul, Int32.toInt_toInt64, Int64.toInt_add, z_m1, Int32.reduceToInt, Int64.reduceToInt, Int32.reduceToNatClampNeg, Int.bmod_def] at i_96)
          refine vB (v_X8_placeOf p_jB_85 p_jS_85 p_jL_85 (by first | omega | (simp only [Int32.toInt_add, Int32.toInt_sub, Int32.toInt_mul, Int32.toInt_toInt64, Int64.toInt_add, z_m1, Int32.reduceToInt, Int64.reduceToInt, Int32.reduceToNatClampNeg, Int.bmod_def, or_true, true_or, and_true, true_and] <;> omega)) (by first | omega | (simp only [Int32.toInt_add, Int32.toInt_sub, Int32.toInt_mul, Int32.toInt_toInt64, Int64.toInt_add, z_m1, Int32.reduceToInt, Int64.reduceToInt, Int32.reduceToNatClampNeg, Int.bmod_def, or_true, true_or, and_true, true_and] <;> omega))) (fun e_103 f_103 q_103 => ?_)
          obtain ⟨x0_103, x1_103⟩ := q_103
          (try simp only [Int32.toInt_add, Int32.toInt_sub, Int32.toInt_mul, Int32.toInt_toInt64, Int64.toInt_add, z_m1, Int32.reduceToInt, Int64.reduceToInt, Int32.reduceToNatClampNeg, Int.bmod_def] at x0_103)
          (try simp only [Int32.toInt_add, Int32.toInt_sub, Int32.toInt_mul, Int32.toInt_toInt64, Int64.toInt_add, z_m1, Int32.reduceToInt, Int64.reduceToInt, Int32.reduceToNatClampNeg, Int.bmod_def] at x1_103)
          refine vIf (fun h_107 => ?_) (fun h_107 => ?_)
          · have i_107 := congrArg Int32.toInt h_107
            (try simp only [Int32.toInt_add, Int32.toInt_sub, Int32.toInt_mul, Int32.toInt_toInt64, Int64.toInt_add, z_m1, Int32.reduceToInt, Int64.reduceToInt, Int32.reduceToNatClampNeg, Int.bmod_def] at i_107)
            exact T_134 _ _ _ _ _ _ k_85 p_jB_85 p_jH_85 p_jK_85 p_jL_85 p_jR_85 p_jS_85 p_jT_85 (by first | exact Or.inl rfl | exact Or.inr rfl | assumption) (by first | omega | (simp only [Int32.toInt_add, Int32.toInt_sub, Int32.toInt_mul, Int32.toInt_toInt64, Int64.toInt_add, z_m1, Int32.reduceToInt, Int64.reduceToInt, Int32.reduceToNatClampNeg, Int.bmod_def, or_true, true_or, and_true, true_and] <;> omega)) (by first | omega | (simp only [Int32.toInt_add, Int32.toInt_sub, Int32.toInt_mul, Int32.toInt_toInt64, Int64.toInt_add, z_m1, Int32.reduceToInt, Int64.reduceToInt, Int32.reduceToNatClampNeg, Int.bmod_def, or_true, true_or, and_true, true_and] <;> omega)) hm_85 (by first | assumption | exact z_lt (by assumption) | exact z_lt2 (by assumption) | exact z_lt3 (by assumption) (by first | assumption | decide))
          · have i_107 : ¬ Int32.toInt e_103 = Int32.toInt (-1 : Int32) := fun q => h_107 (Int32.toInt_inj.mp q)
            (try simp only [Int32.toInt_add, Int32.toInt_sub, Int32.toInt_mul, Int32.toInt_toInt64, Int64.toInt_add, z_m1, Int32.reduceToInt, Int64.reduceToInt, Int32.reduceToNatClampNeg, Int.bmod_def] at i_107)
            exact T_134 _ _ _ _ _ _ k_85 p_jB_85 p_jH_85 p_jK_85 p_jL_85 p_jR_85 p_jS_85 p_jT_85 (by first | exact Or.inl rfl | exact Or.inr rfl | assumption) (by first | omega | (simp only [Int32.toInt_add, Int32.toInt_sub, Int32.toInt_mul, Int32.toInt_toInt64, Int64.toInt_add, z_m1, Int32.reduceToInt, Int64.reduceToInt, Int32.reduceToNatClampNeg, Int.bmod_def, or_true, true_or, and_true, true_and] <;> omega)) (by first | omega | (simp only [Int32.toInt_add, Int32.toInt_sub, Int32.toInt_mul, Int32.toInt_toInt64, Int64.toInt_add, z_m1, Int32.reduceToInt, Int64.reduceToInt, Int32.reduceToNatClampNeg, Int.bmod_def, or_true, true_or, and_true, true_and] <;> omega)) hm_85 (by first | assumption | exact z_lt (by assumption) | exact z_lt2 (by assumption) | exact z_lt3 (by assumption) (by first | assumption | decide))
        · have i_96 : ¬ Int32.toInt x2_85 = Int32.toInt (5 : Int32) := fun q => h_96 (Int32.toInt_inj.mp q)
          (try simp only [Int32.toInt_add, Int32.toInt_sub, Int32.toInt_mul, Int32.toInt_toInt64, Int64.toInt_add, z_m1, Int32.reduceToInt, Int64.reduceToInt, Int32.reduceToNatClampNeg, Int.bmod_def] at i_96)
          refine vB (v_X8_choiceOf p_jB_85 p_jS_85 p_jL_85 (by first | omega | (simp only [Int32.toInt_add, Int32.toInt_sub, Int32.toInt_mul, Int32.toInt_toInt64, Int64.toInt_add, z_m1, Int32.reduceToInt, Int64.reduceToInt, Int32.reduceToNatClampNeg, Int.bmod_def, or_true, true_or, and_true, true_and] <;> omega)) (by first | omega | (simp only [Int32.toInt_add, Int32.toInt_sub, Int32.toInt_mul, Int32.toInt_toInt64, Int64.toInt_add, z_m1, Int32.reduceToInt, Int64.reduceToInt, Int32.reduceToNatClampNeg, Int.bmod_def, or_true, true_or, and_true, true_and] <;> omega)) (by first | omega | (simp only [Int32.toInt_add, Int32.toInt_sub, Int32.toInt_mul, Int32.toInt_toInt64, Int64.toInt_add, z_m1, Int32.reduceToInt, Int64.reduceToInt, Int32.reduceToNatClampNeg, Int.bmod_def, or_true, true_or, and_true, true_and] <;> omega))) (fun e_122 f_122 q_122 => ?_)
          obtain ⟨x0_122, x1_122, x2_122⟩ := q_122
          (try simp only [Int32.toInt_add, Int32.toInt_sub, Int32.toInt_mul, Int32.toInt_toInt64, Int64.toInt_add, z_m1, Int32.reduceToInt, Int64.reduceToInt, Int32.reduceToNatClampNeg, Int.bmod_def] at x0_122)
          (try simp only [Int32.toInt_add, Int32.toInt_sub, Int32.toInt_mul, Int32.toInt_toInt64, Int64.toInt_add, z_m1, Int32.reduceToInt, Int64.reduceToInt, Int32.reduceToNatClampNeg, Int.bmod_def] at x1_122)
          (try simp only [Int32.toInt_add, Int32.toInt_sub, Int32.toInt_mul, Int32.toInt_toInt64, Int64.toInt_add, z_m1, Int32.reduceToInt, Int64.reduceToInt, Int32.reduceToNatClampNeg, Int.bmod_def] at x2_122)
          refine vIf (fun h_126 => ?_) (fun h_126 => ?_)
          · have i_126 := congrArg Int32.toInt h_126
            (try simp only [Int32.toInt_add, Int32.toInt_sub, Int32.toInt_mul, Int32.toInt_toInt64, Int64.toInt_add, z_m1, Int32.reduceToInt, Int64.reduceToInt, Int32.reduceToNatClampNeg, Int.bmod_def] at i_126)
            exact T_134 _ _ _ _ _ _ k_85 p_jB_85 p_jH_85 p_jK_85 p_jL_85 p_jR_85 p_jS_85 p_jT_85 (by first | exact Or.inl rfl | exact Or.inr rfl | assumption) (by first | omega | (simp only [Int32.toInt_add, Int32.toInt_sub, Int32.toInt_mul, Int32.toInt_toInt64, Int64.toInt_add, z_m1, Int32.reduceToInt, Int64.reduceToInt, Int32.reduceToNatClampNeg, Int.bmod_def, or_true, true_or, and_true, true_and] <;> omega)) (by first | omega | (simp only [Int32.toInt_add, Int32.toInt_sub, Int32.toInt_mul, Int32.toInt_toInt64, Int64.toInt_add, z_m1, Int32.reduceToInt, Int64.reduceToInt, Int32.reduceToNatClampNeg, Int.bmod_def, or_true, true_or, and_true, true_and] <;> omega)) hm_85 (by first | assumption | exact z_lt (by assumption) | exact z_lt2 (by assumption) | exact z_lt3 (by assumption) (by first | assumption | decide))
          · have i_126 : ¬ Int32.toInt e_122 = Int32.toInt x1_85 := fun q => h_126 (Int32.toInt_inj.mp q)
            (try simp only [Int32.toInt_add, Int32.toInt_sub, Int32.toInt_mul, Int32.toInt_toInt64, Int64.toInt_add, z_m1, Int32.reduceToInt, Int64.reduceToInt, Int32.reduceToNatClampNeg, Int.bmod_def] at i_126)
            exact T_134 _ _ _ _ _ _ k_85 p_jB_85 p_jH_85 p_jK_85 p_jL_85 p_jR_85 p_jS_85 p_jT_85 (by first | exact Or.inl rfl | exact Or.inr rfl | assumption) (by first | omega | (simp only [Int32.toInt_add, Int32.toInt_sub, Int32.toInt_mul, Int32.toInt_toInt64, Int64.toInt_add, z_m1, Int32.reduceToInt, Int64.reduceToInt, Int32.reduceToNatClampNeg, Int.bmod_def, or_true, true_or, and_true, true_and] <;> omega)) (by first | omega | (simp only [Int32.toInt_add, Int32.toInt_sub, Int32.toInt_mul, Int32.toInt_toInt64, Int64.toInt_add, z_m1, Int32.reduceToInt, Int64.reduceToInt, Int32.reduceToNatClampNeg, Int.bmod_def, or_true, true_or, and_true, true_and] <;> omega)) hm_85 (by first | assumption | exact z_lt (by assumption) | exact z_lt2 (by assumption) | exact z_lt3 (by assumption) (by first | assumption | decide))
  have T_85 : ∀ (x1_85 : Int32) (x2_85 : Int32) (x3_85 : Int32) (x4_85 : Int32) (M_85 : zMt), (∀ a j, ¬ WM_X8_unit P a j → M_85 a j = M0 a j) → (jB P M_85) → (jH P M_85) → (jK P M_85) → (jL P M_85) → (jR P M_85) → (jS P M_85) → (jT P M_85) → (0 ≤ Int32.toInt x4_85) → (Int32.toInt x4_85 ≤ 10) → ∃ r, D_X8_unit_85 P zFu x1_85 x2_85 x3_85 x4_85 M_85 = some r ∧ ((∀ a j, ¬ WM_X8_unit P a j → r.2 a j = M0 a j) ∧ ((jB P r.2) ∧ (jS P r.2) ∧ (jR P r.2) ∧ (jK P r.2) ∧ (jT P r.2))) := fun x1_85 x2_85 x3_85 x4_85 M_85 k_85 p_jB_85 p_jH_85 p_jK_85 p_jL_85 p_jR_85 p_jS_85 p_jT_85 f0_85 f1_85 => TL_85 zFu x1_85 x2_85 x3_85 x4_85 M_85 k_85 p_jB_85 p_jH_85 p_jK_85 p_jL_85 p_jR_85 p_jS_85 p_jT_85 f0_85 f1_85 (zFu_up _)
  have T_72 : ∀ (y1_72 : Int32) (M_72 : zMt), (∀ a j, ¬ WM_X8_unit P a j → M_72 a j = M0 a j) → (jB P M_72) → (jK P M_72) → (jR P M_72) → (jS P M_72) → (jT P M_72) → ∃ r, D_X8_unit_72 P y1_72 M_72 = some r ∧ ((∀ a j, ¬ WM_X8_unit P a j → r.2 a j = M0 a j) ∧ ((jB P r.2) ∧ (jS P r.2) ∧ (jR P r.2) ∧ (jK P r.2) ∧ (jT P r.2))) := by
    intro y1_72 M_72 k_72 p_jB_72 p_jK_72 p_jR_72 p_jS_72 p_jT_72
    obtain ⟨u0_jB_72, u1_jB_72, u2_jB_72, u3_jB_72, u4_jB_72, u5_jB_72⟩ := id p_jB_72
    obtain ⟨u0_jS_72, u1_jS_72, u2_jS_72, u3_jS_72, u4_jS_72, u5_jS_72, u6_jS_72, u7_jS_72⟩ := jS.ints p_jS_72
    obtain ⟨u0_jT_72, u1_jT_72, u2_jT_72, u3_jT_72, u4_jT_72, u5_jT_72⟩ := id p_jT_72
    unfold D_X8_unit_72
    refine vB (v_X8_gives) (fun e_72 f_72 q_72 => ?_)
    have k_72 : ∀ a j, ¬ WM_X8_unit P a j → e_72.2 a j = M0 a j := fun a j h => (q_72 a j (wz_M_X8_gives_X8_unit h)).trans (k_72 a j h)
    have c7_72 : Int32.toInt (e_72.2 P 7) = Int32.toInt (M_72 P 7) := congrArg Int32.toInt (q_72 P 7 (wc_X8_gives_7))
    have c8_72 : Int32.toInt (e_72.2 P 8) = Int32.toInt (M_72 P 8) := congrArg Int32.toInt (q_72 P 8 (wc_X8_gives_8))
    have c33_72 : Int32.toInt (e_72.2 P 33) = Int32.toInt (M_72 P 33) := congrArg Int32.toInt (q_72 P 33 (wc_X8_gives_33))
    have n_72 : nA P e_72.2 = nA P M_72 := nA_congr (fun a j h => q_72 a j (wf_nA_X8_gives h))
    have p_jB_72 : jB P e_72.2 := jB.mono p_jB_72 (fun a j h => q_72 a j (wf_jB_X8_gives h))
    obtain ⟨u0_jB_72, u1_jB_72, u2_jB_72, u3_jB_72, u4_jB_72, u5_jB_72⟩ := id p_jB_72
    have p_jK_72 : jK P e_72.2 := jK.mono p_jK_72 (fun a j h => q_72 a j (wf_jK_X8_gives h))
    have p_jR_72 : jR P e_72.2 := jR.mono p_jR_72 (fun a j h => q_72 a j (wf_jR_X8_gives h))
    have p_jS_72 : jS P e_72.2 := jS.mono p_jS_72 (fun a j h => q_72 a j (wf_jS_X8_gives h))
    obtain ⟨u0_jS_72, u1_jS_72, u2_jS_72, u3_jS_72, u4_jS_72, u5_jS_72, u6_jS_72, u7_jS_72⟩ := jS.ints p_jS_72
    have p_jT_72 : jT P e_72.2 := jT.mono p_jT_72 (fun a j h => q_72 a j (wf_jT_X8_gives h))
    obtain ⟨u0_jT_72, u1_jT_72, u2_jT_72, u3_jT_72, u4_jT_72, u5_jT_72⟩ := id p_jT_72
    exact ⟨_, rfl, k_72, ⟨p_jB_72, p_jS_72, p_jR_72, p_jK_72, p_jT_72⟩⟩
  unfold D_X8_unit
  refine vB (v_X8_isFrom) (fun e_6 f_6 q_6 => ?_)
  have b_6 := q_6.1
  have x0_6 := q_6.2
  (try simp only [Int32.toInt_add, Int32.toInt_sub, Int32.toInt_mul, Int32.toInt_toInt64, Int64.toInt_add, z_m1, Int32.reduceToInt, Int64.reduceToInt, Int32.reduceToNatClampNeg, Int.bmod_def] at x0_6)
  refine vIf (fun h_9 => ?_) (fun h_9 => ?_)
  · have i_9 := congrArg Int32.toInt h_9
    (try simp only [Int32.toInt_add, Int32.toInt_sub, Int32.toInt_mul, Int32.toInt_toInt64, Int64.toInt_add, z_m1, Int32.reduceToInt, Int64.reduceToInt, Int32.reduceToNatClampNeg, Int.bmod_def] at i_9)
    refine vB (v_X8_refuse) (fun e_14 f_14 q_14 => ?_)
    have k_14 : ∀ a j, ¬ WM_X8_unit P a j → e_14.2 a j = M0 a j := fun a j h => (q_14 a j (wz_M_X8_refuse_X8_unit h))
    have c7_14 : Int32.toInt (e_14.2 P 7) = Int32.toInt (M0 P 7) := congrArg Int32.toInt (q_14 P 7 (wc_X8_refuse_7))
    have c8_14 : Int32.toInt (e_14.2 P 8) = Int32.toInt (M0 P 8) := congrArg Int32.toInt (q_14 P 8 (wc_X8_refuse_8))
    have c33_14 : Int32.toInt (e_14.2 P 33) = Int32.toInt (M0 P 33) := congrArg Int32.toInt (q_14 P 33 (wc_X8_refuse_33))
    have n_14 : nA P e_14.2 = nA P M0 := nA_congr (fun a j h => q_14 a j (wf_nA_X8_refuse h))
    have p_jB_14 : jB P e_14.2 := jB.mono p_jB (fun a j h => q_14 a j (wf_jB_X8_refuse h))
    obtain ⟨u0_jB_14, u1_jB_14, u2_jB_14, u3_jB_14, u4_jB_14, u5_jB_14⟩ := id p_jB_14
    have p_jS_14 : jS P e_14.2 := jS.mono p_jS (fun a j h => q_14 a j (wf_jS_X8_refuse h))
    obtain ⟨u0_jS_14, u1_jS_14, u2_jS_14, u3_jS_14, u4_jS_14, u5_jS_14, u6_jS_14, u7_jS_14⟩ := jS.ints p_jS_14
    have p_jR_14 : jR P e_14.2 := jR.mono p_jR (fun a j h => q_14 a j (wf_jR_X8_refuse h))
    have p_jK_14 : jK P e_14.2 := jK.mono p_jK (fun a j h => q_14 a j (wf_jK_X8_refuse h))
    have p_jT_14 : jT P e_14.2 := jT.mono p_jT (fun a j h => q_14 a j (wf_jT_X8_refuse h))
    obtain ⟨u0_jT_14, u1_jT_14, u2_jT_14, u3_jT_14, u4_jT_14, u5_jT_14⟩ := id p_jT_14
    exact ⟨_, rfl, k_14, ⟨p_jB_14, p_jS_14, p_jR_14, p_jK_14, p_jT_14⟩⟩
  · have i_9 : ¬ Int32.toInt e_6 = Int32.toInt (0 : Int32) := fun q => h_9 (Int32.toInt_inj.mp q)
    (try simp only [Int32.toInt_add, Int32.toInt_sub, Int32.toInt_mul, Int32.toInt_toInt64, Int64.toInt_add, z_m1, Int32.reduceToInt, Int64.reduceToInt, Int32.reduceToNatClampNeg, Int.bmod_def] at i_9)
    refine vB (v_X8_isUnit p_jB) (fun e_20 f_20 q_20 => ?_)
    have b_20 := q_20.1
    have x0_20 := q_20.2
    (try simp only [Int32.toInt_add, Int32.toInt_sub, Int32.toInt_mul, Int32.toInt_toInt64, Int64.toInt_add, z_m1, Int32.reduceToInt, Int64.reduceToInt, Int32.reduceToNatClampNeg, Int.bmod_def] at x0_20)
    refine vIf (fun h_23 => ?_) (fun h_23 => ?_)
    · have i_23 := congrArg Int32.toInt h_23
      (try simp only [Int32.toInt_add, Int32.toInt_sub, Int32.toInt_mul, Int32.toInt_toInt64, Int64.toInt_add, z_m1, Int32.reduceToInt, Int64.reduceToInt, Int32.reduceToNatClampNeg, Int.bmod_def] at i_23)
      refine vB (v_X8_refuse) (fun e_28 f_28 q_28 => ?_)
      have k_28 : ∀ a j, ¬ WM_X8_unit P a j → e_28.2 a j = M0 a j := fun a j h => (q_28 a j (wz_M_X8_refuse_X8_unit h))
      have c7_28 : Int32.toInt (e_28.2 P 7) = Int32.toInt (M0 P 7) := congrArg Int32.toInt (q_28 P 7 (wc_X8_refuse_7))
      have c8_28 : Int32.toInt (e_28.2 P 8) = Int32.toInt (M0 P 8) := congrArg Int32.toInt (q_28 P 8 (wc_X8_refuse_8))
      have c33_28 : Int32.toInt (e_28.2 P 33) = Int32.toInt (M0 P 33) := congrArg Int32.toInt (q_28 P 33 (wc_X8_refuse_33))
      have n_28 : nA P e_28.2 = nA P M0 := nA_congr (fun a j h => q_28 a j (wf_nA_X8_refuse h))
      have p_jB_28 : jB P e_28.2 := jB.mono p_jB (fun a j h => q_28 a j (wf_jB_X8_refuse h))
      obtain ⟨u0_jB_28, u1_jB_28, u2_jB_28, u3_jB_28, u4_jB_28, u5_jB_28⟩ := id p_jB_28
      have p_jS_28 : jS P e_28.2 := jS.mono p_jS (fun a j h => q_28 a j (wf_jS_X8_refuse h))
      obtain ⟨u0_jS_28, u1_jS_28, u2_jS_28, u3_jS_28, u4_jS_28, u5_jS_28, u6_jS_28, u7_jS_28⟩ := jS.ints p_jS_28
      have p_jR_28 : jR P e_28.2 := jR.mono p_jR (fun a j h => q_28 a j (wf_jR_X8_refuse h))
      have p_jK_28 : jK P e_28.2 := jK.mono p_jK (fun a j h => q_28 a j (wf_jK_X8_refuse h))
      have p_jT_28 : jT P e_28.2 := jT.mono p_jT (fun a j h => q_28 a j (wf_jT_X8_refuse h))
      obtain ⟨u0_jT_28, u1_jT_28, u2_jT_28, u3_jT_28, u4_jT_28, u5_jT_28⟩ := id p_jT_28
      exact ⟨_, rfl, k_28, ⟨p_jB_28, p_jS_28, p_jR_28, p_jK_28, p_jT_28⟩⟩
    · have i_23 : ¬ Int32.toInt e_20 = Int32.toInt (0 : Int32) := fun q => h_23 (Int32.toInt_inj.mp q)
      (try simp only [Int32.toInt_add, Int32.toInt_sub, Int32.toInt_mul, Int32.toInt_toInt64, Int64.toInt_add, z_m1, Int32.reduceToInt, Int64.reduceToInt, Int32.reduceToNatClampNeg, Int.bmod_def] at i_23)
      refine vIf (fun h_34 => ?_) (fun h_34 => ?_)
      · have i_34 := Int32.le_iff_toInt_le.mp h_34
        (try simp only [Int32.toInt_add, Int32.toInt_sub, Int32.toInt_mul, Int32.toInt_toInt64, Int64.toInt_add, z_m1, Int32.reduceToInt, Int64.reduceToInt, Int32.reduceToNatClampNeg, Int.bmod_def] at i_34)
        refine vB (v_X8_laysApplicants p_jB p_jS) (fun e_77 f_77 q_77 => ?_)
        have k_77 : ∀ a j, ¬ WM_X8_unit P a j → e_77 a j = M0 a j := fun a j h => (q_77.1 a j (wz_M_X8_laysApplicants_X8_unit h))
        have c7_77 : Int32.toInt (e_77 P 7) = Int32.toInt (M0 P 7) := congrArg Int32.toInt (q_77.1 P 7 (wc_X8_laysApplicants_7))
        have c8_77 : Int32.toInt (e_77 P 8) = Int32.toInt (M0 P 8) := congrArg Int32.toInt (q_77.1 P 8 (wc_X8_laysApplicants_8))
        have n_77 : nA P e_77 = nA P M0 := nA_congr (fun a j h => q_77.1 a j (wf_nA_X8_laysApplicants h))
        have p_jS_77 : jS P e_77 := jS.mono p_jS (fun a j h => q_77.1 a j (wf_jS_X8_laysApplicants h))
        obtain ⟨u0_jS_77, u1_jS_77, u2_jS_77, u3_jS_77, u4_jS_77, u5_jS_77, u6_jS_77, u7_jS_77⟩ := jS.ints p_jS_77
        have p_jR_77 : jR P e_77 := jR.mono p_jR (fun a j h => q_77.1 a j (wf_jR_X8_laysApplicants h))
        have p_jK_77 : jK P e_77 := jK.mono p_jK (fun a j h => q_77.1 a j (wf_jK_X8_laysApplicants h))
        have p_jT_77 : jT P e_77 := jT.mono p_jT (fun a j h => q_77.1 a j (wf_jT_X8_laysApplicants h))
        obtain ⟨u0_jT_77, u1_jT_77, u2_jT_77, u3_jT_77, u4_jT_77, u5_jT_77⟩ := id p_jT_77
        obtain ⟨x0_77, x1_77, x2_77, x3_77⟩ := q_77.2
        obtain ⟨u0_jB_77, u1_jB_77, u2_jB_77, u3_jB_77, u4_jB_77, u5_jB_77⟩ := id x0_77
        (try simp only [Int32.toInt_add, Int32.toInt_sub, Int32.toInt_mul, Int32.toInt_toInt64, Int64.toInt_add, z_m1, Int32.reduceToInt, Int64.reduceToInt, Int32.reduceToNatClampNeg, Int.bmod_def] at x3_77)
        exact T_85 _ _ _ _ _ k_77 x0_77 x2_77 p_jK_77 x1_77 p_jR_77 p_jS_77 p_jT_77 (by first | omega | (simp only [Int32.toInt_add, Int32.toInt_sub, Int32.toInt_mul, Int32.toInt_toInt64, Int64.toInt_add, z_m1, Int32.reduceToInt, Int64.reduceToInt, Int32.reduceToNatClampNeg, Int.bmod_def, or_true, true_or, and_true, true_and] <;> omega)) (by first | omega | (simp only [Int32.toInt_add, Int32.toInt_sub, Int32.toInt_mul, Int32.toInt_toInt64, Int64.toInt_add, z_m1, Int32.reduceToInt, Int64.reduceToInt, Int32.reduceToNatClampNeg, Int.bmod_def, or_true, true_or, and_true, true_and] <;> omega))
      · have i_34 := Int32.lt_iff_toInt_lt.mp (Int32.not_le.mp h_34)
        (try simp only [Int32.toInt_add, Int32.toInt_sub, Int32.toInt_mul, Int32.toInt_toInt64, Int64.toInt_add, z_m1, Int32.reduceToInt, Int64.reduceToInt, Int32.reduceToNatClampNeg, Int.bmod_def] at i_34)
        refine vIf (fun h_39 => ?_) (fun h_39 => ?_)
        · have i_39 := congrArg Int32.toInt h_39
          (try simp only [Int32.toInt_add, Int32.toInt_sub, Int32.toInt_mul, Int32.toInt_toInt64, Int64.toInt_add, z_m1, Int32.reduceToInt, Int64.reduceToInt, Int32.reduceToNatClampNeg, Int.bmod_def] at i_39)
          refine vI (vp_of (by first | omega | (simp only [Int32.toInt_add, Int32.toInt_sub, Int32.toInt_mul, Int32.toInt_toInt64, Int64.toInt_add, z_m1, Int32.reduceToInt, Int64.reduceToInt, Int32.reduceToNatClampNeg, Int.bmod_def, or_true, true_or, and_true, true_and] <;> omega)) (by first | omega | (simp only [Int32.toInt_add, Int32.toInt_sub, Int32.toInt_mul, Int32.toInt_toInt64, Int64.toInt_add, z_m1, Int32.reduceToInt, Int64.reduceToInt, Int32.reduceToNatClampNeg, Int.bmod_def, or_true, true_or, and_true, true_and] <;> omega))) ?_
          exact T_72 _ _ (fun _ _ _ => rfl) p_jB p_jK p_jR p_jS p_jT
        · have i_39 : ¬ Int32.toInt v1 = Int32.toInt (0 : Int32) := fun q => h_39 (Int32.toInt_inj.mp q)
          (try simp only [Int32.toInt_add, Int32.toInt_sub, Int32.toInt_mul, Int32.toInt_toInt64, Int64.toInt_add, z_m1, Int32.reduceToInt, Int64.reduceToInt, Int32.reduceToNatClampNeg, Int.bmod_def] at i_39)
          refine vIf (fun h_56 => ?_) (fun h_56 => ?_)
          · have i_56 := congrArg Int32.toInt h_56
            (try simp only [Int32.toInt_add, Int32.toInt_sub, Int32.toInt_mul, Int32.toInt_toInt64, Int64.toInt_add, z_m1, Int32.reduceToInt, Int64.reduceToInt, Int32.reduceToNatClampNeg, Int.bmod_def] at i_56)
            refine vB (v_X8_preferred p_jS (by first | omega | (simp only [Int32.toInt_add, Int32.toInt_sub, Int32.toInt_mul, Int32.toInt_toInt64, Int64.toInt_add, z_m1, Int32.reduceToInt, Int64.reduceToInt, Int32.reduceToNatClampNeg, Int.bmod_def, or_true, true_or, and_true, true_and] <;> omega)) (by first | omega | (simp only [Int32.toInt_add, Int32.toInt_sub, Int32.toInt_mul, Int32.toInt_toInt64, Int64.toInt_add, z_m1, Int32.reduceToInt, Int64.reduceToInt, Int32.reduceToNatClampNeg, Int.bmod_def, or_true, true_or, and_true, true_and] <;> omega))) (fun e_61 f_61 q_61 => ?_)
            exact T_72 _ _ (fun _ _ _ => rfl) p_jB p_jK p_jR p_jS p_jT
          · have i_56 : ¬ Int32.toInt v1 = Int32.toInt (1 : Int32) := fun q => h_56 (Int32.toInt_inj.mp q)
            (try simp only [Int32.toInt_add, Int32.toInt_sub, Int32.toInt_mul, Int32.toInt_toInt64, Int64.toInt_add, z_m1, Int32.reduceToInt, Int64.reduceToInt, Int32.reduceToNatClampNeg, Int.bmod_def] at i_56)
            refine vB (v_X8_forGuests p_jS (by first | omega | (simp only [Int32.toInt_add, Int32.toInt_sub, Int32.toInt_mul, Int32.toInt_toInt64, Int64.toInt_add, z_m1, Int32.reduceToInt, Int64.reduceToInt, Int32.reduceToNatClampNeg, Int.bmod_def, or_true, true_or, and_true, true_and] <;> omega)) (by first | omega | (simp only [Int32.toInt_add, Int32.toInt_sub, Int32.toInt_mul, Int32.toInt_toInt64, Int64.toInt_add, z_m1, Int32.reduceToInt, Int64.reduceToInt, Int32.reduceToNatClampNeg, Int.bmod_def, or_true, true_or, and_true, true_and] <;> omega))) (fun e_69 f_69 q_69 => ?_)
            exact T_72 _ _ (fun _ _ _ => rfl) p_jB p_jK p_jR p_jS p_jT
def WM_X8_applicant (P : Nat) (a j : Nat) : Prop := (P + 11 ≤ a ∧ a < P + 18) ∨ (a = P ∧ (j = 6 ∨ j = 12 ∨ j = 33))
theorem wz_M_X8_refuse_X8_applicant {P a j : Nat} (h : ¬ WM_X8_applicant P a j) : ¬ WM_X8_refuse P a j := by unfold WM_X8_refuse; unfold WM_X8_applicant at h; omega
theorem wz_M_X8_isApplicant_X8_applicant {P a j : Nat} (h : ¬ WM_X8_applicant P a j) : ¬ WM_X8_isApplicant P a j := by unfold WM_X8_isApplicant; unfold WM_X8_applicant at h; omega
theorem wc_X8_isApplicant_7 {P : Nat} : ¬ WM_X8_isApplicant P P 7 := by unfold WM_X8_isApplicant; omega
theorem wc_X8_isApplicant_8 {P : Nat} : ¬ WM_X8_isApplicant P P 8 := by unfold WM_X8_isApplicant; omega
theorem wf_nA_X8_isApplicant {P a j : Nat} (h : (a = P + 1 ∨ (a = P ∧ j = 8))) : ¬ WM_X8_isApplicant P a j := by unfold WM_X8_isApplicant; omega
theorem wf_jS_X8_isApplicant {P a j : Nat} (h : (a = P + 1 ∨ (a = P ∧ (j = 7 ∨ j = 8)))) : ¬ WM_X8_isApplicant P a j := by unfold WM_X8_isApplicant; omega
theorem wf_jR_X8_isApplicant {P a j : Nat} (h : a = P + 19) : ¬ WM_X8_isApplicant P a j := by unfold WM_X8_isApplicant; omega
theorem wf_jK_X8_isApplicant {P a j : Nat} (h : ((a = P ∧ (j = 7 ∨ j = 8 ∨ j = 9)) ∨ a = P + 4)) : ¬ WM_X8_isApplicant P a j := by unfold WM_X8_isApplicant; omega
theorem wf_jT_X8_isApplicant {P a j : Nat} (h : (a = P ∧ (j = 9 ∨ j = 11 ∨ j = 64))) : ¬ WM_X8_isApplicant P a j := by unfold WM_X8_isApplicant; omega
theorem wz_M_X8_gives_X8_applicant {P a j : Nat} (h : ¬ WM_X8_applicant P a j) : ¬ WM_X8_gives P a j := by unfold WM_X8_gives; unfold WM_X8_applicant at h; omega
set_option maxRecDepth 100000 in
set_option maxHeartbeats 4000000 in
theorem v_X8_applicant {P : Nat} {v0 : Int32} {v1 : Int32} {M0 : zMt}  (p_jB : jB P M0) (p_jS : jS P M0) (p_jR : jR P M0) (p_jK : jK P M0) (p_jT : jT P M0) : ∃ r, D_X8_applicant P v0 v1 M0 = some r ∧ ((∀ a j, ¬ WM_X8_applicant P a j → r.2 a j = M0 a j) ∧ ((jB P r.2) ∧ (jS P r.2) ∧ (jR P r.2) ∧ (jK P r.2) ∧ (jT P r.2))) := by
  obtain ⟨u0_jB, u1_jB, u2_jB, u3_jB, u4_jB, u5_jB⟩ := id p_jB
  obtain ⟨u0_jS, u1_jS, u2_jS, u3_jS, u4_jS, u5_jS, u6_jS, u7_jS⟩ := jS.ints p_jS
  obtain ⟨u0_jT, u1_jT, u2_jT, u3_jT, u4_jT, u5_jT⟩ := id p_jT
  unfold D_X8_applicant
  refine vB (v_X8_isFrom) (fun e_6 f_6 q_6 => ?_)
  have b_6 := q_6.1
  have x0_6 := q_6.2
  (try simp only [Int32.toInt_add, Int32.toInt_sub, Int32.toInt_mul, Int32.toInt_toInt64, Int64.toInt_add, z_m1, Int32.reduceToInt, Int64.reduceToInt, Int32.reduceToNatClampNeg, Int.bmod_def] at x0_6)
  refine vIf (fun h_9 => ?_) (fun h_9 => ?_)
  · have i_9 := congrArg Int32.toInt h_9
    (try simp only [Int32.toInt_add, Int32.toInt_sub, Int32.toInt_mul, Int32.toInt_toInt64, Int64.toInt_add, z_m1, Int32.reduceToInt, Int64.reduceToInt, Int32.reduceToNatClampNeg, Int.bmod_def] at i_9)
    refine vB (v_X8_refuse) (fun e_14 f_14 q_14 => ?_)
    have k_14 : ∀ a j, ¬ WM_X8_applicant P a j → e_14.2 a j = M0 a j := fun a j h => (q_14 a j (wz_M_X8_refuse_X8_applicant h))
    have c7_14 : Int32.toInt (e_14.2 P 7) = Int32.toInt (M0 P 7) := congrArg Int32.toInt (q_14 P 7 (wc_X8_refuse_7))
    have c8_14 : Int32.toInt (e_14.2 P 8) = Int32.toInt (M0 P 8) := congrArg Int32.toInt (q_14 P 8 (wc_X8_refuse_8))
    have c33_14 : Int32.toInt (e_14.2 P 33) = Int32.toInt (M0 P 33) := congrArg Int32.toInt (q_14 P 33 (wc_X8_refuse_33))
    have n_14 : nA P e_14.2 = nA P M0 := nA_congr (fun a j h => q_14 a j (wf_nA_X8_refuse h))
    have p_jB_14 : jB P e_14.2 := jB.mono p_jB (fun a j h => q_14 a j (wf_jB_X8_refuse h))
    obtain ⟨u0_jB_14, u1_jB_14, u2_jB_14, u3_jB_14, u4_jB_14, u5_jB_14⟩ := id p_jB_14
    have p_jS_14 : jS P e_14.2 := jS.mono p_jS (fun a j h => q_14 a j (wf_jS_X8_refuse h))
    obtain ⟨u0_jS_14, u1_jS_14, u2_jS_14, u3_jS_14, u4_jS_14, u5_jS_14, u6_jS_14, u7_jS_14⟩ := jS.ints p_jS_14
    have p_jR_14 : jR P e_14.2 := jR.mono p_jR (fun a j h => q_14 a j (wf_jR_X8_refuse h))
    have p_jK_14 : jK P e_14.2 := jK.mono p_jK (fun a j h => q_14 a j (wf_jK_X8_refuse h))
    have p_jT_14 : jT P e_14.2 := jT.mono p_jT (fun a j h => q_14 a j (wf_jT_X8_refuse h))
    obtain ⟨u0_jT_14, u1_jT_14, u2_jT_14, u3_jT_14, u4_jT_14, u5_jT_14⟩ := id p_jT_14
    exact ⟨_, rfl, k_14, ⟨p_jB_14, p_jS_14, p_jR_14, p_jK_14, p_jT_14⟩⟩
  · have i_9 : ¬ Int32.toInt e_6 = Int32.toInt (0 : Int32) := fun q => h_9 (Int32.toInt_inj.mp q)
    (try simp only [Int32.toInt_add, Int32.toInt_sub, Int32.toInt_mul, Int32.toInt_toInt64, Int64.toInt_add, z_m1, Int32.reduceToInt, Int64.reduceToInt, Int32.reduceToNatClampNeg, Int.bmod_def] at i_9)
    refine vB (v_X8_isApplicant p_jB p_jS) (fun e_20 f_20 q_20 => ?_)
    have k_20 : ∀ a j, ¬ WM_X8_applicant P a j → e_20.2 a j = M0 a j := fun a j h => (q_20.1 a j (wz_M_X8_isApplicant_X8_applicant h))
    have b_20 := q_20.2.1
    have c7_20 : Int32.toInt (e_20.2 P 7) = Int32.toInt (M0 P 7) := congrArg Int32.toInt (q_20.1 P 7 (wc_X8_isApplicant_7))
    have c8_20 : Int32.toInt (e_20.2 P 8) = Int32.toInt (M0 P 8) := congrArg Int32.toInt (q_20.1 P 8 (wc_X8_isApplicant_8))
    have n_20 : nA P e_20.2 = nA P M0 := nA_congr (fun a j h => q_20.1 a j (wf_nA_X8_isApplicant h))
    have p_jS_20 : jS P e_20.2 := jS.mono p_jS (fun a j h => q_20.1 a j (wf_jS_X8_isApplicant h))
    obtain ⟨u0_jS_20, u1_jS_20, u2_jS_20, u3_jS_20, u4_jS_20, u5_jS_20, u6_jS_20, u7_jS_20⟩ := jS.ints p_jS_20
    have p_jR_20 : jR P e_20.2 := jR.mono p_jR (fun a j h => q_20.1 a j (wf_jR_X8_isApplicant h))
    have p_jK_20 : jK P e_20.2 := jK.mono p_jK (fun a j h => q_20.1 a j (wf_jK_X8_isApplicant h))
    have p_jT_20 : jT P e_20.2 := jT.mono p_jT (fun a j h => q_20.1 a j (wf_jT_X8_isApplicant h))
    obtain ⟨u0_jT_20, u1_jT_20, u2_jT_20, u3_jT_20, u4_jT_20, u5_jT_20⟩ := id p_jT_20
    obtain ⟨x0_20, x1_20, x2_20, x3_20, x4_20⟩ := q_20.2.2
    obtain ⟨u0_jB_20, u1_jB_20, u2_jB_20, u3_jB_20, u4_jB_20, u5_jB_20⟩ := id x0_20
    (try simp only [Int32.toInt_add, Int32.toInt_sub, Int32.toInt_mul, Int32.toInt_toInt64, Int64.toInt_add, z_m1, Int32.reduceToInt, Int64.reduceToInt, Int32.reduceToNatClampNeg, Int.bmod_def] at x3_20)
    (try simp only [Int32.toInt_add, Int32.toInt_sub, Int32.toInt_mul, Int32.toInt_toInt64, Int64.toInt_add, z_m1, Int32.reduceToInt, Int64.reduceToInt, Int32.reduceToNatClampNeg, Int.bmod_def] at x4_20)
    refine vIf (fun h_23 => ?_) (fun h_23 => ?_)
    · have i_23 := congrArg Int32.toInt h_23
      (try simp only [Int32.toInt_add, Int32.toInt_sub, Int32.toInt_mul, Int32.toInt_toInt64, Int64.toInt_add, z_m1, Int32.reduceToInt, Int64.reduceToInt, Int32.reduceToNatClampNeg, Int.bmod_def] at i_23)
      refine vB (v_X8_refuse) (fun e_28 f_28 q_28 => ?_)
      have k_28 : ∀ a j, ¬ WM_X8_applicant P a j → e_28.2 a j = M0 a j := fun a j h => (q_28 a j (wz_M_X8_refuse_X8_applicant h)).trans (k_20 a j h)
      have c7_28 : Int32.toInt (e_28.2 P 7) = Int32.toInt (e_20.2 P 7) := congrArg Int32.toInt (q_28 P 7 (wc_X8_refuse_7))
      have c8_28 : Int32.toInt (e_28.2 P 8) = Int32.toInt (e_20.2 P 8) := congrArg Int32.toInt (q_28 P 8 (wc_X8_refuse_8))
      have c33_28 : Int32.toInt (e_28.2 P 33) = Int32.toInt (e_20.2 P 33) := congrArg Int32.toInt (q_28 P 33 (wc_X8_refuse_33))
      have n_28 : nA P e_28.2 = nA P e_20.2 := nA_congr (fun a j h => q_28 a j (wf_nA_X8_refuse h))
      have p_jS_28 : jS P e_28.2 := jS.mono p_jS_20 (fun a j h => q_28 a j (wf_jS_X8_refuse h))
      obtain ⟨u0_jS_28, u1_jS_28, u2_jS_28, u3_jS_28, u4_jS_28, u5_jS_28, u6_jS_28, u7_jS_28⟩ := jS.ints p_jS_28
      have p_jR_28 : jR P e_28.2 := jR.mono p_jR_20 (fun a j h => q_28 a j (wf_jR_X8_refuse h))
      have p_jK_28 : jK P e_28.2 := jK.mono p_jK_20 (fun a j h => q_28 a j (wf_jK_X8_refuse h))
      have p_jT_28 : jT P e_28.2 := jT.mono p_jT_20 (fun a j h => q_28 a j (wf_jT_X8_refuse h))
      obtain ⟨u0_jT_28, u1_jT_28, u2_jT_28, u3_jT_28, u4_jT_28, u5_jT_28⟩ := id p_jT_28
      have p_jB_28 : jB P e_28.2 := jB.mono x0_20 (fun a j h => q_28 a j (wf_jB_X8_refuse h))
      obtain ⟨u0_jB_28, u1_jB_28, u2_jB_28, u3_jB_28, u4_jB_28, u5_jB_28⟩ := id p_jB_28
      have p_jL_28 : jL P e_28.2 := jL.mono x1_20 (fun a j h => q_28 a j (wf_jL_X8_refuse h))
      have p_jH_28 : jH P e_28.2 := jH.mono x2_20 (fun a j h => q_28 a j (wf_jH_X8_refuse h))
      exact ⟨_, rfl, k_28, ⟨p_jB_28, p_jS_28, p_jR_28, p_jK_28, p_jT_28⟩⟩
    · have i_23 : ¬ Int32.toInt e_20.1 = Int32.toInt (0 : Int32) := fun q => h_23 (Int32.toInt_inj.mp q)
      (try simp only [Int32.toInt_add, Int32.toInt_sub, Int32.toInt_mul, Int32.toInt_toInt64, Int64.toInt_add, z_m1, Int32.reduceToInt, Int64.reduceToInt, Int32.reduceToNatClampNeg, Int.bmod_def] at i_23)
      refine vIf (fun h_33 => ?_) (fun h_33_0 => ?_)
      · skip
        refine vI (vp_of (by first | omega | (simp only [Int32.toInt_add, Int32.toInt_sub, Int32.toInt_mul, Int32.toInt_toInt64, Int64.toInt_add, z_m1, Int32.reduceToInt, Int64.reduceToInt, Int32.reduceToNatClampNeg, Int.bmod_def, or_true, true_or, and_true, true_and] <;> omega)) (by first | omega | (simp only [Int32.toInt_add, Int32.toInt_sub, Int32.toInt_mul, Int32.toInt_toInt64, Int64.toInt_add, z_m1, Int32.reduceToInt, Int64.reduceToInt, Int32.reduceToNatClampNeg, Int.bmod_def, or_true, true_or, and_true, true_and] <;> omega))) ?_
        obtain ⟨w0_78, w1_78, w2_78, w3_78, w4_78, w5_78⟩ := jL.el x1_20 (x := v0) (by first | omega | (simp only [Int32.toInt_add, Int32.toInt_sub, Int32.toInt_mul, Int32.toInt_toInt64, Int64.toInt_add, z_m1, Int32.reduceToInt, Int64.reduceToInt, Int32.reduceToNatClampNeg, Int.bmod_def, or_true, true_or, and_true, true_and] <;> omega)) (by first | omega | (simp only [Int32.toInt_add, Int32.toInt_sub, Int32.toInt_mul, Int32.toInt_toInt64, Int64.toInt_add, z_m1, Int32.reduceToInt, Int64.reduceToInt, Int32.reduceToNatClampNeg, Int.bmod_def, or_true, true_or, and_true, true_and] <;> omega))
        refine vB (v_X8_gives) (fun e_79 f_79 q_79 => ?_)
        have k_79 : ∀ a j, ¬ WM_X8_applicant P a j → e_79.2 a j = M0 a j := fun a j h => (q_79 a j (wz_M_X8_gives_X8_applicant h)).trans (k_20 a j h)
        have c7_79 : Int32.toInt (e_79.2 P 7) = Int32.toInt (e_20.2 P 7) := congrArg Int32.toInt (q_79 P 7 (wc_X8_gives_7))
        have c8_79 : Int32.toInt (e_79.2 P 8) = Int32.toInt (e_20.2 P 8) := congrArg Int32.toInt (q_79 P 8 (wc_X8_gives_8))
        have c33_79 : Int32.toInt (e_79.2 P 33) = Int32.toInt (e_20.2 P 33) := congrArg Int32.toInt (q_79 P 33 (wc_X8_gives_33))
        have n_79 : nA P e_79.2 = nA P e_20.2 := nA_congr (fun a j h => q_79 a j (wf_nA_X8_gives h))
        have p_jS_79 : jS P e_79.2 := jS.mono p_jS_20 (fun a j h => q_79 a j (wf_jS_X8_gives h))
        obtain ⟨u0_jS_79, u1_jS_79, u2_jS_79, u3_jS_79, u4_jS_79, u5_jS_79, u6_jS_79, u7_jS_79⟩ := jS.ints p_jS_79
        have p_jR_79 : jR P e_79.2 := jR.mono p_jR_20 (fun a j h => q_79 a j (wf_jR_X8_gives h))
        have p_jK_79 : jK P e_79.2 := jK.mono p_jK_20 (fun a j h => q_79 a j (wf_jK_X8_gives h))
        have p_jT_79 : jT P e_79.2 := jT.mono p_jT_20 (fun a j h => q_79 a j (wf_jT_X8_gives h))
        obtain ⟨u0_jT_79, u1_jT_79, u2_jT_79, u3_jT_79, u4_jT_79, u5_jT_79⟩ := id p_jT_79
        have p_jB_79 : jB P e_79.2 := jB.mono x0_20 (fun a j h => q_79 a j (wf_jB_X8_gives h))
        obtain ⟨u0_jB_79, u1_jB_79, u2_jB_79, u3_jB_79, u4_jB_79, u5_jB_79⟩ := id p_jB_79
        have p_jL_79 : jL P e_79.2 := jL.mono x1_20 (fun a j h => q_79 a j (wf_jL_X8_gives h))
        have p_jH_79 : jH P e_79.2 := jH.mono x2_20 (fun a j h => q_79 a j (wf_jH_X8_gives h))
        exact ⟨_, rfl, k_79, ⟨p_jB_79, p_jS_79, p_jR_79, p_jK_79, p_jT_79⟩⟩
      refine vIf (fun h_33 => ?_) (fun h_33_1 => ?_)
      · skip
        refine vI (vp_of (by first | omega | (simp only [Int32.toInt_add, Int32.toInt_sub, Int32.toInt_mul, Int32.toInt_toInt64, Int64.toInt_add, z_m1, Int32.reduceToInt, Int64.reduceToInt, Int32.reduceToNatClampNeg, Int.bmod_def, or_true, true_or, and_true, true_and] <;> omega)) (by first | omega | (simp only [Int32.toInt_add, Int32.toInt_sub, Int32.toInt_mul, Int32.toInt_toInt64, Int64.toInt_add, z_m1, Int32.reduceToInt, Int64.reduceToInt, Int32.reduceToNatClampNeg, Int.bmod_def, or_true, true_or, and_true, true_and] <;> omega))) ?_
        refine vB (v_X8_gives) (fun e_90 f_90 q_90 => ?_)
        have k_90 : ∀ a j, ¬ WM_X8_applicant P a j → e_90.2 a j = M0 a j := fun a j h => (q_90 a j (wz_M_X8_gives_X8_applicant h)).trans (k_20 a j h)
        have c7_90 : Int32.toInt (e_90.2 P 7) = Int32.toInt (e_20.2 P 7) := congrArg Int32.toInt (q_90 P 7 (wc_X8_gives_7))
        have c8_90 : Int32.toInt (e_90.2 P 8) = Int32.toInt (e_20.2 P 8) := congrArg Int32.toInt (q_90 P 8 (wc_X8_gives_8))
        have c33_90 : Int32.toInt (e_90.2 P 33) = Int32.toInt (e_20.2 P 33) := congrArg Int32.toInt (q_90 P 33 (wc_X8_gives_33))
        have n_90 : nA P e_90.2 = nA P e_20.2 := nA_congr (fun a j h => q_90 a j (wf_nA_X8_gives h))
        have p_jS_90 : jS P e_90.2 := jS.mono p_jS_20 (fun a j h => q_90 a j (wf_jS_X8_gives h))
        obtain ⟨u0_jS_90, u1_jS_90, u2_jS_90, u3_jS_90, u4_jS_90, u5_jS_90, u6_jS_90, u7_jS_90⟩ := jS.ints p_jS_90
        have p_jR_90 : jR P e_90.2 := jR.mono p_jR_20 (fun a j h => q_90 a j (wf_jR_X8_gives h))
        have p_jK_90 : jK P e_90.2 := jK.mono p_jK_20 (fun a j h => q_90 a j (wf_jK_X8_gives h))
        have p_jT_90 : jT P e_90.2 := jT.mono p_jT_20 (fun a j h => q_90 a j (wf_jT_X8_gives h))
        obtain ⟨u0_jT_90, u1_jT_90, u2_jT_90, u3_jT_90, u4_jT_90, u5_jT_90⟩ := id p_jT_90
        have p_jB_90 : jB P e_90.2 := jB.mono x0_20 (fun a j h => q_90 a j (wf_jB_X8_gives h))
        obtain ⟨u0_jB_90, u1_jB_90, u2_jB_90, u3_jB_90, u4_jB_90, u5_jB_90⟩ := id p_jB_90
        have p_jL_90 : jL P e_90.2 := jL.mono x1_20 (fun a j h => q_90 a j (wf_jL_X8_gives h))
        have p_jH_90 : jH P e_90.2 := jH.mono x2_20 (fun a j h => q_90 a j (wf_jH_X8_gives h))
        exact ⟨_, rfl, k_90, ⟨p_jB_90, p_jS_90, p_jR_90, p_jK_90, p_jT_90⟩⟩
      refine vIf (fun h_33 => ?_) (fun h_33_2 => ?_)
      · skip
        refine vI (vp_of (by first | omega | (simp only [Int32.toInt_add, Int32.toInt_sub, Int32.toInt_mul, Int32.toInt_toInt64, Int64.toInt_add, z_m1, Int32.reduceToInt, Int64.reduceToInt, Int32.reduceToNatClampNeg, Int.bmod_def, or_true, true_or, and_true, true_and] <;> omega)) (by first | omega | (simp only [Int32.toInt_add, Int32.toInt_sub, Int32.toInt_mul, Int32.toInt_toInt64, Int64.toInt_add, z_m1, Int32.reduceToInt, Int64.reduceToInt, Int32.reduceToNatClampNeg, Int.bmod_def, or_true, true_or, and_true, true_and] <;> omega))) ?_
        refine vB (v_X8_gives) (fun e_101 f_101 q_101 => ?_)
        have k_101 : ∀ a j, ¬ WM_X8_applicant P a j → e_101.2 a j = M0 a j := fun a j h => (q_101 a j (wz_M_X8_gives_X8_applicant h)).trans (k_20 a j h)
        have c7_101 : Int32.toInt (e_101.2 P 7) = Int32.toInt (e_20.2 P 7) := congrArg Int32.toInt (q_101 P 7 (wc_X8_gives_7))
        have c8_101 : Int32.toInt (e_101.2 P 8) = Int32.toInt (e_20.2 P 8) := congrArg Int32.toInt (q_101 P 8 (wc_X8_gives_8))
        have c33_101 : Int32.toInt (e_101.2 P 33) = Int32.toInt (e_20.2 P 33) := congrArg Int32.toInt (q_101 P 33 (wc_X8_gives_33))
        have n_101 : nA P e_101.2 = nA P e_20.2 := nA_congr (fun a j h => q_101 a j (wf_nA_X8_gives h))
        have p_jS_101 : jS P e_101.2 := jS.mono p_jS_20 (fun a j h => q_101 a j (wf_jS_X8_gives h))
        obtain ⟨u0_jS_101, u1_jS_101, u2_jS_101, u3_jS_101, u4_jS_101, u5_jS_101, u6_jS_101, u7_jS_101⟩ := jS.ints p_jS_101
        have p_jR_101 : jR P e_101.2 := jR.mono p_jR_20 (fun a j h => q_101 a j (wf_jR_X8_gives h))
        have p_jK_101 : jK P e_101.2 := jK.mono p_jK_20 (fun a j h => q_101 a j (wf_jK_X8_gives h))
        have p_jT_101 : jT P e_101.2 := jT.mono p_jT_20 (fun a j h => q_101 a j (wf_jT_X8_gives h))
        obtain ⟨u0_jT_101, u1_jT_101, u2_jT_101, u3_jT_101, u4_jT_101, u5_jT_101⟩ := id p_jT_101
        have p_jB_101 : jB P e_101.2 := jB.mono x0_20 (fun a j h => q_101 a j (wf_jB_X8_gives h))
        obtain ⟨u0_jB_101, u1_jB_101, u2_jB_101, u3_jB_101, u4_jB_101, u5_jB_101⟩ := id p_jB_101
        have p_jL_101 : jL P e_101.2 := jL.mono x1_20 (fun a j h => q_101 a j (wf_jL_X8_gives h))
        have p_jH_101 : jH P e_101.2 := jH.mono x2_20 (fun a j h => q_101 a j (wf_jH_X8_gives h))
        exact ⟨_, rfl, k_101, ⟨p_jB_101, p_jS_101, p_jR_101, p_jK_101, p_jT_101⟩⟩
      refine vIf (fun h_33 => ?_) (fun h_33_3 => ?_)
      · skip
        refine vI (vp_of (by first | omega | (simp only [Int32.toInt_add, Int32.toInt_sub, Int32.toInt_mul, Int32.toInt_toInt64, Int64.toInt_add, z_m1, Int32.reduceToInt, Int64.reduceToInt, Int32.reduceToNatClampNeg, Int.bmod_def, or_true, true_or, and_true, true_and] <;> omega)) (by first | omega | (simp only [Int32.toInt_add, Int32.toInt_sub, Int32.toInt_mul, Int32.toInt_toInt64, Int64.toInt_add, z_m1, Int32.reduceToInt, Int64.reduceToInt, Int32.reduceToNatClampNeg, Int.bmod_def, or_true, true_or, and_true, true_and] <;> omega))) ?_
        obtain ⟨w0_111, w1_111, w2_111, w3_111, w4_111, w5_111⟩ := jL.el x1_20 (x := v0) (by first | omega | (simp only [Int32.toInt_add, Int32.toInt_sub, Int32.toInt_mul, Int32.toInt_toInt64, Int64.toInt_add, z_m1, Int32.reduceToInt, Int64.reduceToInt, Int32.reduceToNatClampNeg, Int.bmod_def, or_true, true_or, and_true, true_and] <;> omega)) (by first | omega | (simp only [Int32.toInt_add, Int32.toInt_sub, Int32.toInt_mul, Int32.toInt_toInt64, Int64.toInt_add, z_m1, Int32.reduceToInt, Int64.reduceToInt, Int32.reduceToNatClampNeg, Int.bmod_def, or_true, true_or, and_true, true_and] <;> omega))
        refine vB (v_X8_gives) (fun e_112 f_112 q_112 => ?_)
        have k_112 : ∀ a j, ¬ WM_X8_applicant P a j → e_112.2 a j = M0 a j := fun a j h => (q_112 a j (wz_M_X8_gives_X8_applicant h)).trans (k_20 a j h)
        have c7_112 : Int32.toInt (e_112.2 P 7) = Int32.toInt (e_20.2 P 7) := congrArg Int32.toInt (q_112 P 7 (wc_X8_gives_7))
        have c8_112 : Int32.toInt (e_112.2 P 8) = Int32.toInt (e_20.2 P 8) := congrArg Int32.toInt (q_112 P 8 (wc_X8_gives_8))
        have c33_112 : Int32.toInt (e_112.2 P 33) = Int32.toInt (e_20.2 P 33) := congrArg Int32.toInt (q_112 P 33 (wc_X8_gives_33))
        have n_112 : nA P e_112.2 = nA P e_20.2 := nA_congr (fun a j h => q_112 a j (wf_nA_X8_gives h))
        have p_jS_112 : jS P e_112.2 := jS.mono p_jS_20 (fun a j h => q_112 a j (wf_jS_X8_gives h))
        obtain ⟨u0_jS_112, u1_jS_112, u2_jS_112, u3_jS_112, u4_jS_112, u5_jS_112, u6_jS_112, u7_jS_112⟩ := jS.ints p_jS_112
        have p_jR_112 : jR P e_112.2 := jR.mono p_jR_20 (fun a j h => q_112 a j (wf_jR_X8_gives h))
        have p_jK_112 : jK P e_112.2 := jK.mono p_jK_20 (fun a j h => q_112 a j (wf_jK_X8_gives h))
        have p_jT_112 : jT P e_112.2 := jT.mono p_jT_20 (fun a j h => q_112 a j (wf_jT_X8_gives h))
        obtain ⟨u0_jT_112, u1_jT_112, u2_jT_112, u3_jT_112, u4_jT_112, u5_jT_112⟩ := id p_jT_112
        have p_jB_112 : jB P e_112.2 := jB.mono x0_20 (fun a j h => q_112 a j (wf_jB_X8_gives h))
        obtain ⟨u0_jB_112, u1_jB_112, u2_jB_112, u3_jB_112, u4_jB_112, u5_jB_112⟩ := id p_jB_112
        have p_jL_112 : jL P e_112.2 := jL.mono x1_20 (fun a j h => q_112 a j (wf_jL_X8_gives h))
        have p_jH_112 : jH P e_112.2 := jH.mono x2_20 (fun a j h => q_112 a j (wf_jH_X8_gives h))
        exact ⟨_, rfl, k_112, ⟨p_jB_112, p_jS_112, p_jR_112, p_jK_112, p_jT_112⟩⟩
      refine vIf (fun h_33 => ?_) (fun h_33_4 => ?_)
      · skip
        refine vB (v_X8_choiceMany x0_20 p_jS_20 x1_20 (by first | omega | (simp only [Int32.toInt_add, Int32.toInt_sub, Int32.toInt_mul, Int32.toInt_toInt64, Int64.toInt_add, z_m1, Int32.reduceToInt, Int64.reduceToInt, Int32.reduceToNatClampNeg, Int.bmod_def, or_true, true_or, and_true, true_and] <;> omega)) (by first | omega | (simp only [Int32.toInt_add, Int32.toInt_sub, Int32.toInt_mul, Int32.toInt_toInt64, Int64.toInt_add, z_m1, Int32.reduceToInt, Int64.reduceToInt, Int32.reduceToNatClampNeg, Int.bmod_def, or_true, true_or, and_true, true_and] <;> omega))) (fun e_119 f_119 q_119 => ?_)
        obtain ⟨x0_119, x1_119, x2_119⟩ := q_119
        (try simp only [Int32.toInt_add, Int32.toInt_sub, Int32.toInt_mul, Int32.toInt_toInt64, Int64.toInt_add, z_m1, Int32.reduceToInt, Int64.reduceToInt, Int32.reduceToNatClampNeg, Int.bmod_def] at x0_119)
        (try simp only [Int32.toInt_add, Int32.toInt_sub, Int32.toInt_mul, Int32.toInt_toInt64, Int64.toInt_add, z_m1, Int32.reduceToInt, Int64.reduceToInt, Int32.reduceToNatClampNeg, Int.bmod_def] at x1_119)
        refine vB (v_X8_gives) (fun e_122 f_122 q_122 => ?_)
        have k_122 : ∀ a j, ¬ WM_X8_applicant P a j → e_122.2 a j = M0 a j := fun a j h => (q_122 a j (wz_M_X8_gives_X8_applicant h)).trans (k_20 a j h)
        have c7_122 : Int32.toInt (e_122.2 P 7) = Int32.toInt (e_20.2 P 7) := congrArg Int32.toInt (q_122 P 7 (wc_X8_gives_7))
        have c8_122 : Int32.toInt (e_122.2 P 8) = Int32.toInt (e_20.2 P 8) := congrArg Int32.toInt (q_122 P 8 (wc_X8_gives_8))
        have c33_122 : Int32.toInt (e_122.2 P 33) = Int32.toInt (e_20.2 P 33) := congrArg Int32.toInt (q_122 P 33 (wc_X8_gives_33))
        have n_122 : nA P e_122.2 = nA P e_20.2 := nA_congr (fun a j h => q_122 a j (wf_nA_X8_gives h))
        have p_jS_122 : jS P e_122.2 := jS.mono p_jS_20 (fun a j h => q_122 a j (wf_jS_X8_gives h))
        obtain ⟨u0_jS_122, u1_jS_122, u2_jS_122, u3_jS_122, u4_jS_122, u5_jS_122, u6_jS_122, u7_jS_122⟩ := jS.ints p_jS_122
        have p_jR_122 : jR P e_122.2 := jR.mono p_jR_20 (fun a j h => q_122 a j (wf_jR_X8_gives h))
        have p_jK_122 : jK P e_122.2 := jK.mono p_jK_20 (fun a j h => q_122 a j (wf_jK_X8_gives h))
        have p_jT_122 : jT P e_122.2 := jT.mono p_jT_20 (fun a j h => q_122 a j (wf_jT_X8_gives h))
        obtain ⟨u0_jT_122, u1_jT_122, u2_jT_122, u3_jT_122, u4_jT_122, u5_jT_122⟩ := id p_jT_122
        have p_jB_122 : jB P e_122.2 := jB.mono x0_20 (fun a j h => q_122 a j (wf_jB_X8_gives h))
        obtain ⟨u0_jB_122, u1_jB_122, u2_jB_122, u3_jB_122, u4_jB_122, u5_jB_122⟩ := id p_jB_122
        have p_jL_122 : jL P e_122.2 := jL.mono x1_20 (fun a j h => q_122 a j (wf_jL_X8_gives h))
        have p_jH_122 : jH P e_122.2 := jH.mono x2_20 (fun a j h => q_122 a j (wf_jH_X8_gives h))
        exact ⟨_, rfl, k_122, ⟨p_jB_122, p_jS_122, p_jR_122, p_jK_122, p_jT_122⟩⟩
      refine vIf (fun h_33 => ?_) (fun h_33_5 => ?_)
      · skip
        refine vI (vp_of (by first | omega | (simp only [Int32.toInt_add, Int32.toInt_sub, Int32.toInt_mul, Int32.toInt_toInt64, Int64.toInt_add, z_m1, Int32.reduceToInt, Int64.reduceToInt, Int32.reduceToNatClampNeg, Int.bmod_def, or_true, true_or, and_true, true_and] <;> omega)) (by first | omega | (simp only [Int32.toInt_add, Int32.toInt_sub, Int32.toInt_mul, Int32.toInt_toInt64, Int64.toInt_add, z_m1, Int32.reduceToInt, Int64.reduceToInt, Int32.reduceToNatClampNeg, Int.bmod_def, or_true, true_or, and_true, true_and] <;> omega))) ?_
        refine vB (v_X8_gives) (fun e_133 f_133 q_133 => ?_)
        have k_133 : ∀ a j, ¬ WM_X8_applicant P a j → e_133.2 a j = M0 a j := fun a j h => (q_133 a j (wz_M_X8_gives_X8_applicant h)).trans (k_20 a j h)
        have c7_133 : Int32.toInt (e_133.2 P 7) = Int32.toInt (e_20.2 P 7) := congrArg Int32.toInt (q_133 P 7 (wc_X8_gives_7))
        have c8_133 : Int32.toInt (e_133.2 P 8) = Int32.toInt (e_20.2 P 8) := congrArg Int32.toInt (q_133 P 8 (wc_X8_gives_8))
        have c33_133 : Int32.toInt (e_133.2 P 33) = Int32.toInt (e_20.2 P 33) := congrArg Int32.toInt (q_133 P 33 (wc_X8_gives_33))
        have n_133 : nA P e_133.2 = nA P e_20.2 := nA_congr (fun a j h => q_133 a j (wf_nA_X8_gives h))
        have p_jS_133 : jS P e_133.2 := jS.mono p_jS_20 (fun a j h => q_133 a j (wf_jS_X8_gives h))
        obtain ⟨u0_jS_133, u1_jS_133, u2_jS_133, u3_jS_133, u4_jS_133, u5_jS_133, u6_jS_133, u7_jS_133⟩ := jS.ints p_jS_133
        have p_jR_133 : jR P e_133.2 := jR.mono p_jR_20 (fun a j h => q_133 a j (wf_jR_X8_gives h))
        have p_jK_133 : jK P e_133.2 := jK.mono p_jK_20 (fun a j h => q_133 a j (wf_jK_X8_gives h))
        have p_jT_133 : jT P e_133.2 := jT.mono p_jT_20 (fun a j h => q_133 a j (wf_jT_X8_gives h))
        obtain ⟨u0_jT_133, u1_jT_133, u2_jT_133, u3_jT_133, u4_jT_133, u5_jT_133⟩ := id p_jT_133
        have p_jB_133 : jB P e_133.2 := jB.mono x0_20 (fun a j h => q_133 a j (wf_jB_X8_gives h))
        obtain ⟨u0_jB_133, u1_jB_133, u2_jB_133, u3_jB_133, u4_jB_133, u5_jB_133⟩ := id p_jB_133
        have p_jL_133 : jL P e_133.2 := jL.mono x1_20 (fun a j h => q_133 a j (wf_jL_X8_gives h))
        have p_jH_133 : jH P e_133.2 := jH.mono x2_20 (fun a j h => q_133 a j (wf_jH_X8_gives h))
        exact ⟨_, rfl, k_133, ⟨p_jB_133, p_jS_133, p_jR_133, p_jK_133, p_jT_133⟩⟩
      refine vI (vp_of (by first | omega | (simp only [Int32.toInt_add, Int32.toInt_sub, Int32.toInt_mul, Int32.toInt_toInt64, Int64.toInt_add, z_m1, Int32.reduceToInt, Int64.reduceToInt, Int32.reduceToNatClampNeg, Int.bmod_def, or_true, true_or, and_true, true_and] <;> omega)) (by first | omega | (simp only [Int32.toInt_add, Int32.toInt_sub, Int32.toInt_mul, Int32.toInt_toInt64, Int64.toInt_add, z_m1, Int32.reduceToInt, Int64.reduceToInt, Int32.reduceToNatClampNeg, Int.bmod_def, or_true, true_or, and_true, true_and] <;> omega))) ?_
      refine vB (v_X8_gives) (fun e_144 f_144 q_144 => ?_)
      have k_144 : ∀ a j, ¬ WM_X8_applicant P a j → e_144.2 a j = M0 a j := fun a j h => (q_144 a j (wz_M_X8_gives_X8_applicant h)).trans (k_20 a j h)
      have c7_144 : Int32.toInt (e_144.2 P 7) = Int32.toInt (e_20.2 P 7) := congrArg Int32.toInt (q_144 P 7 (wc_X8_gives_7))
      have c8_144 : Int32.toInt (e_144.2 P 8) = Int32.toInt (e_20.2 P 8) := congrArg Int32.toInt (q_144 P 8 (wc_X8_gives_8))
      have c33_144 : Int32.toInt (e_144.2 P 33) = Int32.toInt (e_20.2 P 33) := congrArg Int32.toInt (q_144 P 33 (wc_X8_gives_33))
      have n_144 : nA P e_144.2 = nA P e_20.2 := nA_congr (fun a j h => q_144 a j (wf_nA_X8_gives h))
      have p_jS_144 : jS P e_144.2 := jS.mono p_jS_20 (fun a j h => q_144 a j (wf_jS_X8_gives h))
      obtain ⟨u0_jS_144, u1_jS_144, u2_jS_144, u3_jS_144, u4_jS_144, u5_jS_144, u6_jS_144, u7_jS_144⟩ := jS.ints p_jS_144
      have p_jR_144 : jR P e_144.2 := jR.mono p_jR_20 (fun a j h => q_144 a j (wf_jR_X8_gives h))
      have p_jK_144 : jK P e_144.2 := jK.mono p_jK_20 (fun a j h => q_144 a j (wf_jK_X8_gives h))
      have p_jT_144 : jT P e_144.2 := jT.mono p_jT_20 (fun a j h => q_144 a j (wf_jT_X8_gives h))
      obtain ⟨u0_jT_144, u1_jT_144, u2_jT_144, u3_jT_144, u4_jT_144, u5_jT_144⟩ := id p_jT_144
      have p_jB_144 : jB P e_144.2 := jB.mono x0_20 (fun a j h => q_144 a j (wf_jB_X8_gives h))
      obtain ⟨u0_jB_144, u1_jB_144, u2_jB_144, u3_jB_144, u4_jB_144, u5_jB_144⟩ := id p_jB_144
      have p_jL_144 : jL P e_144.2 := jL.mono x1_20 (fun a j h => q_144 a j (wf_jL_X8_gives h))
      have p_jH_144 : jH P e_144.2 := jH.mono x2_20 (fun a j h => q_144 a j (wf_jH_X8_gives h))
      exact ⟨_, rfl, k_144, ⟨p_jB_144, p_jS_144, p_jR_144, p_jK_144, p_jT_144⟩⟩
def WM_X8_choice (P : Nat) (a j : Nat) : Prop := (P + 11 ≤ a ∧ a < P + 18) ∨ (a = P ∧ (j = 6 ∨ j = 12 ∨ j = 33))
theorem wz_M_X8_isApplicant_X8_choice {P a j : Nat} (h : ¬ WM_X8_choice P a j) : ¬ WM_X8_isApplicant P a j := by unfold WM_X8_isApplicant; unfold WM_X8_choice at h; omega
theorem wz_M_X8_refuse_X8_choice {P a j : Nat} (h : ¬ WM_X8_choice P a j) : ¬ WM_X8_refuse P a j := by unfold WM_X8_refuse; unfold WM_X8_choice at h; omega
theorem wz_M_X8_gives_X8_choice {P a j : Nat} (h : ¬ WM_X8_choice P a j) : ¬ WM_X8_gives P a j := by unfold WM_X8_gives; unfold WM_X8_choice at h; omega
set_option maxRecDepth 100000 in
set_option maxHeartbeats 4000000 in
theorem v_X8_choice {P : Nat} {v0 : Int32} {v1 : Int32} {M0 : zMt}  (p_jB : jB P M0) (p_jS : jS P M0) (p_jR : jR P M0) (p_jK : jK P M0) (p_jT : jT P M0) : ∃ r, D_X8_choice P v0 v1 M0 = some r ∧ ((∀ a j, ¬ WM_X8_choice P a j → r.2 a j = M0 a j) ∧ ((jB P r.2) ∧ (jS P r.2) ∧ (jR P r.2) ∧ (jK P r.2) ∧ (jT P r.2))) := by
  obtain ⟨u0_jB, u1_jB, u2_jB, u3_jB, u4_jB, u5_jB⟩ := id p_jB
  obtain ⟨u0_jS, u1_jS, u2_jS, u3_jS, u4_jS, u5_jS, u6_jS, u7_jS⟩ := jS.ints p_jS
  obtain ⟨u0_jT, u1_jT, u2_jT, u3_jT, u4_jT, u5_jT⟩ := id p_jT
  have T_51 : ∀ (y0_51 : Int32) (M_51 : zMt), (∀ a j, ¬ WM_X8_choice P a j → M_51 a j = M0 a j) → (jB P M_51) → (jH P M_51) → (jK P M_51) → (jL P M_51) → (jR P M_51) → (jS P M_51) → (jT P M_51) → ∃ r, D_X8_choice_51 P y0_51 M_51 = some r ∧ ((∀ a j, ¬ WM_X8_choice P a j → r.2 a j = M0 a j) ∧ ((jB P r.2) ∧ (jS P r.2) ∧ (jR P r.2) ∧ (jK P r.2) ∧ (jT P r.2))) := by
    intro y0_51 M_51 k_51 p_jB_51 p_jH_51 p_jK_51 p_jL_51 p_jR_51 p_jS_51 p_jT_51
    obtain ⟨u0_jB_51, u1_jB_51, u2_jB_51, u3_jB_51, u4_jB_51, u5_jB_51⟩ := id p_jB_51
    obtain ⟨u0_jS_51, u1_jS_51, u2_jS_51, u3_jS_51, u4_jS_51, u5_jS_51, u6_jS_51, u7_jS_51⟩ := jS.ints p_jS_51
    obtain ⟨u0_jT_51, u1_jT_51, u2_jT_51, u3_jT_51, u4_jT_51, u5_jT_51⟩ := id p_jT_51
    unfold D_X8_choice_51
    exact ⟨_, rfl, k_51, ⟨p_jB_51, p_jS_51, p_jR_51, p_jK_51, p_jT_51⟩⟩
  unfold D_X8_choice
  refine vIf (fun h_1 => ?_) (fun h_1 => ?_)
  · have i_1 := Int32.le_iff_toInt_le.mp h_1
    (try simp only [Int32.toInt_add, Int32.toInt_sub, Int32.toInt_mul, Int32.toInt_toInt64, Int64.toInt_add, z_m1, Int32.reduceToInt, Int64.reduceToInt, Int32.reduceToNatClampNeg, Int.bmod_def] at i_1)
    refine vB (v_X8_isApplicant p_jB p_jS) (fun e_12 f_12 q_12 => ?_)
    have k_12 : ∀ a j, ¬ WM_X8_choice P a j → e_12.2 a j = M0 a j := fun a j h => (q_12.1 a j (wz_M_X8_isApplicant_X8_choice h))
    have b_12 := q_12.2.1
    have c7_12 : Int32.toInt (e_12.2 P 7) = Int32.toInt (M0 P 7) := congrArg Int32.toInt (q_12.1 P 7 (wc_X8_isApplicant_7))
    have c8_12 : Int32.toInt (e_12.2 P 8) = Int32.toInt (M0 P 8) := congrArg Int32.toInt (q_12.1 P 8 (wc_X8_isApplicant_8))
    have n_12 : nA P e_12.2 = nA P M0 := nA_congr (fun a j h => q_12.1 a j (wf_nA_X8_isApplicant h))
    have p_jS_12 : jS P e_12.2 := jS.mono p_jS (fun a j h => q_12.1 a j (wf_jS_X8_isApplicant h))
    obtain ⟨u0_jS_12, u1_jS_12, u2_jS_12, u3_jS_12, u4_jS_12, u5_jS_12, u6_jS_12, u7_jS_12⟩ := jS.ints p_jS_12
    have p_jR_12 : jR P e_12.2 := jR.mono p_jR (fun a j h => q_12.1 a j (wf_jR_X8_isApplicant h))
    have p_jK_12 : jK P e_12.2 := jK.mono p_jK (fun a j h => q_12.1 a j (wf_jK_X8_isApplicant h))
    have p_jT_12 : jT P e_12.2 := jT.mono p_jT (fun a j h => q_12.1 a j (wf_jT_X8_isApplicant h))
    obtain ⟨u0_jT_12, u1_jT_12, u2_jT_12, u3_jT_12, u4_jT_12, u5_jT_12⟩ := id p_jT_12
    obtain ⟨x0_12, x1_12, x2_12, x3_12, x4_12⟩ := q_12.2.2
    obtain ⟨u0_jB_12, u1_jB_12, u2_jB_12, u3_jB_12, u4_jB_12, u5_jB_12⟩ := id x0_12
    (try simp only [Int32.toInt_add, Int32.toInt_sub, Int32.toInt_mul, Int32.toInt_toInt64, Int64.toInt_add, z_m1, Int32.reduceToInt, Int64.reduceToInt, Int32.reduceToNatClampNeg, Int.bmod_def] at x3_12)
    (try simp only [Int32.toInt_add, Int32.toInt_sub, Int32.toInt_mul, Int32.toInt_toInt64, Int64.toInt_add, z_m1, Int32.reduceToInt, Int64.reduceToInt, Int32.reduceToNatClampNeg, Int.bmod_def] at x4_12)
    refine vIf (fun h_15 => ?_) (fun h_15 => ?_)
    · have i_15 := congrArg Int32.toInt h_15
      (try simp only [Int32.toInt_add, Int32.toInt_sub, Int32.toInt_mul, Int32.toInt_toInt64, Int64.toInt_add, z_m1, Int32.reduceToInt, Int64.reduceToInt, Int32.reduceToNatClampNeg, Int.bmod_def] at i_15)
      refine vB (v_X8_refuse) (fun e_20 f_20 q_20 => ?_)
      have k_20 : ∀ a j, ¬ WM_X8_choice P a j → e_20.2 a j = M0 a j := fun a j h => (q_20 a j (wz_M_X8_refuse_X8_choice h)).trans (k_12 a j h)
      have c7_20 : Int32.toInt (e_20.2 P 7) = Int32.toInt (e_12.2 P 7) := congrArg Int32.toInt (q_20 P 7 (wc_X8_refuse_7))
      have c8_20 : Int32.toInt (e_20.2 P 8) = Int32.toInt (e_12.2 P 8) := congrArg Int32.toInt (q_20 P 8 (wc_X8_refuse_8))
      have c33_20 : Int32.toInt (e_20.2 P 33) = Int32.toInt (e_12.2 P 33) := congrArg Int32.toInt (q_20 P 33 (wc_X8_refuse_33))
      have n_20 : nA P e_20.2 = nA P e_12.2 := nA_congr (fun a j h => q_20 a j (wf_nA_X8_refuse h))
      have p_jS_20 : jS P e_20.2 := jS.mono p_jS_12 (fun a j h => q_20 a j (wf_jS_X8_refuse h))
      obtain ⟨u0_jS_20, u1_jS_20, u2_jS_20, u3_jS_20, u4_jS_20, u5_jS_20, u6_jS_20, u7_jS_20⟩ := jS.ints p_jS_20
      have p_jR_20 : jR P e_20.2 := jR.mono p_jR_12 (fun a j h => q_20 a j (wf_jR_X8_refuse h))
      have p_jK_20 : jK P e_20.2 := jK.mono p_jK_12 (fun a j h => q_20 a j (wf_jK_X8_refuse h))
      have p_jT_20 : jT P e_20.2 := jT.mono p_jT_12 (fun a j h => q_20 a j (wf_jT_X8_refuse h))
      obtain ⟨u0_jT_20, u1_jT_20, u2_jT_20, u3_jT_20, u4_jT_20, u5_jT_20⟩ := id p_jT_20
      have p_jB_20 : jB P e_20.2 := jB.mono x0_12 (fun a j h => q_20 a j (wf_jB_X8_refuse h))
      obtain ⟨u0_jB_20, u1_jB_20, u2_jB_20, u3_jB_20, u4_jB_20, u5_jB_20⟩ := id p_jB_20
      have p_jL_20 : jL P e_20.2 := jL.mono x1_12 (fun a j h => q_20 a j (wf_jL_X8_refuse h))
      have p_jH_20 : jH P e_20.2 := jH.mono x2_12 (fun a j h => q_20 a j (wf_jH_X8_refuse h))
      exact ⟨_, rfl, k_20, ⟨p_jB_20, p_jS_20, p_jR_20, p_jK_20, p_jT_20⟩⟩
    · have i_15 : ¬ Int32.toInt e_12.1 = Int32.toInt (0 : Int32) := fun q => h_15 (Int32.toInt_inj.mp q)
      (try simp only [Int32.toInt_add, Int32.toInt_sub, Int32.toInt_mul, Int32.toInt_toInt64, Int64.toInt_add, z_m1, Int32.reduceToInt, Int64.reduceToInt, Int32.reduceToNatClampNeg, Int.bmod_def] at i_15)
      refine vB (v_X8_choiceMany x0_12 p_jS_12 x1_12 (by first | omega | (simp only [Int32.toInt_add, Int32.toInt_sub, Int32.toInt_mul, Int32.toInt_toInt64, Int64.toInt_add, z_m1, Int32.reduceToInt, Int64.reduceToInt, Int32.reduceToNatClampNeg, Int.bmod_def, or_true, true_or, and_true, true_and] <;> omega)) (by first | omega | (simp only [Int32.toInt_add, Int32.toInt_sub, Int32.toInt_mul, Int32.toInt_toInt64, Int64.toInt_add, z_m1, Int32.reduceToInt, Int64.reduceToInt, Int32.reduceToNatClampNeg, Int.bmod_def, or_true, true_or, and_true, true_and] <;> omega))) (fun e_27 f_27 q_27 => ?_)
      obtain ⟨x0_27, x1_27, x2_27⟩ := q_27
      (try simp only [Int32.toInt_add, Int32.toInt_sub, Int32.toInt_mul, Int32.toInt_toInt64, Int64.toInt_add, z_m1, Int32.reduceToInt, Int64.reduceToInt, Int32.reduceToNatClampNeg, Int.bmod_def] at x0_27)
      (try simp only [Int32.toInt_add, Int32.toInt_sub, Int32.toInt_mul, Int32.toInt_toInt64, Int64.toInt_add, z_m1, Int32.reduceToInt, Int64.reduceToInt, Int32.reduceToNatClampNeg, Int.bmod_def] at x1_27)
      refine vIf (fun h_30 => ?_) (fun h_30 => ?_)
      · have i_30 := Int32.le_iff_toInt_le.mp h_30
        (try simp only [Int32.toInt_add, Int32.toInt_sub, Int32.toInt_mul, Int32.toInt_toInt64, Int64.toInt_add, z_m1, Int32.reduceToInt, Int64.reduceToInt, Int32.reduceToNatClampNeg, Int.bmod_def] at i_30)
        refine vB (v_X8_refuse) (fun e_48 f_48 q_48 => ?_)
        have k_48 : ∀ a j, ¬ WM_X8_choice P a j → e_48.2 a j = M0 a j := fun a j h => (q_48 a j (wz_M_X8_refuse_X8_choice h)).trans (k_12 a j h)
        have c7_48 : Int32.toInt (e_48.2 P 7) = Int32.toInt (e_12.2 P 7) := congrArg Int32.toInt (q_48 P 7 (wc_X8_refuse_7))
        have c8_48 : Int32.toInt (e_48.2 P 8) = Int32.toInt (e_12.2 P 8) := congrArg Int32.toInt (q_48 P 8 (wc_X8_refuse_8))
        have c33_48 : Int32.toInt (e_48.2 P 33) = Int32.toInt (e_12.2 P 33) := congrArg Int32.toInt (q_48 P 33 (wc_X8_refuse_33))
        have n_48 : nA P e_48.2 = nA P e_12.2 := nA_congr (fun a j h => q_48 a j (wf_nA_X8_refuse h))
        have p_jS_48 : jS P e_48.2 := jS.mono p_jS_12 (fun a j h => q_48 a j (wf_jS_X8_refuse h))
        obtain ⟨u0_jS_48, u1_jS_48, u2_jS_48, u3_jS_48, u4_jS_48, u5_jS_48, u6_jS_48, u7_jS_48⟩ := jS.ints p_jS_48
        have p_jR_48 : jR P e_48.2 := jR.mono p_jR_12 (fun a j h => q_48 a j (wf_jR_X8_refuse h))
        have p_jK_48 : jK P e_48.2 := jK.mono p_jK_12 (fun a j h => q_48 a j (wf_jK_X8_refuse h))
        have p_jT_48 : jT P e_48.2 := jT.mono p_jT_12 (fun a j h => q_48 a j (wf_jT_X8_refuse h))
        obtain ⟨u0_jT_48, u1_jT_48, u2_jT_48, u3_jT_48, u4_jT_48, u5_jT_48⟩ := id p_jT_48
        have p_jB_48 : jB P e_48.2 := jB.mono x0_12 (fun a j h => q_48 a j (wf_jB_X8_refuse h))
        obtain ⟨u0_jB_48, u1_jB_48, u2_jB_48, u3_jB_48, u4_jB_48, u5_jB_48⟩ := id p_jB_48
        have p_jL_48 : jL P e_48.2 := jL.mono x1_12 (fun a j h => q_48 a j (wf_jL_X8_refuse h))
        have p_jH_48 : jH P e_48.2 := jH.mono x2_12 (fun a j h => q_48 a j (wf_jH_X8_refuse h))
        exact T_51 _ _ k_48 p_jB_48 p_jH_48 p_jK_48 p_jL_48 p_jR_48 p_jS_48 p_jT_48
      · have i_30 := Int32.lt_iff_toInt_lt.mp (Int32.not_le.mp h_30)
        (try simp only [Int32.toInt_add, Int32.toInt_sub, Int32.toInt_mul, Int32.toInt_toInt64, Int64.toInt_add, z_m1, Int32.reduceToInt, Int64.reduceToInt, Int32.reduceToNatClampNeg, Int.bmod_def] at i_30)
        refine vB (v_X8_choiceOf x0_12 p_jS_12 x1_12 (by first | omega | (simp only [Int32.toInt_add, Int32.toInt_sub, Int32.toInt_mul, Int32.toInt_toInt64, Int64.toInt_add, z_m1, Int32.reduceToInt, Int64.reduceToInt, Int32.reduceToNatClampNeg, Int.bmod_def, or_true, true_or, and_true, true_and] <;> omega)) (by first | omega | (simp only [Int32.toInt_add, Int32.toInt_sub, Int32.toInt_mul, Int32.toInt_toInt64, Int64.toInt_add, z_m1, Int32.reduceToInt, Int64.reduceToInt, Int32.reduceToNatClampNeg, Int.bmod_def, or_true, true_or, and_true, true_and] <;> omega)) (by first | omega | (simp only [Int32.toInt_add, Int32.toInt_sub, Int32.toInt_mul, Int32.toInt_toInt64, Int64.toInt_add, z_m1, Int32.reduceToInt, Int64.reduceToInt, Int32.reduceToNatClampNeg, Int.bmod_def, or_true, true_or, and_true, true_and] <;> omega))) (fun e_37 f_37 q_37 => ?_)
        obtain ⟨x0_37, x1_37, x2_37⟩ := q_37
        (try simp only [Int32.toInt_add, Int32.toInt_sub, Int32.toInt_mul, Int32.toInt_toInt64, Int64.toInt_add, z_m1, Int32.reduceToInt, Int64.reduceToInt, Int32.reduceToNatClampNeg, Int.bmod_def] at x0_37)
        (try simp only [Int32.toInt_add, Int32.toInt_sub, Int32.toInt_mul, Int32.toInt_toInt64, Int64.toInt_add, z_m1, Int32.reduceToInt, Int64.reduceToInt, Int32.reduceToNatClampNeg, Int.bmod_def] at x1_37)
        (try simp only [Int32.toInt_add, Int32.toInt_sub, Int32.toInt_mul, Int32.toInt_toInt64, Int64.toInt_add, z_m1, Int32.reduceToInt, Int64.reduceToInt, Int32.reduceToNatClampNeg, Int.bmod_def] at x2_37)
        refine vB (v_X8_gives) (fun e_40 f_40 q_40 => ?_)
        have k_40 : ∀ a j, ¬ WM_X8_choice P a j → e_40.2 a j = M0 a j := fun a j h => (q_40 a j (wz_M_X8_gives_X8_choice h)).trans (k_12 a j h)
        have c7_40 : Int32.toInt (e_40.2 P 7) = Int32.toInt (e_12.2 P 7) := congrArg Int32.toInt (q_40 P 7 (wc_X8_gives_7))
        have c8_40 : Int32.toInt (e_40.2 P 8) = Int32.toInt (e_12.2 P 8) := congrArg Int32.toInt (q_40 P 8 (wc_X8_gives_8))
        have c33_40 : Int32.toInt (e_40.2 P 33) = Int32.toInt (e_12.2 P 33) := congrArg Int32.toInt (q_40 P 33 (wc_X8_gives_33))
        have n_40 : nA P e_40.2 = nA P e_12.2 := nA_congr (fun a j h => q_40 a j (wf_nA_X8_gives h))
        have p_jS_40 : jS P e_40.2 := jS.mono p_jS_12 (fun a j h => q_40 a j (wf_jS_X8_gives h))
        obtain ⟨u0_jS_40, u1_jS_40, u2_jS_40, u3_jS_40, u4_jS_40, u5_jS_40, u6_jS_40, u7_jS_40⟩ := jS.ints p_jS_40
        have p_jR_40 : jR P e_40.2 := jR.mono p_jR_12 (fun a j h => q_40 a j (wf_jR_X8_gives h))
        have p_jK_40 : jK P e_40.2 := jK.mono p_jK_12 (fun a j h => q_40 a j (wf_jK_X8_gives h))
        have p_jT_40 : jT P e_40.2 := jT.mono p_jT_12 (fun a j h => q_40 a j (wf_jT_X8_gives h))
        obtain ⟨u0_jT_40, u1_jT_40, u2_jT_40, u3_jT_40, u4_jT_40, u5_jT_40⟩ := id p_jT_40
        have p_jB_40 : jB P e_40.2 := jB.mono x0_12 (fun a j h => q_40 a j (wf_jB_X8_gives h))
        obtain ⟨u0_jB_40, u1_jB_40, u2_jB_40, u3_jB_40, u4_jB_40, u5_jB_40⟩ := id p_jB_40
        have p_jL_40 : jL P e_40.2 := jL.mono x1_12 (fun a j h => q_40 a j (wf_jL_X8_gives h))
        have p_jH_40 : jH P e_40.2 := jH.mono x2_12 (fun a j h => q_40 a j (wf_jH_X8_gives h))
        exact T_51 _ _ k_40 p_jB_40 p_jH_40 p_jK_40 p_jL_40 p_jR_40 p_jS_40 p_jT_40
  · have i_1 := Int32.lt_iff_toInt_lt.mp (Int32.not_le.mp h_1)
    (try simp only [Int32.toInt_add, Int32.toInt_sub, Int32.toInt_mul, Int32.toInt_toInt64, Int64.toInt_add, z_m1, Int32.reduceToInt, Int64.reduceToInt, Int32.reduceToNatClampNeg, Int.bmod_def] at i_1)
    refine vB (v_X8_refuse) (fun e_6 f_6 q_6 => ?_)
    have k_6 : ∀ a j, ¬ WM_X8_choice P a j → e_6.2 a j = M0 a j := fun a j h => (q_6 a j (wz_M_X8_refuse_X8_choice h))
    have c7_6 : Int32.toInt (e_6.2 P 7) = Int32.toInt (M0 P 7) := congrArg Int32.toInt (q_6 P 7 (wc_X8_refuse_7))
    have c8_6 : Int32.toInt (e_6.2 P 8) = Int32.toInt (M0 P 8) := congrArg Int32.toInt (q_6 P 8 (wc_X8_refuse_8))
    have c33_6 : Int32.toInt (e_6.2 P 33) = Int32.toInt (M0 P 33) := congrArg Int32.toInt (q_6 P 33 (wc_X8_refuse_33))
    have n_6 : nA P e_6.2 = nA P M0 := nA_congr (fun a j h => q_6 a j (wf_nA_X8_refuse h))
    have p_jB_6 : jB P e_6.2 := jB.mono p_jB (fun a j h => q_6 a j (wf_jB_X8_refuse h))
    obtain ⟨u0_jB_6, u1_jB_6, u2_jB_6, u3_jB_6, u4_jB_6, u5_jB_6⟩ := id p_jB_6
    have p_jS_6 : jS P e_6.2 := jS.mono p_jS (fun a j h => q_6 a j (wf_jS_X8_refuse h))
    obtain ⟨u0_jS_6, u1_jS_6, u2_jS_6, u3_jS_6, u4_jS_6, u5_jS_6, u6_jS_6, u7_jS_6⟩ := jS.ints p_jS_6
    have p_jR_6 : jR P e_6.2 := jR.mono p_jR (fun a j h => q_6 a j (wf_jR_X8_refuse h))
    have p_jK_6 : jK P e_6.2 := jK.mono p_jK (fun a j h => q_6 a j (wf_jK_X8_refuse h))
    have p_jT_6 : jT P e_6.2 := jT.mono p_jT (fun a j h => q_6 a j (wf_jT_X8_refuse h))
    obtain ⟨u0_jT_6, u1_jT_6, u2_jT_6, u3_jT_6, u4_jT_6, u5_jT_6⟩ := id p_jT_6
    exact ⟨_, rfl, k_6, ⟨p_jB_6, p_jS_6, p_jR_6, p_jK_6, p_jT_6⟩⟩
def WM_X8_term (P : Nat) (a j : Nat) : Prop := (a = P ∧ (j = 6 ∨ j = 12))
theorem wz_M_X8_gives_X8_term {P a j : Nat} (h : ¬ WM_X8_term P a j) : ¬ WM_X8_gives P a j := by unfold WM_X8_gives; unfold WM_X8_term at h; omega
set_option maxRecDepth 100000 in
set_option maxHeartbeats 4000000 in
theorem v_X8_term {P : Nat} {v0 : Int32} {v1 : Int32} {v2 : Int32} {M0 : zMt}  (i_0 : ¬ Int32.toInt v1 = 0) : ∃ r, D_X8_term P v0 v1 v2 M0 = some r ∧ ((∀ a j, ¬ WM_X8_term P a j → r.2 a j = M0 a j)) := by
  have T_23 : ∀ (y1_23 : Int32) (M_23 : zMt), (∀ a j, ¬ WM_X8_term P a j → M_23 a j = M0 a j) → ∃ r, D_X8_term_23 P y1_23 M_23 = some r ∧ ((∀ a j, ¬ WM_X8_term P a j → r.2 a j = M0 a j)) := by
    intro y1_23 M_23 k_23
    unfold D_X8_term_23
    refine vB (v_X8_gives) (fun e_23 f_23 q_23 => ?_)
    have k_23 : ∀ a j, ¬ WM_X8_term P a j → e_23.2 a j = M0 a j := fun a j h => (q_23 a j (wz_M_X8_gives_X8_term h)).trans (k_23 a j h)
    have c7_23 : Int32.toInt (e_23.2 P 7) = Int32.toInt (M_23 P 7) := congrArg Int32.toInt (q_23 P 7 (wc_X8_gives_7))
    have c8_23 : Int32.toInt (e_23.2 P 8) = Int32.toInt (M_23 P 8) := congrArg Int32.toInt (q_23 P 8 (wc_X8_gives_8))
    have c33_23 : Int32.toInt (e_23.2 P 33) = Int32.toInt (M_23 P 33) := congrArg Int32.toInt (q_23 P 33 (wc_X8_gives_33))
    have n_23 : nA P e_23.2 = nA P M_23 := nA_congr (fun a j h => q_23 a j (wf_nA_X8_gives h))
    exact ⟨_, rfl, k_23⟩
  unfold D_X8_term
  refine vB (v_X8_common) (fun e_2 f_2 q_2 => ?_)
  have x0_2 := q_2
  (try simp only [Int32.toInt_add, Int32.toInt_sub, Int32.toInt_mul, Int32.toInt_toInt64, Int64.toInt_add, z_m1, Int32.reduceToInt, Int64.reduceToInt, Int32.reduceToNatClampNeg, Int.bmod_def] at x0_2)
  refine vIf (fun h_9 => ?_) (fun h_9 => ?_)
  · have i_9 := congrArg Int32.toInt h_9
    (try simp only [Int32.toInt_add, Int32.toInt_sub, Int32.toInt_mul, Int32.toInt_toInt64, Int64.toInt_add, z_m1, Int32.reduceToInt, Int64.reduceToInt, Int32.reduceToNatClampNeg, Int.bmod_def] at i_9)
    refine vZ (z_ne0 (by first | omega | (simp only [Int32.toInt_add, Int32.toInt_sub, Int32.toInt_mul, Int32.toInt_toInt64, Int64.toInt_add, z_m1, Int32.reduceToInt, Int64.reduceToInt, Int32.reduceToNatClampNeg, Int.bmod_def, or_true, true_or, and_true, true_and] <;> omega))) ?_
    exact T_23 _ _ (fun _ _ _ => rfl)
  · have i_9 : ¬ Int32.toInt v2 = Int32.toInt (0 : Int32) := fun q => h_9 (Int32.toInt_inj.mp q)
    (try simp only [Int32.toInt_add, Int32.toInt_sub, Int32.toInt_mul, Int32.toInt_toInt64, Int64.toInt_add, z_m1, Int32.reduceToInt, Int64.reduceToInt, Int32.reduceToNatClampNeg, Int.bmod_def] at i_9)
    refine vZ (z_ne0 (by first | omega | (simp only [Int32.toInt_add, Int32.toInt_sub, Int32.toInt_mul, Int32.toInt_toInt64, Int64.toInt_add, z_m1, Int32.reduceToInt, Int64.reduceToInt, Int32.reduceToNatClampNeg, Int.bmod_def, or_true, true_or, and_true, true_and] <;> omega))) ?_
    exact T_23 _ _ (fun _ _ _ => rfl)
def WM_X8_demand (P : Nat) (a j : Nat) : Prop := (P + 11 ≤ a ∧ a < P + 18) ∨ (a = P ∧ (j = 6 ∨ j = 12 ∨ j = 33))
theorem wz_M_X8_term_X8_demand {P a j : Nat} (h : ¬ WM_X8_demand P a j) : ¬ WM_X8_term P a j := by unfold WM_X8_term; unfold WM_X8_demand at h; omega
theorem wc_X8_term_7 {P : Nat} : ¬ WM_X8_term P P 7 := by unfold WM_X8_term; omega
theorem wc_X8_term_8 {P : Nat} : ¬ WM_X8_term P P 8 := by unfold WM_X8_term; omega
theorem wc_X8_term_33 {P : Nat} : ¬ WM_X8_term P P 33 := by unfold WM_X8_term; omega
theorem wf_nA_X8_term {P a j : Nat} (h : (a = P + 1 ∨ (a = P ∧ j = 8))) : ¬ WM_X8_term P a j := by unfold WM_X8_term; omega
theorem wf_jB_X8_term {P a j : Nat} (h : (a = P ∧ (j = 7 ∨ j = 8 ∨ j = 33))) : ¬ WM_X8_term P a j := by unfold WM_X8_term; omega
theorem wf_jH_X8_term {P a j : Nat} (h : ((a = P ∧ (j = 8 ∨ j = 33)) ∨ a = P + 11)) : ¬ WM_X8_term P a j := by unfold WM_X8_term; omega
theorem wf_jK_X8_term {P a j : Nat} (h : ((a = P ∧ (j = 7 ∨ j = 8 ∨ j = 9)) ∨ a = P + 4)) : ¬ WM_X8_term P a j := by unfold WM_X8_term; omega
theorem wf_jL_X8_term {P a j : Nat} (h : ((a = P ∧ j = 33) ∨ a = P + 13 ∨ a = P + 14 ∨ a = P + 17)) : ¬ WM_X8_term P a j := by unfold WM_X8_term; omega
theorem wf_jR_X8_term {P a j : Nat} (h : a = P + 19) : ¬ WM_X8_term P a j := by unfold WM_X8_term; omega
theorem wf_jS_X8_term {P a j : Nat} (h : (a = P + 1 ∨ (a = P ∧ (j = 7 ∨ j = 8)))) : ¬ WM_X8_term P a j := by unfold WM_X8_term; omega
theorem wf_jT_X8_term {P a j : Nat} (h : (a = P ∧ (j = 9 ∨ j = 11 ∨ j = 64))) : ¬ WM_X8_term P a j := by unfold WM_X8_term; omega
theorem wz_M_X8_refuse_X8_demand {P a j : Nat} (h : ¬ WM_X8_demand P a j) : ¬ WM_X8_refuse P a j := by unfold WM_X8_refuse; unfold WM_X8_demand at h; omega
theorem wz_M_X8_laysApplicants_X8_demand {P a j : Nat} (h : ¬ WM_X8_demand P a j) : ¬ WM_X8_laysApplicants P a j := by unfold WM_X8_laysApplicants; unfold WM_X8_demand at h; omega
set_option maxRecDepth 100000 in
set_option maxHeartbeats 4000000 in
theorem v_X8_demand {P : Nat} {v0 : Int32} {v1 : Int32} {M0 : zMt}  (p_jB : jB P M0) (p_jS : jS P M0) (p_jR : jR P M0) (p_jK : jK P M0) (p_jT : jT P M0) : ∃ r, D_X8_demand P v0 v1 M0 = some r ∧ ((∀ a j, ¬ WM_X8_demand P a j → r.2 a j = M0 a j) ∧ ((jB P r.2) ∧ (jS P r.2) ∧ (jR P r.2) ∧ (jK P r.2) ∧ (jT P r.2))) := by
  obtain ⟨u0_jB, u1_jB, u2_jB, u3_jB, u4_jB, u5_jB⟩ := id p_jB
  obtain ⟨u0_jS, u1_jS, u2_jS, u3_jS, u4_jS, u5_jS, u6_jS, u7_jS⟩ := jS.ints p_jS
  obtain ⟨u0_jT, u1_jT, u2_jT, u3_jT, u4_jT, u5_jT⟩ := id p_jT
  have TL_57 : ∀ u : Nat, ∀ (x1_57 : Int32) (x2_57 : Int32) (x3_57 : Int32) (x4_57 : Int32) (M_57 : zMt), (∀ a j, ¬ WM_X8_demand P a j → M_57 a j = M0 a j) → (jB P M_57) → (jH P M_57) → (jK P M_57) → (jL P M_57) → (jR P M_57) → (jS P M_57) → (jT P M_57) → (0 ≤ Int32.toInt x4_57) → (Int32.toInt x4_57 ≤ 10) → (0 ≤ Int32.toInt x1_57 ∧ Int32.toInt x1_57 < 5) → (¬ Int32.toInt (M_57 (P + 1) (62 + x1_57).toNatClampNeg) = 0) → (2147483648 - Int32.toInt x4_57).toNat < u → ∃ r, D_X8_demand_57 P u x1_57 x2_57 x3_57 x4_57 M_57 = some r ∧ ((∀ a j, ¬ WM_X8_demand P a j → r.2 a j = M0 a j) ∧ ((jB P r.2) ∧ (jS P r.2) ∧ (jR P r.2) ∧ (jK P r.2) ∧ (jT P r.2))) := by
    intro u
    induction u with
    | zero => intro x1_57 x2_57 x3_57 x4_57 M_57 k_57 p_jB_57 p_jH_57 p_jK_57 p_jL_57 p_jR_57 p_jS_57 p_jT_57 f0_57 f1_57 f2_57 f3_57 hm_57; exact absurd hm_57 (Nat.not_lt_zero _)
    | succ u_57 ih_57 =>
      have T_89 : ∀ (x1_89 : Int32) (x2_89 : Int32) (x4_89 : Int32) (y0_89 : Int32) (y1_89 : Int32) (M_89 : zMt), (∀ a j, ¬ WM_X8_demand P a j → M_89 a j = M0 a j) → (jB P M_89) → (jH P M_89) → (jK P M_89) → (jL P M_89) → (jR P M_89) → (jS P M_89) → (jT P M_89) → (0 ≤ Int32.toInt x4_89) → (Int32.toInt x4_89 < Int32.toInt (M_89 P 33)) → ((2147483648 - Int32.toInt x4_89).toNat < u_57 + 1) → (Int32.toInt x4_89 < 2147483647) → (0 ≤ Int32.toInt x1_89 ∧ Int32.toInt x1_89 < 5) → (¬ Int32.toInt (M_89 (P + 1) (62 + x1_89).toNatClampNeg) = 0) → ∃ r, D_X8_demand_89 P (D_X8_demand_57 P u_57) x1_89 x2_89 x4_89 y0_89 y1_89 M_89 = some r ∧ ((∀ a j, ¬ WM_X8_demand P a j → r.2 a j = M0 a j) ∧ ((jB P r.2) ∧ (jS P r.2) ∧ (jR P r.2) ∧ (jK P r.2) ∧ (jT P r.2))) := by
        intro x1_89 x2_89 x4_89 y0_89 y1_89 M_89 k_89 p_jB_89 p_jH_89 p_jK_89 p_jL_89 p_jR_89 p_jS_89 p_jT_89 f0_89 f1_89 f2_89 f3_89 f4_89 f5_89
        obtain ⟨u0_jB_89, u1_jB_89, u2_jB_89, u3_jB_89, u4_jB_89, u5_jB_89⟩ := id p_jB_89
        obtain ⟨u0_jS_89, u1_jS_89, u2_jS_89, u3_jS_89, u4_jS_89, u5_jS_89, u6_jS_89, u7_jS_89⟩ := jS.ints p_jS_89
        obtain ⟨u0_jT_89, u1_jT_89, u2_jT_89, u3_jT_89, u4_jT_89, u5_jT_89⟩ := id p_jT_89
        unfold D_X8_demand_89
        exact ih_57 _ _ _ _ _ k_89 p_jB_89 p_jH_89 p_jK_89 p_jL_89 p_jR_89 p_jS_89 p_jT_89 (by first | omega | (simp only [Int32.toInt_add, Int32.toInt_sub, Int32.toInt_mul, Int32.toInt_toInt64, Int64.toInt_add, z_m1, Int32.reduceToInt, Int64.reduceToInt, Int32.reduceToNatClampNeg, Int.bmod_def, or_true, true_or, and_true, true_and] <;> omega)) (by first | omega | (simp only [Int32.toInt_add, Int32.toInt_sub, Int32.toInt_mul, Int32.toInt_toInt64, Int64.toInt_add, z_m1, Int32.reduceToInt, Int64.reduceToInt, Int32.reduceToNatClampNeg, Int.bmod_def, or_true, true_or, and_true, true_and] <;> omega)) (by first | omega | (simp only [Int32.toInt_add, Int32.toInt_sub, Int32.toInt_mul, Int32.toInt_toInt64, Int64.toInt_add, z_m1, Int32.reduceToInt, Int64.reduceToInt, Int32.reduceToNatClampNeg, Int.bmod_def, or_true, true_or, and_true, true_and] <;> omega)) (by first | assumption | (rw [q_49.1 _ _ (by unfold WM_X8_laysApplicants; omega)]; assumption)) (z_up1 f3_89 f2_89)
      intro x1_57 x2_57 x3_57 x4_57 M_57 k_57 p_jB_57 p_jH_57 p_jK_57 p_jL_57 p_jR_57 p_jS_57 p_jT_57 f0_57 f1_57 f2_57 f3_57 hm_57
      obtain ⟨u0_jB_57, u1_jB_57, u2_jB_57, u3_jB_57, u4_jB_57, u5_jB_57⟩ := id p_jB_57
      obtain ⟨u0_jS_57, u1_jS_57, u2_jS_57, u3_jS_57, u4_jS_57, u5_jS_57, u6_jS_57, u7_jS_57⟩ := jS.ints p_jS_57
      obtain ⟨u0_jT_57, u1_jT_57, u2_jT_57, u3_jT_57, u4_jT_57, u5_jT_57⟩ := id p_jT_57
      rw [D_X8_demand_57]
      refine vIf (fun h_63 => ?_) (fun h_63 => ?_)
      · have i_63 := Int32.le_iff_toInt_le.mp h_63
        (try simp only [Int32.toInt_add, Int32.toInt_sub, Int32.toInt_mul, Int32.toInt_toInt64, Int64.toInt_add, z_m1, Int32.reduceToInt, Int64.reduceToInt, Int32.reduceToNatClampNeg, Int.bmod_def] at i_63)
        refine vI (vp_of (by first | omega | (simp only [Int32.toInt_add, Int32.toInt_sub, Int32.toInt_mul, Int32.toInt_toInt64, Int64.toInt_add, z_m1, Int32.reduceToInt, Int64.reduceToInt, Int32.reduceToNatClampNeg, Int.bmod_def, or_true, true_or, and_true, true_and] <;> omega)) (by first | omega | (simp only [Int32.toInt_add, Int32.toInt_sub, Int32.toInt_mul, Int32.toInt_toInt64, Int64.toInt_add, z_m1, Int32.reduceToInt, Int64.reduceToInt, Int32.reduceToNatClampNeg, Int.bmod_def, or_true, true_or, and_true, true_and] <;> omega))) ?_
        refine vB (v_X8_term (by first | omega | (simp only [Int32.toInt_add, Int32.toInt_sub, Int32.toInt_mul, Int32.toInt_toInt64, Int64.toInt_add, z_m1, Int32.reduceToInt, Int64.reduceToInt, Int32.reduceToNatClampNeg, Int.bmod_def, or_true, true_or, and_true, true_and] <;> omega))) (fun e_109 f_109 q_109 => ?_)
        have k_109 : ∀ a j, ¬ WM_X8_demand P a j → e_109.2 a j = M0 a j := fun a j h => (q_109 a j (wz_M_X8_term_X8_demand h)).trans (k_57 a j h)
        have c7_109 : Int32.toInt (e_109.2 P 7) = Int32.toInt (M_57 P 7) := congrArg Int32.toInt (q_109 P 7 (wc_X8_term_7))
        have c8_109 : Int32.toInt (e_109.2 P 8) = Int32.toInt (M_57 P 8) := congrArg Int32.toInt (q_109 P 8 (wc_X8_term_8))
        have c33_109 : Int32.toInt (e_109.2 P 33) = Int32.toInt (M_57 P 33) := congrArg Int32.toInt (q_109 P 33 (wc_X8_term_33))
        have n_109 : nA P e_109.2 = nA P M_57 := nA_congr (fun a j h => q_109 a j (wf_nA_X8_term h))
        have p_jB_109 : jB P e_109.2 := jB.mono p_jB_57 (fun a j h => q_109 a j (wf_jB_X8_term h))
        obtain ⟨u0_jB_109, u1_jB_109, u2_jB_109, u3_jB_109, u4_jB_109, u5_jB_109⟩ := id p_jB_109
        have p_jH_109 : jH P e_109.2 := jH.mono p_jH_57 (fun a j h => q_109 a j (wf_jH_X8_term h))
        have p_jK_109 : jK P e_109.2 := jK.mono p_jK_57 (fun a j h => q_109 a j (wf_jK_X8_term h))
        have p_jL_109 : jL P e_109.2 := jL.mono p_jL_57 (fun a j h => q_109 a j (wf_jL_X8_term h))
        have p_jR_109 : jR P e_109.2 := jR.mono p_jR_57 (fun a j h => q_109 a j (wf_jR_X8_term h))
        have p_jS_109 : jS P e_109.2 := jS.mono p_jS_57 (fun a j h => q_109 a j (wf_jS_X8_term h))
        obtain ⟨u0_jS_109, u1_jS_109, u2_jS_109, u3_jS_109, u4_jS_109, u5_jS_109, u6_jS_109, u7_jS_109⟩ := jS.ints p_jS_109
        have p_jT_109 : jT P e_109.2 := jT.mono p_jT_57 (fun a j h => q_109 a j (wf_jT_X8_term h))
        obtain ⟨u0_jT_109, u1_jT_109, u2_jT_109, u3_jT_109, u4_jT_109, u5_jT_109⟩ := id p_jT_109
        exact ⟨_, rfl, k_109, ⟨p_jB_109, p_jS_109, p_jR_109, p_jK_109, p_jT_109⟩⟩
      · have i_63 := Int32.lt_iff_toInt_lt.mp (Int32.not_le.mp h_63)
        (try simp only [Int32.toInt_add, Int32.toInt_sub, Int32.toInt_mul, Int32.toInt_toInt64, Int64.toInt_add, z_m1, Int32.reduceToInt, Int64.reduceToInt, Int32.reduceToNatClampNeg, Int.bmod_def] at i_63)
        refine vB (v_X8_choiceOf p_jB_57 p_jS_57 p_jL_57 (by first | omega | (simp only [Int32.toInt_add, Int32.toInt_sub, Int32.toInt_mul, Int32.toInt_toInt64, Int64.toInt_add, z_m1, Int32.reduceToInt, Int64.reduceToInt, Int32.reduceToNatClampNeg, Int.bmod_def, or_true, true_or, and_true, true_and] <;> omega)) (by first | omega | (simp only [Int32.toInt_add, Int32.toInt_sub, Int32.toInt_mul, Int32.toInt_toInt64, Int64.toInt_add, z_m1, Int32.reduceToInt, Int64.reduceToInt, Int32.reduceToNatClampNeg, Int.bmod_def, or_true, true_or, and_true, true_and] <;> omega)) (by first | omega | (simp only [Int32.toInt_add, Int32.toInt_sub, Int32.toInt_mul, Int32.toInt_toInt64, Int64.toInt_add, z_m1, Int32.reduceToInt, Int64.reduceToInt, Int32.reduceToNatClampNeg, Int.bmod_def, or_true, true_or, and_true, true_and] <;> omega))) (fun e_71 f_71 q_71 => ?_)
        obtain ⟨x0_71, x1_71, x2_71⟩ := q_71
        (try simp only [Int32.toInt_add, Int32.toInt_sub, Int32.toInt_mul, Int32.toInt_toInt64, Int64.toInt_add, z_m1, Int32.reduceToInt, Int64.reduceToInt, Int32.reduceToNatClampNeg, Int.bmod_def] at x0_71)
        (try simp only [Int32.toInt_add, Int32.toInt_sub, Int32.toInt_mul, Int32.toInt_toInt64, Int64.toInt_add, z_m1, Int32.reduceToInt, Int64.reduceToInt, Int32.reduceToNatClampNeg, Int.bmod_def] at x1_71)
        (try simp only [Int32.toInt_add, Int32.toInt_sub, Int32.toInt_mul, Int32.toInt_toInt64, Int64.toInt_add, z_m1, Int32.reduceToInt, Int64.reduceToInt, Int32.reduceToNatClampNeg, Int.bmod_def] at x2_71)
        refine vIf (fun h_75 => ?_) (fun h_75 => ?_)
        · have i_75 := congrArg Int32.toInt h_75
          (try simp only [Int32.toInt_add, Int32.toInt_sub, Int32.toInt_mul, Int32.toInt_toInt64, Int64.toInt_add, z_m1, Int32.reduceToInt, Int64.reduceToInt, Int32.reduceToNatClampNeg, Int.bmod_def] at i_75)
          refine vI (vp_of (by first | omega | (simp only [Int32.toInt_add, Int32.toInt_sub, Int32.toInt_mul, Int32.toInt_toInt64, Int64.toInt_add, z_m1, Int32.reduceToInt, Int64.reduceToInt, Int32.reduceToNatClampNeg, Int.bmod_def, or_true, true_or, and_true, true_and] <;> omega)) (by first | omega | (simp only [Int32.toInt_add, Int32.toInt_sub, Int32.toInt_mul, Int32.toInt_toInt64, Int64.toInt_add, z_m1, Int32.reduceToInt, Int64.reduceToInt, Int32.reduceToNatClampNeg, Int.bmod_def, or_true, true_or, and_true, true_and] <;> omega))) ?_
          obtain ⟨w0_84, w1_84, w2_84, w3_84, w4_84, w5_84⟩ := jL.el p_jL_57 (x := x4_57) (by first | omega | (simp only [Int32.toInt_add, Int32.toInt_sub, Int32.toInt_mul, Int32.toInt_toInt64, Int64.toInt_add, z_m1, Int32.reduceToInt, Int64.reduceToInt, Int32.reduceToNatClampNeg, Int.bmod_def, or_true, true_or, and_true, true_and] <;> omega)) (by first | omega | (simp only [Int32.toInt_add, Int32.toInt_sub, Int32.toInt_mul, Int32.toInt_toInt64, Int64.toInt_add, z_m1, Int32.reduceToInt, Int64.reduceToInt, Int32.reduceToNatClampNeg, Int.bmod_def, or_true, true_or, and_true, true_and] <;> omega))
          exact T_89 _ _ _ _ _ _ k_57 p_jB_57 p_jH_57 p_jK_57 p_jL_57 p_jR_57 p_jS_57 p_jT_57 (by first | omega | (simp only [Int32.toInt_add, Int32.toInt_sub, Int32.toInt_mul, Int32.toInt_toInt64, Int64.toInt_add, z_m1, Int32.reduceToInt, Int64.reduceToInt, Int32.reduceToNatClampNeg, Int.bmod_def, or_true, true_or, and_true, true_and] <;> omega)) (by first | omega | (simp only [Int32.toInt_add, Int32.toInt_sub, Int32.toInt_mul, Int32.toInt_toInt64, Int64.toInt_add, z_m1, Int32.reduceToInt, Int64.reduceToInt, Int32.reduceToNatClampNeg, Int.bmod_def, or_true, true_or, and_true, true_and] <;> omega)) hm_57 (by first | assumption | exact z_lt (by assumption) | exact z_lt2 (by assumption) | exact z_lt3 (by assumption) (by first | assumption | decide)) (by first | omega | (simp only [Int32.toInt_add, Int32.toInt_sub, Int32.toInt_mul, Int32.toInt_toInt64, Int64.toInt_add, z_m1, Int32.reduceToInt, Int64.reduceToInt, Int32.reduceToNatClampNeg, Int.bmod_def, or_true, true_or, and_true, true_and] <;> omega)) (by assumption)
        · have i_75 : ¬ Int32.toInt e_71 = Int32.toInt x1_57 := fun q => h_75 (Int32.toInt_inj.mp q)
          (try simp only [Int32.toInt_add, Int32.toInt_sub, Int32.toInt_mul, Int32.toInt_toInt64, Int64.toInt_add, z_m1, Int32.reduceToInt, Int64.reduceToInt, Int32.reduceToNatClampNeg, Int.bmod_def] at i_75)
          exact T_89 _ _ _ _ _ _ k_57 p_jB_57 p_jH_57 p_jK_57 p_jL_57 p_jR_57 p_jS_57 p_jT_57 (by first | omega | (simp only [Int32.toInt_add, Int32.toInt_sub, Int32.toInt_mul, Int32.toInt_toInt64, Int64.toInt_add, z_m1, Int32.reduceToInt, Int64.reduceToInt, Int32.reduceToNatClampNeg, Int.bmod_def, or_true, true_or, and_true, true_and] <;> omega)) (by first | omega | (simp only [Int32.toInt_add, Int32.toInt_sub, Int32.toInt_mul, Int32.toInt_toInt64, Int64.toInt_add, z_m1, Int32.reduceToInt, Int64.reduceToInt, Int32.reduceToNatClampNeg, Int.bmod_def, or_true, true_or, and_true, true_and] <;> omega)) hm_57 (by first | assumption | exact z_lt (by assumption) | exact z_lt2 (by assumption) | exact z_lt3 (by assumption) (by first | assumption | decide)) (by first | omega | (simp only [Int32.toInt_add, Int32.toInt_sub, Int32.toInt_mul, Int32.toInt_toInt64, Int64.toInt_add, z_m1, Int32.reduceToInt, Int64.reduceToInt, Int32.reduceToNatClampNeg, Int.bmod_def, or_true, true_or, and_true, true_and] <;> omega)) (by assumption)
  have T_57 : ∀ (x1_57 : Int32) (x2_57 : Int32) (x3_57 : Int32) (x4_57 : Int32) (M_57 : zMt), (∀ a j, ¬ WM_X8_demand P a j → M_57 a j = M0 a j) → (jB P M_57) → (jH P M_57) → (jK P M_57) → (jL P M_57) → (jR P M_57) → (jS P M_57) → (jT P M_57) → (0 ≤ Int32.toInt x4_57) → (Int32.toInt x4_57 ≤ 10) → (0 ≤ Int32.toInt x1_57 ∧ Int32.toInt x1_57 < 5) → (¬ Int32.toInt (M_57 (P + 1) (62 + x1_57).toNatClampNeg) = 0) → ∃ r, D_X8_demand_57 P zFu x1_57 x2_57 x3_57 x4_57 M_57 = some r ∧ ((∀ a j, ¬ WM_X8_demand P a j → r.2 a j = M0 a j) ∧ ((jB P r.2) ∧ (jS P r.2) ∧ (jR P r.2) ∧ (jK P r.2) ∧ (jT P r.2))) := fun x1_57 x2_57 x3_57 x4_57 M_57 k_57 p_jB_57 p_jH_57 p_jK_57 p_jL_57 p_jR_57 p_jS_57 p_jT_57 f0_57 f1_57 f2_57 f3_57 => TL_57 zFu x1_57 x2_57 x3_57 x4_57 M_57 k_57 p_jB_57 p_jH_57 p_jK_57 p_jL_57 p_jR_57 p_jS_57 p_jT_57 f0_57 f1_57 f2_57 f3_57 (zFu_up _)
  unfold D_X8_demand
  refine vB (v_X8_isFrom) (fun e_4 f_4 q_4 => ?_)
  have b_4 := q_4.1
  have x0_4 := q_4.2
  (try simp only [Int32.toInt_add, Int32.toInt_sub, Int32.toInt_mul, Int32.toInt_toInt64, Int64.toInt_add, z_m1, Int32.reduceToInt, Int64.reduceToInt, Int32.reduceToNatClampNeg, Int.bmod_def] at x0_4)
  refine vIf (fun h_7 => ?_) (fun h_7 => ?_)
  · have i_7 := congrArg Int32.toInt h_7
    (try simp only [Int32.toInt_add, Int32.toInt_sub, Int32.toInt_mul, Int32.toInt_toInt64, Int64.toInt_add, z_m1, Int32.reduceToInt, Int64.reduceToInt, Int32.reduceToNatClampNeg, Int.bmod_def] at i_7)
    refine vB (v_X8_refuse) (fun e_12 f_12 q_12 => ?_)
    have k_12 : ∀ a j, ¬ WM_X8_demand P a j → e_12.2 a j = M0 a j := fun a j h => (q_12 a j (wz_M_X8_refuse_X8_demand h))
    have c7_12 : Int32.toInt (e_12.2 P 7) = Int32.toInt (M0 P 7) := congrArg Int32.toInt (q_12 P 7 (wc_X8_refuse_7))
    have c8_12 : Int32.toInt (e_12.2 P 8) = Int32.toInt (M0 P 8) := congrArg Int32.toInt (q_12 P 8 (wc_X8_refuse_8))
    have c33_12 : Int32.toInt (e_12.2 P 33) = Int32.toInt (M0 P 33) := congrArg Int32.toInt (q_12 P 33 (wc_X8_refuse_33))
    have n_12 : nA P e_12.2 = nA P M0 := nA_congr (fun a j h => q_12 a j (wf_nA_X8_refuse h))
    have p_jB_12 : jB P e_12.2 := jB.mono p_jB (fun a j h => q_12 a j (wf_jB_X8_refuse h))
    obtain ⟨u0_jB_12, u1_jB_12, u2_jB_12, u3_jB_12, u4_jB_12, u5_jB_12⟩ := id p_jB_12
    have p_jS_12 : jS P e_12.2 := jS.mono p_jS (fun a j h => q_12 a j (wf_jS_X8_refuse h))
    obtain ⟨u0_jS_12, u1_jS_12, u2_jS_12, u3_jS_12, u4_jS_12, u5_jS_12, u6_jS_12, u7_jS_12⟩ := jS.ints p_jS_12
    have p_jR_12 : jR P e_12.2 := jR.mono p_jR (fun a j h => q_12 a j (wf_jR_X8_refuse h))
    have p_jK_12 : jK P e_12.2 := jK.mono p_jK (fun a j h => q_12 a j (wf_jK_X8_refuse h))
    have p_jT_12 : jT P e_12.2 := jT.mono p_jT (fun a j h => q_12 a j (wf_jT_X8_refuse h))
    obtain ⟨u0_jT_12, u1_jT_12, u2_jT_12, u3_jT_12, u4_jT_12, u5_jT_12⟩ := id p_jT_12
    exact ⟨_, rfl, k_12, ⟨p_jB_12, p_jS_12, p_jR_12, p_jK_12, p_jT_12⟩⟩
  · have i_7 : ¬ Int32.toInt e_4 = Int32.toInt (0 : Int32) := fun q => h_7 (Int32.toInt_inj.mp q)
    (try simp only [Int32.toInt_add, Int32.toInt_sub, Int32.toInt_mul, Int32.toInt_toInt64, Int64.toInt_add, z_m1, Int32.reduceToInt, Int64.reduceToInt, Int32.reduceToNatClampNeg, Int.bmod_def] at i_7)
    refine vB (v_X8_isUnit p_jB) (fun e_18 f_18 q_18 => ?_)
    have b_18 := q_18.1
    have x0_18 := q_18.2
    (try simp only [Int32.toInt_add, Int32.toInt_sub, Int32.toInt_mul, Int32.toInt_toInt64, Int64.toInt_add, z_m1, Int32.reduceToInt, Int64.reduceToInt, Int32.reduceToNatClampNeg, Int.bmod_def] at x0_18)
    refine vIf (fun h_21 => ?_) (fun h_21 => ?_)
    · have i_21 := congrArg Int32.toInt h_21
      (try simp only [Int32.toInt_add, Int32.toInt_sub, Int32.toInt_mul, Int32.toInt_toInt64, Int64.toInt_add, z_m1, Int32.reduceToInt, Int64.reduceToInt, Int32.reduceToNatClampNeg, Int.bmod_def] at i_21)
      refine vB (v_X8_refuse) (fun e_26 f_26 q_26 => ?_)
      have k_26 : ∀ a j, ¬ WM_X8_demand P a j → e_26.2 a j = M0 a j := fun a j h => (q_26 a j (wz_M_X8_refuse_X8_demand h))
      have c7_26 : Int32.toInt (e_26.2 P 7) = Int32.toInt (M0 P 7) := congrArg Int32.toInt (q_26 P 7 (wc_X8_refuse_7))
      have c8_26 : Int32.toInt (e_26.2 P 8) = Int32.toInt (M0 P 8) := congrArg Int32.toInt (q_26 P 8 (wc_X8_refuse_8))
      have c33_26 : Int32.toInt (e_26.2 P 33) = Int32.toInt (M0 P 33) := congrArg Int32.toInt (q_26 P 33 (wc_X8_refuse_33))
      have n_26 : nA P e_26.2 = nA P M0 := nA_congr (fun a j h => q_26 a j (wf_nA_X8_refuse h))
      have p_jB_26 : jB P e_26.2 := jB.mono p_jB (fun a j h => q_26 a j (wf_jB_X8_refuse h))
      obtain ⟨u0_jB_26, u1_jB_26, u2_jB_26, u3_jB_26, u4_jB_26, u5_jB_26⟩ := id p_jB_26
      have p_jS_26 : jS P e_26.2 := jS.mono p_jS (fun a j h => q_26 a j (wf_jS_X8_refuse h))
      obtain ⟨u0_jS_26, u1_jS_26, u2_jS_26, u3_jS_26, u4_jS_26, u5_jS_26, u6_jS_26, u7_jS_26⟩ := jS.ints p_jS_26
      have p_jR_26 : jR P e_26.2 := jR.mono p_jR (fun a j h => q_26 a j (wf_jR_X8_refuse h))
      have p_jK_26 : jK P e_26.2 := jK.mono p_jK (fun a j h => q_26 a j (wf_jK_X8_refuse h))
      have p_jT_26 : jT P e_26.2 := jT.mono p_jT (fun a j h => q_26 a j (wf_jT_X8_refuse h))
      obtain ⟨u0_jT_26, u1_jT_26, u2_jT_26, u3_jT_26, u4_jT_26, u5_jT_26⟩ := id p_jT_26
      exact ⟨_, rfl, k_26, ⟨p_jB_26, p_jS_26, p_jR_26, p_jK_26, p_jT_26⟩⟩
    · have i_21 : ¬ Int32.toInt e_18 = Int32.toInt (0 : Int32) := fun q => h_21 (Int32.toInt_inj.mp q)
      (try simp only [Int32.toInt_add, Int32.toInt_sub, Int32.toInt_mul, Int32.toInt_toInt64, Int64.toInt_add, z_m1, Int32.reduceToInt, Int64.reduceToInt, Int32.reduceToNatClampNeg, Int.bmod_def] at i_21)
      refine vI (vp_of (by first | omega | (simp only [Int32.toInt_add, Int32.toInt_sub, Int32.toInt_mul, Int32.toInt_toInt64, Int64.toInt_add, z_m1, Int32.reduceToInt, Int64.reduceToInt, Int32.reduceToNatClampNeg, Int.bmod_def, or_true, true_or, and_true, true_and] <;> omega)) (by first | omega | (simp only [Int32.toInt_add, Int32.toInt_sub, Int32.toInt_mul, Int32.toInt_toInt64, Int64.toInt_add, z_m1, Int32.reduceToInt, Int64.reduceToInt, Int32.reduceToNatClampNeg, Int.bmod_def, or_true, true_or, and_true, true_and] <;> omega))) ?_
      refine vIf (fun h_39 => ?_) (fun h_39 => ?_)
      · have i_39 := congrArg Int32.toInt h_39
        (try simp only [Int32.toInt_add, Int32.toInt_sub, Int32.toInt_mul, Int32.toInt_toInt64, Int64.toInt_add, z_m1, Int32.reduceToInt, Int64.reduceToInt, Int32.reduceToNatClampNeg, Int.bmod_def] at i_39)
        refine vB (v_X8_refuse) (fun e_44 f_44 q_44 => ?_)
        have k_44 : ∀ a j, ¬ WM_X8_demand P a j → e_44.2 a j = M0 a j := fun a j h => (q_44 a j (wz_M_X8_refuse_X8_demand h))
        have c7_44 : Int32.toInt (e_44.2 P 7) = Int32.toInt (M0 P 7) := congrArg Int32.toInt (q_44 P 7 (wc_X8_refuse_7))
        have c8_44 : Int32.toInt (e_44.2 P 8) = Int32.toInt (M0 P 8) := congrArg Int32.toInt (q_44 P 8 (wc_X8_refuse_8))
        have c33_44 : Int32.toInt (e_44.2 P 33) = Int32.toInt (M0 P 33) := congrArg Int32.toInt (q_44 P 33 (wc_X8_refuse_33))
        have n_44 : nA P e_44.2 = nA P M0 := nA_congr (fun a j h => q_44 a j (wf_nA_X8_refuse h))
        have p_jB_44 : jB P e_44.2 := jB.mono p_jB (fun a j h => q_44 a j (wf_jB_X8_refuse h))
        obtain ⟨u0_jB_44, u1_jB_44, u2_jB_44, u3_jB_44, u4_jB_44, u5_jB_44⟩ := id p_jB_44
        have p_jS_44 : jS P e_44.2 := jS.mono p_jS (fun a j h => q_44 a j (wf_jS_X8_refuse h))
        obtain ⟨u0_jS_44, u1_jS_44, u2_jS_44, u3_jS_44, u4_jS_44, u5_jS_44, u6_jS_44, u7_jS_44⟩ := jS.ints p_jS_44
        have p_jR_44 : jR P e_44.2 := jR.mono p_jR (fun a j h => q_44 a j (wf_jR_X8_refuse h))
        have p_jK_44 : jK P e_44.2 := jK.mono p_jK (fun a j h => q_44 a j (wf_jK_X8_refuse h))
        have p_jT_44 : jT P e_44.2 := jT.mono p_jT (fun a j h => q_44 a j (wf_jT_X8_refuse h))
        obtain ⟨u0_jT_44, u1_jT_44, u2_jT_44, u3_jT_44, u4_jT_44, u5_jT_44⟩ := id p_jT_44
        exact ⟨_, rfl, k_44, ⟨p_jB_44, p_jS_44, p_jR_44, p_jK_44, p_jT_44⟩⟩
      · have i_39 : ¬ Int32.toInt (M0 (P + 1) ((62 : Int32) + v0).toNatClampNeg) = Int32.toInt (0 : Int32) := fun q => h_39 (Int32.toInt_inj.mp q)
        (try simp only [Int32.toInt_add, Int32.toInt_sub, Int32.toInt_mul, Int32.toInt_toInt64, Int64.toInt_add, z_m1, Int32.reduceToInt, Int64.reduceToInt, Int32.reduceToNatClampNeg, Int.bmod_def] at i_39)
        refine vB (v_X8_laysApplicants p_jB p_jS) (fun e_49 f_49 q_49 => ?_)
        have k_49 : ∀ a j, ¬ WM_X8_demand P a j → e_49 a j = M0 a j := fun a j h => (q_49.1 a j (wz_M_X8_laysApplicants_X8_demand h))
        have c7_49 : Int32.toInt (e_49 P 7) = Int32.toInt (M0 P 7) := congrArg Int32.toInt (q_49.1 P 7 (wc_X8_laysApplicants_7))
        have c8_49 : Int32.toInt (e_49 P 8) = Int32.toInt (M0 P 8) := congrArg Int32.toInt (q_49.1 P 8 (wc_X8_laysApplicants_8))
        have n_49 : nA P e_49 = nA P M0 := nA_congr (fun a j h => q_49.1 a j (wf_nA_X8_laysApplicants h))
        have p_jS_49 : jS P e_49 := jS.mono p_jS (fun a j h => q_49.1 a j (wf_jS_X8_laysApplicants h))
        obtain ⟨u0_jS_49, u1_jS_49, u2_jS_49, u3_jS_49, u4_jS_49, u5_jS_49, u6_jS_49, u7_jS_49⟩ := jS.ints p_jS_49
        have p_jR_49 : jR P e_49 := jR.mono p_jR (fun a j h => q_49.1 a j (wf_jR_X8_laysApplicants h))
        have p_jK_49 : jK P e_49 := jK.mono p_jK (fun a j h => q_49.1 a j (wf_jK_X8_laysApplicants h))
        have p_jT_49 : jT P e_49 := jT.mono p_jT (fun a j h => q_49.1 a j (wf_jT_X8_laysApplicants h))
        obtain ⟨u0_jT_49, u1_jT_49, u2_jT_49, u3_jT_49, u4_jT_49, u5_jT_49⟩ := id p_jT_49
        obtain ⟨x0_49, x1_49, x2_49, x3_49⟩ := q_49.2
        obtain ⟨u0_jB_49, u1_jB_49, u2_jB_49, u3_jB_49, u4_jB_49, u5_jB_49⟩ := id x0_49
        (try simp only [Int32.toInt_add, Int32.toInt_sub, Int32.toInt_mul, Int32.toInt_toInt64, Int64.toInt_add, z_m1, Int32.reduceToInt, Int64.reduceToInt, Int32.reduceToNatClampNeg, Int.bmod_def] at x3_49)
        exact T_57 _ _ _ _ _ k_49 x0_49 x2_49 p_jK_49 x1_49 p_jR_49 p_jS_49 p_jT_49 (by first | omega | (simp only [Int32.toInt_add, Int32.toInt_sub, Int32.toInt_mul, Int32.toInt_toInt64, Int64.toInt_add, z_m1, Int32.reduceToInt, Int64.reduceToInt, Int32.reduceToNatClampNeg, Int.bmod_def, or_true, true_or, and_true, true_and] <;> omega)) (by first | omega | (simp only [Int32.toInt_add, Int32.toInt_sub, Int32.toInt_mul, Int32.toInt_toInt64, Int64.toInt_add, z_m1, Int32.reduceToInt, Int64.reduceToInt, Int32.reduceToNatClampNeg, Int.bmod_def, or_true, true_or, and_true, true_and] <;> omega)) (by first | omega | (simp only [Int32.toInt_add, Int32.toInt_sub, Int32.toInt_mul, Int32.toInt_toInt64, Int64.toInt_add, z_m1, Int32.reduceToInt, Int64.reduceToInt, Int32.reduceToNatClampNeg, Int.bmod_def, or_true, true_or, and_true, true_and] <;> omega)) (by first | assumption | (rw [q_49.1 _ _ (by unfold WM_X8_laysApplicants; omega)]; assumption))
def WM_X8_share (P : Nat) (a j : Nat) : Prop := (P + 11 ≤ a ∧ a < P + 18) ∨ (a = P ∧ (j = 6 ∨ j = 12 ∨ j = 33))
theorem wz_M_X8_term_X8_share {P a j : Nat} (h : ¬ WM_X8_share P a j) : ¬ WM_X8_term P a j := by unfold WM_X8_term; unfold WM_X8_share at h; omega
theorem wz_M_X8_refuse_X8_share {P a j : Nat} (h : ¬ WM_X8_share P a j) : ¬ WM_X8_refuse P a j := by unfold WM_X8_refuse; unfold WM_X8_share at h; omega
theorem wz_M_X8_isApplicant_X8_share {P a j : Nat} (h : ¬ WM_X8_share P a j) : ¬ WM_X8_isApplicant P a j := by unfold WM_X8_isApplicant; unfold WM_X8_share at h; omega
set_option maxRecDepth 100000 in
set_option maxHeartbeats 4000000 in
theorem v_X8_share {P : Nat} {v0 : Int32} {v1 : Int32} {M0 : zMt}  (p_jB : jB P M0) (p_jS : jS P M0) (p_jR : jR P M0) (p_jK : jK P M0) (p_jT : jT P M0) : ∃ r, D_X8_share P v0 v1 M0 = some r ∧ ((∀ a j, ¬ WM_X8_share P a j → r.2 a j = M0 a j) ∧ ((jB P r.2) ∧ (jS P r.2) ∧ (jR P r.2) ∧ (jK P r.2) ∧ (jT P r.2))) := by
  obtain ⟨u0_jB, u1_jB, u2_jB, u3_jB, u4_jB, u5_jB⟩ := id p_jB
  obtain ⟨u0_jS, u1_jS, u2_jS, u3_jS, u4_jS, u5_jS, u6_jS, u7_jS⟩ := jS.ints p_jS
  obtain ⟨u0_jT, u1_jT, u2_jT, u3_jT, u4_jT, u5_jT⟩ := id p_jT
  have TL_35 : ∀ u : Nat, ∀ (x1_35 : Int32) (x2_35 : Int32) (x3_35 : Int32) (x4_35 : Int32) (M_35 : zMt), (∀ a j, ¬ WM_X8_share P a j → M_35 a j = M0 a j) → (jB P M_35) → (jH P M_35) → (jK P M_35) → (jL P M_35) → (jR P M_35) → (jS P M_35) → (jT P M_35) → (0 ≤ Int32.toInt x4_35) → (Int32.toInt x4_35 ≤ 10) → (0 ≤ Int32.toInt x1_35 ∧ Int32.toInt x1_35 < Int32.toInt (M_35 P 33)) → (0 ≤ Int32.toInt x3_35) → (Int32.toInt x3_35 ≤ 401 * Int32.toInt x4_35) → (Int32.toInt x4_35 = 0 ∨ 1 ≤ Int32.toInt x3_35) → (2147483648 - Int32.toInt x4_35).toNat < u → ∃ r, D_X8_share_35 P u x1_35 x2_35 x3_35 x4_35 M_35 = some r ∧ ((∀ a j, ¬ WM_X8_share P a j → r.2 a j = M0 a j) ∧ ((jB P r.2) ∧ (jS P r.2) ∧ (jR P r.2) ∧ (jK P r.2) ∧ (jT P r.2))) := by
    intro u
    induction u with
    | zero => intro x1_35 x2_35 x3_35 x4_35 M_35 k_35 p_jB_35 p_jH_35 p_jK_35 p_jL_35 p_jR_35 p_jS_35 p_jT_35 f0_35 f1_35 f2_35 f3_35 f4_35 f5_35 hm_35; exact absurd hm_35 (Nat.not_lt_zero _)
    | succ u_35 ih_35 =>
      intro x1_35 x2_35 x3_35 x4_35 M_35 k_35 p_jB_35 p_jH_35 p_jK_35 p_jL_35 p_jR_35 p_jS_35 p_jT_35 f0_35 f1_35 f2_35 f3_35 f4_35 f5_35 hm_35
      obtain ⟨u0_jB_35, u1_jB_35, u2_jB_35, u3_jB_35, u4_jB_35, u5_jB_35⟩ := id p_jB_35
      obtain ⟨u0_jS_35, u1_jS_35, u2_jS_35, u3_jS_35, u4_jS_35, u5_jS_35, u6_jS_35, u7_jS_35⟩ := jS.ints p_jS_35
      obtain ⟨u0_jT_35, u1_jT_35, u2_jT_35, u3_jT_35, u4_jT_35, u5_jT_35⟩ := id p_jT_35
      rw [D_X8_share_35]
      refine vIf (fun h_41 => ?_) (fun h_41 => ?_)
      · have i_41 := Int32.le_iff_toInt_le.mp h_41
        (try simp only [Int32.toInt_add, Int32.toInt_sub, Int32.toInt_mul, Int32.toInt_toInt64, Int64.toInt_add, z_m1, Int32.reduceToInt, Int64.reduceToInt, Int32.reduceToNatClampNeg, Int.bmod_def] at i_41)
        refine vI (vp_of (by first | omega | (simp only [Int32.toInt_add, Int32.toInt_sub, Int32.toInt_mul, Int32.toInt_toInt64, Int64.toInt_add, z_m1, Int32.reduceToInt, Int64.reduceToInt, Int32.reduceToNatClampNeg, Int.bmod_def, or_true, true_or, and_true, true_and] <;> omega)) (by first | omega | (simp only [Int32.toInt_add, Int32.toInt_sub, Int32.toInt_mul, Int32.toInt_toInt64, Int64.toInt_add, z_m1, Int32.reduceToInt, Int64.reduceToInt, Int32.reduceToNatClampNeg, Int.bmod_def, or_true, true_or, and_true, true_and] <;> omega))) ?_
        obtain ⟨w0_66, w1_66, w2_66, w3_66, w4_66, w5_66⟩ := jL.el p_jL_35 (x := x1_35) (by first | omega | (simp only [Int32.toInt_add, Int32.toInt_sub, Int32.toInt_mul, Int32.toInt_toInt64, Int64.toInt_add, z_m1, Int32.reduceToInt, Int64.reduceToInt, Int32.reduceToNatClampNeg, Int.bmod_def, or_true, true_or, and_true, true_and] <;> omega)) (by first | omega | (simp only [Int32.toInt_add, Int32.toInt_sub, Int32.toInt_mul, Int32.toInt_toInt64, Int64.toInt_add, z_m1, Int32.reduceToInt, Int64.reduceToInt, Int32.reduceToNatClampNeg, Int.bmod_def, or_true, true_or, and_true, true_and] <;> omega))
        refine vB (v_X8_term (by first | omega | (simp only [Int32.toInt_add, Int32.toInt_sub, Int32.toInt_mul, Int32.toInt_toInt64, Int64.toInt_add, z_m1, Int32.reduceToInt, Int64.reduceToInt, Int32.reduceToNatClampNeg, Int.bmod_def, or_true, true_or, and_true, true_and] <;> omega))) (fun e_69 f_69 q_69 => ?_)
        have k_69 : ∀ a j, ¬ WM_X8_share P a j → e_69.2 a j = M0 a j := fun a j h => (q_69 a j (wz_M_X8_term_X8_share h)).trans (k_35 a j h)
        have c7_69 : Int32.toInt (e_69.2 P 7) = Int32.toInt (M_35 P 7) := congrArg Int32.toInt (q_69 P 7 (wc_X8_term_7))
        have c8_69 : Int32.toInt (e_69.2 P 8) = Int32.toInt (M_35 P 8) := congrArg Int32.toInt (q_69 P 8 (wc_X8_term_8))
        have c33_69 : Int32.toInt (e_69.2 P 33) = Int32.toInt (M_35 P 33) := congrArg Int32.toInt (q_69 P 33 (wc_X8_term_33))
        have n_69 : nA P e_69.2 = nA P M_35 := nA_congr (fun a j h => q_69 a j (wf_nA_X8_term h))
        have p_jB_69 : jB P e_69.2 := jB.mono p_jB_35 (fun a j h => q_69 a j (wf_jB_X8_term h))
        obtain ⟨u0_jB_69, u1_jB_69, u2_jB_69, u3_jB_69, u4_jB_69, u5_jB_69⟩ := id p_jB_69
        have p_jH_69 : jH P e_69.2 := jH.mono p_jH_35 (fun a j h => q_69 a j (wf_jH_X8_term h))
        have p_jK_69 : jK P e_69.2 := jK.mono p_jK_35 (fun a j h => q_69 a j (wf_jK_X8_term h))
        have p_jL_69 : jL P e_69.2 := jL.mono p_jL_35 (fun a j h => q_69 a j (wf_jL_X8_term h))
        have p_jR_69 : jR P e_69.2 := jR.mono p_jR_35 (fun a j h => q_69 a j (wf_jR_X8_term h))
        have p_jS_69 : jS P e_69.2 := jS.mono p_jS_35 (fun a j h => q_69 a j (wf_jS_X8_term h))
        obtain ⟨u0_jS_69, u1_jS_69, u2_jS_69, u3_jS_69, u4_jS_69, u5_jS_69, u6_jS_69, u7_jS_69⟩ := jS.ints p_jS_69
        have p_jT_69 : jT P e_69.2 := jT.mono p_jT_35 (fun a j h => q_69 a j (wf_jT_X8_term h))
        obtain ⟨u0_jT_69, u1_jT_69, u2_jT_69, u3_jT_69, u4_jT_69, u5_jT_69⟩ := id p_jT_69
        exact ⟨_, rfl, k_69, ⟨p_jB_69, p_jS_69, p_jR_69, p_jK_69, p_jT_69⟩⟩
      · have i_41 := Int32.lt_iff_toInt_lt.mp (Int32.not_le.mp h_41)
        (try simp only [Int32.toInt_add, Int32.toInt_sub, Int32.toInt_mul, Int32.toInt_toInt64, Int64.toInt_add, z_m1, Int32.reduceToInt, Int64.reduceToInt, Int32.reduceToNatClampNeg, Int.bmod_def] at i_41)
        refine vI (vp_of (by first | omega | (simp only [Int32.toInt_add, Int32.toInt_sub, Int32.toInt_mul, Int32.toInt_toInt64, Int64.toInt_add, z_m1, Int32.reduceToInt, Int64.reduceToInt, Int32.reduceToNatClampNeg, Int.bmod_def, or_true, true_or, and_true, true_and] <;> omega)) (by first | omega | (simp only [Int32.toInt_add, Int32.toInt_sub, Int32.toInt_mul, Int32.toInt_toInt64, Int64.toInt_add, z_m1, Int32.reduceToInt, Int64.reduceToInt, Int32.reduceToNatClampNeg, Int.bmod_def, or_true, true_or, and_true, true_and] <;> omega))) ?_
        obtain ⟨w0_51, w1_51, w2_51, w3_51, w4_51, w5_51⟩ := jL.el p_jL_35 (x := x4_35) (by first | omega | (simp only [Int32.toInt_add, Int32.toInt_sub, Int32.toInt_mul, Int32.toInt_toInt64, Int64.toInt_add, z_m1, Int32.reduceToInt, Int64.reduceToInt, Int32.reduceToNatClampNeg, Int.bmod_def, or_true, true_or, and_true, true_and] <;> omega)) (by first | omega | (simp only [Int32.toInt_add, Int32.toInt_sub, Int32.toInt_mul, Int32.toInt_toInt64, Int64.toInt_add, z_m1, Int32.reduceToInt, Int64.reduceToInt, Int32.reduceToNatClampNeg, Int.bmod_def, or_true, true_or, and_true, true_and] <;> omega))
        exact ih_35 _ _ _ _ _ k_35 p_jB_35 p_jH_35 p_jK_35 p_jL_35 p_jR_35 p_jS_35 p_jT_35 (by first | omega | (simp only [Int32.toInt_add, Int32.toInt_sub, Int32.toInt_mul, Int32.toInt_toInt64, Int64.toInt_add, z_m1, Int32.reduceToInt, Int64.reduceToInt, Int32.reduceToNatClampNeg, Int.bmod_def, or_true, true_or, and_true, true_and] <;> omega)) (by first | omega | (simp only [Int32.toInt_add, Int32.toInt_sub, Int32.toInt_mul, Int32.toInt_toInt64, Int64.toInt_add, z_m1, Int32.reduceToInt, Int64.reduceToInt, Int32.reduceToNatClampNeg, Int.bmod_def, or_true, true_or, and_true, true_and] <;> omega)) (by first | omega | (simp only [Int32.toInt_add, Int32.toInt_sub, Int32.toInt_mul, Int32.toInt_toInt64, Int64.toInt_add, z_m1, Int32.reduceToInt, Int64.reduceToInt, Int32.reduceToNatClampNeg, Int.bmod_def, or_true, true_or, and_true, true_and] <;> omega)) (by first | omega | (simp only [Int32.toInt_add, Int32.toInt_sub, Int32.toInt_mul, Int32.toInt_toInt64, Int64.toInt_add, z_m1, Int32.reduceToInt, Int64.reduceToInt, Int32.reduceToNatClampNeg, Int.bmod_def, or_true, true_or, and_true, true_and] <;> omega)) (by first | omega | (simp only [Int32.toInt_add, Int32.toInt_sub, Int32.toInt_mul, Int32.toInt_toInt64, Int64.toInt_add, z_m1, Int32.reduceToInt, Int64.reduceToInt, Int32.reduceToNatClampNeg, Int.bmod_def, or_true, true_or, and_true, true_and] <;> omega)) (by first | omega | (simp only [Int32.toInt_add, Int32.toInt_sub, Int32.toInt_mul, Int32.toInt_toInt64, Int64.toInt_add, z_m1, Int32.reduceToInt, Int64.reduceToInt, Int32.reduceToNatClampNeg, Int.bmod_def, or_true, true_or, and_true, true_and] <;> omega)) (z_up1 (by first | assumption | exact z_lt (by assumption) | exact z_lt2 (by assumption) | exact z_lt3 (by assumption) (by first | assumption | decide)) hm_35)
  have T_35 : ∀ (x1_35 : Int32) (x2_35 : Int32) (x3_35 : Int32) (x4_35 : Int32) (M_35 : zMt), (∀ a j, ¬ WM_X8_share P a j → M_35 a j = M0 a j) → (jB P M_35) → (jH P M_35) → (jK P M_35) → (jL P M_35) → (jR P M_35) → (jS P M_35) → (jT P M_35) → (0 ≤ Int32.toInt x4_35) → (Int32.toInt x4_35 ≤ 10) → (0 ≤ Int32.toInt x1_35 ∧ Int32.toInt x1_35 < Int32.toInt (M_35 P 33)) → (0 ≤ Int32.toInt x3_35) → (Int32.toInt x3_35 ≤ 401 * Int32.toInt x4_35) → (Int32.toInt x4_35 = 0 ∨ 1 ≤ Int32.toInt x3_35) → ∃ r, D_X8_share_35 P zFu x1_35 x2_35 x3_35 x4_35 M_35 = some r ∧ ((∀ a j, ¬ WM_X8_share P a j → r.2 a j = M0 a j) ∧ ((jB P r.2) ∧ (jS P r.2) ∧ (jR P r.2) ∧ (jK P r.2) ∧ (jT P r.2))) := fun x1_35 x2_35 x3_35 x4_35 M_35 k_35 p_jB_35 p_jH_35 p_jK_35 p_jL_35 p_jR_35 p_jS_35 p_jT_35 f0_35 f1_35 f2_35 f3_35 f4_35 f5_35 => TL_35 zFu x1_35 x2_35 x3_35 x4_35 M_35 k_35 p_jB_35 p_jH_35 p_jK_35 p_jL_35 p_jR_35 p_jS_35 p_jT_35 f0_35 f1_35 f2_35 f3_35 f4_35 f5_35 (zFu_up _)
  unfold D_X8_share
  refine vB (v_X8_isFrom) (fun e_4 f_4 q_4 => ?_)
  have b_4 := q_4.1
  have x0_4 := q_4.2
  (try simp only [Int32.toInt_add, Int32.toInt_sub, Int32.toInt_mul, Int32.toInt_toInt64, Int64.toInt_add, z_m1, Int32.reduceToInt, Int64.reduceToInt, Int32.reduceToNatClampNeg, Int.bmod_def] at x0_4)
  refine vIf (fun h_7 => ?_) (fun h_7 => ?_)
  · have i_7 := congrArg Int32.toInt h_7
    (try simp only [Int32.toInt_add, Int32.toInt_sub, Int32.toInt_mul, Int32.toInt_toInt64, Int64.toInt_add, z_m1, Int32.reduceToInt, Int64.reduceToInt, Int32.reduceToNatClampNeg, Int.bmod_def] at i_7)
    refine vB (v_X8_refuse) (fun e_12 f_12 q_12 => ?_)
    have k_12 : ∀ a j, ¬ WM_X8_share P a j → e_12.2 a j = M0 a j := fun a j h => (q_12 a j (wz_M_X8_refuse_X8_share h))
    have c7_12 : Int32.toInt (e_12.2 P 7) = Int32.toInt (M0 P 7) := congrArg Int32.toInt (q_12 P 7 (wc_X8_refuse_7))
    have c8_12 : Int32.toInt (e_12.2 P 8) = Int32.toInt (M0 P 8) := congrArg Int32.toInt (q_12 P 8 (wc_X8_refuse_8))
    have c33_12 : Int32.toInt (e_12.2 P 33) = Int32.toInt (M0 P 33) := congrArg Int32.toInt (q_12 P 33 (wc_X8_refuse_33))
    have n_12 : nA P e_12.2 = nA P M0 := nA_congr (fun a j h => q_12 a j (wf_nA_X8_refuse h))
    have p_jB_12 : jB P e_12.2 := jB.mono p_jB (fun a j h => q_12 a j (wf_jB_X8_refuse h))
    obtain ⟨u0_jB_12, u1_jB_12, u2_jB_12, u3_jB_12, u4_jB_12, u5_jB_12⟩ := id p_jB_12
    have p_jS_12 : jS P e_12.2 := jS.mono p_jS (fun a j h => q_12 a j (wf_jS_X8_refuse h))
    obtain ⟨u0_jS_12, u1_jS_12, u2_jS_12, u3_jS_12, u4_jS_12, u5_jS_12, u6_jS_12, u7_jS_12⟩ := jS.ints p_jS_12
    have p_jR_12 : jR P e_12.2 := jR.mono p_jR (fun a j h => q_12 a j (wf_jR_X8_refuse h))
    have p_jK_12 : jK P e_12.2 := jK.mono p_jK (fun a j h => q_12 a j (wf_jK_X8_refuse h))
    have p_jT_12 : jT P e_12.2 := jT.mono p_jT (fun a j h => q_12 a j (wf_jT_X8_refuse h))
    obtain ⟨u0_jT_12, u1_jT_12, u2_jT_12, u3_jT_12, u4_jT_12, u5_jT_12⟩ := id p_jT_12
    exact ⟨_, rfl, k_12, ⟨p_jB_12, p_jS_12, p_jR_12, p_jK_12, p_jT_12⟩⟩
  · have i_7 : ¬ Int32.toInt e_4 = Int32.toInt (0 : Int32) := fun q => h_7 (Int32.toInt_inj.mp q)
    (try simp only [Int32.toInt_add, Int32.toInt_sub, Int32.toInt_mul, Int32.toInt_toInt64, Int64.toInt_add, z_m1, Int32.reduceToInt, Int64.reduceToInt, Int32.reduceToNatClampNeg, Int.bmod_def] at i_7)
    refine vB (v_X8_isApplicant p_jB p_jS) (fun e_18 f_18 q_18 => ?_)
    have k_18 : ∀ a j, ¬ WM_X8_share P a j → e_18.2 a j = M0 a j := fun a j h => (q_18.1 a j (wz_M_X8_isApplicant_X8_share h))
    have b_18 := q_18.2.1
    have c7_18 : Int32.toInt (e_18.2 P 7) = Int32.toInt (M0 P 7) := congrArg Int32.toInt (q_18.1 P 7 (wc_X8_isApplicant_7))
    have c8_18 : Int32.toInt (e_18.2 P 8) = Int32.toInt (M0 P 8) := congrArg Int32.toInt (q_18.1 P 8 (wc_X8_isApplicant_8))
    have n_18 : nA P e_18.2 = nA P M0 := nA_congr (fun a j h => q_18.1 a j (wf_nA_X8_isApplicant h))
    have p_jS_18 : jS P e_18.2 := jS.mono p_jS (fun a j h => q_18.1 a j (wf_jS_X8_isApplicant h))
    obtain ⟨u0_jS_18, u1_jS_18, u2_jS_18, u3_jS_18, u4_jS_18, u5_jS_18, u6_jS_18, u7_jS_18⟩ := jS.ints p_jS_18
    have p_jR_18 : jR P e_18.2 := jR.mono p_jR (fun a j h => q_18.1 a j (wf_jR_X8_isApplicant h))
    have p_jK_18 : jK P e_18.2 := jK.mono p_jK (fun a j h => q_18.1 a j (wf_jK_X8_isApplicant h))
    have p_jT_18 : jT P e_18.2 := jT.mono p_jT (fun a j h => q_18.1 a j (wf_jT_X8_isApplicant h))
    obtain ⟨u0_jT_18, u1_jT_18, u2_jT_18, u3_jT_18, u4_jT_18, u5_jT_18⟩ := id p_jT_18
    obtain ⟨x0_18, x1_18, x2_18, x3_18, x4_18⟩ := q_18.2.2
    obtain ⟨u0_jB_18, u1_jB_18, u2_jB_18, u3_jB_18, u4_jB_18, u5_jB_18⟩ := id x0_18
    (try simp only [Int32.toInt_add, Int32.toInt_sub, Int32.toInt_mul, Int32.toInt_toInt64, Int64.toInt_add, z_m1, Int32.reduceToInt, Int64.reduceToInt, Int32.reduceToNatClampNeg, Int.bmod_def] at x3_18)
    (try simp only [Int32.toInt_add, Int32.toInt_sub, Int32.toInt_mul, Int32.toInt_toInt64, Int64.toInt_add, z_m1, Int32.reduceToInt, Int64.reduceToInt, Int32.reduceToNatClampNeg, Int.bmod_def] at x4_18)
    refine vIf (fun h_21 => ?_) (fun h_21 => ?_)
    · have i_21 := congrArg Int32.toInt h_21
      (try simp only [Int32.toInt_add, Int32.toInt_sub, Int32.toInt_mul, Int32.toInt_toInt64, Int64.toInt_add, z_m1, Int32.reduceToInt, Int64.reduceToInt, Int32.reduceToNatClampNeg, Int.bmod_def] at i_21)
      refine vB (v_X8_refuse) (fun e_26 f_26 q_26 => ?_)
      have k_26 : ∀ a j, ¬ WM_X8_share P a j → e_26.2 a j = M0 a j := fun a j h => (q_26 a j (wz_M_X8_refuse_X8_share h)).trans (k_18 a j h)
      have c7_26 : Int32.toInt (e_26.2 P 7) = Int32.toInt (e_18.2 P 7) := congrArg Int32.toInt (q_26 P 7 (wc_X8_refuse_7))
      have c8_26 : Int32.toInt (e_26.2 P 8) = Int32.toInt (e_18.2 P 8) := congrArg Int32.toInt (q_26 P 8 (wc_X8_refuse_8))
      have c33_26 : Int32.toInt (e_26.2 P 33) = Int32.toInt (e_18.2 P 33) := congrArg Int32.toInt (q_26 P 33 (wc_X8_refuse_33))
      have n_26 : nA P e_26.2 = nA P e_18.2 := nA_congr (fun a j h => q_26 a j (wf_nA_X8_refuse h))
      have p_jS_26 : jS P e_26.2 := jS.mono p_jS_18 (fun a j h => q_26 a j (wf_jS_X8_refuse h))
      obtain ⟨u0_jS_26, u1_jS_26, u2_jS_26, u3_jS_26, u4_jS_26, u5_jS_26, u6_jS_26, u7_jS_26⟩ := jS.ints p_jS_26
      have p_jR_26 : jR P e_26.2 := jR.mono p_jR_18 (fun a j h => q_26 a j (wf_jR_X8_refuse h))
      have p_jK_26 : jK P e_26.2 := jK.mono p_jK_18 (fun a j h => q_26 a j (wf_jK_X8_refuse h))
      have p_jT_26 : jT P e_26.2 := jT.mono p_jT_18 (fun a j h => q_26 a j (wf_jT_X8_refuse h))
      obtain ⟨u0_jT_26, u1_jT_26, u2_jT_26, u3_jT_26, u4_jT_26, u5_jT_26⟩ := id p_jT_26
      have p_jB_26 : jB P e_26.2 := jB.mono x0_18 (fun a j h => q_26 a j (wf_jB_X8_refuse h))
      obtain ⟨u0_jB_26, u1_jB_26, u2_jB_26, u3_jB_26, u4_jB_26, u5_jB_26⟩ := id p_jB_26
      have p_jL_26 : jL P e_26.2 := jL.mono x1_18 (fun a j h => q_26 a j (wf_jL_X8_refuse h))
      have p_jH_26 : jH P e_26.2 := jH.mono x2_18 (fun a j h => q_26 a j (wf_jH_X8_refuse h))
      exact ⟨_, rfl, k_26, ⟨p_jB_26, p_jS_26, p_jR_26, p_jK_26, p_jT_26⟩⟩
    · have i_21 : ¬ Int32.toInt e_18.1 = Int32.toInt (0 : Int32) := fun q => h_21 (Int32.toInt_inj.mp q)
      (try simp only [Int32.toInt_add, Int32.toInt_sub, Int32.toInt_mul, Int32.toInt_toInt64, Int64.toInt_add, z_m1, Int32.reduceToInt, Int64.reduceToInt, Int32.reduceToNatClampNeg, Int.bmod_def] at i_21)
      exact T_35 _ _ _ _ _ k_18 x0_18 x2_18 p_jK_18 x1_18 p_jR_18 p_jS_18 p_jT_18 (by first | omega | (simp only [Int32.toInt_add, Int32.toInt_sub, Int32.toInt_mul, Int32.toInt_toInt64, Int64.toInt_add, z_m1, Int32.reduceToInt, Int64.reduceToInt, Int32.reduceToNatClampNeg, Int.bmod_def, or_true, true_or, and_true, true_and] <;> omega)) (by first | omega | (simp only [Int32.toInt_add, Int32.toInt_sub, Int32.toInt_mul, Int32.toInt_toInt64, Int64.toInt_add, z_m1, Int32.reduceToInt, Int64.reduceToInt, Int32.reduceToNatClampNeg, Int.bmod_def, or_true, true_or, and_true, true_and] <;> omega)) (by first | omega | (simp only [Int32.toInt_add, Int32.toInt_sub, Int32.toInt_mul, Int32.toInt_toInt64, Int64.toInt_add, z_m1, Int32.reduceToInt, Int64.reduceToInt, Int32.reduceToNatClampNeg, Int.bmod_def, or_true, true_or, and_true, true_and] <;> omega)) (by first | omega | (simp only [Int32.toInt_add, Int32.toInt_sub, Int32.toInt_mul, Int32.toInt_toInt64, Int64.toInt_add, z_m1, Int32.reduceToInt, Int64.reduceToInt, Int32.reduceToNatClampNeg, Int.bmod_def, or_true, true_or, and_true, true_and] <;> omega)) (by first | omega | (simp only [Int32.toInt_add, Int32.toInt_sub, Int32.toInt_mul, Int32.toInt_toInt64, Int64.toInt_add, z_m1, Int32.reduceToInt, Int64.reduceToInt, Int32.reduceToNatClampNeg, Int.bmod_def, or_true, true_or, and_true, true_and] <;> omega)) (by first | omega | (simp only [Int32.toInt_add, Int32.toInt_sub, Int32.toInt_mul, Int32.toInt_toInt64, Int64.toInt_add, z_m1, Int32.reduceToInt, Int64.reduceToInt, Int32.reduceToNatClampNeg, Int.bmod_def, or_true, true_or, and_true, true_and] <;> omega))
def WM_X8_gets (P : Nat) (a j : Nat) : Prop := (P + 19 ≤ a ∧ a < P + 23)
theorem wq_X8_gets_M19_r {P a j : Nat} (h : ¬ WM_X8_gets P a j) : ¬ a = P + 19 := by unfold WM_X8_gets at h; omega
theorem wq_pne0 {P k : Nat} (h : 0 < k) : ¬ P = P + k := by omega
theorem wf_nA_M19_r {P a j : Nat} (h : (a = P + 1 ∨ (a = P ∧ j = 8))) : ¬ a = P + 19 := by omega
theorem wf_jB_M19_r {P a j : Nat} (h : (a = P ∧ (j = 7 ∨ j = 8 ∨ j = 33))) : ¬ a = P + 19 := by omega
theorem wf_jL_M19_r {P a j : Nat} (h : ((a = P ∧ j = 33) ∨ a = P + 13 ∨ a = P + 14 ∨ a = P + 17)) : ¬ a = P + 19 := by omega
theorem wq_X8_gets_M20_r {P a j : Nat} (h : ¬ WM_X8_gets P a j) : ¬ a = P + 20 := by unfold WM_X8_gets at h; omega
theorem wf_nA_M20_r {P a j : Nat} (h : (a = P + 1 ∨ (a = P ∧ j = 8))) : ¬ a = P + 20 := by omega
theorem wf_jB_M20_r {P a j : Nat} (h : (a = P ∧ (j = 7 ∨ j = 8 ∨ j = 33))) : ¬ a = P + 20 := by omega
theorem wf_jL_M20_r {P a j : Nat} (h : ((a = P ∧ j = 33) ∨ a = P + 13 ∨ a = P + 14 ∨ a = P + 17)) : ¬ a = P + 20 := by omega
theorem wf_jR_M20_r {P a : Nat} (h : a = P + 19) : ¬ a = P + 20 := by omega
theorem wq_X8_gets_M21_r {P a j : Nat} (h : ¬ WM_X8_gets P a j) : ¬ a = P + 21 := by unfold WM_X8_gets at h; omega
theorem wf_nA_M21_r {P a j : Nat} (h : (a = P + 1 ∨ (a = P ∧ j = 8))) : ¬ a = P + 21 := by omega
theorem wf_jB_M21_r {P a j : Nat} (h : (a = P ∧ (j = 7 ∨ j = 8 ∨ j = 33))) : ¬ a = P + 21 := by omega
theorem wf_jL_M21_r {P a j : Nat} (h : ((a = P ∧ j = 33) ∨ a = P + 13 ∨ a = P + 14 ∨ a = P + 17)) : ¬ a = P + 21 := by omega
theorem wf_jR_M21_r {P a : Nat} (h : a = P + 19) : ¬ a = P + 21 := by omega
theorem wq_X8_gets_M22_r {P a j : Nat} (h : ¬ WM_X8_gets P a j) : ¬ a = P + 22 := by unfold WM_X8_gets at h; omega
theorem wf_nA_M22_r {P a j : Nat} (h : (a = P + 1 ∨ (a = P ∧ j = 8))) : ¬ a = P + 22 := by omega
theorem wf_jB_M22_r {P a j : Nat} (h : (a = P ∧ (j = 7 ∨ j = 8 ∨ j = 33))) : ¬ a = P + 22 := by omega
theorem wf_jL_M22_r {P a j : Nat} (h : ((a = P ∧ j = 33) ∨ a = P + 13 ∨ a = P + 14 ∨ a = P + 17)) : ¬ a = P + 22 := by omega
theorem wf_jR_M22_r {P a : Nat} (h : a = P + 19) : ¬ a = P + 22 := by omega
set_option maxRecDepth 100000 in
set_option maxHeartbeats 4000000 in
theorem v_X8_gets {P : Nat} {v0 : Int32} {v1 : Int32} {v2 : Int32} {M0 : zMt}  (p_jB : jB P M0) (p_jL : jL P M0) (p_jR : jR P M0) (i_3 : 0 ≤ Int32.toInt v0) (i_4 : Int32.toInt v0 < Int32.toInt (M0 P 33)) (i_5 : 0 ≤ Int32.toInt v1) (i_6 : Int32.toInt v1 < 5) : ∃ r, D_X8_gets P v0 v1 v2 M0 = some r ∧ ((∀ a j, ¬ WM_X8_gets P a j → r a j = M0 a j) ∧ ((jR P r))) := by
  obtain ⟨u0_jB, u1_jB, u2_jB, u3_jB, u4_jB, u5_jB⟩ := id p_jB
  unfold D_X8_gets
  refine vI (vp_of (by first | omega | (simp only [Int32.toInt_add, Int32.toInt_sub, Int32.toInt_mul, Int32.toInt_toInt64, Int64.toInt_add, z_m1, Int32.reduceToInt, Int64.reduceToInt, Int32.reduceToNatClampNeg, Int.bmod_def, or_true, true_or, and_true, true_and] <;> omega)) (by first | omega | (simp only [Int32.toInt_add, Int32.toInt_sub, Int32.toInt_mul, Int32.toInt_toInt64, Int64.toInt_add, z_m1, Int32.reduceToInt, Int64.reduceToInt, Int32.reduceToNatClampNeg, Int.bmod_def, or_true, true_or, and_true, true_and] <;> omega))) ?_
  refine vLm (W := WM_X8_gets P) (fun a j h => (zu_ne (fun z => wq_X8_gets_M19_r h z.1))) (fun M_6 f_6 k_6 => ?_)
  have c7_6 : Int32.toInt (M_6 P 7) = Int32.toInt (M0 P 7) := congrArg Int32.toInt ((congrFun (congrFun f_6.symm P) 7).trans (zu_ne (fun z => wq_pne0 (by decide) z.1)))
  have c8_6 : Int32.toInt (M_6 P 8) = Int32.toInt (M0 P 8) := congrArg Int32.toInt ((congrFun (congrFun f_6.symm P) 8).trans (zu_ne (fun z => wq_pne0 (by decide) z.1)))
  have c33_6 : Int32.toInt (M_6 P 33) = Int32.toInt (M0 P 33) := congrArg Int32.toInt ((congrFun (congrFun f_6.symm P) 33).trans (zu_ne (fun z => wq_pne0 (by decide) z.1)))
  have n_6 : nA P M_6 = nA P M0 := nA_congr (fun a j h => (congrFun (congrFun f_6.symm a) j).trans (zu_ne (fun z => wf_nA_M19_r h z.1)))
  have p_jB_6 : jB P M_6 := jB.mono p_jB (fun a j h => (congrFun (congrFun f_6.symm a) j).trans (zu_ne (fun z => wf_jB_M19_r h z.1)))
  obtain ⟨u0_jB_6, u1_jB_6, u2_jB_6, u3_jB_6, u4_jB_6, u5_jB_6⟩ := id p_jB_6
  have p_jL_6 : jL P M_6 := jL.mono p_jL (fun a j h => (congrFun (congrFun f_6.symm a) j).trans (zu_ne (fun z => wf_jL_M19_r h z.1)))
  have p_jR_6 : jR P M_6 := jR.put p_jR f_6 (by first | omega | (simp only [Int32.toInt_add, Int32.toInt_sub, Int32.toInt_mul, Int32.toInt_toInt64, Int64.toInt_add, z_m1, Int32.reduceToInt, Int64.reduceToInt, Int32.reduceToNatClampNeg, Int.bmod_def, or_true, true_or, and_true, true_and] <;> omega)) (by first | omega | (simp only [Int32.toInt_add, Int32.toInt_sub, Int32.toInt_mul, Int32.toInt_toInt64, Int64.toInt_add, z_m1, Int32.reduceToInt, Int64.reduceToInt, Int32.reduceToNatClampNeg, Int.bmod_def, or_true, true_or, and_true, true_and] <;> omega))
  refine vI (vp_of (by first | omega | (simp only [Int32.toInt_add, Int32.toInt_sub, Int32.toInt_mul, Int32.toInt_toInt64, Int64.toInt_add, z_m1, Int32.reduceToInt, Int64.reduceToInt, Int32.reduceToNatClampNeg, Int.bmod_def, or_true, true_or, and_true, true_and] <;> omega)) (by first | omega | (simp only [Int32.toInt_add, Int32.toInt_sub, Int32.toInt_mul, Int32.toInt_toInt64, Int64.toInt_add, z_m1, Int32.reduceToInt, Int64.reduceToInt, Int32.reduceToNatClampNeg, Int.bmod_def, or_true, true_or, and_true, true_and] <;> omega))) ?_
  refine vLm (W := WM_X8_gets P) (fun a j h => (zu_ne (fun z => wq_X8_gets_M20_r h z.1)).trans (k_6 a j h)) (fun M_13 f_13 k_13 => ?_)
  have c7_13 : Int32.toInt (M_13 P 7) = Int32.toInt (M_6 P 7) := congrArg Int32.toInt ((congrFun (congrFun f_13.symm P) 7).trans (zu_ne (fun z => wq_pne0 (by decide) z.1)))
  have c8_13 : Int32.toInt (M_13 P 8) = Int32.toInt (M_6 P 8) := congrArg Int32.toInt ((congrFun (congrFun f_13.symm P) 8).trans (zu_ne (fun z => wq_pne0 (by decide) z.1)))
  have c33_13 : Int32.toInt (M_13 P 33) = Int32.toInt (M_6 P 33) := congrArg Int32.toInt ((congrFun (congrFun f_13.symm P) 33).trans (zu_ne (fun z => wq_pne0 (by decide) z.1)))
  have n_13 : nA P M_13 = nA P M_6 := nA_congr (fun a j h => (congrFun (congrFun f_13.symm a) j).trans (zu_ne (fun z => wf_nA_M20_r h z.1)))
  have p_jB_13 : jB P M_13 := jB.mono p_jB_6 (fun a j h => (congrFun (congrFun f_13.symm a) j).trans (zu_ne (fun z => wf_jB_M20_r h z.1)))
  obtain ⟨u0_jB_13, u1_jB_13, u2_jB_13, u3_jB_13, u4_jB_13, u5_jB_13⟩ := id p_jB_13
  have p_jL_13 : jL P M_13 := jL.mono p_jL_6 (fun a j h => (congrFun (congrFun f_13.symm a) j).trans (zu_ne (fun z => wf_jL_M20_r h z.1)))
  have p_jR_13 : jR P M_13 := jR.mono p_jR_6 (fun a j h => (congrFun (congrFun f_13.symm a) j).trans (zu_ne (fun z => wf_jR_M20_r h z.1)))
  refine vI (vp_of (by first | omega | (simp only [Int32.toInt_add, Int32.toInt_sub, Int32.toInt_mul, Int32.toInt_toInt64, Int64.toInt_add, z_m1, Int32.reduceToInt, Int64.reduceToInt, Int32.reduceToNatClampNeg, Int.bmod_def, or_true, true_or, and_true, true_and] <;> omega)) (by first | omega | (simp only [Int32.toInt_add, Int32.toInt_sub, Int32.toInt_mul, Int32.toInt_toInt64, Int64.toInt_add, z_m1, Int32.reduceToInt, Int64.reduceToInt, Int32.reduceToNatClampNeg, Int.bmod_def, or_true, true_or, and_true, true_and] <;> omega))) ?_
  refine vI (vp_of (by first | omega | (simp only [Int32.toInt_add, Int32.toInt_sub, Int32.toInt_mul, Int32.toInt_toInt64, Int64.toInt_add, z_m1, Int32.reduceToInt, Int64.reduceToInt, Int32.reduceToNatClampNeg, Int.bmod_def, or_true, true_or, and_true, true_and] <;> omega)) (by first | omega | (simp only [Int32.toInt_add, Int32.toInt_sub, Int32.toInt_mul, Int32.toInt_toInt64, Int64.toInt_add, z_m1, Int32.reduceToInt, Int64.reduceToInt, Int32.reduceToNatClampNeg, Int.bmod_def, or_true, true_or, and_true, true_and] <;> omega))) ?_
  obtain ⟨w0_26, w1_26, w2_26, w3_26, w4_26, w5_26⟩ := jL.el p_jL_13 (x := v0) (by first | omega | (simp only [Int32.toInt_add, Int32.toInt_sub, Int32.toInt_mul, Int32.toInt_toInt64, Int64.toInt_add, z_m1, Int32.reduceToInt, Int64.reduceToInt, Int32.reduceToNatClampNeg, Int.bmod_def, or_true, true_or, and_true, true_and] <;> omega)) (by first | omega | (simp only [Int32.toInt_add, Int32.toInt_sub, Int32.toInt_mul, Int32.toInt_toInt64, Int64.toInt_add, z_m1, Int32.reduceToInt, Int64.reduceToInt, Int32.reduceToNatClampNeg, Int.bmod_def, or_true, true_or, and_true, true_and] <;> omega))
  refine vI (vp_of (by first | omega | (simp only [Int32.toInt_add, Int32.toInt_sub, Int32.toInt_mul, Int32.toInt_toInt64, Int64.toInt_add, z_m1, Int32.reduceToInt, Int64.reduceToInt, Int32.reduceToNatClampNeg, Int.bmod_def, or_true, true_or, and_true, true_and] <;> omega)) (by first | omega | (simp only [Int32.toInt_add, Int32.toInt_sub, Int32.toInt_mul, Int32.toInt_toInt64, Int64.toInt_add, z_m1, Int32.reduceToInt, Int64.reduceToInt, Int32.reduceToNatClampNeg, Int.bmod_def, or_true, true_or, and_true, true_and] <;> omega))) ?_
  refine vLm (W := WM_X8_gets P) (fun a j h => (zu_ne (fun z => wq_X8_gets_M21_r h z.1)).trans (k_13 a j h)) (fun M_28 f_28 k_28 => ?_)
  have c7_28 : Int32.toInt (M_28 P 7) = Int32.toInt (M_13 P 7) := congrArg Int32.toInt ((congrFun (congrFun f_28.symm P) 7).trans (zu_ne (fun z => wq_pne0 (by decide) z.1)))
  have c8_28 : Int32.toInt (M_28 P 8) = Int32.toInt (M_13 P 8) := congrArg Int32.toInt ((congrFun (congrFun f_28.symm P) 8).trans (zu_ne (fun z => wq_pne0 (by decide) z.1)))
  have c33_28 : Int32.toInt (M_28 P 33) = Int32.toInt (M_13 P 33) := congrArg Int32.toInt ((congrFun (congrFun f_28.symm P) 33).trans (zu_ne (fun z => wq_pne0 (by decide) z.1)))
  have n_28 : nA P M_28 = nA P M_13 := nA_congr (fun a j h => (congrFun (congrFun f_28.symm a) j).trans (zu_ne (fun z => wf_nA_M21_r h z.1)))
  have p_jB_28 : jB P M_28 := jB.mono p_jB_13 (fun a j h => (congrFun (congrFun f_28.symm a) j).trans (zu_ne (fun z => wf_jB_M21_r h z.1)))
  obtain ⟨u0_jB_28, u1_jB_28, u2_jB_28, u3_jB_28, u4_jB_28, u5_jB_28⟩ := id p_jB_28
  have p_jL_28 : jL P M_28 := jL.mono p_jL_13 (fun a j h => (congrFun (congrFun f_28.symm a) j).trans (zu_ne (fun z => wf_jL_M21_r h z.1)))
  have p_jR_28 : jR P M_28 := jR.mono p_jR_13 (fun a j h => (congrFun (congrFun f_28.symm a) j).trans (zu_ne (fun z => wf_jR_M21_r h z.1)))
  refine vI (vp_of (by first | omega | (simp only [Int32.toInt_add, Int32.toInt_sub, Int32.toInt_mul, Int32.toInt_toInt64, Int64.toInt_add, z_m1, Int32.reduceToInt, Int64.reduceToInt, Int32.reduceToNatClampNeg, Int.bmod_def, or_true, true_or, and_true, true_and] <;> omega)) (by first | omega | (simp only [Int32.toInt_add, Int32.toInt_sub, Int32.toInt_mul, Int32.toInt_toInt64, Int64.toInt_add, z_m1, Int32.reduceToInt, Int64.reduceToInt, Int32.reduceToNatClampNeg, Int.bmod_def, or_true, true_or, and_true, true_and] <;> omega))) ?_
  refine vI (vp_of (by first | omega | (simp only [Int32.toInt_add, Int32.toInt_sub, Int32.toInt_mul, Int32.toInt_toInt64, Int64.toInt_add, z_m1, Int32.reduceToInt, Int64.reduceToInt, Int32.reduceToNatClampNeg, Int.bmod_def, or_true, true_or, and_true, true_and] <;> omega)) (by first | omega | (simp only [Int32.toInt_add, Int32.toInt_sub, Int32.toInt_mul, Int32.toInt_toInt64, Int64.toInt_add, z_m1, Int32.reduceToInt, Int64.reduceToInt, Int32.reduceToNatClampNeg, Int.bmod_def, or_true, true_or, and_true, true_and] <;> omega))) ?_
  refine vI (vp_of (by first | omega | (simp only [Int32.toInt_add, Int32.toInt_sub, Int32.toInt_mul, Int32.toInt_toInt64, Int64.toInt_add, z_m1, Int32.reduceToInt, Int64.reduceToInt, Int32.reduceToNatClampNeg, Int.bmod_def, or_true, true_or, and_true, true_and] <;> omega)) (by first | omega | (simp only [Int32.toInt_add, Int32.toInt_sub, Int32.toInt_mul, Int32.toInt_toInt64, Int64.toInt_add, z_m1, Int32.reduceToInt, Int64.reduceToInt, Int32.reduceToNatClampNeg, Int.bmod_def, or_true, true_or, and_true, true_and] <;> omega))) ?_
  refine vLm (W := WM_X8_gets P) (fun a j h => (zu_ne (fun z => wq_X8_gets_M22_r h z.1)).trans (k_28 a j h)) (fun M_43 f_43 k_43 => ?_)
  have c7_43 : Int32.toInt (M_43 P 7) = Int32.toInt (M_28 P 7) := congrArg Int32.toInt ((congrFun (congrFun f_43.symm P) 7).trans (zu_ne (fun z => wq_pne0 (by decide) z.1)))
  have c8_43 : Int32.toInt (M_43 P 8) = Int32.toInt (M_28 P 8) := congrArg Int32.toInt ((congrFun (congrFun f_43.symm P) 8).trans (zu_ne (fun z => wq_pne0 (by decide) z.1)))
  have c33_43 : Int32.toInt (M_43 P 33) = Int32.toInt (M_28 P 33) := congrArg Int32.toInt ((congrFun (congrFun f_43.symm P) 33).trans (zu_ne (fun z => wq_pne0 (by decide) z.1)))
  have n_43 : nA P M_43 = nA P M_28 := nA_congr (fun a j h => (congrFun (congrFun f_43.symm a) j).trans (zu_ne (fun z => wf_nA_M22_r h z.1)))
  have p_jB_43 : jB P M_43 := jB.mono p_jB_28 (fun a j h => (congrFun (congrFun f_43.symm a) j).trans (zu_ne (fun z => wf_jB_M22_r h z.1)))
  obtain ⟨u0_jB_43, u1_jB_43, u2_jB_43, u3_jB_43, u4_jB_43, u5_jB_43⟩ := id p_jB_43
  have p_jL_43 : jL P M_43 := jL.mono p_jL_28 (fun a j h => (congrFun (congrFun f_43.symm a) j).trans (zu_ne (fun z => wf_jL_M22_r h z.1)))
  have p_jR_43 : jR P M_43 := jR.mono p_jR_28 (fun a j h => (congrFun (congrFun f_43.symm a) j).trans (zu_ne (fun z => wf_jR_M22_r h z.1)))
  exact ⟨_, rfl, k_43, p_jR_43⟩
set_option maxRecDepth 100000 in
set_option maxHeartbeats 4000000 in
theorem v_X8_fits {P : Nat} {M : zMt} {v0 : Int32} {v1 : Int32} {v2 : Int32}  (i_0 : 0 ≤ Int32.toInt v0) (i_1 : Int32.toInt v0 < 10) (i_2 : 0 ≤ Int32.toInt v1) (i_3 : Int32.toInt v1 < 5) : ∃ r, D_X8_fits P M v0 v1 v2 = some r ∧ ((r = 0 ∨ r = 1)) := by
  have T_30 : ∀ (y0_30 : Int32), (y0_30 = 0 ∨ y0_30 = 1) → ∃ r, D_X8_fits_30 P M y0_30 = some r ∧ ((r = 0 ∨ r = 1)) := by
    intro y0_30 f0_30
    unfold D_X8_fits_30
    exact ⟨_, rfl, (by first | exact Or.inl rfl | exact Or.inr rfl | assumption)⟩
  have T_29 : ∃ r, D_X8_fits_29 P M = some r ∧ ((r = 0 ∨ r = 1)) := by
    unfold D_X8_fits_29
    exact T_30 _ (by first | exact Or.inl rfl | exact Or.inr rfl | assumption)
  unfold D_X8_fits
  refine vI (vp_of (by first | omega | (simp only [Int32.toInt_add, Int32.toInt_sub, Int32.toInt_mul, Int32.toInt_toInt64, Int64.toInt_add, z_m1, Int32.reduceToInt, Int64.reduceToInt, Int32.reduceToNatClampNeg, Int.bmod_def, or_true, true_or, and_true, true_and] <;> omega)) (by first | omega | (simp only [Int32.toInt_add, Int32.toInt_sub, Int32.toInt_mul, Int32.toInt_toInt64, Int64.toInt_add, z_m1, Int32.reduceToInt, Int64.reduceToInt, Int32.reduceToNatClampNeg, Int.bmod_def, or_true, true_or, and_true, true_and] <;> omega))) ?_
  refine vIf (fun h_7 => ?_) (fun h_7 => ?_)
  · have i_7 := Int32.lt_iff_toInt_lt.mp h_7
    (try simp only [Int32.toInt_add, Int32.toInt_sub, Int32.toInt_mul, Int32.toInt_toInt64, Int64.toInt_add, z_m1, Int32.reduceToInt, Int64.reduceToInt, Int32.reduceToNatClampNeg, Int.bmod_def] at i_7)
    exact T_29
  · have i_7 := Int32.le_iff_toInt_le.mp (Int32.not_lt.mp h_7)
    (try simp only [Int32.toInt_add, Int32.toInt_sub, Int32.toInt_mul, Int32.toInt_toInt64, Int64.toInt_add, z_m1, Int32.reduceToInt, Int64.reduceToInt, Int32.reduceToNatClampNeg, Int.bmod_def] at i_7)
    refine vI (vp_of (by first | omega | (simp only [Int32.toInt_add, Int32.toInt_sub, Int32.toInt_mul, Int32.toInt_toInt64, Int64.toInt_add, z_m1, Int32.reduceToInt, Int64.reduceToInt, Int32.reduceToNatClampNeg, Int.bmod_def, or_true, true_or, and_true, true_and] <;> omega)) (by first | omega | (simp only [Int32.toInt_add, Int32.toInt_sub, Int32.toInt_mul, Int32.toInt_toInt64, Int64.toInt_add, z_m1, Int32.reduceToInt, Int64.reduceToInt, Int32.reduceToNatClampNeg, Int.bmod_def, or_true, true_or, and_true, true_and] <;> omega))) ?_
    refine vI (vp_of (by first | omega | (simp only [Int32.toInt_add, Int32.toInt_sub, Int32.toInt_mul, Int32.toInt_toInt64, Int64.toInt_add, z_m1, Int32.reduceToInt, Int64.reduceToInt, Int32.reduceToNatClampNeg, Int.bmod_def, or_true, true_or, and_true, true_and] <;> omega)) (by first | omega | (simp only [Int32.toInt_add, Int32.toInt_sub, Int32.toInt_mul, Int32.toInt_toInt64, Int64.toInt_add, z_m1, Int32.reduceToInt, Int64.reduceToInt, Int32.reduceToNatClampNeg, Int.bmod_def, or_true, true_or, and_true, true_and] <;> omega))) ?_
    refine vIf (fun h_22 => ?_) (fun h_22 => ?_)
    · have i_22 := Int32.lt_iff_toInt_lt.mp h_22
      (try simp only [Int32.toInt_add, Int32.toInt_sub, Int32.toInt_mul, Int32.toInt_toInt64, Int64.toInt_add, z_m1, Int32.reduceToInt, Int64.reduceToInt, Int32.reduceToNatClampNeg, Int.bmod_def] at i_22)
      exact T_29
    · have i_22 := Int32.le_iff_toInt_le.mp (Int32.not_lt.mp h_22)
      (try simp only [Int32.toInt_add, Int32.toInt_sub, Int32.toInt_mul, Int32.toInt_toInt64, Int64.toInt_add, z_m1, Int32.reduceToInt, Int64.reduceToInt, Int32.reduceToNatClampNeg, Int.bmod_def] at i_22)
      exact T_30 _ (by first | exact Or.inl rfl | exact Or.inr rfl | assumption)
def WM_X8_firstRound (P : Nat) (a j : Nat) : Prop := (P + 19 ≤ a ∧ a < P + 23)
theorem wz_M_X8_gets_X8_firstRound {P a j : Nat} (h : ¬ WM_X8_firstRound P a j) : ¬ WM_X8_gets P a j := by unfold WM_X8_gets; unfold WM_X8_firstRound at h; omega
theorem wc_X8_gets_7 {P : Nat} : ¬ WM_X8_gets P P 7 := by unfold WM_X8_gets; omega
theorem wc_X8_gets_8 {P : Nat} : ¬ WM_X8_gets P P 8 := by unfold WM_X8_gets; omega
theorem wc_X8_gets_33 {P : Nat} : ¬ WM_X8_gets P P 33 := by unfold WM_X8_gets; omega
theorem wf_nA_X8_gets {P a j : Nat} (h : (a = P + 1 ∨ (a = P ∧ j = 8))) : ¬ WM_X8_gets P a j := by unfold WM_X8_gets; omega
theorem wf_jB_X8_gets {P a j : Nat} (h : (a = P ∧ (j = 7 ∨ j = 8 ∨ j = 33))) : ¬ WM_X8_gets P a j := by unfold WM_X8_gets; omega
theorem wf_jL_X8_gets {P a j : Nat} (h : ((a = P ∧ j = 33) ∨ a = P + 13 ∨ a = P + 14 ∨ a = P + 17)) : ¬ WM_X8_gets P a j := by unfold WM_X8_gets; omega
theorem wf_jO_X8_gets {P a j : Nat} (h : ((a = P ∧ j = 33) ∨ a = P + 18)) : ¬ WM_X8_gets P a j := by unfold WM_X8_gets; omega
theorem wf_jS_X8_gets {P a j : Nat} (h : (a = P + 1 ∨ (a = P ∧ (j = 7 ∨ j = 8)))) : ¬ WM_X8_gets P a j := by unfold WM_X8_gets; omega
set_option maxRecDepth 100000 in
set_option maxHeartbeats 4000000 in
theorem v_X8_firstRound {P : Nat} {v0 : Int32} {v1 : Int32} {M0 : zMt}  (p_jB : jB P M0) (p_jS : jS P M0) (p_jL : jL P M0) (p_jO : jO P M0) (p_jR : jR P M0) (i_5 : 0 ≤ Int32.toInt v0) (i_6 : Int32.toInt v0 < 5) : ∃ r, D_X8_firstRound P v0 v1 M0 = some r ∧ ((∀ a j, ¬ WM_X8_firstRound P a j → r a j = M0 a j) ∧ ((jR P r))) := by
  obtain ⟨u0_jB, u1_jB, u2_jB, u3_jB, u4_jB, u5_jB⟩ := id p_jB
  obtain ⟨u0_jS, u1_jS, u2_jS, u3_jS, u4_jS, u5_jS, u6_jS, u7_jS⟩ := jS.ints p_jS
  have TL_3 : ∀ u : Nat, ∀ (x1_3 : Int32) (x2_3 : Int32) (x3_3 : Int32) (M_3 : zMt), (∀ a j, ¬ WM_X8_firstRound P a j → M_3 a j = M0 a j) → (jB P M_3) → (jL P M_3) → (jO P M_3) → (jR P M_3) → (jS P M_3) → (0 ≤ Int32.toInt x1_3 ∧ Int32.toInt x1_3 < 5) → (Int32.toInt x3_3 ≤ 20) → (Int32.toInt x3_3 + 1).toNat < u → ∃ r, D_X8_firstRound_3 P u x1_3 x2_3 x3_3 M_3 = some r ∧ ((∀ a j, ¬ WM_X8_firstRound P a j → r a j = M0 a j) ∧ ((jR P r))) := by
    intro u
    induction u with
    | zero => intro x1_3 x2_3 x3_3 M_3 k_3 p_jB_3 p_jL_3 p_jO_3 p_jR_3 p_jS_3 f0_3 f1_3 hm_3; exact absurd hm_3 (Nat.not_lt_zero _)
    | succ u_3 ih_3 =>
      have TL_10 : ∀ u : Nat, ∀ (x1_10 : Int32) (x2_10 : Int32) (x3_10 : Int32) (x4_10 : Int32) (M_10 : zMt), (∀ a j, ¬ WM_X8_firstRound P a j → M_10 a j = M0 a j) → (jB P M_10) → (jL P M_10) → (jO P M_10) → (jR P M_10) → (jS P M_10) → (0 ≤ Int32.toInt x4_10) → (Int32.toInt x4_10 ≤ 10) → (0 ≤ Int32.toInt x1_10 ∧ Int32.toInt x1_10 < 5) → (0 ≤ Int32.toInt x3_10 ∧ Int32.toInt x3_10 ≤ 20) → ((Int32.toInt x3_10 + 1).toNat < u_3 + 1) → (2147483648 - Int32.toInt x4_10).toNat < u → ∃ r, D_X8_firstRound_10 P (D_X8_firstRound_3 P u_3) u x1_10 x2_10 x3_10 x4_10 M_10 = some r ∧ ((∀ a j, ¬ WM_X8_firstRound P a j → r a j = M0 a j) ∧ ((jR P r))) := by
        intro u
        induction u with
        | zero => intro x1_10 x2_10 x3_10 x4_10 M_10 k_10 p_jB_10 p_jL_10 p_jO_10 p_jR_10 p_jS_10 f0_10 f1_10 f2_10 f3_10 f4_10 hm_10; exact absurd hm_10 (Nat.not_lt_zero _)
        | succ u_10 ih_10 =>
          have T_108 : ∀ (x1_108 : Int32) (x2_108 : Int32) (x3_108 : Int32) (x4_108 : Int32) (M_108 : zMt), (∀ a j, ¬ WM_X8_firstRound P a j → M_108 a j = M0 a j) → (jB P M_108) → (jL P M_108) → (jO P M_108) → (jR P M_108) → (jS P M_108) → (0 ≤ Int32.toInt x4_108) → (Int32.toInt x4_108 < Int32.toInt (M_108 P 33)) → ((2147483648 - Int32.toInt x4_108).toNat < u_10 + 1) → (Int32.toInt x4_108 < 2147483647) → (0 ≤ Int32.toInt x1_108 ∧ Int32.toInt x1_108 < 5) → (0 ≤ Int32.toInt x3_108 ∧ Int32.toInt x3_108 ≤ 20) → ((Int32.toInt x3_108 + 1).toNat < u_3 + 1) → ∃ r, D_X8_firstRound_108 P (D_X8_firstRound_3 P u_3) (D_X8_firstRound_10 P (D_X8_firstRound_3 P u_3) u_10) x1_108 x2_108 x3_108 x4_108 M_108 = some r ∧ ((∀ a j, ¬ WM_X8_firstRound P a j → r a j = M0 a j) ∧ ((jR P r))) := by
            intro x1_108 x2_108 x3_108 x4_108 M_108 k_108 p_jB_108 p_jL_108 p_jO_108 p_jR_108 p_jS_108 f0_108 f1_108 f2_108 f3_108 f4_108 f5_108 f6_108
            obtain ⟨u0_jB_108, u1_jB_108, u2_jB_108, u3_jB_108, u4_jB_108, u5_jB_108⟩ := id p_jB_108
            obtain ⟨u0_jS_108, u1_jS_108, u2_jS_108, u3_jS_108, u4_jS_108, u5_jS_108, u6_jS_108, u7_jS_108⟩ := jS.ints p_jS_108
            unfold D_X8_firstRound_108
            exact ih_10 _ _ _ _ _ k_108 p_jB_108 p_jL_108 p_jO_108 p_jR_108 p_jS_108 (by first | omega | (simp only [Int32.toInt_add, Int32.toInt_sub, Int32.toInt_mul, Int32.toInt_toInt64, Int64.toInt_add, z_m1, Int32.reduceToInt, Int64.reduceToInt, Int32.reduceToNatClampNeg, Int.bmod_def, or_true, true_or, and_true, true_and] <;> omega)) (by first | omega | (simp only [Int32.toInt_add, Int32.toInt_sub, Int32.toInt_mul, Int32.toInt_toInt64, Int64.toInt_add, z_m1, Int32.reduceToInt, Int64.reduceToInt, Int32.reduceToNatClampNeg, Int.bmod_def, or_true, true_or, and_true, true_and] <;> omega)) (by first | omega | (simp only [Int32.toInt_add, Int32.toInt_sub, Int32.toInt_mul, Int32.toInt_toInt64, Int64.toInt_add, z_m1, Int32.reduceToInt, Int64.reduceToInt, Int32.reduceToNatClampNeg, Int.bmod_def, or_true, true_or, and_true, true_and] <;> omega)) (by first | omega | (simp only [Int32.toInt_add, Int32.toInt_sub, Int32.toInt_mul, Int32.toInt_toInt64, Int64.toInt_add, z_m1, Int32.reduceToInt, Int64.reduceToInt, Int32.reduceToNatClampNeg, Int.bmod_def, or_true, true_or, and_true, true_and] <;> omega)) (by first | assumption | omega) (z_up1 f3_108 f2_108)
          have T_61 : ∀ (x1_61 : Int32) (x2_61 : Int32) (x3_61 : Int32) (x4_61 : Int32) (x5_61 : Int32) (y0_61 : Int32) (M_61 : zMt), (∀ a j, ¬ WM_X8_firstRound P a j → M_61 a j = M0 a j) → (jB P M_61) → (jL P M_61) → (jO P M_61) → (jR P M_61) → (jS P M_61) → (y0_61 = 0 ∨ y0_61 = 1) → (0 ≤ Int32.toInt x4_61) → (Int32.toInt x4_61 < Int32.toInt (M_61 P 33)) → ((2147483648 - Int32.toInt x4_61).toNat < u_10 + 1) → (Int32.toInt x4_61 < 2147483647) → (0 ≤ Int32.toInt x1_61 ∧ Int32.toInt x1_61 < 5) → (0 ≤ Int32.toInt x5_61 ∧ Int32.toInt x5_61 < Int32.toInt (M_61 P 33)) → (0 ≤ Int32.toInt x3_61 ∧ Int32.toInt x3_61 ≤ 20) → ((Int32.toInt x3_61 + 1).toNat < u_3 + 1) → ∃ r, D_X8_firstRound_61 P (D_X8_firstRound_3 P u_3) (D_X8_firstRound_10 P (D_X8_firstRound_3 P u_3) u_10) x1_61 x2_61 x3_61 x4_61 x5_61 y0_61 M_61 = some r ∧ ((∀ a j, ¬ WM_X8_firstRound P a j → r a j = M0 a j) ∧ ((jR P r))) := by
            intro x1_61 x2_61 x3_61 x4_61 x5_61 y0_61 M_61 k_61 p_jB_61 p_jL_61 p_jO_61 p_jR_61 p_jS_61 f0_61 f1_61 f2_61 f3_61 f4_61 f5_61 f6_61 f7_61 f8_61
            obtain ⟨u0_jB_61, u1_jB_61, u2_jB_61, u3_jB_61, u4_jB_61, u5_jB_61⟩ := id p_jB_61
            obtain ⟨u0_jS_61, u1_jS_61, u2_jS_61, u3_jS_61, u4_jS_61, u5_jS_61, u6_jS_61, u7_jS_61⟩ := jS.ints p_jS_61
            unfold D_X8_firstRound_61
            refine vIf (fun h_65 => ?_) (fun h_65 => ?_)
            · have i_65 := congrArg Int32.toInt h_65
              (try simp only [Int32.toInt_add, Int32.toInt_sub, Int32.toInt_mul, Int32.toInt_toInt64, Int64.toInt_add, z_m1, Int32.reduceToInt, Int64.reduceToInt, Int32.reduceToNatClampNeg, Int.bmod_def] at i_65)
              exact T_108 _ _ _ _ _ k_61 p_jB_61 p_jL_61 p_jO_61 p_jR_61 p_jS_61 (by first | omega | (simp only [Int32.toInt_add, Int32.toInt_sub, Int32.toInt_mul, Int32.toInt_toInt64, Int64.toInt_add, z_m1, Int32.reduceToInt, Int64.reduceToInt, Int32.reduceToNatClampNeg, Int.bmod_def, or_true, true_or, and_true, true_and] <;> omega)) (by first | omega | (simp only [Int32.toInt_add, Int32.toInt_sub, Int32.toInt_mul, Int32.toInt_toInt64, Int64.toInt_add, z_m1, Int32.reduceToInt, Int64.reduceToInt, Int32.reduceToNatClampNeg, Int.bmod_def, or_true, true_or, and_true, true_and] <;> omega)) f3_61 f4_61 (by first | omega | (simp only [Int32.toInt_add, Int32.toInt_sub, Int32.toInt_mul, Int32.toInt_toInt64, Int64.toInt_add, z_m1, Int32.reduceToInt, Int64.reduceToInt, Int32.reduceToNatClampNeg, Int.bmod_def, or_true, true_or, and_true, true_and] <;> omega)) (by first | omega | (simp only [Int32.toInt_add, Int32.toInt_sub, Int32.toInt_mul, Int32.toInt_toInt64, Int64.toInt_add, z_m1, Int32.reduceToInt, Int64.reduceToInt, Int32.reduceToNatClampNeg, Int.bmod_def, or_true, true_or, and_true, true_and] <;> omega)) (by first | assumption | omega)
            · have i_65 : ¬ Int32.toInt y0_61 = Int32.toInt (0 : Int32) := fun q => h_65 (Int32.toInt_inj.mp q)
              (try simp only [Int32.toInt_add, Int32.toInt_sub, Int32.toInt_mul, Int32.toInt_toInt64, Int64.toInt_add, z_m1, Int32.reduceToInt, Int64.reduceToInt, Int32.reduceToNatClampNeg, Int.bmod_def] at i_65)
              refine vI (vp_of (by first | omega | (simp only [Int32.toInt_add, Int32.toInt_sub, Int32.toInt_mul, Int32.toInt_toInt64, Int64.toInt_add, z_m1, Int32.reduceToInt, Int64.reduceToInt, Int32.reduceToNatClampNeg, Int.bmod_def, or_true, true_or, and_true, true_and] <;> omega)) (by first | omega | (simp only [Int32.toInt_add, Int32.toInt_sub, Int32.toInt_mul, Int32.toInt_toInt64, Int64.toInt_add, z_m1, Int32.reduceToInt, Int64.reduceToInt, Int32.reduceToNatClampNeg, Int.bmod_def, or_true, true_or, and_true, true_and] <;> omega))) ?_
              refine vI (vp_of (by first | omega | (simp only [Int32.toInt_add, Int32.toInt_sub, Int32.toInt_mul, Int32.toInt_toInt64, Int64.toInt_add, z_m1, Int32.reduceToInt, Int64.reduceToInt, Int32.reduceToNatClampNeg, Int.bmod_def, or_true, true_or, and_true, true_and] <;> omega)) (by first | omega | (simp only [Int32.toInt_add, Int32.toInt_sub, Int32.toInt_mul, Int32.toInt_toInt64, Int64.toInt_add, z_m1, Int32.reduceToInt, Int64.reduceToInt, Int32.reduceToNatClampNeg, Int.bmod_def, or_true, true_or, and_true, true_and] <;> omega))) ?_
              refine vB (v_X8_preferred p_jS_61 (by first | omega | (simp only [Int32.toInt_add, Int32.toInt_sub, Int32.toInt_mul, Int32.toInt_toInt64, Int64.toInt_add, z_m1, Int32.reduceToInt, Int64.reduceToInt, Int32.reduceToNatClampNeg, Int.bmod_def, or_true, true_or, and_true, true_and] <;> omega)) (by first | omega | (simp only [Int32.toInt_add, Int32.toInt_sub, Int32.toInt_mul, Int32.toInt_toInt64, Int64.toInt_add, z_m1, Int32.reduceToInt, Int64.reduceToInt, Int32.reduceToNatClampNeg, Int.bmod_def, or_true, true_or, and_true, true_and] <;> omega))) (fun e_90 f_90 q_90 => ?_)
              refine vB (v_X8_fits (by first | omega | (simp only [Int32.toInt_add, Int32.toInt_sub, Int32.toInt_mul, Int32.toInt_toInt64, Int64.toInt_add, z_m1, Int32.reduceToInt, Int64.reduceToInt, Int32.reduceToNatClampNeg, Int.bmod_def, or_true, true_or, and_true, true_and] <;> omega)) (by first | omega | (simp only [Int32.toInt_add, Int32.toInt_sub, Int32.toInt_mul, Int32.toInt_toInt64, Int64.toInt_add, z_m1, Int32.reduceToInt, Int64.reduceToInt, Int32.reduceToNatClampNeg, Int.bmod_def, or_true, true_or, and_true, true_and] <;> omega)) (by first | omega | (simp only [Int32.toInt_add, Int32.toInt_sub, Int32.toInt_mul, Int32.toInt_toInt64, Int64.toInt_add, z_m1, Int32.reduceToInt, Int64.reduceToInt, Int32.reduceToNatClampNeg, Int.bmod_def, or_true, true_or, and_true, true_and] <;> omega)) (by first | omega | (simp only [Int32.toInt_add, Int32.toInt_sub, Int32.toInt_mul, Int32.toInt_toInt64, Int64.toInt_add, z_m1, Int32.reduceToInt, Int64.reduceToInt, Int32.reduceToNatClampNeg, Int.bmod_def, or_true, true_or, and_true, true_and] <;> omega))) (fun e_94 f_94 q_94 => ?_)
              have b_94 := q_94
              refine vIf (fun h_97 => ?_) (fun h_97 => ?_)
              · have i_97 := congrArg Int32.toInt h_97
                (try simp only [Int32.toInt_add, Int32.toInt_sub, Int32.toInt_mul, Int32.toInt_toInt64, Int64.toInt_add, z_m1, Int32.reduceToInt, Int64.reduceToInt, Int32.reduceToNatClampNeg, Int.bmod_def] at i_97)
                exact T_108 _ _ _ _ _ k_61 p_jB_61 p_jL_61 p_jO_61 p_jR_61 p_jS_61 (by first | omega | (simp only [Int32.toInt_add, Int32.toInt_sub, Int32.toInt_mul, Int32.toInt_toInt64, Int64.toInt_add, z_m1, Int32.reduceToInt, Int64.reduceToInt, Int32.reduceToNatClampNeg, Int.bmod_def, or_true, true_or, and_true, true_and] <;> omega)) (by first | omega | (simp only [Int32.toInt_add, Int32.toInt_sub, Int32.toInt_mul, Int32.toInt_toInt64, Int64.toInt_add, z_m1, Int32.reduceToInt, Int64.reduceToInt, Int32.reduceToNatClampNeg, Int.bmod_def, or_true, true_or, and_true, true_and] <;> omega)) f3_61 f4_61 (by first | omega | (simp only [Int32.toInt_add, Int32.toInt_sub, Int32.toInt_mul, Int32.toInt_toInt64, Int64.toInt_add, z_m1, Int32.reduceToInt, Int64.reduceToInt, Int32.reduceToNatClampNeg, Int.bmod_def, or_true, true_or, and_true, true_and] <;> omega)) (by first | omega | (simp only [Int32.toInt_add, Int32.toInt_sub, Int32.toInt_mul, Int32.toInt_toInt64, Int64.toInt_add, z_m1, Int32.reduceToInt, Int64.reduceToInt, Int32.reduceToNatClampNeg, Int.bmod_def, or_true, true_or, and_true, true_and] <;> omega)) (by first | assumption | omega)
              · have i_97 : ¬ Int32.toInt e_94 = Int32.toInt (0 : Int32) := fun q => h_97 (Int32.toInt_inj.mp q)
                (try simp only [Int32.toInt_add, Int32.toInt_sub, Int32.toInt_mul, Int32.toInt_toInt64, Int64.toInt_add, z_m1, Int32.reduceToInt, Int64.reduceToInt, Int32.reduceToNatClampNeg, Int.bmod_def] at i_97)
                refine vB (v_X8_gets p_jB_61 p_jL_61 p_jR_61 (by first | omega | (simp only [Int32.toInt_add, Int32.toInt_sub, Int32.toInt_mul, Int32.toInt_toInt64, Int64.toInt_add, z_m1, Int32.reduceToInt, Int64.reduceToInt, Int32.reduceToNatClampNeg, Int.bmod_def, or_true, true_or, and_true, true_and] <;> omega)) (by first | omega | (simp only [Int32.toInt_add, Int32.toInt_sub, Int32.toInt_mul, Int32.toInt_toInt64, Int64.toInt_add, z_m1, Int32.reduceToInt, Int64.reduceToInt, Int32.reduceToNatClampNeg, Int.bmod_def, or_true, true_or, and_true, true_and] <;> omega)) (by first | omega | (simp only [Int32.toInt_add, Int32.toInt_sub, Int32.toInt_mul, Int32.toInt_toInt64, Int64.toInt_add, z_m1, Int32.reduceToInt, Int64.reduceToInt, Int32.reduceToNatClampNeg, Int.bmod_def, or_true, true_or, and_true, true_and] <;> omega)) (by first | omega | (simp only [Int32.toInt_add, Int32.toInt_sub, Int32.toInt_mul, Int32.toInt_toInt64, Int64.toInt_add, z_m1, Int32.reduceToInt, Int64.reduceToInt, Int32.reduceToNatClampNeg, Int.bmod_def, or_true, true_or, and_true, true_and] <;> omega))) (fun e_105 f_105 q_105 => ?_)
                have k_105 : ∀ a j, ¬ WM_X8_firstRound P a j → e_105 a j = M0 a j := fun a j h => (q_105.1 a j (wz_M_X8_gets_X8_firstRound h)).trans (k_61 a j h)
                have c7_105 : Int32.toInt (e_105 P 7) = Int32.toInt (M_61 P 7) := congrArg Int32.toInt (q_105.1 P 7 (wc_X8_gets_7))
                have c8_105 : Int32.toInt (e_105 P 8) = Int32.toInt (M_61 P 8) := congrArg Int32.toInt (q_105.1 P 8 (wc_X8_gets_8))
                have c33_105 : Int32.toInt (e_105 P 33) = Int32.toInt (M_61 P 33) := congrArg Int32.toInt (q_105.1 P 33 (wc_X8_gets_33))
                have n_105 : nA P e_105 = nA P M_61 := nA_congr (fun a j h => q_105.1 a j (wf_nA_X8_gets h))
                have p_jB_105 : jB P e_105 := jB.mono p_jB_61 (fun a j h => q_105.1 a j (wf_jB_X8_gets h))
                obtain ⟨u0_jB_105, u1_jB_105, u2_jB_105, u3_jB_105, u4_jB_105, u5_jB_105⟩ := id p_jB_105
                have p_jL_105 : jL P e_105 := jL.mono p_jL_61 (fun a j h => q_105.1 a j (wf_jL_X8_gets h))
                have p_jO_105 : jO P e_105 := jO.mono p_jO_61 (fun a j h => q_105.1 a j (wf_jO_X8_gets h))
                have p_jS_105 : jS P e_105 := jS.mono p_jS_61 (fun a j h => q_105.1 a j (wf_jS_X8_gets h))
                obtain ⟨u0_jS_105, u1_jS_105, u2_jS_105, u3_jS_105, u4_jS_105, u5_jS_105, u6_jS_105, u7_jS_105⟩ := jS.ints p_jS_105
                have x0_105 := q_105.2
                exact T_108 _ _ _ _ _ k_105 p_jB_105 p_jL_105 p_jO_105 x0_105 p_jS_105 (by first | omega | (simp only [Int32.toInt_add, Int32.toInt_sub, Int32.toInt_mul, Int32.toInt_toInt64, Int64.toInt_add, z_m1, Int32.reduceToInt, Int64.reduceToInt, Int32.reduceToNatClampNeg, Int.bmod_def, or_true, true_or, and_true, true_and] <;> omega)) (by first | omega | (simp only [Int32.toInt_add, Int32.toInt_sub, Int32.toInt_mul, Int32.toInt_toInt64, Int64.toInt_add, z_m1, Int32.reduceToInt, Int64.reduceToInt, Int32.reduceToNatClampNeg, Int.bmod_def, or_true, true_or, and_true, true_and] <;> omega)) f3_61 f4_61 (by first | omega | (simp only [Int32.toInt_add, Int32.toInt_sub, Int32.toInt_mul, Int32.toInt_toInt64, Int64.toInt_add, z_m1, Int32.reduceToInt, Int64.reduceToInt, Int32.reduceToNatClampNeg, Int.bmod_def, or_true, true_or, and_true, true_and] <;> omega)) (by first | omega | (simp only [Int32.toInt_add, Int32.toInt_sub, Int32.toInt_mul, Int32.toInt_toInt64, Int64.toInt_add, z_m1, Int32.reduceToInt, Int64.reduceToInt, Int32.reduceToNatClampNeg, Int.bmod_def, or_true, true_or, and_true, true_and] <;> omega)) (by first | assumption | omega)
          have T_60 : ∀ (x1_60 : Int32) (x2_60 : Int32) (x3_60 : Int32) (x4_60 : Int32) (x5_60 : Int32) (M_60 : zMt), (∀ a j, ¬ WM_X8_firstRound P a j → M_60 a j = M0 a j) → (jB P M_60) → (jL P M_60) → (jO P M_60) → (jR P M_60) → (jS P M_60) → (0 ≤ Int32.toInt x4_60) → (Int32.toInt x4_60 < Int32.toInt (M_60 P 33)) → ((2147483648 - Int32.toInt x4_60).toNat < u_10 + 1) → (Int32.toInt x4_60 < 2147483647) → (0 ≤ Int32.toInt x1_60 ∧ Int32.toInt x1_60 < 5) → (0 ≤ Int32.toInt x5_60 ∧ Int32.toInt x5_60 < Int32.toInt (M_60 P 33)) → (0 ≤ Int32.toInt x3_60 ∧ Int32.toInt x3_60 ≤ 20) → ((Int32.toInt x3_60 + 1).toNat < u_3 + 1) → ∃ r, D_X8_firstRound_60 P (D_X8_firstRound_3 P u_3) (D_X8_firstRound_10 P (D_X8_firstRound_3 P u_3) u_10) x1_60 x2_60 x3_60 x4_60 x5_60 M_60 = some r ∧ ((∀ a j, ¬ WM_X8_firstRound P a j → r a j = M0 a j) ∧ ((jR P r))) := by
            intro x1_60 x2_60 x3_60 x4_60 x5_60 M_60 k_60 p_jB_60 p_jL_60 p_jO_60 p_jR_60 p_jS_60 f0_60 f1_60 f2_60 f3_60 f4_60 f5_60 f6_60 f7_60
            obtain ⟨u0_jB_60, u1_jB_60, u2_jB_60, u3_jB_60, u4_jB_60, u5_jB_60⟩ := id p_jB_60
            obtain ⟨u0_jS_60, u1_jS_60, u2_jS_60, u3_jS_60, u4_jS_60, u5_jS_60, u6_jS_60, u7_jS_60⟩ := jS.ints p_jS_60
            unfold D_X8_firstRound_60
            exact T_61 _ _ _ _ _ _ _ k_60 p_jB_60 p_jL_60 p_jO_60 p_jR_60 p_jS_60 (by first | exact Or.inl rfl | exact Or.inr rfl | assumption) (by first | omega | (simp only [Int32.toInt_add, Int32.toInt_sub, Int32.toInt_mul, Int32.toInt_toInt64, Int64.toInt_add, z_m1, Int32.reduceToInt, Int64.reduceToInt, Int32.reduceToNatClampNeg, Int.bmod_def, or_true, true_or, and_true, true_and] <;> omega)) (by first | omega | (simp only [Int32.toInt_add, Int32.toInt_sub, Int32.toInt_mul, Int32.toInt_toInt64, Int64.toInt_add, z_m1, Int32.reduceToInt, Int64.reduceToInt, Int32.reduceToNatClampNeg, Int.bmod_def, or_true, true_or, and_true, true_and] <;> omega)) f2_60 f3_60 (by first | omega | (simp only [Int32.toInt_add, Int32.toInt_sub, Int32.toInt_mul, Int32.toInt_toInt64, Int64.toInt_add, z_m1, Int32.reduceToInt, Int64.reduceToInt, Int32.reduceToNatClampNeg, Int.bmod_def, or_true, true_or, and_true, true_and] <;> omega)) (by first | omega | (simp only [Int32.toInt_add, Int32.toInt_sub, Int32.toInt_mul, Int32.toInt_toInt64, Int64.toInt_add, z_m1, Int32.reduceToInt, Int64.reduceToInt, Int32.reduceToNatClampNeg, Int.bmod_def, or_true, true_or, and_true, true_and] <;> omega)) (by first | omega | (simp only [Int32.toInt_add, Int32.toInt_sub, Int32.toInt_mul, Int32.toInt_toInt64, Int64.toInt_add, z_m1, Int32.reduceToInt, Int64.reduceToInt, Int32.reduceToNatClampNeg, Int.bmod_def, or_true, true_or, and_true, true_and] <;> omega)) (by first | assumption | omega)
          intro x1_10 x2_10 x3_10 x4_10 M_10 k_10 p_jB_10 p_jL_10 p_jO_10 p_jR_10 p_jS_10 f0_10 f1_10 f2_10 f3_10 f4_10 hm_10
          obtain ⟨u0_jB_10, u1_jB_10, u2_jB_10, u3_jB_10, u4_jB_10, u5_jB_10⟩ := id p_jB_10
          obtain ⟨u0_jS_10, u1_jS_10, u2_jS_10, u3_jS_10, u4_jS_10, u5_jS_10, u6_jS_10, u7_jS_10⟩ := jS.ints p_jS_10
          rw [D_X8_firstRound_10]
          refine vIf (fun h_16 => ?_) (fun h_16 => ?_)
          · have i_16 := Int32.le_iff_toInt_le.mp h_16
            (try simp only [Int32.toInt_add, Int32.toInt_sub, Int32.toInt_mul, Int32.toInt_toInt64, Int64.toInt_add, z_m1, Int32.reduceToInt, Int64.reduceToInt, Int32.reduceToNatClampNeg, Int.bmod_def] at i_16)
            exact ih_3 _ _ _ _ k_10 p_jB_10 p_jL_10 p_jO_10 p_jR_10 p_jS_10 (by first | omega | (simp only [Int32.toInt_add, Int32.toInt_sub, Int32.toInt_mul, Int32.toInt_toInt64, Int64.toInt_add, z_m1, Int32.reduceToInt, Int64.reduceToInt, Int32.reduceToNatClampNeg, Int.bmod_def, or_true, true_or, and_true, true_and] <;> omega)) (by first | omega | (simp only [Int32.toInt_add, Int32.toInt_sub, Int32.toInt_mul, Int32.toInt_toInt64, Int64.toInt_add, z_m1, Int32.reduceToInt, Int64.reduceToInt, Int32.reduceToNatClampNeg, Int.bmod_def, or_true, true_or, and_true, true_and] <;> omega)) (by first | omega | (simp only [Int32.toInt_add, Int32.toInt_sub, Int32.toInt_mul, Int32.toInt_toInt64, Int64.toInt_add, z_m1, Int32.reduceToInt, Int64.reduceToInt, Int32.reduceToNatClampNeg, Int.bmod_def, or_true, true_or, and_true, true_and] <;> omega))
          · have i_16 := Int32.lt_iff_toInt_lt.mp (Int32.not_le.mp h_16)
            (try simp only [Int32.toInt_add, Int32.toInt_sub, Int32.toInt_mul, Int32.toInt_toInt64, Int64.toInt_add, z_m1, Int32.reduceToInt, Int64.reduceToInt, Int32.reduceToNatClampNeg, Int.bmod_def] at i_16)
            refine vI (vp_of (by first | omega | (simp only [Int32.toInt_add, Int32.toInt_sub, Int32.toInt_mul, Int32.toInt_toInt64, Int64.toInt_add, z_m1, Int32.reduceToInt, Int64.reduceToInt, Int32.reduceToNatClampNeg, Int.bmod_def, or_true, true_or, and_true, true_and] <;> omega)) (by first | omega | (simp only [Int32.toInt_add, Int32.toInt_sub, Int32.toInt_mul, Int32.toInt_toInt64, Int64.toInt_add, z_m1, Int32.reduceToInt, Int64.reduceToInt, Int32.reduceToNatClampNeg, Int.bmod_def, or_true, true_or, and_true, true_and] <;> omega))) ?_
            obtain ⟨w0_25, w1_25⟩ := jO.el p_jO_10 (x := x4_10) (by first | omega | (simp only [Int32.toInt_add, Int32.toInt_sub, Int32.toInt_mul, Int32.toInt_toInt64, Int64.toInt_add, z_m1, Int32.reduceToInt, Int64.reduceToInt, Int32.reduceToNatClampNeg, Int.bmod_def, or_true, true_or, and_true, true_and] <;> omega)) (by first | omega | (simp only [Int32.toInt_add, Int32.toInt_sub, Int32.toInt_mul, Int32.toInt_toInt64, Int64.toInt_add, z_m1, Int32.reduceToInt, Int64.reduceToInt, Int32.reduceToNatClampNeg, Int.bmod_def, or_true, true_or, and_true, true_and] <;> omega))
            refine vIf (fun h_31 => ?_) (fun h_31 => ?_)
            · have i_31 := congrArg Int32.toInt h_31
              (try simp only [Int32.toInt_add, Int32.toInt_sub, Int32.toInt_mul, Int32.toInt_toInt64, Int64.toInt_add, z_m1, Int32.reduceToInt, Int64.reduceToInt, Int32.reduceToNatClampNeg, Int.bmod_def] at i_31)
              exact T_60 _ _ _ _ _ _ k_10 p_jB_10 p_jL_10 p_jO_10 p_jR_10 p_jS_10 (by first | omega | (simp only [Int32.toInt_add, Int32.toInt_sub, Int32.toInt_mul, Int32.toInt_toInt64, Int64.toInt_add, z_m1, Int32.reduceToInt, Int64.reduceToInt, Int32.reduceToNatClampNeg, Int.bmod_def, or_true, true_or, and_true, true_and] <;> omega)) (by first | omega | (simp only [Int32.toInt_add, Int32.toInt_sub, Int32.toInt_mul, Int32.toInt_toInt64, Int64.toInt_add, z_m1, Int32.reduceToInt, Int64.reduceToInt, Int32.reduceToNatClampNeg, Int.bmod_def, or_true, true_or, and_true, true_and] <;> omega)) hm_10 (by first | assumption | exact z_lt (by assumption) | exact z_lt2 (by assumption) | exact z_lt3 (by assumption) (by first | assumption | decide)) (by first | omega | (simp only [Int32.toInt_add, Int32.toInt_sub, Int32.toInt_mul, Int32.toInt_toInt64, Int64.toInt_add, z_m1, Int32.reduceToInt, Int64.reduceToInt, Int32.reduceToNatClampNeg, Int.bmod_def, or_true, true_or, and_true, true_and] <;> omega)) (by first | omega | (simp only [Int32.toInt_add, Int32.toInt_sub, Int32.toInt_mul, Int32.toInt_toInt64, Int64.toInt_add, z_m1, Int32.reduceToInt, Int64.reduceToInt, Int32.reduceToNatClampNeg, Int.bmod_def, or_true, true_or, and_true, true_and] <;> omega)) (by first | omega | (simp only [Int32.toInt_add, Int32.toInt_sub, Int32.toInt_mul, Int32.toInt_toInt64, Int64.toInt_add, z_m1, Int32.reduceToInt, Int64.reduceToInt, Int32.reduceToNatClampNeg, Int.bmod_def, or_true, true_or, and_true, true_and] <;> omega)) (by first | assumption | omega)
            · have i_31 : ¬ Int32.toInt (M_10 (P + 18) x4_10.toNatClampNeg) = Int32.toInt x2_10 := fun q => h_31 (Int32.toInt_inj.mp q)
              (try simp only [Int32.toInt_add, Int32.toInt_sub, Int32.toInt_mul, Int32.toInt_toInt64, Int64.toInt_add, z_m1, Int32.reduceToInt, Int64.reduceToInt, Int32.reduceToNatClampNeg, Int.bmod_def] at i_31)
              refine vB (v_X8_choiceOf p_jB_10 p_jS_10 p_jL_10 (by first | omega | (simp only [Int32.toInt_add, Int32.toInt_sub, Int32.toInt_mul, Int32.toInt_toInt64, Int64.toInt_add, z_m1, Int32.reduceToInt, Int64.reduceToInt, Int32.reduceToNatClampNeg, Int.bmod_def, or_true, true_or, and_true, true_and] <;> omega)) (by first | omega | (simp only [Int32.toInt_add, Int32.toInt_sub, Int32.toInt_mul, Int32.toInt_toInt64, Int64.toInt_add, z_m1, Int32.reduceToInt, Int64.reduceToInt, Int32.reduceToNatClampNeg, Int.bmod_def, or_true, true_or, and_true, true_and] <;> omega)) (by first | omega | (simp only [Int32.toInt_add, Int32.toInt_sub, Int32.toInt_mul, Int32.toInt_toInt64, Int64.toInt_add, z_m1, Int32.reduceToInt, Int64.reduceToInt, Int32.reduceToNatClampNeg, Int.bmod_def, or_true, true_or, and_true, true_and] <;> omega))) (fun e_38 f_38 q_38 => ?_)
              obtain ⟨x0_38, x1_38, x2_38⟩ := q_38
              (try simp only [Int32.toInt_add, Int32.toInt_sub, Int32.toInt_mul, Int32.toInt_toInt64, Int64.toInt_add, z_m1, Int32.reduceToInt, Int64.reduceToInt, Int32.reduceToNatClampNeg, Int.bmod_def] at x0_38)
              (try simp only [Int32.toInt_add, Int32.toInt_sub, Int32.toInt_mul, Int32.toInt_toInt64, Int64.toInt_add, z_m1, Int32.reduceToInt, Int64.reduceToInt, Int32.reduceToNatClampNeg, Int.bmod_def] at x1_38)
              (try simp only [Int32.toInt_add, Int32.toInt_sub, Int32.toInt_mul, Int32.toInt_toInt64, Int64.toInt_add, z_m1, Int32.reduceToInt, Int64.reduceToInt, Int32.reduceToNatClampNeg, Int.bmod_def] at x2_38)
              refine vIf (fun h_42 => ?_) (fun h_42 => ?_)
              · have i_42 := congrArg Int32.toInt h_42
                (try simp only [Int32.toInt_add, Int32.toInt_sub, Int32.toInt_mul, Int32.toInt_toInt64, Int64.toInt_add, z_m1, Int32.reduceToInt, Int64.reduceToInt, Int32.reduceToNatClampNeg, Int.bmod_def] at i_42)
                refine vI (vp_of (by first | omega | (simp only [Int32.toInt_add, Int32.toInt_sub, Int32.toInt_mul, Int32.toInt_toInt64, Int64.toInt_add, z_m1, Int32.reduceToInt, Int64.reduceToInt, Int32.reduceToNatClampNeg, Int.bmod_def, or_true, true_or, and_true, true_and] <;> omega)) (by first | omega | (simp only [Int32.toInt_add, Int32.toInt_sub, Int32.toInt_mul, Int32.toInt_toInt64, Int64.toInt_add, z_m1, Int32.reduceToInt, Int64.reduceToInt, Int32.reduceToNatClampNeg, Int.bmod_def, or_true, true_or, and_true, true_and] <;> omega))) ?_
                refine vIf (fun h_53 => ?_) (fun h_53 => ?_)
                · have i_53 := congrArg Int32.toInt h_53
                  (try simp only [Int32.toInt_add, Int32.toInt_sub, Int32.toInt_mul, Int32.toInt_toInt64, Int64.toInt_add, z_m1, Int32.reduceToInt, Int64.reduceToInt, Int32.reduceToNatClampNeg, Int.bmod_def] at i_53)
                  exact T_61 _ _ _ _ _ _ _ k_10 p_jB_10 p_jL_10 p_jO_10 p_jR_10 p_jS_10 (by first | exact Or.inl rfl | exact Or.inr rfl | assumption) (by first | omega | (simp only [Int32.toInt_add, Int32.toInt_sub, Int32.toInt_mul, Int32.toInt_toInt64, Int64.toInt_add, z_m1, Int32.reduceToInt, Int64.reduceToInt, Int32.reduceToNatClampNeg, Int.bmod_def, or_true, true_or, and_true, true_and] <;> omega)) (by first | omega | (simp only [Int32.toInt_add, Int32.toInt_sub, Int32.toInt_mul, Int32.toInt_toInt64, Int64.toInt_add, z_m1, Int32.reduceToInt, Int64.reduceToInt, Int32.reduceToNatClampNeg, Int.bmod_def, or_true, true_or, and_true, true_and] <;> omega)) hm_10 (by first | assumption | exact z_lt (by assumption) | exact z_lt2 (by assumption) | exact z_lt3 (by assumption) (by first | assumption | decide)) (by first | omega | (simp only [Int32.toInt_add, Int32.toInt_sub, Int32.toInt_mul, Int32.toInt_toInt64, Int64.toInt_add, z_m1, Int32.reduceToInt, Int64.reduceToInt, Int32.reduceToNatClampNeg, Int.bmod_def, or_true, true_or, and_true, true_and] <;> omega)) (by first | omega | (simp only [Int32.toInt_add, Int32.toInt_sub, Int32.toInt_mul, Int32.toInt_toInt64, Int64.toInt_add, z_m1, Int32.reduceToInt, Int64.reduceToInt, Int32.reduceToNatClampNeg, Int.bmod_def, or_true, true_or, and_true, true_and] <;> omega)) (by first | omega | (simp only [Int32.toInt_add, Int32.toInt_sub, Int32.toInt_mul, Int32.toInt_toInt64, Int64.toInt_add, z_m1, Int32.reduceToInt, Int64.reduceToInt, Int32.reduceToNatClampNeg, Int.bmod_def, or_true, true_or, and_true, true_and] <;> omega)) (by first | assumption | omega)
                · have i_53 : ¬ Int32.toInt (M_10 (P + 16) (M_10 (P + 18) x4_10.toNatClampNeg).toNatClampNeg) = Int32.toInt x3_10 := fun q => h_53 (Int32.toInt_inj.mp q)
                  (try simp only [Int32.toInt_add, Int32.toInt_sub, Int32.toInt_mul, Int32.toInt_toInt64, Int64.toInt_add, z_m1, Int32.reduceToInt, Int64.reduceToInt, Int32.reduceToNatClampNeg, Int.bmod_def] at i_53)
                  exact T_60 _ _ _ _ _ _ k_10 p_jB_10 p_jL_10 p_jO_10 p_jR_10 p_jS_10 (by first | omega | (simp only [Int32.toInt_add, Int32.toInt_sub, Int32.toInt_mul, Int32.toInt_toInt64, Int64.toInt_add, z_m1, Int32.reduceToInt, Int64.reduceToInt, Int32.reduceToNatClampNeg, Int.bmod_def, or_true, true_or, and_true, true_and] <;> omega)) (by first | omega | (simp only [Int32.toInt_add, Int32.toInt_sub, Int32.toInt_mul, Int32.toInt_toInt64, Int64.toInt_add, z_m1, Int32.reduceToInt, Int64.reduceToInt, Int32.reduceToNatClampNeg, Int.bmod_def, or_true, true_or, and_true, true_and] <;> omega)) hm_10 (by first | assumption | exact z_lt (by assumption) | exact z_lt2 (by assumption) | exact z_lt3 (by assumption) (by first | assumption | decide)) (by first | omega | (simp only [Int32.toInt_add, Int32.toInt_sub, Int32.toInt_mul, Int32.toInt_toInt64, Int64.toInt_add, z_m1, Int32.reduceToInt, Int64.reduceToInt, Int32.reduceToNatClampNeg, Int.bmod_def, or_true, true_or, and_true, true_and] <;> omega)) (by first | omega | (simp only [Int32.toInt_add, Int32.toInt_sub, Int32.toInt_mul, Int32.toInt_toInt64, Int64.toInt_add, z_m1, Int32.reduceToInt, Int64.reduceToInt, Int32.reduceToNatClampNeg, Int.bmod_def, or_true, true_or, and_true, true_and] <;> omega)) (by first | omega | (simp only [Int32.toInt_add, Int32.toInt_sub, Int32.toInt_mul, Int32.toInt_toInt64, Int64.toInt_add, z_m1, Int32.reduceToInt, Int64.reduceToInt, Int32.reduceToNatClampNeg, Int.bmod_def, or_true, true_or, and_true, true_and] <;> omega)) (by first | assumption | omega)
              · have i_42 : ¬ Int32.toInt e_38 = Int32.toInt x1_10 := fun q => h_42 (Int32.toInt_inj.mp q)
                (try simp only [Int32.toInt_add, Int32.toInt_sub, Int32.toInt_mul, Int32.toInt_toInt64, Int64.toInt_add, z_m1, Int32.reduceToInt, Int64.reduceToInt, Int32.reduceToNatClampNeg, Int.bmod_def] at i_42)
                exact T_60 _ _ _ _ _ _ k_10 p_jB_10 p_jL_10 p_jO_10 p_jR_10 p_jS_10 (by first | omega | (simp only [Int32.toInt_add, Int32.toInt_sub, Int32.toInt_mul, Int32.toInt_toInt64, Int64.toInt_add, z_m1, Int32.reduceToInt, Int64.reduceToInt, Int32.reduceToNatClampNeg, Int.bmod_def, or_true, true_or, and_true, true_and] <;> omega)) (by first | omega | (simp only [Int32.toInt_add, Int32.toInt_sub, Int32.toInt_mul, Int32.toInt_toInt64, Int64.toInt_add, z_m1, Int32.reduceToInt, Int64.reduceToInt, Int32.reduceToNatClampNeg, Int.bmod_def, or_true, true_or, and_true, true_and] <;> omega)) hm_10 (by first | assumption | exact z_lt (by assumption) | exact z_lt2 (by assumption) | exact z_lt3 (by assumption) (by first | assumption | decide)) (by first | omega | (simp only [Int32.toInt_add, Int32.toInt_sub, Int32.toInt_mul, Int32.toInt_toInt64, Int64.toInt_add, z_m1, Int32.reduceToInt, Int64.reduceToInt, Int32.reduceToNatClampNeg, Int.bmod_def, or_true, true_or, and_true, true_and] <;> omega)) (by first | omega | (simp only [Int32.toInt_add, Int32.toInt_sub, Int32.toInt_mul, Int32.toInt_toInt64, Int64.toInt_add, z_m1, Int32.reduceToInt, Int64.reduceToInt, Int32.reduceToNatClampNeg, Int.bmod_def, or_true, true_or, and_true, true_and] <;> omega)) (by first | omega | (simp only [Int32.toInt_add, Int32.toInt_sub, Int32.toInt_mul, Int32.toInt_toInt64, Int64.toInt_add, z_m1, Int32.reduceToInt, Int64.reduceToInt, Int32.reduceToNatClampNeg, Int.bmod_def, or_true, true_or, and_true, true_and] <;> omega)) (by first | assumption | omega)
      have T_10 : ∀ (x1_10 : Int32) (x2_10 : Int32) (x3_10 : Int32) (x4_10 : Int32) (M_10 : zMt), (∀ a j, ¬ WM_X8_firstRound P a j → M_10 a j = M0 a j) → (jB P M_10) → (jL P M_10) → (jO P M_10) → (jR P M_10) → (jS P M_10) → (0 ≤ Int32.toInt x4_10) → (Int32.toInt x4_10 ≤ 10) → (0 ≤ Int32.toInt x1_10 ∧ Int32.toInt x1_10 < 5) → (0 ≤ Int32.toInt x3_10 ∧ Int32.toInt x3_10 ≤ 20) → ((Int32.toInt x3_10 + 1).toNat < u_3 + 1) → ∃ r, D_X8_firstRound_10 P (D_X8_firstRound_3 P u_3) zFu x1_10 x2_10 x3_10 x4_10 M_10 = some r ∧ ((∀ a j, ¬ WM_X8_firstRound P a j → r a j = M0 a j) ∧ ((jR P r))) := fun x1_10 x2_10 x3_10 x4_10 M_10 k_10 p_jB_10 p_jL_10 p_jO_10 p_jR_10 p_jS_10 f0_10 f1_10 f2_10 f3_10 f4_10 => TL_10 zFu x1_10 x2_10 x3_10 x4_10 M_10 k_10 p_jB_10 p_jL_10 p_jO_10 p_jR_10 p_jS_10 f0_10 f1_10 f2_10 f3_10 f4_10 (zFu_up _)
      intro x1_3 x2_3 x3_3 M_3 k_3 p_jB_3 p_jL_3 p_jO_3 p_jR_3 p_jS_3 f0_3 f1_3 hm_3
      obtain ⟨u0_jB_3, u1_jB_3, u2_jB_3, u3_jB_3, u4_jB_3, u5_jB_3⟩ := id p_jB_3
      obtain ⟨u0_jS_3, u1_jS_3, u2_jS_3, u3_jS_3, u4_jS_3, u5_jS_3, u6_jS_3, u7_jS_3⟩ := jS.ints p_jS_3
      rw [D_X8_firstRound_3]
      refine vIf (fun h_4 => ?_) (fun h_4 => ?_)
      · have i_4 := Int32.lt_iff_toInt_lt.mp h_4
        (try simp only [Int32.toInt_add, Int32.toInt_sub, Int32.toInt_mul, Int32.toInt_toInt64, Int64.toInt_add, z_m1, Int32.reduceToInt, Int64.reduceToInt, Int32.reduceToNatClampNeg, Int.bmod_def] at i_4)
        exact ⟨_, rfl, k_3, p_jR_3⟩
      · have i_4 := Int32.le_iff_toInt_le.mp (Int32.not_lt.mp h_4)
        (try simp only [Int32.toInt_add, Int32.toInt_sub, Int32.toInt_mul, Int32.toInt_toInt64, Int64.toInt_add, z_m1, Int32.reduceToInt, Int64.reduceToInt, Int32.reduceToNatClampNeg, Int.bmod_def] at i_4)
        exact T_10 _ _ _ _ _ k_3 p_jB_3 p_jL_3 p_jO_3 p_jR_3 p_jS_3 (by first | omega | (simp only [Int32.toInt_add, Int32.toInt_sub, Int32.toInt_mul, Int32.toInt_toInt64, Int64.toInt_add, z_m1, Int32.reduceToInt, Int64.reduceToInt, Int32.reduceToNatClampNeg, Int.bmod_def, or_true, true_or, and_true, true_and] <;> omega)) (by first | omega | (simp only [Int32.toInt_add, Int32.toInt_sub, Int32.toInt_mul, Int32.toInt_toInt64, Int64.toInt_add, z_m1, Int32.reduceToInt, Int64.reduceToInt, Int32.reduceToNatClampNeg, Int.bmod_def, or_true, true_or, and_true, true_and] <;> omega)) (by first | omega | (simp only [Int32.toInt_add, Int32.toInt_sub, Int32.toInt_mul, Int32.toInt_toInt64, Int64.toInt_add, z_m1, Int32.reduceToInt, Int64.reduceToInt, Int32.reduceToNatClampNeg, Int.bmod_def, or_true, true_or, and_true, true_and] <;> omega)) (by first | omega | (simp only [Int32.toInt_add, Int32.toInt_sub, Int32.toInt_mul, Int32.toInt_toInt64, Int64.toInt_add, z_m1, Int32.reduceToInt, Int64.reduceToInt, Int32.reduceToNatClampNeg, Int.bmod_def, or_true, true_or, and_true, true_and] <;> omega)) (by first | assumption | omega)
  have T_3 : ∀ (x1_3 : Int32) (x2_3 : Int32) (x3_3 : Int32) (M_3 : zMt), (∀ a j, ¬ WM_X8_firstRound P a j → M_3 a j = M0 a j) → (jB P M_3) → (jL P M_3) → (jO P M_3) → (jR P M_3) → (jS P M_3) → (0 ≤ Int32.toInt x1_3 ∧ Int32.toInt x1_3 < 5) → (Int32.toInt x3_3 ≤ 20) → ∃ r, D_X8_firstRound_3 P zFu x1_3 x2_3 x3_3 M_3 = some r ∧ ((∀ a j, ¬ WM_X8_firstRound P a j → r a j = M0 a j) ∧ ((jR P r))) := fun x1_3 x2_3 x3_3 M_3 k_3 p_jB_3 p_jL_3 p_jO_3 p_jR_3 p_jS_3 f0_3 f1_3 => TL_3 zFu x1_3 x2_3 x3_3 M_3 k_3 p_jB_3 p_jL_3 p_jO_3 p_jR_3 p_jS_3 f0_3 f1_3 (by unfold zFu; omega)
  unfold D_X8_firstRound
  exact T_3 _ _ _ _ (fun _ _ _ => rfl) p_jB p_jL p_jO p_jR p_jS (by first | omega | (simp only [Int32.toInt_add, Int32.toInt_sub, Int32.toInt_mul, Int32.toInt_toInt64, Int64.toInt_add, z_m1, Int32.reduceToInt, Int64.reduceToInt, Int32.reduceToNatClampNeg, Int.bmod_def, or_true, true_or, and_true, true_and] <;> omega)) (by first | omega | (simp only [Int32.toInt_add, Int32.toInt_sub, Int32.toInt_mul, Int32.toInt_toInt64, Int64.toInt_add, z_m1, Int32.reduceToInt, Int64.reduceToInt, Int32.reduceToNatClampNeg, Int.bmod_def, or_true, true_or, and_true, true_and] <;> omega))
def WM_X8_results (P : Nat) (a j : Nat) : Prop := (P + 19 ≤ a ∧ a < P + 23)
theorem wz_M_X8_gets_X8_results {P a j : Nat} (h : ¬ WM_X8_results P a j) : ¬ WM_X8_gets P a j := by unfold WM_X8_gets; unfold WM_X8_results at h; omega
theorem wz_M_X8_firstRound_X8_results {P a j : Nat} (h : ¬ WM_X8_results P a j) : ¬ WM_X8_firstRound P a j := by unfold WM_X8_firstRound; unfold WM_X8_results at h; omega
theorem wc_X8_firstRound_7 {P : Nat} : ¬ WM_X8_firstRound P P 7 := by unfold WM_X8_firstRound; omega
theorem wc_X8_firstRound_8 {P : Nat} : ¬ WM_X8_firstRound P P 8 := by unfold WM_X8_firstRound; omega
theorem wc_X8_firstRound_33 {P : Nat} : ¬ WM_X8_firstRound P P 33 := by unfold WM_X8_firstRound; omega
theorem wf_nA_X8_firstRound {P a j : Nat} (h : (a = P + 1 ∨ (a = P ∧ j = 8))) : ¬ WM_X8_firstRound P a j := by unfold WM_X8_firstRound; omega
theorem wf_jB_X8_firstRound {P a j : Nat} (h : (a = P ∧ (j = 7 ∨ j = 8 ∨ j = 33))) : ¬ WM_X8_firstRound P a j := by unfold WM_X8_firstRound; omega
theorem wf_jL_X8_firstRound {P a j : Nat} (h : ((a = P ∧ j = 33) ∨ a = P + 13 ∨ a = P + 14 ∨ a = P + 17)) : ¬ WM_X8_firstRound P a j := by unfold WM_X8_firstRound; omega
theorem wf_jO_X8_firstRound {P a j : Nat} (h : ((a = P ∧ j = 33) ∨ a = P + 18)) : ¬ WM_X8_firstRound P a j := by unfold WM_X8_firstRound; omega
theorem wf_jS_X8_firstRound {P a j : Nat} (h : (a = P + 1 ∨ (a = P ∧ (j = 7 ∨ j = 8)))) : ¬ WM_X8_firstRound P a j := by unfold WM_X8_firstRound; omega
theorem wq_X8_results_M21_r {P a j : Nat} (h : ¬ WM_X8_results P a j) : ¬ a = P + 21 := by unfold WM_X8_results at h; omega
theorem wf_jO_M21_r {P a j : Nat} (h : ((a = P ∧ j = 33) ∨ a = P + 18)) : ¬ a = P + 21 := by omega
theorem wf_jS_M21_r {P a j : Nat} (h : (a = P + 1 ∨ (a = P ∧ (j = 7 ∨ j = 8)))) : ¬ a = P + 21 := by omega
theorem wq_X8_results_M22_r {P a j : Nat} (h : ¬ WM_X8_results P a j) : ¬ a = P + 22 := by unfold WM_X8_results at h; omega
theorem wf_jO_M22_r {P a j : Nat} (h : ((a = P ∧ j = 33) ∨ a = P + 18)) : ¬ a = P + 22 := by omega
theorem wf_jS_M22_r {P a j : Nat} (h : (a = P + 1 ∨ (a = P ∧ (j = 7 ∨ j = 8)))) : ¬ a = P + 22 := by omega
theorem wq_X8_results_M19_r {P a j : Nat} (h : ¬ WM_X8_results P a j) : ¬ a = P + 19 := by unfold WM_X8_results at h; omega
theorem wf_jO_M19_r {P a j : Nat} (h : ((a = P ∧ j = 33) ∨ a = P + 18)) : ¬ a = P + 19 := by omega
theorem wf_jS_M19_r {P a j : Nat} (h : (a = P + 1 ∨ (a = P ∧ (j = 7 ∨ j = 8)))) : ¬ a = P + 19 := by omega
theorem wq_X8_results_M20_r {P a j : Nat} (h : ¬ WM_X8_results P a j) : ¬ a = P + 20 := by unfold WM_X8_results at h; omega
theorem wf_jO_M20_r {P a j : Nat} (h : ((a = P ∧ j = 33) ∨ a = P + 18)) : ¬ a = P + 20 := by omega
theorem wf_jS_M20_r {P a j : Nat} (h : (a = P + 1 ∨ (a = P ∧ (j = 7 ∨ j = 8)))) : ¬ a = P + 20 := by omega
set_option maxRecDepth 100000 in
set_option maxHeartbeats 4000000 in
theorem v_X8_results {P : Nat} {v0 : Int32} {M0 : zMt}  (p_jB : jB P M0) (p_jS : jS P M0) (p_jL : jL P M0) (p_jO : jO P M0) (p_jR : jR P M0) : ∃ r, D_X8_results P v0 M0 = some r ∧ ((∀ a j, ¬ WM_X8_results P a j → r a j = M0 a j) ∧ ((jR P r))) := by
  obtain ⟨u0_jB, u1_jB, u2_jB, u3_jB, u4_jB, u5_jB⟩ := id p_jB
  obtain ⟨u0_jS, u1_jS, u2_jS, u3_jS, u4_jS, u5_jS, u6_jS, u7_jS⟩ := jS.ints p_jS
  have TL_96 : ∀ u : Nat, ∀ (x1_96 : Int32) (x2_96 : Int32) (M_96 : zMt), (∀ a j, ¬ WM_X8_results P a j → M_96 a j = M0 a j) → (jB P M_96) → (jL P M_96) → (jO P M_96) → (jR P M_96) → (jS P M_96) → (0 ≤ Int32.toInt x2_96) → (Int32.toInt x2_96 ≤ 10) → (2147483648 - Int32.toInt x2_96).toNat < u → ∃ r, D_X8_results_96 P u x1_96 x2_96 M_96 = some r ∧ ((∀ a j, ¬ WM_X8_results P a j → r a j = M0 a j) ∧ ((jR P r))) := by
    intro u
    induction u with
    | zero => intro x1_96 x2_96 M_96 k_96 p_jB_96 p_jL_96 p_jO_96 p_jR_96 p_jS_96 f0_96 f1_96 hm_96; exact absurd hm_96 (Nat.not_lt_zero _)
    | succ u_96 ih_96 =>
      have T_185 : ∀ (x1_185 : Int32) (x2_185 : Int32) (M_185 : zMt), (∀ a j, ¬ WM_X8_results P a j → M_185 a j = M0 a j) → (jB P M_185) → (jL P M_185) → (jO P M_185) → (jR P M_185) → (jS P M_185) → (0 ≤ Int32.toInt x2_185) → (Int32.toInt x2_185 < Int32.toInt (M_185 P 33)) → ((2147483648 - Int32.toInt x2_185).toNat < u_96 + 1) → (Int32.toInt x2_185 < 2147483647) → ∃ r, D_X8_results_185 P (D_X8_results_96 P u_96) x1_185 x2_185 M_185 = some r ∧ ((∀ a j, ¬ WM_X8_results P a j → r a j = M0 a j) ∧ ((jR P r))) := by
        intro x1_185 x2_185 M_185 k_185 p_jB_185 p_jL_185 p_jO_185 p_jR_185 p_jS_185 f0_185 f1_185 f2_185 f3_185
        obtain ⟨u0_jB_185, u1_jB_185, u2_jB_185, u3_jB_185, u4_jB_185, u5_jB_185⟩ := id p_jB_185
        obtain ⟨u0_jS_185, u1_jS_185, u2_jS_185, u3_jS_185, u4_jS_185, u5_jS_185, u6_jS_185, u7_jS_185⟩ := jS.ints p_jS_185
        unfold D_X8_results_185
        exact ih_96 _ _ _ k_185 p_jB_185 p_jL_185 p_jO_185 p_jR_185 p_jS_185 (by first | omega | (simp only [Int32.toInt_add, Int32.toInt_sub, Int32.toInt_mul, Int32.toInt_toInt64, Int64.toInt_add, z_m1, Int32.reduceToInt, Int64.reduceToInt, Int32.reduceToNatClampNeg, Int.bmod_def, or_true, true_or, and_true, true_and] <;> omega)) (by first | omega | (simp only [Int32.toInt_add, Int32.toInt_sub, Int32.toInt_mul, Int32.toInt_toInt64, Int64.toInt_add, z_m1, Int32.reduceToInt, Int64.reduceToInt, Int32.reduceToNatClampNeg, Int.bmod_def, or_true, true_or, and_true, true_and] <;> omega)) (z_up1 f3_185 f2_185)
      have TL_114 : ∀ u : Nat, ∀ (x1_114 : Int32) (x2_114 : Int32) (x3_114 : Int32) (x4_114 : Int32) (M_114 : zMt), (∀ a j, ¬ WM_X8_results P a j → M_114 a j = M0 a j) → (jB P M_114) → (jL P M_114) → (jO P M_114) → (jR P M_114) → (jS P M_114) → (0 ≤ Int32.toInt x2_114) → (Int32.toInt x2_114 < Int32.toInt (M_114 P 33)) → (0 ≤ Int32.toInt x4_114) → ((2147483648 - Int32.toInt x2_114).toNat < u_96 + 1) → (Int32.toInt x2_114 < 2147483647) → (0 ≤ Int32.toInt x3_114 ∧ Int32.toInt x3_114 < Int32.toInt (M_114 P 33)) → (2147483648 - Int32.toInt x4_114).toNat < u → ∃ r, D_X8_results_114 P (D_X8_results_96 P u_96) u x1_114 x2_114 x3_114 x4_114 M_114 = some r ∧ ((∀ a j, ¬ WM_X8_results P a j → r a j = M0 a j) ∧ ((jR P r))) := by
        intro u
        induction u with
        | zero => intro x1_114 x2_114 x3_114 x4_114 M_114 k_114 p_jB_114 p_jL_114 p_jO_114 p_jR_114 p_jS_114 f0_114 f1_114 f2_114 f3_114 f4_114 f5_114 hm_114; exact absurd hm_114 (Nat.not_lt_zero _)
        | succ u_114 ih_114 =>
          have T_179 : ∀ (x1_179 : Int32) (x2_179 : Int32) (x3_179 : Int32) (x4_179 : Int32) (M_179 : zMt), (∀ a j, ¬ WM_X8_results P a j → M_179 a j = M0 a j) → (jB P M_179) → (jL P M_179) → (jO P M_179) → (jR P M_179) → (jS P M_179) → (0 ≤ Int32.toInt x2_179) → (Int32.toInt x2_179 < Int32.toInt (M_179 P 33)) → (0 ≤ Int32.toInt x4_179) → ((2147483648 - Int32.toInt x2_179).toNat < u_96 + 1) → (Int32.toInt x2_179 < 2147483647) → ((2147483648 - Int32.toInt x4_179).toNat < u_114 + 1) → (Int32.toInt x4_179 < 2147483647) → (0 ≤ Int32.toInt x3_179 ∧ Int32.toInt x3_179 < Int32.toInt (M_179 P 33)) → ∃ r, D_X8_results_179 P (D_X8_results_96 P u_96) (D_X8_results_114 P (D_X8_results_96 P u_96) u_114) x1_179 x2_179 x3_179 x4_179 M_179 = some r ∧ ((∀ a j, ¬ WM_X8_results P a j → r a j = M0 a j) ∧ ((jR P r))) := by
            intro x1_179 x2_179 x3_179 x4_179 M_179 k_179 p_jB_179 p_jL_179 p_jO_179 p_jR_179 p_jS_179 f0_179 f1_179 f2_179 f3_179 f4_179 f5_179 f6_179 f7_179
            obtain ⟨u0_jB_179, u1_jB_179, u2_jB_179, u3_jB_179, u4_jB_179, u5_jB_179⟩ := id p_jB_179
            obtain ⟨u0_jS_179, u1_jS_179, u2_jS_179, u3_jS_179, u4_jS_179, u5_jS_179, u6_jS_179, u7_jS_179⟩ := jS.ints p_jS_179
            unfold D_X8_results_179
            exact ih_114 _ _ _ _ _ k_179 p_jB_179 p_jL_179 p_jO_179 p_jR_179 p_jS_179 (by first | omega | (simp only [Int32.toInt_add, Int32.toInt_sub, Int32.toInt_mul, Int32.toInt_toInt64, Int64.toInt_add, z_m1, Int32.reduceToInt, Int64.reduceToInt, Int32.reduceToNatClampNeg, Int.bmod_def, or_true, true_or, and_true, true_and] <;> omega)) (by first | omega | (simp only [Int32.toInt_add, Int32.toInt_sub, Int32.toInt_mul, Int32.toInt_toInt64, Int64.toInt_add, z_m1, Int32.reduceToInt, Int64.reduceToInt, Int32.reduceToNatClampNeg, Int.bmod_def, or_true, true_or, and_true, true_and] <;> omega)) (by first | omega | (simp only [Int32.toInt_add, Int32.toInt_sub, Int32.toInt_mul, Int32.toInt_toInt64, Int64.toInt_add, z_m1, Int32.reduceToInt, Int64.reduceToInt, Int32.reduceToNatClampNeg, Int.bmod_def, or_true, true_or, and_true, true_and] <;> omega)) f3_179 f4_179 (by first | omega | (simp only [Int32.toInt_add, Int32.toInt_sub, Int32.toInt_mul, Int32.toInt_toInt64, Int64.toInt_add, z_m1, Int32.reduceToInt, Int64.reduceToInt, Int32.reduceToNatClampNeg, Int.bmod_def, or_true, true_or, and_true, true_and] <;> omega)) (z_up1 f6_179 f5_179)
          intro x1_114 x2_114 x3_114 x4_114 M_114 k_114 p_jB_114 p_jL_114 p_jO_114 p_jR_114 p_jS_114 f0_114 f1_114 f2_114 f3_114 f4_114 f5_114 hm_114
          obtain ⟨u0_jB_114, u1_jB_114, u2_jB_114, u3_jB_114, u4_jB_114, u5_jB_114⟩ := id p_jB_114
          obtain ⟨u0_jS_114, u1_jS_114, u2_jS_114, u3_jS_114, u4_jS_114, u5_jS_114, u6_jS_114, u7_jS_114⟩ := jS.ints p_jS_114
          rw [D_X8_results_114]
          refine vB (v_X8_choiceMany p_jB_114 p_jS_114 p_jL_114 (by first | omega | (simp only [Int32.toInt_add, Int32.toInt_sub, Int32.toInt_mul, Int32.toInt_toInt64, Int64.toInt_add, z_m1, Int32.reduceToInt, Int64.reduceToInt, Int32.reduceToNatClampNeg, Int.bmod_def, or_true, true_or, and_true, true_and] <;> omega)) (by first | omega | (simp only [Int32.toInt_add, Int32.toInt_sub, Int32.toInt_mul, Int32.toInt_toInt64, Int64.toInt_add, z_m1, Int32.reduceToInt, Int64.reduceToInt, Int32.reduceToNatClampNeg, Int.bmod_def, or_true, true_or, and_true, true_and] <;> omega))) (fun e_118 f_118 q_118 => ?_)
          obtain ⟨x0_118, x1_118, x2_118⟩ := q_118
          (try simp only [Int32.toInt_add, Int32.toInt_sub, Int32.toInt_mul, Int32.toInt_toInt64, Int64.toInt_add, z_m1, Int32.reduceToInt, Int64.reduceToInt, Int32.reduceToNatClampNeg, Int.bmod_def] at x0_118)
          (try simp only [Int32.toInt_add, Int32.toInt_sub, Int32.toInt_mul, Int32.toInt_toInt64, Int64.toInt_add, z_m1, Int32.reduceToInt, Int64.reduceToInt, Int32.reduceToNatClampNeg, Int.bmod_def] at x1_118)
          refine vIf (fun h_121 => ?_) (fun h_121 => ?_)
          · have i_121 := Int32.le_iff_toInt_le.mp h_121
            (try simp only [Int32.toInt_add, Int32.toInt_sub, Int32.toInt_mul, Int32.toInt_toInt64, Int64.toInt_add, z_m1, Int32.reduceToInt, Int64.reduceToInt, Int32.reduceToNatClampNeg, Int.bmod_def] at i_121)
            exact T_185 _ _ _ k_114 p_jB_114 p_jL_114 p_jO_114 p_jR_114 p_jS_114 (by first | omega | (simp only [Int32.toInt_add, Int32.toInt_sub, Int32.toInt_mul, Int32.toInt_toInt64, Int64.toInt_add, z_m1, Int32.reduceToInt, Int64.reduceToInt, Int32.reduceToNatClampNeg, Int.bmod_def, or_true, true_or, and_true, true_and] <;> omega)) (by first | omega | (simp only [Int32.toInt_add, Int32.toInt_sub, Int32.toInt_mul, Int32.toInt_toInt64, Int64.toInt_add, z_m1, Int32.reduceToInt, Int64.reduceToInt, Int32.reduceToNatClampNeg, Int.bmod_def, or_true, true_or, and_true, true_and] <;> omega)) f3_114 f4_114
          · have i_121 := Int32.lt_iff_toInt_lt.mp (Int32.not_le.mp h_121)
            (try simp only [Int32.toInt_add, Int32.toInt_sub, Int32.toInt_mul, Int32.toInt_toInt64, Int64.toInt_add, z_m1, Int32.reduceToInt, Int64.reduceToInt, Int32.reduceToNatClampNeg, Int.bmod_def] at i_121)
            refine vI (vp_of (by first | omega | (simp only [Int32.toInt_add, Int32.toInt_sub, Int32.toInt_mul, Int32.toInt_toInt64, Int64.toInt_add, z_m1, Int32.reduceToInt, Int64.reduceToInt, Int32.reduceToNatClampNeg, Int.bmod_def, or_true, true_or, and_true, true_and] <;> omega)) (by first | omega | (simp only [Int32.toInt_add, Int32.toInt_sub, Int32.toInt_mul, Int32.toInt_toInt64, Int64.toInt_add, z_m1, Int32.reduceToInt, Int64.reduceToInt, Int32.reduceToNatClampNeg, Int.bmod_def, or_true, true_or, and_true, true_and] <;> omega))) ?_
            obtain ⟨w0_129, w1_129⟩ := jR.el p_jR_114 (x := x3_114) (by first | omega | (simp only [Int32.toInt_add, Int32.toInt_sub, Int32.toInt_mul, Int32.toInt_toInt64, Int64.toInt_add, z_m1, Int32.reduceToInt, Int64.reduceToInt, Int32.reduceToNatClampNeg, Int.bmod_def, or_true, true_or, and_true, true_and] <;> omega)) (by first | omega | (simp only [Int32.toInt_add, Int32.toInt_sub, Int32.toInt_mul, Int32.toInt_toInt64, Int64.toInt_add, z_m1, Int32.reduceToInt, Int64.reduceToInt, Int32.reduceToNatClampNeg, Int.bmod_def, or_true, true_or, and_true, true_and] <;> omega))
            refine vIf (fun h_131 => ?_) (fun h_131 => ?_)
            · have i_131 := congrArg Int32.toInt h_131
              (try simp only [Int32.toInt_add, Int32.toInt_sub, Int32.toInt_mul, Int32.toInt_toInt64, Int64.toInt_add, z_m1, Int32.reduceToInt, Int64.reduceToInt, Int32.reduceToNatClampNeg, Int.bmod_def] at i_131)
              refine vIf (fun h_136 => ?_) (fun h_136 => ?_)
              · have i_136 := congrArg Int32.toInt h_136
                (try simp only [Int32.toInt_add, Int32.toInt_sub, Int32.toInt_mul, Int32.toInt_toInt64, Int64.toInt_add, z_m1, Int32.reduceToInt, Int64.reduceToInt, Int32.reduceToNatClampNeg, Int.bmod_def] at i_136)
                exact T_185 _ _ _ k_114 p_jB_114 p_jL_114 p_jO_114 p_jR_114 p_jS_114 (by first | omega | (simp only [Int32.toInt_add, Int32.toInt_sub, Int32.toInt_mul, Int32.toInt_toInt64, Int64.toInt_add, z_m1, Int32.reduceToInt, Int64.reduceToInt, Int32.reduceToNatClampNeg, Int.bmod_def, or_true, true_or, and_true, true_and] <;> omega)) (by first | omega | (simp only [Int32.toInt_add, Int32.toInt_sub, Int32.toInt_mul, Int32.toInt_toInt64, Int64.toInt_add, z_m1, Int32.reduceToInt, Int64.reduceToInt, Int32.reduceToNatClampNeg, Int.bmod_def, or_true, true_or, and_true, true_and] <;> omega)) f3_114 f4_114
              · have i_136 : ¬ Int32.toInt x3_114 = Int32.toInt x1_114 := fun q => h_136 (Int32.toInt_inj.mp q)
                (try simp only [Int32.toInt_add, Int32.toInt_sub, Int32.toInt_mul, Int32.toInt_toInt64, Int64.toInt_add, z_m1, Int32.reduceToInt, Int64.reduceToInt, Int32.reduceToNatClampNeg, Int.bmod_def] at i_136)
                refine vB (v_X8_choiceOf p_jB_114 p_jS_114 p_jL_114 (by first | omega | (simp only [Int32.toInt_add, Int32.toInt_sub, Int32.toInt_mul, Int32.toInt_toInt64, Int64.toInt_add, z_m1, Int32.reduceToInt, Int64.reduceToInt, Int32.reduceToNatClampNeg, Int.bmod_def, or_true, true_or, and_true, true_and] <;> omega)) (by first | omega | (simp only [Int32.toInt_add, Int32.toInt_sub, Int32.toInt_mul, Int32.toInt_toInt64, Int64.toInt_add, z_m1, Int32.reduceToInt, Int64.reduceToInt, Int32.reduceToNatClampNeg, Int.bmod_def, or_true, true_or, and_true, true_and] <;> omega)) (by first | omega | (simp only [Int32.toInt_add, Int32.toInt_sub, Int32.toInt_mul, Int32.toInt_toInt64, Int64.toInt_add, z_m1, Int32.reduceToInt, Int64.reduceToInt, Int32.reduceToNatClampNeg, Int.bmod_def, or_true, true_or, and_true, true_and] <;> omega))) (fun e_145 f_145 q_145 => ?_)
                obtain ⟨x0_145, x1_145, x2_145⟩ := q_145
                have y_145 : ¬ Int32.toInt e_145 = -1 := x2_118 x4_114 (by first | omega | (simp only [Int32.toInt_add, Int32.toInt_sub, Int32.toInt_mul, Int32.toInt_toInt64, Int64.toInt_add, z_m1, Int32.reduceToInt, Int64.reduceToInt, Int32.reduceToNatClampNeg, Int.bmod_def, or_true, true_or, and_true, true_and] <;> omega)) (by first | omega | (simp only [Int32.toInt_add, Int32.toInt_sub, Int32.toInt_mul, Int32.toInt_toInt64, Int64.toInt_add, z_m1, Int32.reduceToInt, Int64.reduceToInt, Int32.reduceToNatClampNeg, Int.bmod_def, or_true, true_or, and_true, true_and] <;> omega)) e_145 f_145
                (try simp only [Int32.toInt_add, Int32.toInt_sub, Int32.toInt_mul, Int32.toInt_toInt64, Int64.toInt_add, z_m1, Int32.reduceToInt, Int64.reduceToInt, Int32.reduceToNatClampNeg, Int.bmod_def] at x0_145)
                (try simp only [Int32.toInt_add, Int32.toInt_sub, Int32.toInt_mul, Int32.toInt_toInt64, Int64.toInt_add, z_m1, Int32.reduceToInt, Int64.reduceToInt, Int32.reduceToNatClampNeg, Int.bmod_def] at x1_145)
                (try simp only [Int32.toInt_add, Int32.toInt_sub, Int32.toInt_mul, Int32.toInt_toInt64, Int64.toInt_add, z_m1, Int32.reduceToInt, Int64.reduceToInt, Int32.reduceToNatClampNeg, Int.bmod_def] at x2_145)
                refine vB (v_X8_choiceOf p_jB_114 p_jS_114 p_jL_114 (by first | omega | (simp only [Int32.toInt_add, Int32.toInt_sub, Int32.toInt_mul, Int32.toInt_toInt64, Int64.toInt_add, z_m1, Int32.reduceToInt, Int64.reduceToInt, Int32.reduceToNatClampNeg, Int.bmod_def, or_true, true_or, and_true, true_and] <;> omega)) (by first | omega | (simp only [Int32.toInt_add, Int32.toInt_sub, Int32.toInt_mul, Int32.toInt_toInt64, Int64.toInt_add, z_m1, Int32.reduceToInt, Int64.reduceToInt, Int32.reduceToNatClampNeg, Int.bmod_def, or_true, true_or, and_true, true_and] <;> omega)) (by first | omega | (simp only [Int32.toInt_add, Int32.toInt_sub, Int32.toInt_mul, Int32.toInt_toInt64, Int64.toInt_add, z_m1, Int32.reduceToInt, Int64.reduceToInt, Int32.reduceToNatClampNeg, Int.bmod_def, or_true, true_or, and_true, true_and] <;> omega))) (fun e_156 f_156 q_156 => ?_)
                obtain ⟨x0_156, x1_156, x2_156⟩ := q_156
                have y_156 : ¬ Int32.toInt e_156 = -1 := x2_118 x4_114 (by first | omega | (simp only [Int32.toInt_add, Int32.toInt_sub, Int32.toInt_mul, Int32.toInt_toInt64, Int64.toInt_add, z_m1, Int32.reduceToInt, Int64.reduceToInt, Int32.reduceToNatClampNeg, Int.bmod_def, or_true, true_or, and_true, true_and] <;> omega)) (by first | omega | (simp only [Int32.toInt_add, Int32.toInt_sub, Int32.toInt_mul, Int32.toInt_toInt64, Int64.toInt_add, z_m1, Int32.reduceToInt, Int64.reduceToInt, Int32.reduceToNatClampNeg, Int.bmod_def, or_true, true_or, and_true, true_and] <;> omega)) e_156 f_156
                (try simp only [Int32.toInt_add, Int32.toInt_sub, Int32.toInt_mul, Int32.toInt_toInt64, Int64.toInt_add, z_m1, Int32.reduceToInt, Int64.reduceToInt, Int32.reduceToNatClampNeg, Int.bmod_def] at x0_156)
                (try simp only [Int32.toInt_add, Int32.toInt_sub, Int32.toInt_mul, Int32.toInt_toInt64, Int64.toInt_add, z_m1, Int32.reduceToInt, Int64.reduceToInt, Int32.reduceToNatClampNeg, Int.bmod_def] at x1_156)
                (try simp only [Int32.toInt_add, Int32.toInt_sub, Int32.toInt_mul, Int32.toInt_toInt64, Int64.toInt_add, z_m1, Int32.reduceToInt, Int64.reduceToInt, Int32.reduceToNatClampNeg, Int.bmod_def] at x2_156)
                refine vI (vp_of (by first | omega | (simp only [Int32.toInt_add, Int32.toInt_sub, Int32.toInt_mul, Int32.toInt_toInt64, Int64.toInt_add, z_m1, Int32.reduceToInt, Int64.reduceToInt, Int32.reduceToNatClampNeg, Int.bmod_def, or_true, true_or, and_true, true_and] <;> omega)) (by first | omega | (simp only [Int32.toInt_add, Int32.toInt_sub, Int32.toInt_mul, Int32.toInt_toInt64, Int64.toInt_add, z_m1, Int32.reduceToInt, Int64.reduceToInt, Int32.reduceToNatClampNeg, Int.bmod_def, or_true, true_or, and_true, true_and] <;> omega))) ?_
                refine vB (v_X8_fits (by first | omega | (simp only [Int32.toInt_add, Int32.toInt_sub, Int32.toInt_mul, Int32.toInt_toInt64, Int64.toInt_add, z_m1, Int32.reduceToInt, Int64.reduceToInt, Int32.reduceToNatClampNeg, Int.bmod_def, or_true, true_or, and_true, true_and] <;> omega)) (by first | omega | (simp only [Int32.toInt_add, Int32.toInt_sub, Int32.toInt_mul, Int32.toInt_toInt64, Int64.toInt_add, z_m1, Int32.reduceToInt, Int64.reduceToInt, Int32.reduceToNatClampNeg, Int.bmod_def, or_true, true_or, and_true, true_and] <;> omega)) (by first | omega | (simp only [Int32.toInt_add, Int32.toInt_sub, Int32.toInt_mul, Int32.toInt_toInt64, Int64.toInt_add, z_m1, Int32.reduceToInt, Int64.reduceToInt, Int32.reduceToNatClampNeg, Int.bmod_def, or_true, true_or, and_true, true_and] <;> omega)) (by first | omega | (simp only [Int32.toInt_add, Int32.toInt_sub, Int32.toInt_mul, Int32.toInt_toInt64, Int64.toInt_add, z_m1, Int32.reduceToInt, Int64.reduceToInt, Int32.reduceToNatClampNeg, Int.bmod_def, or_true, true_or, and_true, true_and] <;> omega))) (fun e_160 f_160 q_160 => ?_)
                have b_160 := q_160
                refine vIf (fun h_163 => ?_) (fun h_163 => ?_)
                · have i_163 := congrArg Int32.toInt h_163
                  (try simp only [Int32.toInt_add, Int32.toInt_sub, Int32.toInt_mul, Int32.toInt_toInt64, Int64.toInt_add, z_m1, Int32.reduceToInt, Int64.reduceToInt, Int32.reduceToNatClampNeg, Int.bmod_def] at i_163)
                  exact T_179 _ _ _ _ _ k_114 p_jB_114 p_jL_114 p_jO_114 p_jR_114 p_jS_114 (by first | omega | (simp only [Int32.toInt_add, Int32.toInt_sub, Int32.toInt_mul, Int32.toInt_toInt64, Int64.toInt_add, z_m1, Int32.reduceToInt, Int64.reduceToInt, Int32.reduceToNatClampNeg, Int.bmod_def, or_true, true_or, and_true, true_and] <;> omega)) (by first | omega | (simp only [Int32.toInt_add, Int32.toInt_sub, Int32.toInt_mul, Int32.toInt_toInt64, Int64.toInt_add, z_m1, Int32.reduceToInt, Int64.reduceToInt, Int32.reduceToNatClampNeg, Int.bmod_def, or_true, true_or, and_true, true_and] <;> omega)) (by first | omega | (simp only [Int32.toInt_add, Int32.toInt_sub, Int32.toInt_mul, Int32.toInt_toInt64, Int64.toInt_add, z_m1, Int32.reduceToInt, Int64.reduceToInt, Int32.reduceToNatClampNeg, Int.bmod_def, or_true, true_or, and_true, true_and] <;> omega)) f3_114 f4_114 hm_114 (by first | assumption | exact z_lt (by assumption) | exact z_lt2 (by assumption) | exact z_lt3 (by assumption) (by first | assumption | decide)) (by first | omega | (simp only [Int32.toInt_add, Int32.toInt_sub, Int32.toInt_mul, Int32.toInt_toInt64, Int64.toInt_add, z_m1, Int32.reduceToInt, Int64.reduceToInt, Int32.reduceToNatClampNeg, Int.bmod_def, or_true, true_or, and_true, true_and] <;> omega))
                · have i_163 : ¬ Int32.toInt e_160 = Int32.toInt (0 : Int32) := fun q => h_163 (Int32.toInt_inj.mp q)
                  (try simp only [Int32.toInt_add, Int32.toInt_sub, Int32.toInt_mul, Int32.toInt_toInt64, Int64.toInt_add, z_m1, Int32.reduceToInt, Int64.reduceToInt, Int32.reduceToNatClampNeg, Int.bmod_def] at i_163)
                  refine vB (v_X8_choiceOf p_jB_114 p_jS_114 p_jL_114 (by first | omega | (simp only [Int32.toInt_add, Int32.toInt_sub, Int32.toInt_mul, Int32.toInt_toInt64, Int64.toInt_add, z_m1, Int32.reduceToInt, Int64.reduceToInt, Int32.reduceToNatClampNeg, Int.bmod_def, or_true, true_or, and_true, true_and] <;> omega)) (by first | omega | (simp only [Int32.toInt_add, Int32.toInt_sub, Int32.toInt_mul, Int32.toInt_toInt64, Int64.toInt_add, z_m1, Int32.reduceToInt, Int64.reduceToInt, Int32.reduceToNatClampNeg, Int.bmod_def, or_true, true_or, and_true, true_and] <;> omega)) (by first | omega | (simp only [Int32.toInt_add, Int32.toInt_sub, Int32.toInt_mul, Int32.toInt_toInt64, Int64.toInt_add, z_m1, Int32.reduceToInt, Int64.reduceToInt, Int32.reduceToNatClampNeg, Int.bmod_def, or_true, true_or, and_true, true_and] <;> omega))) (fun e_172 f_172 q_172 => ?_)
                  obtain ⟨x0_172, x1_172, x2_172⟩ := q_172
                  have y_172 : ¬ Int32.toInt e_172 = -1 := x2_118 x4_114 (by first | omega | (simp only [Int32.toInt_add, Int32.toInt_sub, Int32.toInt_mul, Int32.toInt_toInt64, Int64.toInt_add, z_m1, Int32.reduceToInt, Int64.reduceToInt, Int32.reduceToNatClampNeg, Int.bmod_def, or_true, true_or, and_true, true_and] <;> omega)) (by first | omega | (simp only [Int32.toInt_add, Int32.toInt_sub, Int32.toInt_mul, Int32.toInt_toInt64, Int64.toInt_add, z_m1, Int32.reduceToInt, Int64.reduceToInt, Int32.reduceToNatClampNeg, Int.bmod_def, or_true, true_or, and_true, true_and] <;> omega)) e_172 f_172
                  (try simp only [Int32.toInt_add, Int32.toInt_sub, Int32.toInt_mul, Int32.toInt_toInt64, Int64.toInt_add, z_m1, Int32.reduceToInt, Int64.reduceToInt, Int32.reduceToNatClampNeg, Int.bmod_def] at x0_172)
                  (try simp only [Int32.toInt_add, Int32.toInt_sub, Int32.toInt_mul, Int32.toInt_toInt64, Int64.toInt_add, z_m1, Int32.reduceToInt, Int64.reduceToInt, Int32.reduceToNatClampNeg, Int.bmod_def] at x1_172)
                  (try simp only [Int32.toInt_add, Int32.toInt_sub, Int32.toInt_mul, Int32.toInt_toInt64, Int64.toInt_add, z_m1, Int32.reduceToInt, Int64.reduceToInt, Int32.reduceToNatClampNeg, Int.bmod_def] at x2_172)
                  refine vB (v_X8_gets p_jB_114 p_jL_114 p_jR_114 (by first | omega | (simp only [Int32.toInt_add, Int32.toInt_sub, Int32.toInt_mul, Int32.toInt_toInt64, Int64.toInt_add, z_m1, Int32.reduceToInt, Int64.reduceToInt, Int32.reduceToNatClampNeg, Int.bmod_def, or_true, true_or, and_true, true_and] <;> omega)) (by first | omega | (simp only [Int32.toInt_add, Int32.toInt_sub, Int32.toInt_mul, Int32.toInt_toInt64, Int64.toInt_add, z_m1, Int32.reduceToInt, Int64.reduceToInt, Int32.reduceToNatClampNeg, Int.bmod_def, or_true, true_or, and_true, true_and] <;> omega)) (by first | omega | (simp only [Int32.toInt_add, Int32.toInt_sub, Int32.toInt_mul, Int32.toInt_toInt64, Int64.toInt_add, z_m1, Int32.reduceToInt, Int64.reduceToInt, Int32.reduceToNatClampNeg, Int.bmod_def, or_true, true_or, and_true, true_and] <;> omega)) (by first | omega | (simp only [Int32.toInt_add, Int32.toInt_sub, Int32.toInt_mul, Int32.toInt_toInt64, Int64.toInt_add, z_m1, Int32.reduceToInt, Int64.reduceToInt, Int32.reduceToNatClampNeg, Int.bmod_def, or_true, true_or, and_true, true_and] <;> omega))) (fun e_176 f_176 q_176 => ?_)
                  have k_176 : ∀ a j, ¬ WM_X8_results P a j → e_176 a j = M0 a j := fun a j h => (q_176.1 a j (wz_M_X8_gets_X8_results h)).trans (k_114 a j h)
                  have c7_176 : Int32.toInt (e_176 P 7) = Int32.toInt (M_114 P 7) := congrArg Int32.toInt (q_176.1 P 7 (wc_X8_gets_7))
                  have c8_176 : Int32.toInt (e_176 P 8) = Int32.toInt (M_114 P 8) := congrArg Int32.toInt (q_176.1 P 8 (wc_X8_gets_8))
                  have c33_176 : Int32.toInt (e_176 P 33) = Int32.toInt (M_114 P 33) := congrArg Int32.toInt (q_176.1 P 33 (wc_X8_gets_33))
                  have n_176 : nA P e_176 = nA P M_114 := nA_congr (fun a j h => q_176.1 a j (wf_nA_X8_gets h))
                  have p_jB_176 : jB P e_176 := jB.mono p_jB_114 (fun a j h => q_176.1 a j (wf_jB_X8_gets h))
                  obtain ⟨u0_jB_176, u1_jB_176, u2_jB_176, u3_jB_176, u4_jB_176, u5_jB_176⟩ := id p_jB_176
                  have p_jL_176 : jL P e_176 := jL.mono p_jL_114 (fun a j h => q_176.1 a j (wf_jL_X8_gets h))
                  have p_jO_176 : jO P e_176 := jO.mono p_jO_114 (fun a j h => q_176.1 a j (wf_jO_X8_gets h))
                  have p_jS_176 : jS P e_176 := jS.mono p_jS_114 (fun a j h => q_176.1 a j (wf_jS_X8_gets h))
                  obtain ⟨u0_jS_176, u1_jS_176, u2_jS_176, u3_jS_176, u4_jS_176, u5_jS_176, u6_jS_176, u7_jS_176⟩ := jS.ints p_jS_176
                  have x0_176 := q_176.2
                  exact T_179 _ _ _ _ _ k_176 p_jB_176 p_jL_176 p_jO_176 x0_176 p_jS_176 (by first | omega | (simp only [Int32.toInt_add, Int32.toInt_sub, Int32.toInt_mul, Int32.toInt_toInt64, Int64.toInt_add, z_m1, Int32.reduceToInt, Int64.reduceToInt, Int32.reduceToNatClampNeg, Int.bmod_def, or_true, true_or, and_true, true_and] <;> omega)) (by first | omega | (simp only [Int32.toInt_add, Int32.toInt_sub, Int32.toInt_mul, Int32.toInt_toInt64, Int64.toInt_add, z_m1, Int32.reduceToInt, Int64.reduceToInt, Int32.reduceToNatClampNeg, Int.bmod_def, or_true, true_or, and_true, true_and] <;> omega)) (by first | omega | (simp only [Int32.toInt_add, Int32.toInt_sub, Int32.toInt_mul, Int32.toInt_toInt64, Int64.toInt_add, z_m1, Int32.reduceToInt, Int64.reduceToInt, Int32.reduceToNatClampNeg, Int.bmod_def, or_true, true_or, and_true, true_and] <;> omega)) f3_114 f4_114 hm_114 (by first | assumption | exact z_lt (by assumption) | exact z_lt2 (by assumption) | exact z_lt3 (by assumption) (by first | assumption | decide)) (by first | omega | (simp only [Int32.toInt_add, Int32.toInt_sub, Int32.toInt_mul, Int32.toInt_toInt64, Int64.toInt_add, z_m1, Int32.reduceToInt, Int64.reduceToInt, Int32.reduceToNatClampNeg, Int.bmod_def, or_true, true_or, and_true, true_and] <;> omega))
            · have i_131 : ¬ Int32.toInt (M_114 (P + 19) x3_114.toNatClampNeg) = Int32.toInt (-1 : Int32) := fun q => h_131 (Int32.toInt_inj.mp q)
              (try simp only [Int32.toInt_add, Int32.toInt_sub, Int32.toInt_mul, Int32.toInt_toInt64, Int64.toInt_add, z_m1, Int32.reduceToInt, Int64.reduceToInt, Int32.reduceToNatClampNeg, Int.bmod_def] at i_131)
              exact T_185 _ _ _ k_114 p_jB_114 p_jL_114 p_jO_114 p_jR_114 p_jS_114 (by first | omega | (simp only [Int32.toInt_add, Int32.toInt_sub, Int32.toInt_mul, Int32.toInt_toInt64, Int64.toInt_add, z_m1, Int32.reduceToInt, Int64.reduceToInt, Int32.reduceToNatClampNeg, Int.bmod_def, or_true, true_or, and_true, true_and] <;> omega)) (by first | omega | (simp only [Int32.toInt_add, Int32.toInt_sub, Int32.toInt_mul, Int32.toInt_toInt64, Int64.toInt_add, z_m1, Int32.reduceToInt, Int64.reduceToInt, Int32.reduceToNatClampNeg, Int.bmod_def, or_true, true_or, and_true, true_and] <;> omega)) f3_114 f4_114
      have T_114 : ∀ (x1_114 : Int32) (x2_114 : Int32) (x3_114 : Int32) (x4_114 : Int32) (M_114 : zMt), (∀ a j, ¬ WM_X8_results P a j → M_114 a j = M0 a j) → (jB P M_114) → (jL P M_114) → (jO P M_114) → (jR P M_114) → (jS P M_114) → (0 ≤ Int32.toInt x2_114) → (Int32.toInt x2_114 < Int32.toInt (M_114 P 33)) → (0 ≤ Int32.toInt x4_114) → ((2147483648 - Int32.toInt x2_114).toNat < u_96 + 1) → (Int32.toInt x2_114 < 2147483647) → (0 ≤ Int32.toInt x3_114 ∧ Int32.toInt x3_114 < Int32.toInt (M_114 P 33)) → ∃ r, D_X8_results_114 P (D_X8_results_96 P u_96) zFu x1_114 x2_114 x3_114 x4_114 M_114 = some r ∧ ((∀ a j, ¬ WM_X8_results P a j → r a j = M0 a j) ∧ ((jR P r))) := fun x1_114 x2_114 x3_114 x4_114 M_114 k_114 p_jB_114 p_jL_114 p_jO_114 p_jR_114 p_jS_114 f0_114 f1_114 f2_114 f3_114 f4_114 f5_114 => TL_114 zFu x1_114 x2_114 x3_114 x4_114 M_114 k_114 p_jB_114 p_jL_114 p_jO_114 p_jR_114 p_jS_114 f0_114 f1_114 f2_114 f3_114 f4_114 f5_114 (zFu_up _)
      intro x1_96 x2_96 M_96 k_96 p_jB_96 p_jL_96 p_jO_96 p_jR_96 p_jS_96 f0_96 f1_96 hm_96
      obtain ⟨u0_jB_96, u1_jB_96, u2_jB_96, u3_jB_96, u4_jB_96, u5_jB_96⟩ := id p_jB_96
      obtain ⟨u0_jS_96, u1_jS_96, u2_jS_96, u3_jS_96, u4_jS_96, u5_jS_96, u6_jS_96, u7_jS_96⟩ := jS.ints p_jS_96
      rw [D_X8_results_96]
      refine vIf (fun h_101 => ?_) (fun h_101 => ?_)
      · have i_101 := Int32.le_iff_toInt_le.mp h_101
        (try simp only [Int32.toInt_add, Int32.toInt_sub, Int32.toInt_mul, Int32.toInt_toInt64, Int64.toInt_add, z_m1, Int32.reduceToInt, Int64.reduceToInt, Int32.reduceToNatClampNeg, Int.bmod_def] at i_101)
        exact ⟨_, rfl, k_96, p_jR_96⟩
      · have i_101 := Int32.lt_iff_toInt_lt.mp (Int32.not_le.mp h_101)
        (try simp only [Int32.toInt_add, Int32.toInt_sub, Int32.toInt_mul, Int32.toInt_toInt64, Int64.toInt_add, z_m1, Int32.reduceToInt, Int64.reduceToInt, Int32.reduceToNatClampNeg, Int.bmod_def] at i_101)
        refine vI (vp_of (by first | omega | (simp only [Int32.toInt_add, Int32.toInt_sub, Int32.toInt_mul, Int32.toInt_toInt64, Int64.toInt_add, z_m1, Int32.reduceToInt, Int64.reduceToInt, Int32.reduceToNatClampNeg, Int.bmod_def, or_true, true_or, and_true, true_and] <;> omega)) (by first | omega | (simp only [Int32.toInt_add, Int32.toInt_sub, Int32.toInt_mul, Int32.toInt_toInt64, Int64.toInt_add, z_m1, Int32.reduceToInt, Int64.reduceToInt, Int32.reduceToNatClampNeg, Int.bmod_def, or_true, true_or, and_true, true_and] <;> omega))) ?_
        obtain ⟨w0_109, w1_109⟩ := jO.el p_jO_96 (x := x2_96) (by first | omega | (simp only [Int32.toInt_add, Int32.toInt_sub, Int32.toInt_mul, Int32.toInt_toInt64, Int64.toInt_add, z_m1, Int32.reduceToInt, Int64.reduceToInt, Int32.reduceToNatClampNeg, Int.bmod_def, or_true, true_or, and_true, true_and] <;> omega)) (by first | omega | (simp only [Int32.toInt_add, Int32.toInt_sub, Int32.toInt_mul, Int32.toInt_toInt64, Int64.toInt_add, z_m1, Int32.reduceToInt, Int64.reduceToInt, Int32.reduceToNatClampNeg, Int.bmod_def, or_true, true_or, and_true, true_and] <;> omega))
        exact T_114 _ _ _ _ _ k_96 p_jB_96 p_jL_96 p_jO_96 p_jR_96 p_jS_96 (by first | omega | (simp only [Int32.toInt_add, Int32.toInt_sub, Int32.toInt_mul, Int32.toInt_toInt64, Int64.toInt_add, z_m1, Int32.reduceToInt, Int64.reduceToInt, Int32.reduceToNatClampNeg, Int.bmod_def, or_true, true_or, and_true, true_and] <;> omega)) (by first | omega | (simp only [Int32.toInt_add, Int32.toInt_sub, Int32.toInt_mul, Int32.toInt_toInt64, Int64.toInt_add, z_m1, Int32.reduceToInt, Int64.reduceToInt, Int32.reduceToNatClampNeg, Int.bmod_def, or_true, true_or, and_true, true_and] <;> omega)) (by first | omega | (simp only [Int32.toInt_add, Int32.toInt_sub, Int32.toInt_mul, Int32.toInt_toInt64, Int64.toInt_add, z_m1, Int32.reduceToInt, Int64.reduceToInt, Int32.reduceToNatClampNeg, Int.bmod_def, or_true, true_or, and_true, true_and] <;> omega)) hm_96 (by first | assumption | exact z_lt (by assumption) | exact z_lt2 (by assumption) | exact z_lt3 (by assumption) (by first | assumption | decide)) (by first | omega | (simp only [Int32.toInt_add, Int32.toInt_sub, Int32.toInt_mul, Int32.toInt_toInt64, Int64.toInt_add, z_m1, Int32.reduceToInt, Int64.reduceToInt, Int32.reduceToNatClampNeg, Int.bmod_def, or_true, true_or, and_true, true_and] <;> omega))
  have T_96 : ∀ (x1_96 : Int32) (x2_96 : Int32) (M_96 : zMt), (∀ a j, ¬ WM_X8_results P a j → M_96 a j = M0 a j) → (jB P M_96) → (jL P M_96) → (jO P M_96) → (jR P M_96) → (jS P M_96) → (0 ≤ Int32.toInt x2_96) → (Int32.toInt x2_96 ≤ 10) → ∃ r, D_X8_results_96 P zFu x1_96 x2_96 M_96 = some r ∧ ((∀ a j, ¬ WM_X8_results P a j → r a j = M0 a j) ∧ ((jR P r))) := fun x1_96 x2_96 M_96 k_96 p_jB_96 p_jL_96 p_jO_96 p_jR_96 p_jS_96 f0_96 f1_96 => TL_96 zFu x1_96 x2_96 M_96 k_96 p_jB_96 p_jL_96 p_jO_96 p_jR_96 p_jS_96 f0_96 f1_96 (zFu_up _)
  have TL_74 : ∀ u : Nat, ∀ (x1_74 : Int32) (x2_74 : Int32) (M_74 : zMt), (∀ a j, ¬ WM_X8_results P a j → M_74 a j = M0 a j) → (jB P M_74) → (jL P M_74) → (jO P M_74) → (jR P M_74) → (jS P M_74) → (0 ≤ Int32.toInt x2_74) → (Int32.toInt x2_74 ≤ 5) → (2147483648 - Int32.toInt x2_74).toNat < u → ∃ r, D_X8_results_74 P u x1_74 x2_74 M_74 = some r ∧ ((∀ a j, ¬ WM_X8_results P a j → r a j = M0 a j) ∧ ((jR P r))) := by
    intro u
    induction u with
    | zero => intro x1_74 x2_74 M_74 k_74 p_jB_74 p_jL_74 p_jO_74 p_jR_74 p_jS_74 f0_74 f1_74 hm_74; exact absurd hm_74 (Nat.not_lt_zero _)
    | succ u_74 ih_74 =>
      intro x1_74 x2_74 M_74 k_74 p_jB_74 p_jL_74 p_jO_74 p_jR_74 p_jS_74 f0_74 f1_74 hm_74
      obtain ⟨u0_jB_74, u1_jB_74, u2_jB_74, u3_jB_74, u4_jB_74, u5_jB_74⟩ := id p_jB_74
      obtain ⟨u0_jS_74, u1_jS_74, u2_jS_74, u3_jS_74, u4_jS_74, u5_jS_74, u6_jS_74, u7_jS_74⟩ := jS.ints p_jS_74
      rw [D_X8_results_74]
      refine vIf (fun h_79 => ?_) (fun h_79 => ?_)
      · have i_79 := Int32.le_iff_toInt_le.mp h_79
        (try simp only [Int32.toInt_add, Int32.toInt_sub, Int32.toInt_mul, Int32.toInt_toInt64, Int64.toInt_add, z_m1, Int32.reduceToInt, Int64.reduceToInt, Int32.reduceToNatClampNeg, Int.bmod_def] at i_79)
        exact T_96 _ _ _ k_74 p_jB_74 p_jL_74 p_jO_74 p_jR_74 p_jS_74 (by first | omega | (simp only [Int32.toInt_add, Int32.toInt_sub, Int32.toInt_mul, Int32.toInt_toInt64, Int64.toInt_add, z_m1, Int32.reduceToInt, Int64.reduceToInt, Int32.reduceToNatClampNeg, Int.bmod_def, or_true, true_or, and_true, true_and] <;> omega)) (by first | omega | (simp only [Int32.toInt_add, Int32.toInt_sub, Int32.toInt_mul, Int32.toInt_toInt64, Int64.toInt_add, z_m1, Int32.reduceToInt, Int64.reduceToInt, Int32.reduceToNatClampNeg, Int.bmod_def, or_true, true_or, and_true, true_and] <;> omega))
      · have i_79 := Int32.lt_iff_toInt_lt.mp (Int32.not_le.mp h_79)
        (try simp only [Int32.toInt_add, Int32.toInt_sub, Int32.toInt_mul, Int32.toInt_toInt64, Int64.toInt_add, z_m1, Int32.reduceToInt, Int64.reduceToInt, Int32.reduceToNatClampNeg, Int.bmod_def] at i_79)
        refine vB (v_X8_firstRound p_jB_74 p_jS_74 p_jL_74 p_jO_74 p_jR_74 (by first | omega | (simp only [Int32.toInt_add, Int32.toInt_sub, Int32.toInt_mul, Int32.toInt_toInt64, Int64.toInt_add, z_m1, Int32.reduceToInt, Int64.reduceToInt, Int32.reduceToNatClampNeg, Int.bmod_def, or_true, true_or, and_true, true_and] <;> omega)) (by first | omega | (simp only [Int32.toInt_add, Int32.toInt_sub, Int32.toInt_mul, Int32.toInt_toInt64, Int64.toInt_add, z_m1, Int32.reduceToInt, Int64.reduceToInt, Int32.reduceToNatClampNeg, Int.bmod_def, or_true, true_or, and_true, true_and] <;> omega))) (fun e_85 f_85 q_85 => ?_)
        have k_85 : ∀ a j, ¬ WM_X8_results P a j → e_85 a j = M0 a j := fun a j h => (q_85.1 a j (wz_M_X8_firstRound_X8_results h)).trans (k_74 a j h)
        have c7_85 : Int32.toInt (e_85 P 7) = Int32.toInt (M_74 P 7) := congrArg Int32.toInt (q_85.1 P 7 (wc_X8_firstRound_7))
        have c8_85 : Int32.toInt (e_85 P 8) = Int32.toInt (M_74 P 8) := congrArg Int32.toInt (q_85.1 P 8 (wc_X8_firstRound_8))
        have c33_85 : Int32.toInt (e_85 P 33) = Int32.toInt (M_74 P 33) := congrArg Int32.toInt (q_85.1 P 33 (wc_X8_firstRound_33))
        have n_85 : nA P e_85 = nA P M_74 := nA_congr (fun a j h => q_85.1 a j (wf_nA_X8_firstRound h))
        have p_jB_85 : jB P e_85 := jB.mono p_jB_74 (fun a j h => q_85.1 a j (wf_jB_X8_firstRound h))
        obtain ⟨u0_jB_85, u1_jB_85, u2_jB_85, u3_jB_85, u4_jB_85, u5_jB_85⟩ := id p_jB_85
        have p_jL_85 : jL P e_85 := jL.mono p_jL_74 (fun a j h => q_85.1 a j (wf_jL_X8_firstRound h))
        have p_jO_85 : jO P e_85 := jO.mono p_jO_74 (fun a j h => q_85.1 a j (wf_jO_X8_firstRound h))
        have p_jS_85 : jS P e_85 := jS.mono p_jS_74 (fun a j h => q_85.1 a j (wf_jS_X8_firstRound h))
        obtain ⟨u0_jS_85, u1_jS_85, u2_jS_85, u3_jS_85, u4_jS_85, u5_jS_85, u6_jS_85, u7_jS_85⟩ := jS.ints p_jS_85
        have x0_85 := q_85.2
        exact ih_74 _ _ _ k_85 p_jB_85 p_jL_85 p_jO_85 x0_85 p_jS_85 (by first | omega | (simp only [Int32.toInt_add, Int32.toInt_sub, Int32.toInt_mul, Int32.toInt_toInt64, Int64.toInt_add, z_m1, Int32.reduceToInt, Int64.reduceToInt, Int32.reduceToNatClampNeg, Int.bmod_def, or_true, true_or, and_true, true_and] <;> omega)) (by first | omega | (simp only [Int32.toInt_add, Int32.toInt_sub, Int32.toInt_mul, Int32.toInt_toInt64, Int64.toInt_add, z_m1, Int32.reduceToInt, Int64.reduceToInt, Int32.reduceToNatClampNeg, Int.bmod_def, or_true, true_or, and_true, true_and] <;> omega)) (z_up1 (by first | assumption | exact z_lt (by assumption) | exact z_lt2 (by assumption) | exact z_lt3 (by assumption) (by first | assumption | decide)) hm_74)
  have T_74 : ∀ (x1_74 : Int32) (x2_74 : Int32) (M_74 : zMt), (∀ a j, ¬ WM_X8_results P a j → M_74 a j = M0 a j) → (jB P M_74) → (jL P M_74) → (jO P M_74) → (jR P M_74) → (jS P M_74) → (0 ≤ Int32.toInt x2_74) → (Int32.toInt x2_74 ≤ 5) → ∃ r, D_X8_results_74 P zFu x1_74 x2_74 M_74 = some r ∧ ((∀ a j, ¬ WM_X8_results P a j → r a j = M0 a j) ∧ ((jR P r))) := fun x1_74 x2_74 M_74 k_74 p_jB_74 p_jL_74 p_jO_74 p_jR_74 p_jS_74 f0_74 f1_74 => TL_74 zFu x1_74 x2_74 M_74 k_74 p_jB_74 p_jL_74 p_jO_74 p_jR_74 p_jS_74 f0_74 f1_74 (zFu_up _)
  have TL_32 : ∀ u : Nat, ∀ (x1_32 : Int32) (x2_32 : Int32) (M_32 : zMt), (∀ a j, ¬ WM_X8_results P a j → M_32 a j = M0 a j) → (jB P M_32) → (jL P M_32) → (jO P M_32) → (jR P M_32) → (jS P M_32) → (0 ≤ Int32.toInt x2_32) → (Int32.toInt x2_32 ≤ 5) → (2147483648 - Int32.toInt x2_32).toNat < u → ∃ r, D_X8_results_32 P u x1_32 x2_32 M_32 = some r ∧ ((∀ a j, ¬ WM_X8_results P a j → r a j = M0 a j) ∧ ((jR P r))) := by
    intro u
    induction u with
    | zero => intro x1_32 x2_32 M_32 k_32 p_jB_32 p_jL_32 p_jO_32 p_jR_32 p_jS_32 f0_32 f1_32 hm_32; exact absurd hm_32 (Nat.not_lt_zero _)
    | succ u_32 ih_32 =>
      intro x1_32 x2_32 M_32 k_32 p_jB_32 p_jL_32 p_jO_32 p_jR_32 p_jS_32 f0_32 f1_32 hm_32
      obtain ⟨u0_jB_32, u1_jB_32, u2_jB_32, u3_jB_32, u4_jB_32, u5_jB_32⟩ := id p_jB_32
      obtain ⟨u0_jS_32, u1_jS_32, u2_jS_32, u3_jS_32, u4_jS_32, u5_jS_32, u6_jS_32, u7_jS_32⟩ := jS.ints p_jS_32
      rw [D_X8_results_32]
      refine vIf (fun h_37 => ?_) (fun h_37 => ?_)
      · have i_37 := Int32.le_iff_toInt_le.mp h_37
        (try simp only [Int32.toInt_add, Int32.toInt_sub, Int32.toInt_mul, Int32.toInt_toInt64, Int64.toInt_add, z_m1, Int32.reduceToInt, Int64.reduceToInt, Int32.reduceToNatClampNeg, Int.bmod_def] at i_37)
        exact T_74 _ _ _ k_32 p_jB_32 p_jL_32 p_jO_32 p_jR_32 p_jS_32 (by first | omega | (simp only [Int32.toInt_add, Int32.toInt_sub, Int32.toInt_mul, Int32.toInt_toInt64, Int64.toInt_add, z_m1, Int32.reduceToInt, Int64.reduceToInt, Int32.reduceToNatClampNeg, Int.bmod_def, or_true, true_or, and_true, true_and] <;> omega)) (by first | omega | (simp only [Int32.toInt_add, Int32.toInt_sub, Int32.toInt_mul, Int32.toInt_toInt64, Int64.toInt_add, z_m1, Int32.reduceToInt, Int64.reduceToInt, Int32.reduceToNatClampNeg, Int.bmod_def, or_true, true_or, and_true, true_and] <;> omega))
      · have i_37 := Int32.lt_iff_toInt_lt.mp (Int32.not_le.mp h_37)
        (try simp only [Int32.toInt_add, Int32.toInt_sub, Int32.toInt_mul, Int32.toInt_toInt64, Int64.toInt_add, z_m1, Int32.reduceToInt, Int64.reduceToInt, Int32.reduceToNatClampNeg, Int.bmod_def] at i_37)
        refine vI (vp_of (by first | omega | (simp only [Int32.toInt_add, Int32.toInt_sub, Int32.toInt_mul, Int32.toInt_toInt64, Int64.toInt_add, z_m1, Int32.reduceToInt, Int64.reduceToInt, Int32.reduceToNatClampNeg, Int.bmod_def, or_true, true_or, and_true, true_and] <;> omega)) (by first | omega | (simp only [Int32.toInt_add, Int32.toInt_sub, Int32.toInt_mul, Int32.toInt_toInt64, Int64.toInt_add, z_m1, Int32.reduceToInt, Int64.reduceToInt, Int32.reduceToNatClampNeg, Int.bmod_def, or_true, true_or, and_true, true_and] <;> omega))) ?_
        refine vI (vp_of (by first | omega | (simp only [Int32.toInt_add, Int32.toInt_sub, Int32.toInt_mul, Int32.toInt_toInt64, Int64.toInt_add, z_m1, Int32.reduceToInt, Int64.reduceToInt, Int32.reduceToNatClampNeg, Int.bmod_def, or_true, true_or, and_true, true_and] <;> omega)) (by first | omega | (simp only [Int32.toInt_add, Int32.toInt_sub, Int32.toInt_mul, Int32.toInt_toInt64, Int64.toInt_add, z_m1, Int32.reduceToInt, Int64.reduceToInt, Int32.reduceToNatClampNeg, Int.bmod_def, or_true, true_or, and_true, true_and] <;> omega))) ?_
        refine vLm (W := WM_X8_results P) (fun a j h => (zu_ne (fun z => wq_X8_results_M21_r h z.1)).trans (k_32 a j h)) (fun M_54 f_54 k_54 => ?_)
        have c7_54 : Int32.toInt (M_54 P 7) = Int32.toInt (M_32 P 7) := congrArg Int32.toInt ((congrFun (congrFun f_54.symm P) 7).trans (zu_ne (fun z => wq_pne0 (by decide) z.1)))
        have c8_54 : Int32.toInt (M_54 P 8) = Int32.toInt (M_32 P 8) := congrArg Int32.toInt ((congrFun (congrFun f_54.symm P) 8).trans (zu_ne (fun z => wq_pne0 (by decide) z.1)))
        have c33_54 : Int32.toInt (M_54 P 33) = Int32.toInt (M_32 P 33) := congrArg Int32.toInt ((congrFun (congrFun f_54.symm P) 33).trans (zu_ne (fun z => wq_pne0 (by decide) z.1)))
        have n_54 : nA P M_54 = nA P M_32 := nA_congr (fun a j h => (congrFun (congrFun f_54.symm a) j).trans (zu_ne (fun z => wf_nA_M21_r h z.1)))
        have p_jB_54 : jB P M_54 := jB.mono p_jB_32 (fun a j h => (congrFun (congrFun f_54.symm a) j).trans (zu_ne (fun z => wf_jB_M21_r h z.1)))
        obtain ⟨u0_jB_54, u1_jB_54, u2_jB_54, u3_jB_54, u4_jB_54, u5_jB_54⟩ := id p_jB_54
        have p_jL_54 : jL P M_54 := jL.mono p_jL_32 (fun a j h => (congrFun (congrFun f_54.symm a) j).trans (zu_ne (fun z => wf_jL_M21_r h z.1)))
        have p_jO_54 : jO P M_54 := jO.mono p_jO_32 (fun a j h => (congrFun (congrFun f_54.symm a) j).trans (zu_ne (fun z => wf_jO_M21_r h z.1)))
        have p_jR_54 : jR P M_54 := jR.mono p_jR_32 (fun a j h => (congrFun (congrFun f_54.symm a) j).trans (zu_ne (fun z => wf_jR_M21_r h z.1)))
        have p_jS_54 : jS P M_54 := jS.mono p_jS_32 (fun a j h => (congrFun (congrFun f_54.symm a) j).trans (zu_ne (fun z => wf_jS_M21_r h z.1)))
        obtain ⟨u0_jS_54, u1_jS_54, u2_jS_54, u3_jS_54, u4_jS_54, u5_jS_54, u6_jS_54, u7_jS_54⟩ := jS.ints p_jS_54
        refine vB (v_X8_forGuests p_jS_54 (by first | omega | (simp only [Int32.toInt_add, Int32.toInt_sub, Int32.toInt_mul, Int32.toInt_toInt64, Int64.toInt_add, z_m1, Int32.reduceToInt, Int64.reduceToInt, Int32.reduceToNatClampNeg, Int.bmod_def, or_true, true_or, and_true, true_and] <;> omega)) (by first | omega | (simp only [Int32.toInt_add, Int32.toInt_sub, Int32.toInt_mul, Int32.toInt_toInt64, Int64.toInt_add, z_m1, Int32.reduceToInt, Int64.reduceToInt, Int32.reduceToNatClampNeg, Int.bmod_def, or_true, true_or, and_true, true_and] <;> omega))) (fun e_62 f_62 q_62 => ?_)
        refine vI (vp_of (by first | omega | (simp only [Int32.toInt_add, Int32.toInt_sub, Int32.toInt_mul, Int32.toInt_toInt64, Int64.toInt_add, z_m1, Int32.reduceToInt, Int64.reduceToInt, Int32.reduceToNatClampNeg, Int.bmod_def, or_true, true_or, and_true, true_and] <;> omega)) (by first | omega | (simp only [Int32.toInt_add, Int32.toInt_sub, Int32.toInt_mul, Int32.toInt_toInt64, Int64.toInt_add, z_m1, Int32.reduceToInt, Int64.reduceToInt, Int32.reduceToNatClampNeg, Int.bmod_def, or_true, true_or, and_true, true_and] <;> omega))) ?_
        refine vLm (W := WM_X8_results P) (fun a j h => (zu_ne (fun z => wq_X8_results_M22_r h z.1)).trans (k_54 a j h)) (fun M_65 f_65 k_65 => ?_)
        have c7_65 : Int32.toInt (M_65 P 7) = Int32.toInt (M_54 P 7) := congrArg Int32.toInt ((congrFun (congrFun f_65.symm P) 7).trans (zu_ne (fun z => wq_pne0 (by decide) z.1)))
        have c8_65 : Int32.toInt (M_65 P 8) = Int32.toInt (M_54 P 8) := congrArg Int32.toInt ((congrFun (congrFun f_65.symm P) 8).trans (zu_ne (fun z => wq_pne0 (by decide) z.1)))
        have c33_65 : Int32.toInt (M_65 P 33) = Int32.toInt (M_54 P 33) := congrArg Int32.toInt ((congrFun (congrFun f_65.symm P) 33).trans (zu_ne (fun z => wq_pne0 (by decide) z.1)))
        have n_65 : nA P M_65 = nA P M_54 := nA_congr (fun a j h => (congrFun (congrFun f_65.symm a) j).trans (zu_ne (fun z => wf_nA_M22_r h z.1)))
        have p_jB_65 : jB P M_65 := jB.mono p_jB_54 (fun a j h => (congrFun (congrFun f_65.symm a) j).trans (zu_ne (fun z => wf_jB_M22_r h z.1)))
        obtain ⟨u0_jB_65, u1_jB_65, u2_jB_65, u3_jB_65, u4_jB_65, u5_jB_65⟩ := id p_jB_65
        have p_jL_65 : jL P M_65 := jL.mono p_jL_54 (fun a j h => (congrFun (congrFun f_65.symm a) j).trans (zu_ne (fun z => wf_jL_M22_r h z.1)))
        have p_jO_65 : jO P M_65 := jO.mono p_jO_54 (fun a j h => (congrFun (congrFun f_65.symm a) j).trans (zu_ne (fun z => wf_jO_M22_r h z.1)))
        have p_jR_65 : jR P M_65 := jR.mono p_jR_54 (fun a j h => (congrFun (congrFun f_65.symm a) j).trans (zu_ne (fun z => wf_jR_M22_r h z.1)))
        have p_jS_65 : jS P M_65 := jS.mono p_jS_54 (fun a j h => (congrFun (congrFun f_65.symm a) j).trans (zu_ne (fun z => wf_jS_M22_r h z.1)))
        obtain ⟨u0_jS_65, u1_jS_65, u2_jS_65, u3_jS_65, u4_jS_65, u5_jS_65, u6_jS_65, u7_jS_65⟩ := jS.ints p_jS_65
        exact ih_32 _ _ _ k_65 p_jB_65 p_jL_65 p_jO_65 p_jR_65 p_jS_65 (by first | omega | (simp only [Int32.toInt_add, Int32.toInt_sub, Int32.toInt_mul, Int32.toInt_toInt64, Int64.toInt_add, z_m1, Int32.reduceToInt, Int64.reduceToInt, Int32.reduceToNatClampNeg, Int.bmod_def, or_true, true_or, and_true, true_and] <;> omega)) (by first | omega | (simp only [Int32.toInt_add, Int32.toInt_sub, Int32.toInt_mul, Int32.toInt_toInt64, Int64.toInt_add, z_m1, Int32.reduceToInt, Int64.reduceToInt, Int32.reduceToNatClampNeg, Int.bmod_def, or_true, true_or, and_true, true_and] <;> omega)) (z_up1 (by first | assumption | exact z_lt (by assumption) | exact z_lt2 (by assumption) | exact z_lt3 (by assumption) (by first | assumption | decide)) hm_32)
  have T_32 : ∀ (x1_32 : Int32) (x2_32 : Int32) (M_32 : zMt), (∀ a j, ¬ WM_X8_results P a j → M_32 a j = M0 a j) → (jB P M_32) → (jL P M_32) → (jO P M_32) → (jR P M_32) → (jS P M_32) → (0 ≤ Int32.toInt x2_32) → (Int32.toInt x2_32 ≤ 5) → ∃ r, D_X8_results_32 P zFu x1_32 x2_32 M_32 = some r ∧ ((∀ a j, ¬ WM_X8_results P a j → r a j = M0 a j) ∧ ((jR P r))) := fun x1_32 x2_32 M_32 k_32 p_jB_32 p_jL_32 p_jO_32 p_jR_32 p_jS_32 f0_32 f1_32 => TL_32 zFu x1_32 x2_32 M_32 k_32 p_jB_32 p_jL_32 p_jO_32 p_jR_32 p_jS_32 f0_32 f1_32 (zFu_up _)
  have TL_2 : ∀ u : Nat, ∀ (x1_2 : Int32) (x2_2 : Int32) (M_2 : zMt), (∀ a j, ¬ WM_X8_results P a j → M_2 a j = M0 a j) → (jB P M_2) → (jL P M_2) → (jO P M_2) → (jR P M_2) → (jS P M_2) → (0 ≤ Int32.toInt x2_2) → (Int32.toInt x2_2 ≤ 10) → (2147483648 - Int32.toInt x2_2).toNat < u → ∃ r, D_X8_results_2 P u x1_2 x2_2 M_2 = some r ∧ ((∀ a j, ¬ WM_X8_results P a j → r a j = M0 a j) ∧ ((jR P r))) := by
    intro u
    induction u with
    | zero => intro x1_2 x2_2 M_2 k_2 p_jB_2 p_jL_2 p_jO_2 p_jR_2 p_jS_2 f0_2 f1_2 hm_2; exact absurd hm_2 (Nat.not_lt_zero _)
    | succ u_2 ih_2 =>
      intro x1_2 x2_2 M_2 k_2 p_jB_2 p_jL_2 p_jO_2 p_jR_2 p_jS_2 f0_2 f1_2 hm_2
      obtain ⟨u0_jB_2, u1_jB_2, u2_jB_2, u3_jB_2, u4_jB_2, u5_jB_2⟩ := id p_jB_2
      obtain ⟨u0_jS_2, u1_jS_2, u2_jS_2, u3_jS_2, u4_jS_2, u5_jS_2, u6_jS_2, u7_jS_2⟩ := jS.ints p_jS_2
      rw [D_X8_results_2]
      refine vIf (fun h_7 => ?_) (fun h_7 => ?_)
      · have i_7 := Int32.le_iff_toInt_le.mp h_7
        (try simp only [Int32.toInt_add, Int32.toInt_sub, Int32.toInt_mul, Int32.toInt_toInt64, Int64.toInt_add, z_m1, Int32.reduceToInt, Int64.reduceToInt, Int32.reduceToNatClampNeg, Int.bmod_def] at i_7)
        exact T_32 _ _ _ k_2 p_jB_2 p_jL_2 p_jO_2 p_jR_2 p_jS_2 (by first | omega | (simp only [Int32.toInt_add, Int32.toInt_sub, Int32.toInt_mul, Int32.toInt_toInt64, Int64.toInt_add, z_m1, Int32.reduceToInt, Int64.reduceToInt, Int32.reduceToNatClampNeg, Int.bmod_def, or_true, true_or, and_true, true_and] <;> omega)) (by first | omega | (simp only [Int32.toInt_add, Int32.toInt_sub, Int32.toInt_mul, Int32.toInt_toInt64, Int64.toInt_add, z_m1, Int32.reduceToInt, Int64.reduceToInt, Int32.reduceToNatClampNeg, Int.bmod_def, or_true, true_or, and_true, true_and] <;> omega))
      · have i_7 := Int32.lt_iff_toInt_lt.mp (Int32.not_le.mp h_7)
        (try simp only [Int32.toInt_add, Int32.toInt_sub, Int32.toInt_mul, Int32.toInt_toInt64, Int64.toInt_add, z_m1, Int32.reduceToInt, Int64.reduceToInt, Int32.reduceToNatClampNeg, Int.bmod_def] at i_7)
        refine vI (vp_of (by first | omega | (simp only [Int32.toInt_add, Int32.toInt_sub, Int32.toInt_mul, Int32.toInt_toInt64, Int64.toInt_add, z_m1, Int32.reduceToInt, Int64.reduceToInt, Int32.reduceToNatClampNeg, Int.bmod_def, or_true, true_or, and_true, true_and] <;> omega)) (by first | omega | (simp only [Int32.toInt_add, Int32.toInt_sub, Int32.toInt_mul, Int32.toInt_toInt64, Int64.toInt_add, z_m1, Int32.reduceToInt, Int64.reduceToInt, Int32.reduceToNatClampNeg, Int.bmod_def, or_true, true_or, and_true, true_and] <;> omega))) ?_
        refine vLm (W := WM_X8_results P) (fun a j h => (zu_ne (fun z => wq_X8_results_M19_r h z.1)).trans (k_2 a j h)) (fun M_16 f_16 k_16 => ?_)
        have c7_16 : Int32.toInt (M_16 P 7) = Int32.toInt (M_2 P 7) := congrArg Int32.toInt ((congrFun (congrFun f_16.symm P) 7).trans (zu_ne (fun z => wq_pne0 (by decide) z.1)))
        have c8_16 : Int32.toInt (M_16 P 8) = Int32.toInt (M_2 P 8) := congrArg Int32.toInt ((congrFun (congrFun f_16.symm P) 8).trans (zu_ne (fun z => wq_pne0 (by decide) z.1)))
        have c33_16 : Int32.toInt (M_16 P 33) = Int32.toInt (M_2 P 33) := congrArg Int32.toInt ((congrFun (congrFun f_16.symm P) 33).trans (zu_ne (fun z => wq_pne0 (by decide) z.1)))
        have n_16 : nA P M_16 = nA P M_2 := nA_congr (fun a j h => (congrFun (congrFun f_16.symm a) j).trans (zu_ne (fun z => wf_nA_M19_r h z.1)))
        have p_jB_16 : jB P M_16 := jB.mono p_jB_2 (fun a j h => (congrFun (congrFun f_16.symm a) j).trans (zu_ne (fun z => wf_jB_M19_r h z.1)))
        obtain ⟨u0_jB_16, u1_jB_16, u2_jB_16, u3_jB_16, u4_jB_16, u5_jB_16⟩ := id p_jB_16
        have p_jL_16 : jL P M_16 := jL.mono p_jL_2 (fun a j h => (congrFun (congrFun f_16.symm a) j).trans (zu_ne (fun z => wf_jL_M19_r h z.1)))
        have p_jO_16 : jO P M_16 := jO.mono p_jO_2 (fun a j h => (congrFun (congrFun f_16.symm a) j).trans (zu_ne (fun z => wf_jO_M19_r h z.1)))
        have p_jR_16 : jR P M_16 := jR.put p_jR_2 f_16 (by first | omega | (simp only [Int32.toInt_add, Int32.toInt_sub, Int32.toInt_mul, Int32.toInt_toInt64, Int64.toInt_add, z_m1, Int32.reduceToInt, Int64.reduceToInt, Int32.reduceToNatClampNeg, Int.bmod_def, or_true, true_or, and_true, true_and] <;> omega)) (by first | omega | (simp only [Int32.toInt_add, Int32.toInt_sub, Int32.toInt_mul, Int32.toInt_toInt64, Int64.toInt_add, z_m1, Int32.reduceToInt, Int64.reduceToInt, Int32.reduceToNatClampNeg, Int.bmod_def, or_true, true_or, and_true, true_and] <;> omega))
        have p_jS_16 : jS P M_16 := jS.mono p_jS_2 (fun a j h => (congrFun (congrFun f_16.symm a) j).trans (zu_ne (fun z => wf_jS_M19_r h z.1)))
        obtain ⟨u0_jS_16, u1_jS_16, u2_jS_16, u3_jS_16, u4_jS_16, u5_jS_16, u6_jS_16, u7_jS_16⟩ := jS.ints p_jS_16
        refine vI (vp_of (by first | omega | (simp only [Int32.toInt_add, Int32.toInt_sub, Int32.toInt_mul, Int32.toInt_toInt64, Int64.toInt_add, z_m1, Int32.reduceToInt, Int64.reduceToInt, Int32.reduceToNatClampNeg, Int.bmod_def, or_true, true_or, and_true, true_and] <;> omega)) (by first | omega | (simp only [Int32.toInt_add, Int32.toInt_sub, Int32.toInt_mul, Int32.toInt_toInt64, Int64.toInt_add, z_m1, Int32.reduceToInt, Int64.reduceToInt, Int32.reduceToNatClampNeg, Int.bmod_def, or_true, true_or, and_true, true_and] <;> omega))) ?_
        refine vLm (W := WM_X8_results P) (fun a j h => (zu_ne (fun z => wq_X8_results_M20_r h z.1)).trans (k_16 a j h)) (fun M_23 f_23 k_23 => ?_)
        have c7_23 : Int32.toInt (M_23 P 7) = Int32.toInt (M_16 P 7) := congrArg Int32.toInt ((congrFun (congrFun f_23.symm P) 7).trans (zu_ne (fun z => wq_pne0 (by decide) z.1)))
        have c8_23 : Int32.toInt (M_23 P 8) = Int32.toInt (M_16 P 8) := congrArg Int32.toInt ((congrFun (congrFun f_23.symm P) 8).trans (zu_ne (fun z => wq_pne0 (by decide) z.1)))
        have c33_23 : Int32.toInt (M_23 P 33) = Int32.toInt (M_16 P 33) := congrArg Int32.toInt ((congrFun (congrFun f_23.symm P) 33).trans (zu_ne (fun z => wq_pne0 (by decide) z.1)))
        have n_23 : nA P M_23 = nA P M_16 := nA_congr (fun a j h => (congrFun (congrFun f_23.symm a) j).trans (zu_ne (fun z => wf_nA_M20_r h z.1)))
        have p_jB_23 : jB P M_23 := jB.mono p_jB_16 (fun a j h => (congrFun (congrFun f_23.symm a) j).trans (zu_ne (fun z => wf_jB_M20_r h z.1)))
        obtain ⟨u0_jB_23, u1_jB_23, u2_jB_23, u3_jB_23, u4_jB_23, u5_jB_23⟩ := id p_jB_23
        have p_jL_23 : jL P M_23 := jL.mono p_jL_16 (fun a j h => (congrFun (congrFun f_23.symm a) j).trans (zu_ne (fun z => wf_jL_M20_r h z.1)))
        have p_jO_23 : jO P M_23 := jO.mono p_jO_16 (fun a j h => (congrFun (congrFun f_23.symm a) j).trans (zu_ne (fun z => wf_jO_M20_r h z.1)))
        have p_jR_23 : jR P M_23 := jR.mono p_jR_16 (fun a j h => (congrFun (congrFun f_23.symm a) j).trans (zu_ne (fun z => wf_jR_M20_r h z.1)))
        have p_jS_23 : jS P M_23 := jS.mono p_jS_16 (fun a j h => (congrFun (congrFun f_23.symm a) j).trans (zu_ne (fun z => wf_jS_M20_r h z.1)))
        obtain ⟨u0_jS_23, u1_jS_23, u2_jS_23, u3_jS_23, u4_jS_23, u5_jS_23, u6_jS_23, u7_jS_23⟩ := jS.ints p_jS_23
        exact ih_2 _ _ _ k_23 p_jB_23 p_jL_23 p_jO_23 p_jR_23 p_jS_23 (by first | omega | (simp only [Int32.toInt_add, Int32.toInt_sub, Int32.toInt_mul, Int32.toInt_toInt64, Int64.toInt_add, z_m1, Int32.reduceToInt, Int64.reduceToInt, Int32.reduceToNatClampNeg, Int.bmod_def, or_true, true_or, and_true, true_and] <;> omega)) (by first | omega | (simp only [Int32.toInt_add, Int32.toInt_sub, Int32.toInt_mul, Int32.toInt_toInt64, Int64.toInt_add, z_m1, Int32.reduceToInt, Int64.reduceToInt, Int32.reduceToNatClampNeg, Int.bmod_def, or_true, true_or, and_true, true_and] <;> omega)) (z_up1 (by first | assumption | exact z_lt (by assumption) | exact z_lt2 (by assumption) | exact z_lt3 (by assumption) (by first | assumption | decide)) hm_2)
  have T_2 : ∀ (x1_2 : Int32) (x2_2 : Int32) (M_2 : zMt), (∀ a j, ¬ WM_X8_results P a j → M_2 a j = M0 a j) → (jB P M_2) → (jL P M_2) → (jO P M_2) → (jR P M_2) → (jS P M_2) → (0 ≤ Int32.toInt x2_2) → (Int32.toInt x2_2 ≤ 10) → ∃ r, D_X8_results_2 P zFu x1_2 x2_2 M_2 = some r ∧ ((∀ a j, ¬ WM_X8_results P a j → r a j = M0 a j) ∧ ((jR P r))) := fun x1_2 x2_2 M_2 k_2 p_jB_2 p_jL_2 p_jO_2 p_jR_2 p_jS_2 f0_2 f1_2 => TL_2 zFu x1_2 x2_2 M_2 k_2 p_jB_2 p_jL_2 p_jO_2 p_jR_2 p_jS_2 f0_2 f1_2 (zFu_up _)
  unfold D_X8_results
  exact T_2 _ _ _ (fun _ _ _ => rfl) p_jB p_jL p_jO p_jR p_jS (by first | omega | (simp only [Int32.toInt_add, Int32.toInt_sub, Int32.toInt_mul, Int32.toInt_toInt64, Int64.toInt_add, z_m1, Int32.reduceToInt, Int64.reduceToInt, Int32.reduceToNatClampNeg, Int.bmod_def, or_true, true_or, and_true, true_and] <;> omega)) (by first | omega | (simp only [Int32.toInt_add, Int32.toInt_sub, Int32.toInt_mul, Int32.toInt_toInt64, Int64.toInt_add, z_m1, Int32.reduceToInt, Int64.reduceToInt, Int32.reduceToNatClampNeg, Int.bmod_def, or_true, true_or, and_true, true_and] <;> omega))
set_option maxRecDepth 100000 in
set_option maxHeartbeats 4000000 in
theorem v_X8_givenTags {P : Nat} {M : zMt}   (p_jB : jB P M) : ∃ r, D_X8_givenTags P M = some r ∧ (True) := by
  obtain ⟨u0_jB, u1_jB, u2_jB, u3_jB, u4_jB, u5_jB⟩ := id p_jB
  have TL_4 : ∀ u : Nat, ∀ (x1_4 : Int32) (x2_4 : Int32), (jB P M) → (0 ≤ Int32.toInt x2_4) → (Int32.toInt x2_4 ≤ 10) → (2147483648 - Int32.toInt x2_4).toNat < u → ∃ r, D_X8_givenTags_4 P M u x1_4 x2_4 = some r ∧ (True) := by
    intro u
    induction u with
    | zero => intro x1_4 x2_4 p_jB_4 f0_4 f1_4 hm_4; exact absurd hm_4 (Nat.not_lt_zero _)
    | succ u_4 ih_4 =>
      have T_33 : ∀ (x2_33 : Int32) (y0_33 : Int32) (y1_33 : Int32), (jB P M) → (0 ≤ Int32.toInt x2_33) → (Int32.toInt x2_33 < Int32.toInt (M P 33)) → ((2147483648 - Int32.toInt x2_33).toNat < u_4 + 1) → (Int32.toInt x2_33 < 2147483647) → ∃ r, D_X8_givenTags_33 P M (D_X8_givenTags_4 P M u_4) x2_33 y0_33 y1_33 = some r ∧ (True) := by
        intro x2_33 y0_33 y1_33 p_jB_33 f0_33 f1_33 f2_33 f3_33
        obtain ⟨u0_jB_33, u1_jB_33, u2_jB_33, u3_jB_33, u4_jB_33, u5_jB_33⟩ := id p_jB_33
        unfold D_X8_givenTags_33
        exact ih_4 _ _ p_jB_33 (by first | omega | (simp only [Int32.toInt_add, Int32.toInt_sub, Int32.toInt_mul, Int32.toInt_toInt64, Int64.toInt_add, z_m1, Int32.reduceToInt, Int64.reduceToInt, Int32.reduceToNatClampNeg, Int.bmod_def, or_true, true_or, and_true, true_and] <;> omega)) (by first | omega | (simp only [Int32.toInt_add, Int32.toInt_sub, Int32.toInt_mul, Int32.toInt_toInt64, Int64.toInt_add, z_m1, Int32.reduceToInt, Int64.reduceToInt, Int32.reduceToNatClampNeg, Int.bmod_def, or_true, true_or, and_true, true_and] <;> omega)) (z_up1 f3_33 f2_33)
      intro x1_4 x2_4 p_jB_4 f0_4 f1_4 hm_4
      obtain ⟨u0_jB_4, u1_jB_4, u2_jB_4, u3_jB_4, u4_jB_4, u5_jB_4⟩ := id p_jB_4
      rw [D_X8_givenTags_4]
      refine vIf (fun h_9 => ?_) (fun h_9 => ?_)
      · have i_9 := Int32.le_iff_toInt_le.mp h_9
        (try simp only [Int32.toInt_add, Int32.toInt_sub, Int32.toInt_mul, Int32.toInt_toInt64, Int64.toInt_add, z_m1, Int32.reduceToInt, Int64.reduceToInt, Int32.reduceToNatClampNeg, Int.bmod_def] at i_9)
        exact ⟨_, rfl, trivial⟩
      · have i_9 := Int32.lt_iff_toInt_lt.mp (Int32.not_le.mp h_9)
        (try simp only [Int32.toInt_add, Int32.toInt_sub, Int32.toInt_mul, Int32.toInt_toInt64, Int64.toInt_add, z_m1, Int32.reduceToInt, Int64.reduceToInt, Int32.reduceToNatClampNeg, Int.bmod_def] at i_9)
        refine vI (vp_of (by first | omega | (simp only [Int32.toInt_add, Int32.toInt_sub, Int32.toInt_mul, Int32.toInt_toInt64, Int64.toInt_add, z_m1, Int32.reduceToInt, Int64.reduceToInt, Int32.reduceToNatClampNeg, Int.bmod_def, or_true, true_or, and_true, true_and] <;> omega)) (by first | omega | (simp only [Int32.toInt_add, Int32.toInt_sub, Int32.toInt_mul, Int32.toInt_toInt64, Int64.toInt_add, z_m1, Int32.reduceToInt, Int64.reduceToInt, Int32.reduceToNatClampNeg, Int.bmod_def, or_true, true_or, and_true, true_and] <;> omega))) ?_
        refine vIf (fun h_20 => ?_) (fun h_20 => ?_)
        · have i_20 := congrArg Int32.toInt h_20
          (try simp only [Int32.toInt_add, Int32.toInt_sub, Int32.toInt_mul, Int32.toInt_toInt64, Int64.toInt_add, z_m1, Int32.reduceToInt, Int64.reduceToInt, Int32.reduceToNatClampNeg, Int.bmod_def] at i_20)
          exact T_33 _ _ _ p_jB_4 (by first | omega | (simp only [Int32.toInt_add, Int32.toInt_sub, Int32.toInt_mul, Int32.toInt_toInt64, Int64.toInt_add, z_m1, Int32.reduceToInt, Int64.reduceToInt, Int32.reduceToNatClampNeg, Int.bmod_def, or_true, true_or, and_true, true_and] <;> omega)) (by first | omega | (simp only [Int32.toInt_add, Int32.toInt_sub, Int32.toInt_mul, Int32.toInt_toInt64, Int64.toInt_add, z_m1, Int32.reduceToInt, Int64.reduceToInt, Int32.reduceToNatClampNeg, Int.bmod_def, or_true, true_or, and_true, true_and] <;> omega)) hm_4 (by first | assumption | exact z_lt (by assumption) | exact z_lt2 (by assumption) | exact z_lt3 (by assumption) (by first | assumption | decide))
        · have i_20 : ¬ Int32.toInt (M (P + 19) x2_4.toNatClampNeg) = Int32.toInt (-1 : Int32) := fun q => h_20 (Int32.toInt_inj.mp q)
          (try simp only [Int32.toInt_add, Int32.toInt_sub, Int32.toInt_mul, Int32.toInt_toInt64, Int64.toInt_add, z_m1, Int32.reduceToInt, Int64.reduceToInt, Int32.reduceToNatClampNeg, Int.bmod_def] at i_20)
          refine vI (vp_of (by first | omega | (simp only [Int32.toInt_add, Int32.toInt_sub, Int32.toInt_mul, Int32.toInt_toInt64, Int64.toInt_add, z_m1, Int32.reduceToInt, Int64.reduceToInt, Int32.reduceToNatClampNeg, Int.bmod_def, or_true, true_or, and_true, true_and] <;> omega)) (by first | omega | (simp only [Int32.toInt_add, Int32.toInt_sub, Int32.toInt_mul, Int32.toInt_toInt64, Int64.toInt_add, z_m1, Int32.reduceToInt, Int64.reduceToInt, Int32.reduceToNatClampNeg, Int.bmod_def, or_true, true_or, and_true, true_and] <;> omega))) ?_
          exact T_33 _ _ _ p_jB_4 (by first | omega | (simp only [Int32.toInt_add, Int32.toInt_sub, Int32.toInt_mul, Int32.toInt_toInt64, Int64.toInt_add, z_m1, Int32.reduceToInt, Int64.reduceToInt, Int32.reduceToNatClampNeg, Int.bmod_def, or_true, true_or, and_true, true_and] <;> omega)) (by first | omega | (simp only [Int32.toInt_add, Int32.toInt_sub, Int32.toInt_mul, Int32.toInt_toInt64, Int64.toInt_add, z_m1, Int32.reduceToInt, Int64.reduceToInt, Int32.reduceToNatClampNeg, Int.bmod_def, or_true, true_or, and_true, true_and] <;> omega)) hm_4 (by first | assumption | exact z_lt (by assumption) | exact z_lt2 (by assumption) | exact z_lt3 (by assumption) (by first | assumption | decide))
  have T_4 : ∀ (x1_4 : Int32) (x2_4 : Int32), (jB P M) → (0 ≤ Int32.toInt x2_4) → (Int32.toInt x2_4 ≤ 10) → ∃ r, D_X8_givenTags_4 P M zFu x1_4 x2_4 = some r ∧ (True) := fun x1_4 x2_4 p_jB_4 f0_4 f1_4 => TL_4 zFu x1_4 x2_4 p_jB_4 f0_4 f1_4 (zFu_up _)
  unfold D_X8_givenTags
  exact T_4 _ _ p_jB (by first | omega | (simp only [Int32.toInt_add, Int32.toInt_sub, Int32.toInt_mul, Int32.toInt_toInt64, Int64.toInt_add, z_m1, Int32.reduceToInt, Int64.reduceToInt, Int32.reduceToNatClampNeg, Int.bmod_def, or_true, true_or, and_true, true_and] <;> omega)) (by first | omega | (simp only [Int32.toInt_add, Int32.toInt_sub, Int32.toInt_mul, Int32.toInt_toInt64, Int64.toInt_add, z_m1, Int32.reduceToInt, Int64.reduceToInt, Int32.reduceToNatClampNeg, Int.bmod_def, or_true, true_or, and_true, true_and] <;> omega))
def WN_X8_draws (P : Nat) (a j : Nat) : Prop := (a = P ∧ (j = 46))
theorem l_modr {x y : Int64} (hx : 0 ≤ x.toInt) (hy : 0 < y.toInt) : 0 ≤ (x - x / y * y).toInt ∧ (x - x / y * y).toInt < y.toInt := by
  have e : (x - x / y * y) = x % y := by
    rw [← Int64.toInt_inj]
    rw [Int64.toInt_sub, Int64.toInt_mul, Int64.toInt_div, Int64.toInt_mod]
    have h1 := Int.tmod_add_tdiv_mul x.toInt y.toInt
    rw [Int.bmod_mul_bmod, Int.sub_bmod_bmod]
    rw [show x.toInt - x.toInt.tdiv y.toInt * y.toInt = x.toInt.tmod y.toInt by omega]
    rw [← Int64.toInt_mod]
    exact Int64.toInt_bmod_size _
  rw [e, Int64.toInt_mod, Int.tmod_eq_emod_of_nonneg hx]
  exact ⟨Int.emod_nonneg _ (by omega), Int.emod_lt_of_pos _ hy⟩
theorem l_div0 {x : Int64} (hx : 0 ≤ x.toInt) : 0 ≤ (x / 65536).toInt := by
  rw [Int64.toInt_div, Int.tdiv_eq_ediv_of_nonneg hx, show (65536 : Int64).toInt = 65536 by decide, Int.bmod_def]
  have := Int64.toInt_lt x
  omega
theorem v_X8_draws {P : Nat} {v0 : Int32} {N0 : zNt} (i_0 : 1 ≤ Int32.toInt v0) (i_1 : 0 ≤ Int64.toInt (N0 P 46)) (i_2 : Int64.toInt (N0 P 46) < 2147483648) : ∃ r, D_X8_draws P v0 N0 = some r ∧ ((∀ a j, ¬ WN_X8_draws P a j → r.2 a j = N0 a j) ∧ (0 ≤ Int64.toInt r.1) ∧ (Int64.toInt r.1 < Int32.toInt v0) ∧ (0 ≤ Int64.toInt (r.2 P 46)) ∧ (Int64.toInt (r.2 P 46) < 2147483648)) := by
  unfold D_X8_draws
  have h0 : ((1103515245 : Int64) * (N0 P 46)).toInt = 1103515245 * (N0 P 46).toInt := by
    rw [Int64.toInt_mul, show (1103515245 : Int64).toInt = 1103515245 by decide, Int.bmod_def]
    omega
  have h1 : 0 ≤ ((1103515245 : Int64) * (N0 P 46) + 12345).toInt := by
    rw [Int64.toInt_add, h0, show (12345 : Int64).toInt = 12345 by decide, Int.bmod_def]
    have hp : 0 ≤ 1103515245 * (N0 P 46).toInt ∧ 1103515245 * (N0 P 46).toInt ≤ 2369780945000000000 := by omega
    generalize 1103515245 * (N0 P 46).toInt = pp at hp
    omega
  have h2 := l_modr (y := 2147483648) h1 (by decide)
  rw [show (2147483648 : Int64).toInt = 2147483648 by decide] at h2
  refine vLn (W := WN_X8_draws P) (fun a j h => zu_ne (by unfold WN_X8_draws at h; omega)) (fun N1 f1 k1 => ?_)
  have e46 : N1 P 46 = ((1103515245 : Int64) * (N0 P 46) + 12345) - ((1103515245 : Int64) * (N0 P 46) + 12345) / 2147483648 * 2147483648 := by rw [← f1, zu_eq]
  rw [← e46] at h2
  have e0 : v0.toInt64.toInt = v0.toInt := Int32.toInt_toInt64 v0
  refine vZl (fun q => by rw [q, show (0 : Int64).toInt = 0 by decide] at e0; omega) ?_
  have h3 := l_modr (x := N1 P 46 / 65536) (y := v0.toInt64) (l_div0 h2.1) (by omega)
  exact ⟨_, rfl, k1, h3.1, by rw [← e0]; exact h3.2, h2.1, h2.2⟩
def WM_X8_laysOrder (P : Nat) (a j : Nat) : Prop := (P + 11 ≤ a ∧ a < P + 19) ∨ (a = P ∧ (j = 33))
def WN_X8_laysOrder (P : Nat) (a j : Nat) : Prop := (a = P ∧ (j = 46))
/-- tickets, and how many, of those below n that are not in b -/
def St (t : Nat → Int32) (b : Int32) : Nat → Int
  | 0 => 0
  | n + 1 => St t b n + (if ((b >>> (nI n &&& 31)) &&& 1) = 1 then 0 else (t n).toInt)
def cn (b : Int32) : Nat → Nat
  | 0 => 0
  | n + 1 => cn b n + (if ((b >>> (nI n &&& 31)) &&& 1) = 1 then 1 else 0)
theorem bit_or {x y : Int32} {h : Nat} (hh : h < 10) : (((x ||| y) >>> (nI h &&& 31)) &&& 1) = 1 ↔ ((x >>> (nI h &&& 31)) &&& 1) = 1 ∨ ((y >>> (nI h &&& 31)) &&& 1) = 1 := bitAt_or hh
theorem St_or {t : Nat → Int32} {b : Int32} {a : Nat} (ha : a < 10) (hb : ¬ ((b >>> (nI a &&& 31)) &&& 1) = 1) : ∀ n : Nat, n ≤ 10 → St t (b ||| (1 : Int32) <<< (nI a &&& 31)) n = St t b n - (if a < n then (t a).toInt else 0)
  | 0, _ => rfl
  | n + 1, hn => by
    have ih := St_or (t := t) ha hb n (by omega)
    show St t (b ||| (1 : Int32) <<< (nI a &&& 31)) n + _ = St t b n + _ - _
    rw [ih]
    have ho := bit_or (x := b) (y := (1 : Int32) <<< (nI a &&& 31)) (h := n) (by omega)
    have h1 := bitAt_one a ha n (by omega)
    rw [h1] at ho
    by_cases q : a = n
    · subst q
      rw [if_pos (ho.mpr (Or.inr rfl)), if_neg hb, if_neg (by omega), if_pos (by omega)]
      omega
    · by_cases z : ((b >>> (nI n &&& 31)) &&& 1) = 1
      · rw [if_pos (ho.mpr (Or.inl z)), if_pos z]
        by_cases w : a < n
        · rw [if_pos w, if_pos (by omega)]; omega
        · rw [if_neg w, if_neg (by omega)]; omega
      · rw [if_neg (fun y => (ho.mp y).elim z q), if_neg z]
        by_cases w : a < n
        · rw [if_pos w, if_pos (by omega)]; omega
        · rw [if_neg w, if_neg (by omega)]; omega
theorem cn_or {b : Int32} {a : Nat} (ha : a < 10) (hb : ¬ ((b >>> (nI a &&& 31)) &&& 1) = 1) : ∀ n : Nat, n ≤ 10 → cn (b ||| (1 : Int32) <<< (nI a &&& 31)) n = cn b n + (if a < n then 1 else 0)
  | 0, _ => rfl
  | n + 1, hn => by
    have ih := cn_or ha hb n (by omega)
    show cn (b ||| (1 : Int32) <<< (nI a &&& 31)) n + _ = cn b n + _ + _
    rw [ih]
    have ho := bit_or (x := b) (y := (1 : Int32) <<< (nI a &&& 31)) (h := n) (by omega)
    have h1 := bitAt_one a ha n (by omega)
    rw [h1] at ho
    by_cases q : a = n
    · subst q
      rw [if_pos (ho.mpr (Or.inr rfl)), if_neg hb, if_neg (by omega), if_pos (by omega)]
    · by_cases z : ((b >>> (nI n &&& 31)) &&& 1) = 1
      · rw [if_pos (ho.mpr (Or.inl z)), if_pos z]
        by_cases w : a < n
        · rw [if_pos w, if_pos (by omega)]
        · rw [if_neg w, if_neg (by omega)]
      · rw [if_neg (fun y => (ho.mp y).elim z q), if_neg z]
        by_cases w : a < n
        · rw [if_pos w, if_pos (by omega)]
        · rw [if_neg w, if_neg (by omega)]
theorem bit_0 {h : Nat} : ¬ (((0 : Int32) >>> (nI h &&& 31)) &&& 1) = 1 := bitAt_0
theorem cn_0 : ∀ n, cn 0 n = 0
  | 0 => rfl
  | n + 1 => by
    show cn 0 n + _ = 0
    rw [cn_0 n, if_neg bit_0]
theorem St_ge {t : Nat → Int32} {b : Int32} : ∀ n : Nat, (∀ a, a < n → 1 ≤ (t a).toInt) → (n : Int) - cn b n ≤ St t b n
  | 0, _ => by show ((0 : Nat) : Int) - (0 : Nat) ≤ 0; omega
  | n + 1, h => by
    have ih := St_ge (b := b) n (fun a ha => h a (by omega))
    have := h n (by omega)
    show ((n + 1 : Nat) : Int) - ((cn b n + _ : Nat) : Int) ≤ St t b n + _
    split <;> omega
theorem St_le {t : Nat → Int32} {b : Int32} : ∀ n : Nat, (∀ a, a < n → 1 ≤ (t a).toInt ∧ (t a).toInt ≤ 401) → 0 ≤ St t b n ∧ St t b n ≤ 401 * n
  | 0, _ => by show (0 : Int) ≤ 0 ∧ (0 : Int) ≤ 401 * ((0 : Nat) : Int); omega
  | n + 1, h => by
    have ih := St_le (b := b) n (fun a ha => h a (by omega))
    have := h n (by omega)
    show 0 ≤ St t b n + _ ∧ St t b n + _ ≤ 401 * ((n + 1 : Nat) : Int)
    split <;> omega
theorem St_mono {t : Nat → Int32} {b : Int32} {m : Nat} (h : ∀ a, a < m → 1 ≤ (t a).toInt) : ∀ n : Nat, n ≤ m → St t b n ≤ St t b m := by
  intro n
  induction m with
  | zero => intro hn; rw [show n = 0 by omega]; exact Int.le_refl _
  | succ m ih =>
    intro hn
    by_cases q : n = m + 1
    · subst q; exact Int.le_refl _
    · have := ih (fun a ha => h a (by omega)) (by omega)
      have h2 := h m (by omega)
      show _ ≤ St t b m + _
      split <;> omega
theorem v_X8_laysOrder {P : Nat} {v0 : Int32} {M0 : zMt} {N0 : zNt} (p_jB : jB P M0) (p_jS : jS P M0) (i_2 : 0 ≤ Int32.toInt v0) : ∃ r, D_X8_laysOrder P v0 M0 N0 = some r ∧ ((∀ a j, ¬ WM_X8_laysOrder P a j → r.1 a j = M0 a j) ∧ (∀ a j, ¬ WN_X8_laysOrder P a j → r.2 a j = N0 a j) ∧ (jB P r.1) ∧ (jL P r.1) ∧ (jH P r.1) ∧ (jO P r.1) ∧ (Int32.toInt (r.1 P 33) = nA P r.1)) := by
  unfold D_X8_laysOrder
  refine vB (v_X8_laysApplicants p_jB p_jS) (fun M1 f1 q1 => ?_)
  obtain ⟨k1, hB, hL, hH, hN⟩ := q1
  have k1' : ∀ a j, ¬ WM_X8_laysOrder P a j → M1 a j = M0 a j := fun a j h => k1 a j (by unfold WM_X8_laysApplicants; unfold WM_X8_laysOrder at h; omega)
  obtain ⟨b1, b2, b3, b4, b5, b6⟩ := id hB
  obtain ⟨m, hm⟩ : ∃ m : Nat, (M1 P 33).toInt = m := ⟨(M1 P 33).toInt.toNat, by omega⟩
  have hT : ∀ a, a < m → 1 ≤ (M1 (P + 17) a).toInt ∧ (M1 (P + 17) a).toInt ≤ 401 := fun a ha => by
    have := hL a (by omega)
    exact ⟨this.2.2.2.2.1, this.2.2.2.2.2⟩
  have hTm := St_le (t := M1 (P + 17)) (b := 0) m hT
  refine vLn (W := WN_X8_laysOrder P) (fun a j h => zu_ne (by unfold WN_X8_laysOrder at h; omega)) (fun N1 f2 kn1 => ?_)
  have e46 : N1 P 46 = v0.toInt64 := by rw [← f2, zu_eq]
  have h46 : 0 ≤ (N1 P 46).toInt ∧ (N1 P 46).toInt < 2147483648 := by
    rw [e46, Int32.toInt_toInt64]
    have := Int32.toInt_lt v0
    omega
  -- the order's loop
  have L45 : ∀ (u i : Nat) (b sum : Int32) (M : zMt) (N : zNt), i ≤ m → m - i < u → (∀ a j, ¬ a = P + 18 → M a j = M1 a j) → (∀ a j, ¬ WN_X8_laysOrder P a j → N a j = N0 a j) → 0 ≤ (N P 46).toInt → (N P 46).toInt < 2147483648 → sum.toInt = St (M1 (P + 17)) b m → cn b m = i → (∀ a, a < i → 0 ≤ (M (P + 18) a).toInt ∧ (M (P + 18) a).toInt < m) → ∃ r, D_X8_laysOrder_45 P u b sum (nI i) M N = some r ∧ ((∀ a j, ¬ WM_X8_laysOrder P a j → r.1 a j = M0 a j) ∧ (∀ a j, ¬ WN_X8_laysOrder P a j → r.2 a j = N0 a j) ∧ (jB P r.1) ∧ (jL P r.1) ∧ (jH P r.1) ∧ (jO P r.1) ∧ (Int32.toInt (r.1 P 33) = nA P r.1)) := by
    intro u
    induction u with
    | zero => intro i b sum M N h1 h2; omega
    | succ u ih =>
      intro i b sum M N hi hu k kn n1 n2 hs hc ho
      have e33 : M P 33 = M1 P 33 := k P 33 (by omega)
      have hit : (nI i).toInt = i := nI_toInt (by omega)
      rw [D_X8_laysOrder_45, e33]
      refine vIf (fun hc2 => ?_) (fun hc2 => ?_)
      · have hge := Int32.le_iff_toInt_le.mp hc2
        rw [hit, hm] at hge
        have him : i = m := by omega
        refine ⟨_, rfl, fun a j h => (k a j (by unfold WM_X8_laysOrder at h; omega)).trans (k1' a j h), kn, hB.mono (fun a j h => k a j (by omega)), hL.mono (fun a j h => k a j (by omega)), hH.mono (fun a j h => k a j (by omega)), ?_, ?_⟩
        · intro a ha
          have ha2 : (a : Int) < (M P 33).toInt := ha
          show 0 ≤ (M (P + 18) a).toInt ∧ (M (P + 18) a).toInt < (M P 33).toInt
          rw [e33, hm] at ha2 ⊢
          exact ho a (by omega)
        · show (M P 33).toInt = nA P M
          rw [e33, hN]
          exact (nA_congr (fun a j h => k a j (by omega))).symm
      · have hlt := Int32.lt_iff_toInt_lt.mp (Int32.not_le.mp hc2)
        rw [hit, hm] at hlt
        have hSg := St_ge (t := M1 (P + 17)) (b := b) m (fun a ha => (hT a ha).1)
        rw [hc] at hSg
        refine vB (v_X8_draws (by omega) n1 n2) (fun e fe q => ?_)
        obtain ⟨kd, d1, d2, d3, d4⟩ := q
        have kn2 : ∀ a j, ¬ WN_X8_laysOrder P a j → e.2 a j = N0 a j := fun a j h => (kd a j (by unfold WN_X8_draws; unfold WN_X8_laysOrder at h; omega)).trans (kn a j h)
        -- the scan: x is one more than the applicant
        have L67 : ∀ (v x : Nat) (a : Int32) (up : Int64), x ≤ m → m - x < v → a.toInt = (x : Int) - 1 → up.toInt = St (M1 (P + 17)) b x → (x = 0 ∨ ¬ ((b >>> (nI (x - 1) &&& 31)) &&& 1) = 1 ∨ up.toInt ≤ e.1.toInt) → ∃ r, D_X8_laysOrder_67 P (D_X8_laysOrder_45 P u) v b sum (nI i) e.1 a up M e.2 = some r ∧ ((∀ a j, ¬ WM_X8_laysOrder P a j → r.1 a j = M0 a j) ∧ (∀ a j, ¬ WN_X8_laysOrder P a j → r.2 a j = N0 a j) ∧ (jB P r.1) ∧ (jL P r.1) ∧ (jH P r.1) ∧ (jO P r.1) ∧ (Int32.toInt (r.1 P 33) = nA P r.1)) := by
          intro v
          induction v with
          | zero => intro x a up h1 h2; omega
          | succ v ihv =>
            intro x a up hx hv ha hup hw
            rw [D_X8_laysOrder_67]
            refine vIf (fun hg => ?_) (fun hg => ?_)
            · rw [lgc_gt] at hg
              have hx0 : x ≠ 0 := fun z => by
                subst z
                rw [show St (M1 (P + 17)) b 0 = 0 from rfl] at hup
                omega
              obtain ⟨y, rfl⟩ : ∃ y, x = y + 1 := ⟨x - 1, by omega⟩
              have hby : ¬ ((b >>> (nI y &&& 31)) &&& 1) = 1 := by
                rcases hw with w | w | w
                · omega
                · exact w
                · omega
              have hay : a = nI y := Int32.toInt_inj.mp (by rw [nI_toInt (by omega)]; omega)
              subst hay
              have hci : (nI i).toNatClampNeg = i := nI_clamp (by omega)
              have hcy : (nI y).toNatClampNeg = y := nI_clamp (by omega)
              refine vI (vp_in_nI (by omega) (by decide)) ?_
              rw [hci]
              refine vLm (W := fun a _ => a = P + 18) (M0 := M1) (fun a j h => (zu_ne (by omega)).trans (k a j h)) (fun M2 f3 k2 => ?_)
              refine vI (vp_in_nI (by omega) (by decide)) ?_
              rw [hcy, nI_1, k2 (P + 17) y (by omega)]
              have hso := St_or (t := M1 (P + 17)) (a := y) (by omega) hby m (by omega)
              have hco := cn_or (a := y) (by omega) hby m (by omega)
              rw [if_pos (by omega)] at hso hco
              have hTy := hT y (by omega)
              have hSl := St_le (t := M1 (P + 17)) (b := b) m hT
              refine ih (i + 1) _ _ M2 e.2 (by omega) (by omega) k2 kn2 d3 d4 ?_ (by rw [hco, hc]) (fun c hcc => ?_)
              · rw [hso, z_sub (by omega) (by omega), hs]
              · by_cases q : c = i
                · subst q
                  rw [← f3, zu_eq, nI_toInt (by omega)]
                  omega
                · rw [← f3, zu_ne (by omega)]
                  exact ho c (by omega)
            · rw [lgc_gt] at hg
              have hxm : x < m := by
                by_cases z : x = m
                · subst z; omega
                · omega
              have o1 : (1 : Int32).toInt = 1 := by decide
              have ea : (a + 1).toInt = x := by rw [z_add (by omega) (by omega), o1, ha]; omega
              have hax : a + 1 = nI x := Int32.toInt_inj.mp (by rw [nI_toInt (by omega)]; omega)
              rw [hax]
              have hcx : (nI x).toNatClampNeg = x := nI_clamp (by omega)
              have hTx := hT x hxm
              have hSx := St_le (t := M1 (P + 17)) (b := b) x (fun a ha => hT a (by omega))
              have hnx : (nI x).toInt = ((x + 1 : Nat) : Int) - 1 := by rw [nI_toInt (by omega)]; omega
              refine vB v_X8_has (fun e2 fe2 qe2 => ?_)
              refine vIf (fun h0 => ?_) (fun h0 => ?_)
              · have hb0 : ¬ ((b >>> (nI x &&& 31)) &&& 1) = 1 := by
                  rcases qe2.2 with ⟨q, _⟩ | ⟨_, q⟩
                  · rw [q] at h0; exact absurd h0 (by decide)
                  · exact q
                refine vI (vp_in_nI (by omega) (by decide)) ?_
                rw [hcx, k (P + 17) x (by omega)]
                unfold D_X8_laysOrder_101
                refine ihv (x + 1) (nI x) _ (by omega) (by omega) hnx ?_ (Or.inr (Or.inl hb0))
                show _ = St (M1 (P + 17)) b x + _
                rw [if_neg hb0, Int64.toInt_add, Int32.toInt_toInt64, hup, Int.bmod_def]
                omega
              · have hb1 : ((b >>> (nI x &&& 31)) &&& 1) = 1 := by
                  rcases qe2.2 with ⟨_, q⟩ | ⟨q, _⟩
                  · exact q
                  · exact absurd q h0
                unfold D_X8_laysOrder_101
                have e0 : (up + 0).toInt = up.toInt := by rw [Int64.add_zero]
                refine ihv (x + 1) (nI x) _ (by omega) (by omega) hnx ?_ (Or.inr (Or.inr (by rw [e0]; omega)))
                show _ = St (M1 (P + 17)) b x + _
                rw [if_pos hb1, e0, hup]
                omega
        refine L67 zFu 0 (-1) 0 (by omega) (by unfold zFu; omega) (by rw [z_m1]; omega) (by rw [show (0 : Int64).toInt = 0 by decide]; rfl) (Or.inl rfl)
  -- all tickets
  have L17 : ∀ (u i : Nat) (sum : Int32), i ≤ m → m - i < u → sum.toInt = St (M1 (P + 17)) 0 i → ∃ r, D_X8_laysOrder_17 P u 0 sum (nI i) M1 N1 = some r ∧ ((∀ a j, ¬ WM_X8_laysOrder P a j → r.1 a j = M0 a j) ∧ (∀ a j, ¬ WN_X8_laysOrder P a j → r.2 a j = N0 a j) ∧ (jB P r.1) ∧ (jL P r.1) ∧ (jH P r.1) ∧ (jO P r.1) ∧ (Int32.toInt (r.1 P 33) = nA P r.1)) := by
    intro u
    induction u with
    | zero => intro i sum h1 h2; omega
    | succ u ih =>
      intro i sum hi hu hs
      have hit : (nI i).toInt = i := nI_toInt (by omega)
      rw [D_X8_laysOrder_17]
      refine vIf (fun hc2 => ?_) (fun hc2 => ?_)
      · have hge := Int32.le_iff_toInt_le.mp hc2
        rw [hit, hm] at hge
        have him : i = m := by omega
        subst him
        exact L45 zFu 0 0 sum M1 N1 (by omega) (by unfold zFu; omega) (fun _ _ _ => rfl) kn1 h46.1 h46.2 hs (cn_0 _) (fun a ha => absurd ha (Nat.not_lt_zero a))
      · have hlt := Int32.lt_iff_toInt_lt.mp (Int32.not_le.mp hc2)
        rw [hit, hm] at hlt
        refine vI (vp_in_nI (by omega) (by decide)) ?_
        rw [nI_clamp (by omega), nI_1]
        have hTi := hT i (by omega)
        have hSi := St_le (t := M1 (P + 17)) (b := 0) i (fun a ha => hT a (by omega))
        refine ih (i + 1) _ (by omega) (by omega) ?_
        show _ = St (M1 (P + 17)) 0 i + _
        rw [if_neg bit_0, z_add (by omega) (by omega), hs]
  exact L17 zFu 0 0 (by omega) (by unfold zFu; omega) (by rw [show (0 : Int32).toInt = 0 by decide]; rfl)
def WM_X8_laysResult (P : Nat) (a j : Nat) : Prop := (P + 11 ≤ a ∧ a < P + 23) ∨ (a = P ∧ (j = 33))
def WN_X8_laysResult (P : Nat) (a j : Nat) : Prop := (a = P ∧ (j = 46))
theorem wz_M_X8_laysOrder_X8_laysResult {P a j : Nat} (h : ¬ WM_X8_laysResult P a j) : ¬ WM_X8_laysOrder P a j := by unfold WM_X8_laysOrder; unfold WM_X8_laysResult at h; omega
theorem wz_N_X8_laysOrder_X8_laysResult {P a j : Nat} (h : ¬ WN_X8_laysResult P a j) : ¬ WN_X8_laysOrder P a j := by unfold WN_X8_laysOrder; unfold WN_X8_laysResult at h; omega
theorem wc_X8_laysOrder_7 {P : Nat} : ¬ WM_X8_laysOrder P P 7 := by unfold WM_X8_laysOrder; omega
theorem wc_X8_laysOrder_8 {P : Nat} : ¬ WM_X8_laysOrder P P 8 := by unfold WM_X8_laysOrder; omega
theorem wf_nA_X8_laysOrder {P a j : Nat} (h : (a = P + 1 ∨ (a = P ∧ j = 8))) : ¬ WM_X8_laysOrder P a j := by unfold WM_X8_laysOrder; omega
theorem wf_jS_X8_laysOrder {P a j : Nat} (h : (a = P + 1 ∨ (a = P ∧ (j = 7 ∨ j = 8)))) : ¬ WM_X8_laysOrder P a j := by unfold WM_X8_laysOrder; omega
theorem wf_jR_X8_laysOrder {P a j : Nat} (h : a = P + 19) : ¬ WM_X8_laysOrder P a j := by unfold WM_X8_laysOrder; omega
theorem wz_M_X8_results_X8_laysResult {P a j : Nat} (h : ¬ WM_X8_laysResult P a j) : ¬ WM_X8_results P a j := by unfold WM_X8_results; unfold WM_X8_laysResult at h; omega
theorem wc_X8_results_7 {P : Nat} : ¬ WM_X8_results P P 7 := by unfold WM_X8_results; omega
theorem wc_X8_results_8 {P : Nat} : ¬ WM_X8_results P P 8 := by unfold WM_X8_results; omega
theorem wc_X8_results_33 {P : Nat} : ¬ WM_X8_results P P 33 := by unfold WM_X8_results; omega
theorem wf_nA_X8_results {P a j : Nat} (h : (a = P + 1 ∨ (a = P ∧ j = 8))) : ¬ WM_X8_results P a j := by unfold WM_X8_results; omega
theorem wf_jS_X8_results {P a j : Nat} (h : (a = P + 1 ∨ (a = P ∧ (j = 7 ∨ j = 8)))) : ¬ WM_X8_results P a j := by unfold WM_X8_results; omega
theorem wf_jB_X8_results {P a j : Nat} (h : (a = P ∧ (j = 7 ∨ j = 8 ∨ j = 33))) : ¬ WM_X8_results P a j := by unfold WM_X8_results; omega
theorem wf_jL_X8_results {P a j : Nat} (h : ((a = P ∧ j = 33) ∨ a = P + 13 ∨ a = P + 14 ∨ a = P + 17)) : ¬ WM_X8_results P a j := by unfold WM_X8_results; omega
theorem wf_jH_X8_results {P a j : Nat} (h : ((a = P ∧ (j = 8 ∨ j = 33)) ∨ a = P + 11)) : ¬ WM_X8_results P a j := by unfold WM_X8_results; omega
theorem wf_jO_X8_results {P a j : Nat} (h : ((a = P ∧ j = 33) ∨ a = P + 18)) : ¬ WM_X8_results P a j := by unfold WM_X8_results; omega
set_option maxRecDepth 100000 in
set_option maxHeartbeats 4000000 in
theorem v_X8_laysResult {P : Nat} {v0 : Int32} {M0 : zMt} {N0 : zNt}  (p_jB : jB P M0) (p_jS : jS P M0) (p_jR : jR P M0) (i_3 : 0 ≤ Int32.toInt v0) : ∃ r, D_X8_laysResult P v0 M0 N0 = some r ∧ ((∀ a j, ¬ WM_X8_laysResult P a j → r.1 a j = M0 a j) ∧ (∀ a j, ¬ WN_X8_laysResult P a j → r.2 a j = N0 a j) ∧ ((jB P r.1) ∧ (jL P r.1) ∧ (jH P r.1) ∧ (jO P r.1) ∧ (jR P r.1) ∧ (Int32.toInt (r.1 P 33) = nA P r.1))) := by
  obtain ⟨u0_jB, u1_jB, u2_jB, u3_jB, u4_jB, u5_jB⟩ := id p_jB
  obtain ⟨u0_jS, u1_jS, u2_jS, u3_jS, u4_jS, u5_jS, u6_jS, u7_jS⟩ := jS.ints p_jS
  unfold D_X8_laysResult
  refine vB (v_X8_laysOrder p_jB p_jS (by first | omega | (simp only [Int32.toInt_add, Int32.toInt_sub, Int32.toInt_mul, Int32.toInt_toInt64, Int64.toInt_add, z_m1, Int32.reduceToInt, Int64.reduceToInt, Int32.reduceToNatClampNeg, Int.bmod_def, or_true, true_or, and_true, true_and] <;> omega))) (fun e_2 f_2 q_2 => ?_)
  have k_2 : ∀ a j, ¬ WM_X8_laysResult P a j → e_2.1 a j = M0 a j := fun a j h => (q_2.1 a j (wz_M_X8_laysOrder_X8_laysResult h))
  have kn_2 : ∀ a j, ¬ WN_X8_laysResult P a j → e_2.2 a j = N0 a j := fun a j h => (q_2.2.1 a j (wz_N_X8_laysOrder_X8_laysResult h))
  have c7_2 : Int32.toInt (e_2.1 P 7) = Int32.toInt (M0 P 7) := congrArg Int32.toInt (q_2.1 P 7 (wc_X8_laysOrder_7))
  have c8_2 : Int32.toInt (e_2.1 P 8) = Int32.toInt (M0 P 8) := congrArg Int32.toInt (q_2.1 P 8 (wc_X8_laysOrder_8))
  have n_2 : nA P e_2.1 = nA P M0 := nA_congr (fun a j h => q_2.1 a j (wf_nA_X8_laysOrder h))
  have p_jS_2 : jS P e_2.1 := jS.mono p_jS (fun a j h => q_2.1 a j (wf_jS_X8_laysOrder h))
  obtain ⟨u0_jS_2, u1_jS_2, u2_jS_2, u3_jS_2, u4_jS_2, u5_jS_2, u6_jS_2, u7_jS_2⟩ := jS.ints p_jS_2
  have p_jR_2 : jR P e_2.1 := jR.mono p_jR (fun a j h => q_2.1 a j (wf_jR_X8_laysOrder h))
  obtain ⟨x0_2, x1_2, x2_2, x3_2, x4_2⟩ := q_2.2.2
  obtain ⟨u0_jB_2, u1_jB_2, u2_jB_2, u3_jB_2, u4_jB_2, u5_jB_2⟩ := id x0_2
  (try simp only [Int32.toInt_add, Int32.toInt_sub, Int32.toInt_mul, Int32.toInt_toInt64, Int64.toInt_add, z_m1, Int32.reduceToInt, Int64.reduceToInt, Int32.reduceToNatClampNeg, Int.bmod_def] at x4_2)
  refine vB (v_X8_results x0_2 p_jS_2 x1_2 x3_2 p_jR_2) (fun e_7 f_7 q_7 => ?_)
  have k_7 : ∀ a j, ¬ WM_X8_laysResult P a j → e_7 a j = M0 a j := fun a j h => (q_7.1 a j (wz_M_X8_results_X8_laysResult h)).trans (k_2 a j h)
  have c7_7 : Int32.toInt (e_7 P 7) = Int32.toInt (e_2.1 P 7) := congrArg Int32.toInt (q_7.1 P 7 (wc_X8_results_7))
  have c8_7 : Int32.toInt (e_7 P 8) = Int32.toInt (e_2.1 P 8) := congrArg Int32.toInt (q_7.1 P 8 (wc_X8_results_8))
  have c33_7 : Int32.toInt (e_7 P 33) = Int32.toInt (e_2.1 P 33) := congrArg Int32.toInt (q_7.1 P 33 (wc_X8_results_33))
  have n_7 : nA P e_7 = nA P e_2.1 := nA_congr (fun a j h => q_7.1 a j (wf_nA_X8_results h))
  have p_jS_7 : jS P e_7 := jS.mono p_jS_2 (fun a j h => q_7.1 a j (wf_jS_X8_results h))
  obtain ⟨u0_jS_7, u1_jS_7, u2_jS_7, u3_jS_7, u4_jS_7, u5_jS_7, u6_jS_7, u7_jS_7⟩ := jS.ints p_jS_7
  have p_jB_7 : jB P e_7 := jB.mono x0_2 (fun a j h => q_7.1 a j (wf_jB_X8_results h))
  obtain ⟨u0_jB_7, u1_jB_7, u2_jB_7, u3_jB_7, u4_jB_7, u5_jB_7⟩ := id p_jB_7
  have p_jL_7 : jL P e_7 := jL.mono x1_2 (fun a j h => q_7.1 a j (wf_jL_X8_results h))
  have p_jH_7 : jH P e_7 := jH.mono x2_2 (fun a j h => q_7.1 a j (wf_jH_X8_results h))
  have p_jO_7 : jO P e_7 := jO.mono x3_2 (fun a j h => q_7.1 a j (wf_jO_X8_results h))
  have x0_7 := q_7.2
  exact ⟨_, rfl, k_7, kn_2, ⟨p_jB_7, p_jL_7, p_jH_7, p_jO_7, x0_7, (by first | omega | (simp only [Int32.toInt_add, Int32.toInt_sub, Int32.toInt_mul, Int32.toInt_toInt64, Int64.toInt_add, z_m1, Int32.reduceToInt, Int64.reduceToInt, Int32.reduceToNatClampNeg, Int.bmod_def, or_true, true_or, and_true, true_and] <;> omega))⟩⟩
def WM_X8_order (P : Nat) (a j : Nat) : Prop := (P + 11 ≤ a ∧ a < P + 19) ∨ (a = P ∧ (j = 6 ∨ j = 12 ∨ j = 33))
def WN_X8_order (P : Nat) (a j : Nat) : Prop := (a = P ∧ (j = 46))
theorem wz_M_X8_refuse_X8_order {P a j : Nat} (h : ¬ WM_X8_order P a j) : ¬ WM_X8_refuse P a j := by unfold WM_X8_refuse; unfold WM_X8_order at h; omega
theorem wz_M_X8_laysOrder_X8_order {P a j : Nat} (h : ¬ WM_X8_order P a j) : ¬ WM_X8_laysOrder P a j := by unfold WM_X8_laysOrder; unfold WM_X8_order at h; omega
theorem wz_N_X8_laysOrder_X8_order {P a j : Nat} (h : ¬ WN_X8_order P a j) : ¬ WN_X8_laysOrder P a j := by unfold WN_X8_laysOrder; unfold WN_X8_order at h; omega
theorem wf_jK_X8_laysOrder {P a j : Nat} (h : ((a = P ∧ (j = 7 ∨ j = 8 ∨ j = 9)) ∨ a = P + 4)) : ¬ WM_X8_laysOrder P a j := by unfold WM_X8_laysOrder; omega
theorem wf_jT_X8_laysOrder {P a j : Nat} (h : (a = P ∧ (j = 9 ∨ j = 11 ∨ j = 64))) : ¬ WM_X8_laysOrder P a j := by unfold WM_X8_laysOrder; omega
theorem wf_jO_X8_refuse {P a j : Nat} (h : ((a = P ∧ j = 33) ∨ a = P + 18)) : ¬ WM_X8_refuse P a j := by unfold WM_X8_refuse; omega
theorem wz_M_X8_gives_X8_order {P a j : Nat} (h : ¬ WM_X8_order P a j) : ¬ WM_X8_gives P a j := by unfold WM_X8_gives; unfold WM_X8_order at h; omega
theorem wf_jO_X8_gives {P a j : Nat} (h : ((a = P ∧ j = 33) ∨ a = P + 18)) : ¬ WM_X8_gives P a j := by unfold WM_X8_gives; omega
set_option maxRecDepth 100000 in
set_option maxHeartbeats 4000000 in
theorem v_X8_order {P : Nat} {v0 : Int32} {v1 : Int32} {M0 : zMt} {N0 : zNt}  (p_jB : jB P M0) (p_jS : jS P M0) (p_jR : jR P M0) (p_jK : jK P M0) (p_jT : jT P M0) : ∃ r, D_X8_order P v0 v1 M0 N0 = some r ∧ ((∀ a j, ¬ WM_X8_order P a j → r.2.1 a j = M0 a j) ∧ (∀ a j, ¬ WN_X8_order P a j → r.2.2 a j = N0 a j) ∧ ((jB P r.2.1) ∧ (jS P r.2.1) ∧ (jR P r.2.1) ∧ (jK P r.2.1) ∧ (jT P r.2.1))) := by
  obtain ⟨u0_jB, u1_jB, u2_jB, u3_jB, u4_jB, u5_jB⟩ := id p_jB
  obtain ⟨u0_jS, u1_jS, u2_jS, u3_jS, u4_jS, u5_jS, u6_jS, u7_jS⟩ := jS.ints p_jS
  obtain ⟨u0_jT, u1_jT, u2_jT, u3_jT, u4_jT, u5_jT⟩ := id p_jT
  have T_48 : ∀ (y0_48 : Int32) (M_48 : zMt) (N_48 : zNt), (∀ a j, ¬ WM_X8_order P a j → M_48 a j = M0 a j) → (∀ a j, ¬ WN_X8_order P a j → N_48 a j = N0 a j) → (jB P M_48) → (jH P M_48) → (jK P M_48) → (jL P M_48) → (jO P M_48) → (jR P M_48) → (jS P M_48) → (jT P M_48) → ∃ r, D_X8_order_48 P y0_48 M_48 N_48 = some r ∧ ((∀ a j, ¬ WM_X8_order P a j → r.2.1 a j = M0 a j) ∧ (∀ a j, ¬ WN_X8_order P a j → r.2.2 a j = N0 a j) ∧ ((jB P r.2.1) ∧ (jS P r.2.1) ∧ (jR P r.2.1) ∧ (jK P r.2.1) ∧ (jT P r.2.1))) := by
    intro y0_48 M_48 N_48 k_48 kn_48 p_jB_48 p_jH_48 p_jK_48 p_jL_48 p_jO_48 p_jR_48 p_jS_48 p_jT_48
    obtain ⟨u0_jB_48, u1_jB_48, u2_jB_48, u3_jB_48, u4_jB_48, u5_jB_48⟩ := id p_jB_48
    obtain ⟨u0_jS_48, u1_jS_48, u2_jS_48, u3_jS_48, u4_jS_48, u5_jS_48, u6_jS_48, u7_jS_48⟩ := jS.ints p_jS_48
    obtain ⟨u0_jT_48, u1_jT_48, u2_jT_48, u3_jT_48, u4_jT_48, u5_jT_48⟩ := id p_jT_48
    unfold D_X8_order_48
    exact ⟨_, rfl, k_48, kn_48, ⟨p_jB_48, p_jS_48, p_jR_48, p_jK_48, p_jT_48⟩⟩
  have T_11 : ∀ (M_11 : zMt) (N_11 : zNt), (∀ a j, ¬ WM_X8_order P a j → M_11 a j = M0 a j) → (∀ a j, ¬ WN_X8_order P a j → N_11 a j = N0 a j) → (jB P M_11) → (jK P M_11) → (jR P M_11) → (jS P M_11) → (jT P M_11) → ∃ r, D_X8_order_11 P M_11 N_11 = some r ∧ ((∀ a j, ¬ WM_X8_order P a j → r.2.1 a j = M0 a j) ∧ (∀ a j, ¬ WN_X8_order P a j → r.2.2 a j = N0 a j) ∧ ((jB P r.2.1) ∧ (jS P r.2.1) ∧ (jR P r.2.1) ∧ (jK P r.2.1) ∧ (jT P r.2.1))) := by
    intro M_11 N_11 k_11 kn_11 p_jB_11 p_jK_11 p_jR_11 p_jS_11 p_jT_11
    obtain ⟨u0_jB_11, u1_jB_11, u2_jB_11, u3_jB_11, u4_jB_11, u5_jB_11⟩ := id p_jB_11
    obtain ⟨u0_jS_11, u1_jS_11, u2_jS_11, u3_jS_11, u4_jS_11, u5_jS_11, u6_jS_11, u7_jS_11⟩ := jS.ints p_jS_11
    obtain ⟨u0_jT_11, u1_jT_11, u2_jT_11, u3_jT_11, u4_jT_11, u5_jT_11⟩ := id p_jT_11
    unfold D_X8_order_11
    refine vB (v_X8_refuse) (fun e_13 f_13 q_13 => ?_)
    have k_13 : ∀ a j, ¬ WM_X8_order P a j → e_13.2 a j = M0 a j := fun a j h => (q_13 a j (wz_M_X8_refuse_X8_order h)).trans (k_11 a j h)
    have c7_13 : Int32.toInt (e_13.2 P 7) = Int32.toInt (M_11 P 7) := congrArg Int32.toInt (q_13 P 7 (wc_X8_refuse_7))
    have c8_13 : Int32.toInt (e_13.2 P 8) = Int32.toInt (M_11 P 8) := congrArg Int32.toInt (q_13 P 8 (wc_X8_refuse_8))
    have c33_13 : Int32.toInt (e_13.2 P 33) = Int32.toInt (M_11 P 33) := congrArg Int32.toInt (q_13 P 33 (wc_X8_refuse_33))
    have n_13 : nA P e_13.2 = nA P M_11 := nA_congr (fun a j h => q_13 a j (wf_nA_X8_refuse h))
    have p_jB_13 : jB P e_13.2 := jB.mono p_jB_11 (fun a j h => q_13 a j (wf_jB_X8_refuse h))
    obtain ⟨u0_jB_13, u1_jB_13, u2_jB_13, u3_jB_13, u4_jB_13, u5_jB_13⟩ := id p_jB_13
    have p_jK_13 : jK P e_13.2 := jK.mono p_jK_11 (fun a j h => q_13 a j (wf_jK_X8_refuse h))
    have p_jR_13 : jR P e_13.2 := jR.mono p_jR_11 (fun a j h => q_13 a j (wf_jR_X8_refuse h))
    have p_jS_13 : jS P e_13.2 := jS.mono p_jS_11 (fun a j h => q_13 a j (wf_jS_X8_refuse h))
    obtain ⟨u0_jS_13, u1_jS_13, u2_jS_13, u3_jS_13, u4_jS_13, u5_jS_13, u6_jS_13, u7_jS_13⟩ := jS.ints p_jS_13
    have p_jT_13 : jT P e_13.2 := jT.mono p_jT_11 (fun a j h => q_13 a j (wf_jT_X8_refuse h))
    obtain ⟨u0_jT_13, u1_jT_13, u2_jT_13, u3_jT_13, u4_jT_13, u5_jT_13⟩ := id p_jT_13
    exact ⟨_, rfl, k_13, kn_11, ⟨p_jB_13, p_jS_13, p_jR_13, p_jK_13, p_jT_13⟩⟩
  unfold D_X8_order
  refine vB (v_X8_isSeed) (fun e_1 f_1 q_1 => ?_)
  have b_1 := q_1.1
  have x0_1 := q_1.2
  (try simp only [Int32.toInt_add, Int32.toInt_sub, Int32.toInt_mul, Int32.toInt_toInt64, Int64.toInt_add, z_m1, Int32.reduceToInt, Int64.reduceToInt, Int32.reduceToNatClampNeg, Int.bmod_def] at x0_1)
  refine vIf (fun h_4 => ?_) (fun h_4 => ?_)
  · have i_4 := congrArg Int32.toInt h_4
    (try simp only [Int32.toInt_add, Int32.toInt_sub, Int32.toInt_mul, Int32.toInt_toInt64, Int64.toInt_add, z_m1, Int32.reduceToInt, Int64.reduceToInt, Int32.reduceToNatClampNeg, Int.bmod_def] at i_4)
    exact T_11 _ _ (fun _ _ _ => rfl) (fun _ _ _ => rfl) p_jB p_jK p_jR p_jS p_jT
  · have i_4 : ¬ Int32.toInt e_1 = Int32.toInt (0 : Int32) := fun q => h_4 (Int32.toInt_inj.mp q)
    (try simp only [Int32.toInt_add, Int32.toInt_sub, Int32.toInt_mul, Int32.toInt_toInt64, Int64.toInt_add, z_m1, Int32.reduceToInt, Int64.reduceToInt, Int32.reduceToNatClampNeg, Int.bmod_def] at i_4)
    refine vIf (fun h_8 => ?_) (fun h_8 => ?_)
    · have i_8 := Int32.le_iff_toInt_le.mp h_8
      (try simp only [Int32.toInt_add, Int32.toInt_sub, Int32.toInt_mul, Int32.toInt_toInt64, Int64.toInt_add, z_m1, Int32.reduceToInt, Int64.reduceToInt, Int32.reduceToNatClampNeg, Int.bmod_def] at i_8)
      refine vB (v_X8_laysOrder p_jB p_jS (by first | omega | (simp only [Int32.toInt_add, Int32.toInt_sub, Int32.toInt_mul, Int32.toInt_toInt64, Int64.toInt_add, z_m1, Int32.reduceToInt, Int64.reduceToInt, Int32.reduceToNatClampNeg, Int.bmod_def, or_true, true_or, and_true, true_and] <;> omega))) (fun e_19 f_19 q_19 => ?_)
      have k_19 : ∀ a j, ¬ WM_X8_order P a j → e_19.1 a j = M0 a j := fun a j h => (q_19.1 a j (wz_M_X8_laysOrder_X8_order h))
      have kn_19 : ∀ a j, ¬ WN_X8_order P a j → e_19.2 a j = N0 a j := fun a j h => (q_19.2.1 a j (wz_N_X8_laysOrder_X8_order h))
      have c7_19 : Int32.toInt (e_19.1 P 7) = Int32.toInt (M0 P 7) := congrArg Int32.toInt (q_19.1 P 7 (wc_X8_laysOrder_7))
      have c8_19 : Int32.toInt (e_19.1 P 8) = Int32.toInt (M0 P 8) := congrArg Int32.toInt (q_19.1 P 8 (wc_X8_laysOrder_8))
      have n_19 : nA P e_19.1 = nA P M0 := nA_congr (fun a j h => q_19.1 a j (wf_nA_X8_laysOrder h))
      have p_jS_19 : jS P e_19.1 := jS.mono p_jS (fun a j h => q_19.1 a j (wf_jS_X8_laysOrder h))
      obtain ⟨u0_jS_19, u1_jS_19, u2_jS_19, u3_jS_19, u4_jS_19, u5_jS_19, u6_jS_19, u7_jS_19⟩ := jS.ints p_jS_19
      have p_jR_19 : jR P e_19.1 := jR.mono p_jR (fun a j h => q_19.1 a j (wf_jR_X8_laysOrder h))
      have p_jK_19 : jK P e_19.1 := jK.mono p_jK (fun a j h => q_19.1 a j (wf_jK_X8_laysOrder h))
      have p_jT_19 : jT P e_19.1 := jT.mono p_jT (fun a j h => q_19.1 a j (wf_jT_X8_laysOrder h))
      obtain ⟨u0_jT_19, u1_jT_19, u2_jT_19, u3_jT_19, u4_jT_19, u5_jT_19⟩ := id p_jT_19
      obtain ⟨x0_19, x1_19, x2_19, x3_19, x4_19⟩ := q_19.2.2
      obtain ⟨u0_jB_19, u1_jB_19, u2_jB_19, u3_jB_19, u4_jB_19, u5_jB_19⟩ := id x0_19
      (try simp only [Int32.toInt_add, Int32.toInt_sub, Int32.toInt_mul, Int32.toInt_toInt64, Int64.toInt_add, z_m1, Int32.reduceToInt, Int64.reduceToInt, Int32.reduceToNatClampNeg, Int.bmod_def] at x4_19)
      refine vIf (fun h_27 => ?_) (fun h_27 => ?_)
      · have i_27 := Int32.le_iff_toInt_le.mp h_27
        (try simp only [Int32.toInt_add, Int32.toInt_sub, Int32.toInt_mul, Int32.toInt_toInt64, Int64.toInt_add, z_m1, Int32.reduceToInt, Int64.reduceToInt, Int32.reduceToNatClampNeg, Int.bmod_def] at i_27)
        refine vB (v_X8_refuse) (fun e_45 f_45 q_45 => ?_)
        have k_45 : ∀ a j, ¬ WM_X8_order P a j → e_45.2 a j = M0 a j := fun a j h => (q_45 a j (wz_M_X8_refuse_X8_order h)).trans (k_19 a j h)
        have c7_45 : Int32.toInt (e_45.2 P 7) = Int32.toInt (e_19.1 P 7) := congrArg Int32.toInt (q_45 P 7 (wc_X8_refuse_7))
        have c8_45 : Int32.toInt (e_45.2 P 8) = Int32.toInt (e_19.1 P 8) := congrArg Int32.toInt (q_45 P 8 (wc_X8_refuse_8))
        have c33_45 : Int32.toInt (e_45.2 P 33) = Int32.toInt (e_19.1 P 33) := congrArg Int32.toInt (q_45 P 33 (wc_X8_refuse_33))
        have n_45 : nA P e_45.2 = nA P e_19.1 := nA_congr (fun a j h => q_45 a j (wf_nA_X8_refuse h))
        have p_jS_45 : jS P e_45.2 := jS.mono p_jS_19 (fun a j h => q_45 a j (wf_jS_X8_refuse h))
        obtain ⟨u0_jS_45, u1_jS_45, u2_jS_45, u3_jS_45, u4_jS_45, u5_jS_45, u6_jS_45, u7_jS_45⟩ := jS.ints p_jS_45
        have p_jR_45 : jR P e_45.2 := jR.mono p_jR_19 (fun a j h => q_45 a j (wf_jR_X8_refuse h))
        have p_jK_45 : jK P e_45.2 := jK.mono p_jK_19 (fun a j h => q_45 a j (wf_jK_X8_refuse h))
        have p_jT_45 : jT P e_45.2 := jT.mono p_jT_19 (fun a j h => q_45 a j (wf_jT_X8_refuse h))
        obtain ⟨u0_jT_45, u1_jT_45, u2_jT_45, u3_jT_45, u4_jT_45, u5_jT_45⟩ := id p_jT_45
        have p_jB_45 : jB P e_45.2 := jB.mono x0_19 (fun a j h => q_45 a j (wf_jB_X8_refuse h))
        obtain ⟨u0_jB_45, u1_jB_45, u2_jB_45, u3_jB_45, u4_jB_45, u5_jB_45⟩ := id p_jB_45
        have p_jL_45 : jL P e_45.2 := jL.mono x1_19 (fun a j h => q_45 a j (wf_jL_X8_refuse h))
        have p_jH_45 : jH P e_45.2 := jH.mono x2_19 (fun a j h => q_45 a j (wf_jH_X8_refuse h))
        have p_jO_45 : jO P e_45.2 := jO.mono x3_19 (fun a j h => q_45 a j (wf_jO_X8_refuse h))
        exact T_48 _ _ _ k_45 kn_19 p_jB_45 p_jH_45 p_jK_45 p_jL_45 p_jO_45 p_jR_45 p_jS_45 p_jT_45
      · have i_27 := Int32.lt_iff_toInt_lt.mp (Int32.not_le.mp h_27)
        (try simp only [Int32.toInt_add, Int32.toInt_sub, Int32.toInt_mul, Int32.toInt_toInt64, Int64.toInt_add, z_m1, Int32.reduceToInt, Int64.reduceToInt, Int32.reduceToNatClampNeg, Int.bmod_def] at i_27)
        refine vI (vp_of (by first | omega | (simp only [Int32.toInt_add, Int32.toInt_sub, Int32.toInt_mul, Int32.toInt_toInt64, Int64.toInt_add, z_m1, Int32.reduceToInt, Int64.reduceToInt, Int32.reduceToNatClampNeg, Int.bmod_def, or_true, true_or, and_true, true_and] <;> omega)) (by first | omega | (simp only [Int32.toInt_add, Int32.toInt_sub, Int32.toInt_mul, Int32.toInt_toInt64, Int64.toInt_add, z_m1, Int32.reduceToInt, Int64.reduceToInt, Int32.reduceToNatClampNeg, Int.bmod_def, or_true, true_or, and_true, true_and] <;> omega))) ?_
        obtain ⟨w0_36, w1_36⟩ := jO.el x3_19 (x := v1) (by first | omega | (simp only [Int32.toInt_add, Int32.toInt_sub, Int32.toInt_mul, Int32.toInt_toInt64, Int64.toInt_add, z_m1, Int32.reduceToInt, Int64.reduceToInt, Int32.reduceToNatClampNeg, Int.bmod_def, or_true, true_or, and_true, true_and] <;> omega)) (by first | omega | (simp only [Int32.toInt_add, Int32.toInt_sub, Int32.toInt_mul, Int32.toInt_toInt64, Int64.toInt_add, z_m1, Int32.reduceToInt, Int64.reduceToInt, Int32.reduceToNatClampNeg, Int.bmod_def, or_true, true_or, and_true, true_and] <;> omega))
        refine vB (v_X8_gives) (fun e_37 f_37 q_37 => ?_)
        have k_37 : ∀ a j, ¬ WM_X8_order P a j → e_37.2 a j = M0 a j := fun a j h => (q_37 a j (wz_M_X8_gives_X8_order h)).trans (k_19 a j h)
        have c7_37 : Int32.toInt (e_37.2 P 7) = Int32.toInt (e_19.1 P 7) := congrArg Int32.toInt (q_37 P 7 (wc_X8_gives_7))
        have c8_37 : Int32.toInt (e_37.2 P 8) = Int32.toInt (e_19.1 P 8) := congrArg Int32.toInt (q_37 P 8 (wc_X8_gives_8))
        have c33_37 : Int32.toInt (e_37.2 P 33) = Int32.toInt (e_19.1 P 33) := congrArg Int32.toInt (q_37 P 33 (wc_X8_gives_33))
        have n_37 : nA P e_37.2 = nA P e_19.1 := nA_congr (fun a j h => q_37 a j (wf_nA_X8_gives h))
        have p_jS_37 : jS P e_37.2 := jS.mono p_jS_19 (fun a j h => q_37 a j (wf_jS_X8_gives h))
        obtain ⟨u0_jS_37, u1_jS_37, u2_jS_37, u3_jS_37, u4_jS_37, u5_jS_37, u6_jS_37, u7_jS_37⟩ := jS.ints p_jS_37
        have p_jR_37 : jR P e_37.2 := jR.mono p_jR_19 (fun a j h => q_37 a j (wf_jR_X8_gives h))
        have p_jK_37 : jK P e_37.2 := jK.mono p_jK_19 (fun a j h => q_37 a j (wf_jK_X8_gives h))
        have p_jT_37 : jT P e_37.2 := jT.mono p_jT_19 (fun a j h => q_37 a j (wf_jT_X8_gives h))
        obtain ⟨u0_jT_37, u1_jT_37, u2_jT_37, u3_jT_37, u4_jT_37, u5_jT_37⟩ := id p_jT_37
        have p_jB_37 : jB P e_37.2 := jB.mono x0_19 (fun a j h => q_37 a j (wf_jB_X8_gives h))
        obtain ⟨u0_jB_37, u1_jB_37, u2_jB_37, u3_jB_37, u4_jB_37, u5_jB_37⟩ := id p_jB_37
        have p_jL_37 : jL P e_37.2 := jL.mono x1_19 (fun a j h => q_37 a j (wf_jL_X8_gives h))
        have p_jH_37 : jH P e_37.2 := jH.mono x2_19 (fun a j h => q_37 a j (wf_jH_X8_gives h))
        have p_jO_37 : jO P e_37.2 := jO.mono x3_19 (fun a j h => q_37 a j (wf_jO_X8_gives h))
        exact T_48 _ _ _ k_37 kn_19 p_jB_37 p_jH_37 p_jK_37 p_jL_37 p_jO_37 p_jR_37 p_jS_37 p_jT_37
    · have i_8 := Int32.lt_iff_toInt_lt.mp (Int32.not_le.mp h_8)
      (try simp only [Int32.toInt_add, Int32.toInt_sub, Int32.toInt_mul, Int32.toInt_toInt64, Int64.toInt_add, z_m1, Int32.reduceToInt, Int64.reduceToInt, Int32.reduceToNatClampNeg, Int.bmod_def] at i_8)
      exact T_11 _ _ (fun _ _ _ => rfl) (fun _ _ _ => rfl) p_jB p_jK p_jR p_jS p_jT
def WM_X8_drawn (P : Nat) (a j : Nat) : Prop := (P + 11 ≤ a ∧ a < P + 23) ∨ (a = P ∧ (j = 6 ∨ j = 12 ∨ j = 33))
def WN_X8_drawn (P : Nat) (a j : Nat) : Prop := (a = P ∧ (j = 46))
theorem wz_M_X8_refuse_X8_drawn {P a j : Nat} (h : ¬ WM_X8_drawn P a j) : ¬ WM_X8_refuse P a j := by unfold WM_X8_refuse; unfold WM_X8_drawn at h; omega
theorem wz_M_X8_isApplicant_X8_drawn {P a j : Nat} (h : ¬ WM_X8_drawn P a j) : ¬ WM_X8_isApplicant P a j := by unfold WM_X8_isApplicant; unfold WM_X8_drawn at h; omega
theorem wz_M_X8_laysResult_X8_drawn {P a j : Nat} (h : ¬ WM_X8_drawn P a j) : ¬ WM_X8_laysResult P a j := by unfold WM_X8_laysResult; unfold WM_X8_drawn at h; omega
theorem wz_N_X8_laysResult_X8_drawn {P a j : Nat} (h : ¬ WN_X8_drawn P a j) : ¬ WN_X8_laysResult P a j := by unfold WN_X8_laysResult; unfold WN_X8_drawn at h; omega
theorem wc_X8_laysResult_7 {P : Nat} : ¬ WM_X8_laysResult P P 7 := by unfold WM_X8_laysResult; omega
theorem wc_X8_laysResult_8 {P : Nat} : ¬ WM_X8_laysResult P P 8 := by unfold WM_X8_laysResult; omega
theorem wf_nA_X8_laysResult {P a j : Nat} (h : (a = P + 1 ∨ (a = P ∧ j = 8))) : ¬ WM_X8_laysResult P a j := by unfold WM_X8_laysResult; omega
theorem wf_jS_X8_laysResult {P a j : Nat} (h : (a = P + 1 ∨ (a = P ∧ (j = 7 ∨ j = 8)))) : ¬ WM_X8_laysResult P a j := by unfold WM_X8_laysResult; omega
theorem wf_jK_X8_laysResult {P a j : Nat} (h : ((a = P ∧ (j = 7 ∨ j = 8 ∨ j = 9)) ∨ a = P + 4)) : ¬ WM_X8_laysResult P a j := by unfold WM_X8_laysResult; omega
theorem wf_jT_X8_laysResult {P a j : Nat} (h : (a = P ∧ (j = 9 ∨ j = 11 ∨ j = 64))) : ¬ WM_X8_laysResult P a j := by unfold WM_X8_laysResult; omega
theorem wz_M_X8_gives_X8_drawn {P a j : Nat} (h : ¬ WM_X8_drawn P a j) : ¬ WM_X8_gives P a j := by unfold WM_X8_gives; unfold WM_X8_drawn at h; omega
set_option maxRecDepth 100000 in
set_option maxHeartbeats 4000000 in
theorem v_X8_drawn {P : Nat} {v0 : Int32} {v1 : Int32} {M0 : zMt} {N0 : zNt}  (p_jB : jB P M0) (p_jS : jS P M0) (p_jR : jR P M0) (p_jK : jK P M0) (p_jT : jT P M0) : ∃ r, D_X8_drawn P v0 v1 M0 N0 = some r ∧ ((∀ a j, ¬ WM_X8_drawn P a j → r.2.1 a j = M0 a j) ∧ (∀ a j, ¬ WN_X8_drawn P a j → r.2.2 a j = N0 a j) ∧ ((jB P r.2.1) ∧ (jS P r.2.1) ∧ (jR P r.2.1) ∧ (jK P r.2.1) ∧ (jT P r.2.1))) := by
  obtain ⟨u0_jB, u1_jB, u2_jB, u3_jB, u4_jB, u5_jB⟩ := id p_jB
  obtain ⟨u0_jS, u1_jS, u2_jS, u3_jS, u4_jS, u5_jS, u6_jS, u7_jS⟩ := jS.ints p_jS
  obtain ⟨u0_jT, u1_jT, u2_jT, u3_jT, u4_jT, u5_jT⟩ := id p_jT
  have T_60 : ∀ (y0_60 : Int32) (M_60 : zMt) (N_60 : zNt), (∀ a j, ¬ WM_X8_drawn P a j → M_60 a j = M0 a j) → (∀ a j, ¬ WN_X8_drawn P a j → N_60 a j = N0 a j) → (jB P M_60) → (jH P M_60) → (jK P M_60) → (jL P M_60) → (jO P M_60) → (jR P M_60) → (jS P M_60) → (jT P M_60) → ∃ r, D_X8_drawn_60 P y0_60 M_60 N_60 = some r ∧ ((∀ a j, ¬ WM_X8_drawn P a j → r.2.1 a j = M0 a j) ∧ (∀ a j, ¬ WN_X8_drawn P a j → r.2.2 a j = N0 a j) ∧ ((jB P r.2.1) ∧ (jS P r.2.1) ∧ (jR P r.2.1) ∧ (jK P r.2.1) ∧ (jT P r.2.1))) := by
    intro y0_60 M_60 N_60 k_60 kn_60 p_jB_60 p_jH_60 p_jK_60 p_jL_60 p_jO_60 p_jR_60 p_jS_60 p_jT_60
    obtain ⟨u0_jB_60, u1_jB_60, u2_jB_60, u3_jB_60, u4_jB_60, u5_jB_60⟩ := id p_jB_60
    obtain ⟨u0_jS_60, u1_jS_60, u2_jS_60, u3_jS_60, u4_jS_60, u5_jS_60, u6_jS_60, u7_jS_60⟩ := jS.ints p_jS_60
    obtain ⟨u0_jT_60, u1_jT_60, u2_jT_60, u3_jT_60, u4_jT_60, u5_jT_60⟩ := id p_jT_60
    unfold D_X8_drawn_60
    exact ⟨_, rfl, k_60, kn_60, ⟨p_jB_60, p_jS_60, p_jR_60, p_jK_60, p_jT_60⟩⟩
  unfold D_X8_drawn
  refine vB (v_X8_isSeed) (fun e_1 f_1 q_1 => ?_)
  have b_1 := q_1.1
  have x0_1 := q_1.2
  (try simp only [Int32.toInt_add, Int32.toInt_sub, Int32.toInt_mul, Int32.toInt_toInt64, Int64.toInt_add, z_m1, Int32.reduceToInt, Int64.reduceToInt, Int32.reduceToNatClampNeg, Int.bmod_def] at x0_1)
  refine vIf (fun h_4 => ?_) (fun h_4 => ?_)
  · have i_4 := congrArg Int32.toInt h_4
    (try simp only [Int32.toInt_add, Int32.toInt_sub, Int32.toInt_mul, Int32.toInt_toInt64, Int64.toInt_add, z_m1, Int32.reduceToInt, Int64.reduceToInt, Int32.reduceToNatClampNeg, Int.bmod_def] at i_4)
    refine vB (v_X8_refuse) (fun e_9 f_9 q_9 => ?_)
    have k_9 : ∀ a j, ¬ WM_X8_drawn P a j → e_9.2 a j = M0 a j := fun a j h => (q_9 a j (wz_M_X8_refuse_X8_drawn h))
    have c7_9 : Int32.toInt (e_9.2 P 7) = Int32.toInt (M0 P 7) := congrArg Int32.toInt (q_9 P 7 (wc_X8_refuse_7))
    have c8_9 : Int32.toInt (e_9.2 P 8) = Int32.toInt (M0 P 8) := congrArg Int32.toInt (q_9 P 8 (wc_X8_refuse_8))
    have c33_9 : Int32.toInt (e_9.2 P 33) = Int32.toInt (M0 P 33) := congrArg Int32.toInt (q_9 P 33 (wc_X8_refuse_33))
    have n_9 : nA P e_9.2 = nA P M0 := nA_congr (fun a j h => q_9 a j (wf_nA_X8_refuse h))
    have p_jB_9 : jB P e_9.2 := jB.mono p_jB (fun a j h => q_9 a j (wf_jB_X8_refuse h))
    obtain ⟨u0_jB_9, u1_jB_9, u2_jB_9, u3_jB_9, u4_jB_9, u5_jB_9⟩ := id p_jB_9
    have p_jS_9 : jS P e_9.2 := jS.mono p_jS (fun a j h => q_9 a j (wf_jS_X8_refuse h))
    obtain ⟨u0_jS_9, u1_jS_9, u2_jS_9, u3_jS_9, u4_jS_9, u5_jS_9, u6_jS_9, u7_jS_9⟩ := jS.ints p_jS_9
    have p_jR_9 : jR P e_9.2 := jR.mono p_jR (fun a j h => q_9 a j (wf_jR_X8_refuse h))
    have p_jK_9 : jK P e_9.2 := jK.mono p_jK (fun a j h => q_9 a j (wf_jK_X8_refuse h))
    have p_jT_9 : jT P e_9.2 := jT.mono p_jT (fun a j h => q_9 a j (wf_jT_X8_refuse h))
    obtain ⟨u0_jT_9, u1_jT_9, u2_jT_9, u3_jT_9, u4_jT_9, u5_jT_9⟩ := id p_jT_9
    exact ⟨_, rfl, k_9, (fun _ _ _ => rfl), ⟨p_jB_9, p_jS_9, p_jR_9, p_jK_9, p_jT_9⟩⟩
  · have i_4 : ¬ Int32.toInt e_1 = Int32.toInt (0 : Int32) := fun q => h_4 (Int32.toInt_inj.mp q)
    (try simp only [Int32.toInt_add, Int32.toInt_sub, Int32.toInt_mul, Int32.toInt_toInt64, Int64.toInt_add, z_m1, Int32.reduceToInt, Int64.reduceToInt, Int32.reduceToNatClampNeg, Int.bmod_def] at i_4)
    refine vB (v_X8_isApplicant p_jB p_jS) (fun e_15 f_15 q_15 => ?_)
    have k_15 : ∀ a j, ¬ WM_X8_drawn P a j → e_15.2 a j = M0 a j := fun a j h => (q_15.1 a j (wz_M_X8_isApplicant_X8_drawn h))
    have b_15 := q_15.2.1
    have c7_15 : Int32.toInt (e_15.2 P 7) = Int32.toInt (M0 P 7) := congrArg Int32.toInt (q_15.1 P 7 (wc_X8_isApplicant_7))
    have c8_15 : Int32.toInt (e_15.2 P 8) = Int32.toInt (M0 P 8) := congrArg Int32.toInt (q_15.1 P 8 (wc_X8_isApplicant_8))
    have n_15 : nA P e_15.2 = nA P M0 := nA_congr (fun a j h => q_15.1 a j (wf_nA_X8_isApplicant h))
    have p_jS_15 : jS P e_15.2 := jS.mono p_jS (fun a j h => q_15.1 a j (wf_jS_X8_isApplicant h))
    obtain ⟨u0_jS_15, u1_jS_15, u2_jS_15, u3_jS_15, u4_jS_15, u5_jS_15, u6_jS_15, u7_jS_15⟩ := jS.ints p_jS_15
    have p_jR_15 : jR P e_15.2 := jR.mono p_jR (fun a j h => q_15.1 a j (wf_jR_X8_isApplicant h))
    have p_jK_15 : jK P e_15.2 := jK.mono p_jK (fun a j h => q_15.1 a j (wf_jK_X8_isApplicant h))
    have p_jT_15 : jT P e_15.2 := jT.mono p_jT (fun a j h => q_15.1 a j (wf_jT_X8_isApplicant h))
    obtain ⟨u0_jT_15, u1_jT_15, u2_jT_15, u3_jT_15, u4_jT_15, u5_jT_15⟩ := id p_jT_15
    obtain ⟨x0_15, x1_15, x2_15, x3_15, x4_15⟩ := q_15.2.2
    obtain ⟨u0_jB_15, u1_jB_15, u2_jB_15, u3_jB_15, u4_jB_15, u5_jB_15⟩ := id x0_15
    (try simp only [Int32.toInt_add, Int32.toInt_sub, Int32.toInt_mul, Int32.toInt_toInt64, Int64.toInt_add, z_m1, Int32.reduceToInt, Int64.reduceToInt, Int32.reduceToNatClampNeg, Int.bmod_def] at x3_15)
    (try simp only [Int32.toInt_add, Int32.toInt_sub, Int32.toInt_mul, Int32.toInt_toInt64, Int64.toInt_add, z_m1, Int32.reduceToInt, Int64.reduceToInt, Int32.reduceToNatClampNeg, Int.bmod_def] at x4_15)
    refine vIf (fun h_18 => ?_) (fun h_18 => ?_)
    · have i_18 := congrArg Int32.toInt h_18
      (try simp only [Int32.toInt_add, Int32.toInt_sub, Int32.toInt_mul, Int32.toInt_toInt64, Int64.toInt_add, z_m1, Int32.reduceToInt, Int64.reduceToInt, Int32.reduceToNatClampNeg, Int.bmod_def] at i_18)
      refine vB (v_X8_refuse) (fun e_23 f_23 q_23 => ?_)
      have k_23 : ∀ a j, ¬ WM_X8_drawn P a j → e_23.2 a j = M0 a j := fun a j h => (q_23 a j (wz_M_X8_refuse_X8_drawn h)).trans (k_15 a j h)
      have c7_23 : Int32.toInt (e_23.2 P 7) = Int32.toInt (e_15.2 P 7) := congrArg Int32.toInt (q_23 P 7 (wc_X8_refuse_7))
      have c8_23 : Int32.toInt (e_23.2 P 8) = Int32.toInt (e_15.2 P 8) := congrArg Int32.toInt (q_23 P 8 (wc_X8_refuse_8))
      have c33_23 : Int32.toInt (e_23.2 P 33) = Int32.toInt (e_15.2 P 33) := congrArg Int32.toInt (q_23 P 33 (wc_X8_refuse_33))
      have n_23 : nA P e_23.2 = nA P e_15.2 := nA_congr (fun a j h => q_23 a j (wf_nA_X8_refuse h))
      have p_jS_23 : jS P e_23.2 := jS.mono p_jS_15 (fun a j h => q_23 a j (wf_jS_X8_refuse h))
      obtain ⟨u0_jS_23, u1_jS_23, u2_jS_23, u3_jS_23, u4_jS_23, u5_jS_23, u6_jS_23, u7_jS_23⟩ := jS.ints p_jS_23
      have p_jR_23 : jR P e_23.2 := jR.mono p_jR_15 (fun a j h => q_23 a j (wf_jR_X8_refuse h))
      have p_jK_23 : jK P e_23.2 := jK.mono p_jK_15 (fun a j h => q_23 a j (wf_jK_X8_refuse h))
      have p_jT_23 : jT P e_23.2 := jT.mono p_jT_15 (fun a j h => q_23 a j (wf_jT_X8_refuse h))
      obtain ⟨u0_jT_23, u1_jT_23, u2_jT_23, u3_jT_23, u4_jT_23, u5_jT_23⟩ := id p_jT_23
      have p_jB_23 : jB P e_23.2 := jB.mono x0_15 (fun a j h => q_23 a j (wf_jB_X8_refuse h))
      obtain ⟨u0_jB_23, u1_jB_23, u2_jB_23, u3_jB_23, u4_jB_23, u5_jB_23⟩ := id p_jB_23
      have p_jL_23 : jL P e_23.2 := jL.mono x1_15 (fun a j h => q_23 a j (wf_jL_X8_refuse h))
      have p_jH_23 : jH P e_23.2 := jH.mono x2_15 (fun a j h => q_23 a j (wf_jH_X8_refuse h))
      exact ⟨_, rfl, k_23, (fun _ _ _ => rfl), ⟨p_jB_23, p_jS_23, p_jR_23, p_jK_23, p_jT_23⟩⟩
    · have i_18 : ¬ Int32.toInt e_15.1 = Int32.toInt (0 : Int32) := fun q => h_18 (Int32.toInt_inj.mp q)
      (try simp only [Int32.toInt_add, Int32.toInt_sub, Int32.toInt_mul, Int32.toInt_toInt64, Int64.toInt_add, z_m1, Int32.reduceToInt, Int64.reduceToInt, Int32.reduceToNatClampNeg, Int.bmod_def] at i_18)
      refine vB (v_X8_laysResult x0_15 p_jS_15 p_jR_15 (by first | omega | (simp only [Int32.toInt_add, Int32.toInt_sub, Int32.toInt_mul, Int32.toInt_toInt64, Int64.toInt_add, z_m1, Int32.reduceToInt, Int64.reduceToInt, Int32.reduceToNatClampNeg, Int.bmod_def, or_true, true_or, and_true, true_and] <;> omega))) (fun e_29 f_29 q_29 => ?_)
      have k_29 : ∀ a j, ¬ WM_X8_drawn P a j → e_29.1 a j = M0 a j := fun a j h => (q_29.1 a j (wz_M_X8_laysResult_X8_drawn h)).trans (k_15 a j h)
      have kn_29 : ∀ a j, ¬ WN_X8_drawn P a j → e_29.2 a j = N0 a j := fun a j h => (q_29.2.1 a j (wz_N_X8_laysResult_X8_drawn h))
      have c7_29 : Int32.toInt (e_29.1 P 7) = Int32.toInt (e_15.2 P 7) := congrArg Int32.toInt (q_29.1 P 7 (wc_X8_laysResult_7))
      have c8_29 : Int32.toInt (e_29.1 P 8) = Int32.toInt (e_15.2 P 8) := congrArg Int32.toInt (q_29.1 P 8 (wc_X8_laysResult_8))
      have n_29 : nA P e_29.1 = nA P e_15.2 := nA_congr (fun a j h => q_29.1 a j (wf_nA_X8_laysResult h))
      have p_jS_29 : jS P e_29.1 := jS.mono p_jS_15 (fun a j h => q_29.1 a j (wf_jS_X8_laysResult h))
      obtain ⟨u0_jS_29, u1_jS_29, u2_jS_29, u3_jS_29, u4_jS_29, u5_jS_29, u6_jS_29, u7_jS_29⟩ := jS.ints p_jS_29
      have p_jK_29 : jK P e_29.1 := jK.mono p_jK_15 (fun a j h => q_29.1 a j (wf_jK_X8_laysResult h))
      have p_jT_29 : jT P e_29.1 := jT.mono p_jT_15 (fun a j h => q_29.1 a j (wf_jT_X8_laysResult h))
      obtain ⟨u0_jT_29, u1_jT_29, u2_jT_29, u3_jT_29, u4_jT_29, u5_jT_29⟩ := id p_jT_29
      obtain ⟨x0_29, x1_29, x2_29, x3_29, x4_29, x5_29⟩ := q_29.2.2
      obtain ⟨u0_jB_29, u1_jB_29, u2_jB_29, u3_jB_29, u4_jB_29, u5_jB_29⟩ := id x0_29
      (try simp only [Int32.toInt_add, Int32.toInt_sub, Int32.toInt_mul, Int32.toInt_toInt64, Int64.toInt_add, z_m1, Int32.reduceToInt, Int64.reduceToInt, Int32.reduceToNatClampNeg, Int.bmod_def] at x5_29)
      refine vI (vp_of (by first | omega | (simp only [Int32.toInt_add, Int32.toInt_sub, Int32.toInt_mul, Int32.toInt_toInt64, Int64.toInt_add, z_m1, Int32.reduceToInt, Int64.reduceToInt, Int32.reduceToNatClampNeg, Int.bmod_def, or_true, true_or, and_true, true_and] <;> omega)) (by first | omega | (simp only [Int32.toInt_add, Int32.toInt_sub, Int32.toInt_mul, Int32.toInt_toInt64, Int64.toInt_add, z_m1, Int32.reduceToInt, Int64.reduceToInt, Int32.reduceToNatClampNeg, Int.bmod_def, or_true, true_or, and_true, true_and] <;> omega))) ?_
      obtain ⟨w0_37, w1_37⟩ := jR.el x4_29 (x := v1) (by first | omega | (simp only [Int32.toInt_add, Int32.toInt_sub, Int32.toInt_mul, Int32.toInt_toInt64, Int64.toInt_add, z_m1, Int32.reduceToInt, Int64.reduceToInt, Int32.reduceToNatClampNeg, Int.bmod_def, or_true, true_or, and_true, true_and] <;> omega)) (by first | omega | (simp only [Int32.toInt_add, Int32.toInt_sub, Int32.toInt_mul, Int32.toInt_toInt64, Int64.toInt_add, z_m1, Int32.reduceToInt, Int64.reduceToInt, Int32.reduceToNatClampNeg, Int.bmod_def, or_true, true_or, and_true, true_and] <;> omega))
      refine vIf (fun h_39 => ?_) (fun h_39 => ?_)
      · have i_39 := congrArg Int32.toInt h_39
        (try simp only [Int32.toInt_add, Int32.toInt_sub, Int32.toInt_mul, Int32.toInt_toInt64, Int64.toInt_add, z_m1, Int32.reduceToInt, Int64.reduceToInt, Int32.reduceToNatClampNeg, Int.bmod_def] at i_39)
        refine vB (v_X8_refuse) (fun e_44 f_44 q_44 => ?_)
        have k_44 : ∀ a j, ¬ WM_X8_drawn P a j → e_44.2 a j = M0 a j := fun a j h => (q_44 a j (wz_M_X8_refuse_X8_drawn h)).trans (k_29 a j h)
        have c7_44 : Int32.toInt (e_44.2 P 7) = Int32.toInt (e_29.1 P 7) := congrArg Int32.toInt (q_44 P 7 (wc_X8_refuse_7))
        have c8_44 : Int32.toInt (e_44.2 P 8) = Int32.toInt (e_29.1 P 8) := congrArg Int32.toInt (q_44 P 8 (wc_X8_refuse_8))
        have c33_44 : Int32.toInt (e_44.2 P 33) = Int32.toInt (e_29.1 P 33) := congrArg Int32.toInt (q_44 P 33 (wc_X8_refuse_33))
        have n_44 : nA P e_44.2 = nA P e_29.1 := nA_congr (fun a j h => q_44 a j (wf_nA_X8_refuse h))
        have p_jS_44 : jS P e_44.2 := jS.mono p_jS_29 (fun a j h => q_44 a j (wf_jS_X8_refuse h))
        obtain ⟨u0_jS_44, u1_jS_44, u2_jS_44, u3_jS_44, u4_jS_44, u5_jS_44, u6_jS_44, u7_jS_44⟩ := jS.ints p_jS_44
        have p_jK_44 : jK P e_44.2 := jK.mono p_jK_29 (fun a j h => q_44 a j (wf_jK_X8_refuse h))
        have p_jT_44 : jT P e_44.2 := jT.mono p_jT_29 (fun a j h => q_44 a j (wf_jT_X8_refuse h))
        obtain ⟨u0_jT_44, u1_jT_44, u2_jT_44, u3_jT_44, u4_jT_44, u5_jT_44⟩ := id p_jT_44
        have p_jB_44 : jB P e_44.2 := jB.mono x0_29 (fun a j h => q_44 a j (wf_jB_X8_refuse h))
        obtain ⟨u0_jB_44, u1_jB_44, u2_jB_44, u3_jB_44, u4_jB_44, u5_jB_44⟩ := id p_jB_44
        have p_jL_44 : jL P e_44.2 := jL.mono x1_29 (fun a j h => q_44 a j (wf_jL_X8_refuse h))
        have p_jH_44 : jH P e_44.2 := jH.mono x2_29 (fun a j h => q_44 a j (wf_jH_X8_refuse h))
        have p_jO_44 : jO P e_44.2 := jO.mono x3_29 (fun a j h => q_44 a j (wf_jO_X8_refuse h))
        have p_jR_44 : jR P e_44.2 := jR.mono x4_29 (fun a j h => q_44 a j (wf_jR_X8_refuse h))
        exact T_60 _ _ _ k_44 kn_29 p_jB_44 p_jH_44 p_jK_44 p_jL_44 p_jO_44 p_jR_44 p_jS_44 p_jT_44
      · have i_39 : ¬ Int32.toInt (e_29.1 (P + 19) v1.toNatClampNeg) = Int32.toInt (-1 : Int32) := fun q => h_39 (Int32.toInt_inj.mp q)
        (try simp only [Int32.toInt_add, Int32.toInt_sub, Int32.toInt_mul, Int32.toInt_toInt64, Int64.toInt_add, z_m1, Int32.reduceToInt, Int64.reduceToInt, Int32.reduceToNatClampNeg, Int.bmod_def] at i_39)
        refine vI (vp_of (by first | omega | (simp only [Int32.toInt_add, Int32.toInt_sub, Int32.toInt_mul, Int32.toInt_toInt64, Int64.toInt_add, z_m1, Int32.reduceToInt, Int64.reduceToInt, Int32.reduceToNatClampNeg, Int.bmod_def, or_true, true_or, and_true, true_and] <;> omega)) (by first | omega | (simp only [Int32.toInt_add, Int32.toInt_sub, Int32.toInt_mul, Int32.toInt_toInt64, Int64.toInt_add, z_m1, Int32.reduceToInt, Int64.reduceToInt, Int32.reduceToNatClampNeg, Int.bmod_def, or_true, true_or, and_true, true_and] <;> omega))) ?_
        obtain ⟨w0_56, w1_56⟩ := jR.el x4_29 (x := v1) (by first | omega | (simp only [Int32.toInt_add, Int32.toInt_sub, Int32.toInt_mul, Int32.toInt_toInt64, Int64.toInt_add, z_m1, Int32.reduceToInt, Int64.reduceToInt, Int32.reduceToNatClampNeg, Int.bmod_def, or_true, true_or, and_true, true_and] <;> omega)) (by first | omega | (simp only [Int32.toInt_add, Int32.toInt_sub, Int32.toInt_mul, Int32.toInt_toInt64, Int64.toInt_add, z_m1, Int32.reduceToInt, Int64.reduceToInt, Int32.reduceToNatClampNeg, Int.bmod_def, or_true, true_or, and_true, true_and] <;> omega))
        refine vB (v_X8_gives) (fun e_57 f_57 q_57 => ?_)
        have k_57 : ∀ a j, ¬ WM_X8_drawn P a j → e_57.2 a j = M0 a j := fun a j h => (q_57 a j (wz_M_X8_gives_X8_drawn h)).trans (k_29 a j h)
        have c7_57 : Int32.toInt (e_57.2 P 7) = Int32.toInt (e_29.1 P 7) := congrArg Int32.toInt (q_57 P 7 (wc_X8_gives_7))
        have c8_57 : Int32.toInt (e_57.2 P 8) = Int32.toInt (e_29.1 P 8) := congrArg Int32.toInt (q_57 P 8 (wc_X8_gives_8))
        have c33_57 : Int32.toInt (e_57.2 P 33) = Int32.toInt (e_29.1 P 33) := congrArg Int32.toInt (q_57 P 33 (wc_X8_gives_33))
        have n_57 : nA P e_57.2 = nA P e_29.1 := nA_congr (fun a j h => q_57 a j (wf_nA_X8_gives h))
        have p_jS_57 : jS P e_57.2 := jS.mono p_jS_29 (fun a j h => q_57 a j (wf_jS_X8_gives h))
        obtain ⟨u0_jS_57, u1_jS_57, u2_jS_57, u3_jS_57, u4_jS_57, u5_jS_57, u6_jS_57, u7_jS_57⟩ := jS.ints p_jS_57
        have p_jK_57 : jK P e_57.2 := jK.mono p_jK_29 (fun a j h => q_57 a j (wf_jK_X8_gives h))
        have p_jT_57 : jT P e_57.2 := jT.mono p_jT_29 (fun a j h => q_57 a j (wf_jT_X8_gives h))
        obtain ⟨u0_jT_57, u1_jT_57, u2_jT_57, u3_jT_57, u4_jT_57, u5_jT_57⟩ := id p_jT_57
        have p_jB_57 : jB P e_57.2 := jB.mono x0_29 (fun a j h => q_57 a j (wf_jB_X8_gives h))
        obtain ⟨u0_jB_57, u1_jB_57, u2_jB_57, u3_jB_57, u4_jB_57, u5_jB_57⟩ := id p_jB_57
        have p_jL_57 : jL P e_57.2 := jL.mono x1_29 (fun a j h => q_57 a j (wf_jL_X8_gives h))
        have p_jH_57 : jH P e_57.2 := jH.mono x2_29 (fun a j h => q_57 a j (wf_jH_X8_gives h))
        have p_jO_57 : jO P e_57.2 := jO.mono x3_29 (fun a j h => q_57 a j (wf_jO_X8_gives h))
        have p_jR_57 : jR P e_57.2 := jR.mono x4_29 (fun a j h => q_57 a j (wf_jR_X8_gives h))
        exact T_60 _ _ _ k_57 kn_29 p_jB_57 p_jH_57 p_jK_57 p_jL_57 p_jO_57 p_jR_57 p_jS_57 p_jT_57
def WM_X8_round (P : Nat) (a j : Nat) : Prop := (P + 11 ≤ a ∧ a < P + 23) ∨ (a = P ∧ (j = 6 ∨ j = 12 ∨ j = 33))
def WN_X8_round (P : Nat) (a j : Nat) : Prop := (a = P ∧ (j = 46))
theorem wz_M_X8_refuse_X8_round {P a j : Nat} (h : ¬ WM_X8_round P a j) : ¬ WM_X8_refuse P a j := by unfold WM_X8_refuse; unfold WM_X8_round at h; omega
theorem wz_M_X8_isApplicant_X8_round {P a j : Nat} (h : ¬ WM_X8_round P a j) : ¬ WM_X8_isApplicant P a j := by unfold WM_X8_isApplicant; unfold WM_X8_round at h; omega
theorem wz_M_X8_laysResult_X8_round {P a j : Nat} (h : ¬ WM_X8_round P a j) : ¬ WM_X8_laysResult P a j := by unfold WM_X8_laysResult; unfold WM_X8_round at h; omega
theorem wz_N_X8_laysResult_X8_round {P a j : Nat} (h : ¬ WN_X8_round P a j) : ¬ WN_X8_laysResult P a j := by unfold WN_X8_laysResult; unfold WN_X8_round at h; omega
theorem wz_M_X8_gives_X8_round {P a j : Nat} (h : ¬ WM_X8_round P a j) : ¬ WM_X8_gives P a j := by unfold WM_X8_gives; unfold WM_X8_round at h; omega
set_option maxRecDepth 100000 in
set_option maxHeartbeats 4000000 in
theorem v_X8_round {P : Nat} {v0 : Int32} {v1 : Int32} {M0 : zMt} {N0 : zNt}  (p_jB : jB P M0) (p_jS : jS P M0) (p_jR : jR P M0) (p_jK : jK P M0) (p_jT : jT P M0) : ∃ r, D_X8_round P v0 v1 M0 N0 = some r ∧ ((∀ a j, ¬ WM_X8_round P a j → r.2.1 a j = M0 a j) ∧ (∀ a j, ¬ WN_X8_round P a j → r.2.2 a j = N0 a j) ∧ ((jB P r.2.1) ∧ (jS P r.2.1) ∧ (jR P r.2.1) ∧ (jK P r.2.1) ∧ (jT P r.2.1))) := by
  obtain ⟨u0_jB, u1_jB, u2_jB, u3_jB, u4_jB, u5_jB⟩ := id p_jB
  obtain ⟨u0_jS, u1_jS, u2_jS, u3_jS, u4_jS, u5_jS, u6_jS, u7_jS⟩ := jS.ints p_jS
  obtain ⟨u0_jT, u1_jT, u2_jT, u3_jT, u4_jT, u5_jT⟩ := id p_jT
  have T_60 : ∀ (y0_60 : Int32) (M_60 : zMt) (N_60 : zNt), (∀ a j, ¬ WM_X8_round P a j → M_60 a j = M0 a j) → (∀ a j, ¬ WN_X8_round P a j → N_60 a j = N0 a j) → (jB P M_60) → (jH P M_60) → (jK P M_60) → (jL P M_60) → (jO P M_60) → (jR P M_60) → (jS P M_60) → (jT P M_60) → ∃ r, D_X8_round_60 P y0_60 M_60 N_60 = some r ∧ ((∀ a j, ¬ WM_X8_round P a j → r.2.1 a j = M0 a j) ∧ (∀ a j, ¬ WN_X8_round P a j → r.2.2 a j = N0 a j) ∧ ((jB P r.2.1) ∧ (jS P r.2.1) ∧ (jR P r.2.1) ∧ (jK P r.2.1) ∧ (jT P r.2.1))) := by
    intro y0_60 M_60 N_60 k_60 kn_60 p_jB_60 p_jH_60 p_jK_60 p_jL_60 p_jO_60 p_jR_60 p_jS_60 p_jT_60
    obtain ⟨u0_jB_60, u1_jB_60, u2_jB_60, u3_jB_60, u4_jB_60, u5_jB_60⟩ := id p_jB_60
    obtain ⟨u0_jS_60, u1_jS_60, u2_jS_60, u3_jS_60, u4_jS_60, u5_jS_60, u6_jS_60, u7_jS_60⟩ := jS.ints p_jS_60
    obtain ⟨u0_jT_60, u1_jT_60, u2_jT_60, u3_jT_60, u4_jT_60, u5_jT_60⟩ := id p_jT_60
    unfold D_X8_round_60
    exact ⟨_, rfl, k_60, kn_60, ⟨p_jB_60, p_jS_60, p_jR_60, p_jK_60, p_jT_60⟩⟩
  unfold D_X8_round
  refine vB (v_X8_isSeed) (fun e_1 f_1 q_1 => ?_)
  have b_1 := q_1.1
  have x0_1 := q_1.2
  (try simp only [Int32.toInt_add, Int32.toInt_sub, Int32.toInt_mul, Int32.toInt_toInt64, Int64.toInt_add, z_m1, Int32.reduceToInt, Int64.reduceToInt, Int32.reduceToNatClampNeg, Int.bmod_def] at x0_1)
  refine vIf (fun h_4 => ?_) (fun h_4 => ?_)
  · have i_4 := congrArg Int32.toInt h_4
    (try simp only [Int32.toInt_add, Int32.toInt_sub, Int32.toInt_mul, Int32.toInt_toInt64, Int64.toInt_add, z_m1, Int32.reduceToInt, Int64.reduceToInt, Int32.reduceToNatClampNeg, Int.bmod_def] at i_4)
    refine vB (v_X8_refuse) (fun e_9 f_9 q_9 => ?_)
    have k_9 : ∀ a j, ¬ WM_X8_round P a j → e_9.2 a j = M0 a j := fun a j h => (q_9 a j (wz_M_X8_refuse_X8_round h))
    have c7_9 : Int32.toInt (e_9.2 P 7) = Int32.toInt (M0 P 7) := congrArg Int32.toInt (q_9 P 7 (wc_X8_refuse_7))
    have c8_9 : Int32.toInt (e_9.2 P 8) = Int32.toInt (M0 P 8) := congrArg Int32.toInt (q_9 P 8 (wc_X8_refuse_8))
    have c33_9 : Int32.toInt (e_9.2 P 33) = Int32.toInt (M0 P 33) := congrArg Int32.toInt (q_9 P 33 (wc_X8_refuse_33))
    have n_9 : nA P e_9.2 = nA P M0 := nA_congr (fun a j h => q_9 a j (wf_nA_X8_refuse h))
    have p_jB_9 : jB P e_9.2 := jB.mono p_jB (fun a j h => q_9 a j (wf_jB_X8_refuse h))
    obtain ⟨u0_jB_9, u1_jB_9, u2_jB_9, u3_jB_9, u4_jB_9, u5_jB_9⟩ := id p_jB_9
    have p_jS_9 : jS P e_9.2 := jS.mono p_jS (fun a j h => q_9 a j (wf_jS_X8_refuse h))
    obtain ⟨u0_jS_9, u1_jS_9, u2_jS_9, u3_jS_9, u4_jS_9, u5_jS_9, u6_jS_9, u7_jS_9⟩ := jS.ints p_jS_9
    have p_jR_9 : jR P e_9.2 := jR.mono p_jR (fun a j h => q_9 a j (wf_jR_X8_refuse h))
    have p_jK_9 : jK P e_9.2 := jK.mono p_jK (fun a j h => q_9 a j (wf_jK_X8_refuse h))
    have p_jT_9 : jT P e_9.2 := jT.mono p_jT (fun a j h => q_9 a j (wf_jT_X8_refuse h))
    obtain ⟨u0_jT_9, u1_jT_9, u2_jT_9, u3_jT_9, u4_jT_9, u5_jT_9⟩ := id p_jT_9
    exact ⟨_, rfl, k_9, (fun _ _ _ => rfl), ⟨p_jB_9, p_jS_9, p_jR_9, p_jK_9, p_jT_9⟩⟩
  · have i_4 : ¬ Int32.toInt e_1 = Int32.toInt (0 : Int32) := fun q => h_4 (Int32.toInt_inj.mp q)
    (try simp only [Int32.toInt_add, Int32.toInt_sub, Int32.toInt_mul, Int32.toInt_toInt64, Int64.toInt_add, z_m1, Int32.reduceToInt, Int64.reduceToInt, Int32.reduceToNatClampNeg, Int.bmod_def] at i_4)
    refine vB (v_X8_isApplicant p_jB p_jS) (fun e_15 f_15 q_15 => ?_)
    have k_15 : ∀ a j, ¬ WM_X8_round P a j → e_15.2 a j = M0 a j := fun a j h => (q_15.1 a j (wz_M_X8_isApplicant_X8_round h))
    have b_15 := q_15.2.1
    have c7_15 : Int32.toInt (e_15.2 P 7) = Int32.toInt (M0 P 7) := congrArg Int32.toInt (q_15.1 P 7 (wc_X8_isApplicant_7))
    have c8_15 : Int32.toInt (e_15.2 P 8) = Int32.toInt (M0 P 8) := congrArg Int32.toInt (q_15.1 P 8 (wc_X8_isApplicant_8))
    have n_15 : nA P e_15.2 = nA P M0 := nA_congr (fun a j h => q_15.1 a j (wf_nA_X8_isApplicant h))
    have p_jS_15 : jS P e_15.2 := jS.mono p_jS (fun a j h => q_15.1 a j (wf_jS_X8_isApplicant h))
    obtain ⟨u0_jS_15, u1_jS_15, u2_jS_15, u3_jS_15, u4_jS_15, u5_jS_15, u6_jS_15, u7_jS_15⟩ := jS.ints p_jS_15
    have p_jR_15 : jR P e_15.2 := jR.mono p_jR (fun a j h => q_15.1 a j (wf_jR_X8_isApplicant h))
    have p_jK_15 : jK P e_15.2 := jK.mono p_jK (fun a j h => q_15.1 a j (wf_jK_X8_isApplicant h))
    have p_jT_15 : jT P e_15.2 := jT.mono p_jT (fun a j h => q_15.1 a j (wf_jT_X8_isApplicant h))
    obtain ⟨u0_jT_15, u1_jT_15, u2_jT_15, u3_jT_15, u4_jT_15, u5_jT_15⟩ := id p_jT_15
    obtain ⟨x0_15, x1_15, x2_15, x3_15, x4_15⟩ := q_15.2.2
    obtain ⟨u0_jB_15, u1_jB_15, u2_jB_15, u3_jB_15, u4_jB_15, u5_jB_15⟩ := id x0_15
    (try simp only [Int32.toInt_add, Int32.toInt_sub, Int32.toInt_mul, Int32.toInt_toInt64, Int64.toInt_add, z_m1, Int32.reduceToInt, Int64.reduceToInt, Int32.reduceToNatClampNeg, Int.bmod_def] at x3_15)
    (try simp only [Int32.toInt_add, Int32.toInt_sub, Int32.toInt_mul, Int32.toInt_toInt64, Int64.toInt_add, z_m1, Int32.reduceToInt, Int64.reduceToInt, Int32.reduceToNatClampNeg, Int.bmod_def] at x4_15)
    refine vIf (fun h_18 => ?_) (fun h_18 => ?_)
    · have i_18 := congrArg Int32.toInt h_18
      (try simp only [Int32.toInt_add, Int32.toInt_sub, Int32.toInt_mul, Int32.toInt_toInt64, Int64.toInt_add, z_m1, Int32.reduceToInt, Int64.reduceToInt, Int32.reduceToNatClampNeg, Int.bmod_def] at i_18)
      refine vB (v_X8_refuse) (fun e_23 f_23 q_23 => ?_)
      have k_23 : ∀ a j, ¬ WM_X8_round P a j → e_23.2 a j = M0 a j := fun a j h => (q_23 a j (wz_M_X8_refuse_X8_round h)).trans (k_15 a j h)
      have c7_23 : Int32.toInt (e_23.2 P 7) = Int32.toInt (e_15.2 P 7) := congrArg Int32.toInt (q_23 P 7 (wc_X8_refuse_7))
      have c8_23 : Int32.toInt (e_23.2 P 8) = Int32.toInt (e_15.2 P 8) := congrArg Int32.toInt (q_23 P 8 (wc_X8_refuse_8))
      have c33_23 : Int32.toInt (e_23.2 P 33) = Int32.toInt (e_15.2 P 33) := congrArg Int32.toInt (q_23 P 33 (wc_X8_refuse_33))
      have n_23 : nA P e_23.2 = nA P e_15.2 := nA_congr (fun a j h => q_23 a j (wf_nA_X8_refuse h))
      have p_jS_23 : jS P e_23.2 := jS.mono p_jS_15 (fun a j h => q_23 a j (wf_jS_X8_refuse h))
      obtain ⟨u0_jS_23, u1_jS_23, u2_jS_23, u3_jS_23, u4_jS_23, u5_jS_23, u6_jS_23, u7_jS_23⟩ := jS.ints p_jS_23
      have p_jR_23 : jR P e_23.2 := jR.mono p_jR_15 (fun a j h => q_23 a j (wf_jR_X8_refuse h))
      have p_jK_23 : jK P e_23.2 := jK.mono p_jK_15 (fun a j h => q_23 a j (wf_jK_X8_refuse h))
      have p_jT_23 : jT P e_23.2 := jT.mono p_jT_15 (fun a j h => q_23 a j (wf_jT_X8_refuse h))
      obtain ⟨u0_jT_23, u1_jT_23, u2_jT_23, u3_jT_23, u4_jT_23, u5_jT_23⟩ := id p_jT_23
      have p_jB_23 : jB P e_23.2 := jB.mono x0_15 (fun a j h => q_23 a j (wf_jB_X8_refuse h))
      obtain ⟨u0_jB_23, u1_jB_23, u2_jB_23, u3_jB_23, u4_jB_23, u5_jB_23⟩ := id p_jB_23
      have p_jL_23 : jL P e_23.2 := jL.mono x1_15 (fun a j h => q_23 a j (wf_jL_X8_refuse h))
      have p_jH_23 : jH P e_23.2 := jH.mono x2_15 (fun a j h => q_23 a j (wf_jH_X8_refuse h))
      exact ⟨_, rfl, k_23, (fun _ _ _ => rfl), ⟨p_jB_23, p_jS_23, p_jR_23, p_jK_23, p_jT_23⟩⟩
    · have i_18 : ¬ Int32.toInt e_15.1 = Int32.toInt (0 : Int32) := fun q => h_18 (Int32.toInt_inj.mp q)
      (try simp only [Int32.toInt_add, Int32.toInt_sub, Int32.toInt_mul, Int32.toInt_toInt64, Int64.toInt_add, z_m1, Int32.reduceToInt, Int64.reduceToInt, Int32.reduceToNatClampNeg, Int.bmod_def] at i_18)
      refine vB (v_X8_laysResult x0_15 p_jS_15 p_jR_15 (by first | omega | (simp only [Int32.toInt_add, Int32.toInt_sub, Int32.toInt_mul, Int32.toInt_toInt64, Int64.toInt_add, z_m1, Int32.reduceToInt, Int64.reduceToInt, Int32.reduceToNatClampNeg, Int.bmod_def, or_true, true_or, and_true, true_and] <;> omega))) (fun e_29 f_29 q_29 => ?_)
      have k_29 : ∀ a j, ¬ WM_X8_round P a j → e_29.1 a j = M0 a j := fun a j h => (q_29.1 a j (wz_M_X8_laysResult_X8_round h)).trans (k_15 a j h)
      have kn_29 : ∀ a j, ¬ WN_X8_round P a j → e_29.2 a j = N0 a j := fun a j h => (q_29.2.1 a j (wz_N_X8_laysResult_X8_round h))
      have c7_29 : Int32.toInt (e_29.1 P 7) = Int32.toInt (e_15.2 P 7) := congrArg Int32.toInt (q_29.1 P 7 (wc_X8_laysResult_7))
      have c8_29 : Int32.toInt (e_29.1 P 8) = Int32.toInt (e_15.2 P 8) := congrArg Int32.toInt (q_29.1 P 8 (wc_X8_laysResult_8))
      have n_29 : nA P e_29.1 = nA P e_15.2 := nA_congr (fun a j h => q_29.1 a j (wf_nA_X8_laysResult h))
      have p_jS_29 : jS P e_29.1 := jS.mono p_jS_15 (fun a j h => q_29.1 a j (wf_jS_X8_laysResult h))
      obtain ⟨u0_jS_29, u1_jS_29, u2_jS_29, u3_jS_29, u4_jS_29, u5_jS_29, u6_jS_29, u7_jS_29⟩ := jS.ints p_jS_29
      have p_jK_29 : jK P e_29.1 := jK.mono p_jK_15 (fun a j h => q_29.1 a j (wf_jK_X8_laysResult h))
      have p_jT_29 : jT P e_29.1 := jT.mono p_jT_15 (fun a j h => q_29.1 a j (wf_jT_X8_laysResult h))
      obtain ⟨u0_jT_29, u1_jT_29, u2_jT_29, u3_jT_29, u4_jT_29, u5_jT_29⟩ := id p_jT_29
      obtain ⟨x0_29, x1_29, x2_29, x3_29, x4_29, x5_29⟩ := q_29.2.2
      obtain ⟨u0_jB_29, u1_jB_29, u2_jB_29, u3_jB_29, u4_jB_29, u5_jB_29⟩ := id x0_29
      (try simp only [Int32.toInt_add, Int32.toInt_sub, Int32.toInt_mul, Int32.toInt_toInt64, Int64.toInt_add, z_m1, Int32.reduceToInt, Int64.reduceToInt, Int32.reduceToNatClampNeg, Int.bmod_def] at x5_29)
      refine vI (vp_of (by first | omega | (simp only [Int32.toInt_add, Int32.toInt_sub, Int32.toInt_mul, Int32.toInt_toInt64, Int64.toInt_add, z_m1, Int32.reduceToInt, Int64.reduceToInt, Int32.reduceToNatClampNeg, Int.bmod_def, or_true, true_or, and_true, true_and] <;> omega)) (by first | omega | (simp only [Int32.toInt_add, Int32.toInt_sub, Int32.toInt_mul, Int32.toInt_toInt64, Int64.toInt_add, z_m1, Int32.reduceToInt, Int64.reduceToInt, Int32.reduceToNatClampNeg, Int.bmod_def, or_true, true_or, and_true, true_and] <;> omega))) ?_
      obtain ⟨w0_37, w1_37⟩ := jR.el x4_29 (x := v1) (by first | omega | (simp only [Int32.toInt_add, Int32.toInt_sub, Int32.toInt_mul, Int32.toInt_toInt64, Int64.toInt_add, z_m1, Int32.reduceToInt, Int64.reduceToInt, Int32.reduceToNatClampNeg, Int.bmod_def, or_true, true_or, and_true, true_and] <;> omega)) (by first | omega | (simp only [Int32.toInt_add, Int32.toInt_sub, Int32.toInt_mul, Int32.toInt_toInt64, Int64.toInt_add, z_m1, Int32.reduceToInt, Int64.reduceToInt, Int32.reduceToNatClampNeg, Int.bmod_def, or_true, true_or, and_true, true_and] <;> omega))
      refine vIf (fun h_39 => ?_) (fun h_39 => ?_)
      · have i_39 := congrArg Int32.toInt h_39
        (try simp only [Int32.toInt_add, Int32.toInt_sub, Int32.toInt_mul, Int32.toInt_toInt64, Int64.toInt_add, z_m1, Int32.reduceToInt, Int64.reduceToInt, Int32.reduceToNatClampNeg, Int.bmod_def] at i_39)
        refine vB (v_X8_refuse) (fun e_44 f_44 q_44 => ?_)
        have k_44 : ∀ a j, ¬ WM_X8_round P a j → e_44.2 a j = M0 a j := fun a j h => (q_44 a j (wz_M_X8_refuse_X8_round h)).trans (k_29 a j h)
        have c7_44 : Int32.toInt (e_44.2 P 7) = Int32.toInt (e_29.1 P 7) := congrArg Int32.toInt (q_44 P 7 (wc_X8_refuse_7))
        have c8_44 : Int32.toInt (e_44.2 P 8) = Int32.toInt (e_29.1 P 8) := congrArg Int32.toInt (q_44 P 8 (wc_X8_refuse_8))
        have c33_44 : Int32.toInt (e_44.2 P 33) = Int32.toInt (e_29.1 P 33) := congrArg Int32.toInt (q_44 P 33 (wc_X8_refuse_33))
        have n_44 : nA P e_44.2 = nA P e_29.1 := nA_congr (fun a j h => q_44 a j (wf_nA_X8_refuse h))
        have p_jS_44 : jS P e_44.2 := jS.mono p_jS_29 (fun a j h => q_44 a j (wf_jS_X8_refuse h))
        obtain ⟨u0_jS_44, u1_jS_44, u2_jS_44, u3_jS_44, u4_jS_44, u5_jS_44, u6_jS_44, u7_jS_44⟩ := jS.ints p_jS_44
        have p_jK_44 : jK P e_44.2 := jK.mono p_jK_29 (fun a j h => q_44 a j (wf_jK_X8_refuse h))
        have p_jT_44 : jT P e_44.2 := jT.mono p_jT_29 (fun a j h => q_44 a j (wf_jT_X8_refuse h))
        obtain ⟨u0_jT_44, u1_jT_44, u2_jT_44, u3_jT_44, u4_jT_44, u5_jT_44⟩ := id p_jT_44
        have p_jB_44 : jB P e_44.2 := jB.mono x0_29 (fun a j h => q_44 a j (wf_jB_X8_refuse h))
        obtain ⟨u0_jB_44, u1_jB_44, u2_jB_44, u3_jB_44, u4_jB_44, u5_jB_44⟩ := id p_jB_44
        have p_jL_44 : jL P e_44.2 := jL.mono x1_29 (fun a j h => q_44 a j (wf_jL_X8_refuse h))
        have p_jH_44 : jH P e_44.2 := jH.mono x2_29 (fun a j h => q_44 a j (wf_jH_X8_refuse h))
        have p_jO_44 : jO P e_44.2 := jO.mono x3_29 (fun a j h => q_44 a j (wf_jO_X8_refuse h))
        have p_jR_44 : jR P e_44.2 := jR.mono x4_29 (fun a j h => q_44 a j (wf_jR_X8_refuse h))
        exact T_60 _ _ _ k_44 kn_29 p_jB_44 p_jH_44 p_jK_44 p_jL_44 p_jO_44 p_jR_44 p_jS_44 p_jT_44
      · have i_39 : ¬ Int32.toInt (e_29.1 (P + 19) v1.toNatClampNeg) = Int32.toInt (-1 : Int32) := fun q => h_39 (Int32.toInt_inj.mp q)
        (try simp only [Int32.toInt_add, Int32.toInt_sub, Int32.toInt_mul, Int32.toInt_toInt64, Int64.toInt_add, z_m1, Int32.reduceToInt, Int64.reduceToInt, Int32.reduceToNatClampNeg, Int.bmod_def] at i_39)
        refine vI (vp_of (by first | omega | (simp only [Int32.toInt_add, Int32.toInt_sub, Int32.toInt_mul, Int32.toInt_toInt64, Int64.toInt_add, z_m1, Int32.reduceToInt, Int64.reduceToInt, Int32.reduceToNatClampNeg, Int.bmod_def, or_true, true_or, and_true, true_and] <;> omega)) (by first | omega | (simp only [Int32.toInt_add, Int32.toInt_sub, Int32.toInt_mul, Int32.toInt_toInt64, Int64.toInt_add, z_m1, Int32.reduceToInt, Int64.reduceToInt, Int32.reduceToNatClampNeg, Int.bmod_def, or_true, true_or, and_true, true_and] <;> omega))) ?_
        refine vB (v_X8_gives) (fun e_57 f_57 q_57 => ?_)
        have k_57 : ∀ a j, ¬ WM_X8_round P a j → e_57.2 a j = M0 a j := fun a j h => (q_57 a j (wz_M_X8_gives_X8_round h)).trans (k_29 a j h)
        have c7_57 : Int32.toInt (e_57.2 P 7) = Int32.toInt (e_29.1 P 7) := congrArg Int32.toInt (q_57 P 7 (wc_X8_gives_7))
        have c8_57 : Int32.toInt (e_57.2 P 8) = Int32.toInt (e_29.1 P 8) := congrArg Int32.toInt (q_57 P 8 (wc_X8_gives_8))
        have c33_57 : Int32.toInt (e_57.2 P 33) = Int32.toInt (e_29.1 P 33) := congrArg Int32.toInt (q_57 P 33 (wc_X8_gives_33))
        have n_57 : nA P e_57.2 = nA P e_29.1 := nA_congr (fun a j h => q_57 a j (wf_nA_X8_gives h))
        have p_jS_57 : jS P e_57.2 := jS.mono p_jS_29 (fun a j h => q_57 a j (wf_jS_X8_gives h))
        obtain ⟨u0_jS_57, u1_jS_57, u2_jS_57, u3_jS_57, u4_jS_57, u5_jS_57, u6_jS_57, u7_jS_57⟩ := jS.ints p_jS_57
        have p_jK_57 : jK P e_57.2 := jK.mono p_jK_29 (fun a j h => q_57 a j (wf_jK_X8_gives h))
        have p_jT_57 : jT P e_57.2 := jT.mono p_jT_29 (fun a j h => q_57 a j (wf_jT_X8_gives h))
        obtain ⟨u0_jT_57, u1_jT_57, u2_jT_57, u3_jT_57, u4_jT_57, u5_jT_57⟩ := id p_jT_57
        have p_jB_57 : jB P e_57.2 := jB.mono x0_29 (fun a j h => q_57 a j (wf_jB_X8_gives h))
        obtain ⟨u0_jB_57, u1_jB_57, u2_jB_57, u3_jB_57, u4_jB_57, u5_jB_57⟩ := id p_jB_57
        have p_jL_57 : jL P e_57.2 := jL.mono x1_29 (fun a j h => q_57 a j (wf_jL_X8_gives h))
        have p_jH_57 : jH P e_57.2 := jH.mono x2_29 (fun a j h => q_57 a j (wf_jH_X8_gives h))
        have p_jO_57 : jO P e_57.2 := jO.mono x3_29 (fun a j h => q_57 a j (wf_jO_X8_gives h))
        have p_jR_57 : jR P e_57.2 := jR.mono x4_29 (fun a j h => q_57 a j (wf_jR_X8_gives h))
        exact T_60 _ _ _ k_57 kn_29 p_jB_57 p_jH_57 p_jK_57 p_jL_57 p_jO_57 p_jR_57 p_jS_57 p_jT_57
def WM_X8_left (P : Nat) (a j : Nat) : Prop := (P + 11 ≤ a ∧ a < P + 23) ∨ (a = P ∧ (j = 6 ∨ j = 12 ∨ j = 33))
def WN_X8_left (P : Nat) (a j : Nat) : Prop := (a = P ∧ (j = 46))
theorem wz_M_X8_gives_X8_left {P a j : Nat} (h : ¬ WM_X8_left P a j) : ¬ WM_X8_gives P a j := by unfold WM_X8_gives; unfold WM_X8_left at h; omega
theorem wz_M_X8_refuse_X8_left {P a j : Nat} (h : ¬ WM_X8_left P a j) : ¬ WM_X8_refuse P a j := by unfold WM_X8_refuse; unfold WM_X8_left at h; omega
theorem wz_M_X8_laysResult_X8_left {P a j : Nat} (h : ¬ WM_X8_left P a j) : ¬ WM_X8_laysResult P a j := by unfold WM_X8_laysResult; unfold WM_X8_left at h; omega
theorem wz_N_X8_laysResult_X8_left {P a j : Nat} (h : ¬ WN_X8_left P a j) : ¬ WN_X8_laysResult P a j := by unfold WN_X8_laysResult; unfold WN_X8_left at h; omega
set_option maxRecDepth 100000 in
set_option maxHeartbeats 4000000 in
theorem v_X8_left {P : Nat} {v0 : Int32} {v1 : Int32} {v2 : Int32} {M0 : zMt} {N0 : zNt}  (p_jB : jB P M0) (p_jS : jS P M0) (p_jR : jR P M0) (p_jK : jK P M0) (p_jT : jT P M0) : ∃ r, D_X8_left P v0 v1 v2 M0 N0 = some r ∧ ((∀ a j, ¬ WM_X8_left P a j → r.2.1 a j = M0 a j) ∧ (∀ a j, ¬ WN_X8_left P a j → r.2.2 a j = N0 a j) ∧ ((jB P r.2.1) ∧ (jS P r.2.1) ∧ (jR P r.2.1) ∧ (jK P r.2.1) ∧ (jT P r.2.1))) := by
  obtain ⟨u0_jB, u1_jB, u2_jB, u3_jB, u4_jB, u5_jB⟩ := id p_jB
  obtain ⟨u0_jS, u1_jS, u2_jS, u3_jS, u4_jS, u5_jS, u6_jS, u7_jS⟩ := jS.ints p_jS
  obtain ⟨u0_jT, u1_jT, u2_jT, u3_jT, u4_jT, u5_jT⟩ := id p_jT
  have T_171 : ∀ (y1_171 : Int32) (M_171 : zMt) (N_171 : zNt), (∀ a j, ¬ WM_X8_left P a j → M_171 a j = M0 a j) → (∀ a j, ¬ WN_X8_left P a j → N_171 a j = N0 a j) → (jB P M_171) → (jH P M_171) → (jK P M_171) → (jL P M_171) → (jO P M_171) → (jR P M_171) → (jS P M_171) → (jT P M_171) → ∃ r, D_X8_left_171 P y1_171 M_171 N_171 = some r ∧ ((∀ a j, ¬ WM_X8_left P a j → r.2.1 a j = M0 a j) ∧ (∀ a j, ¬ WN_X8_left P a j → r.2.2 a j = N0 a j) ∧ ((jB P r.2.1) ∧ (jS P r.2.1) ∧ (jR P r.2.1) ∧ (jK P r.2.1) ∧ (jT P r.2.1))) := by
    intro y1_171 M_171 N_171 k_171 kn_171 p_jB_171 p_jH_171 p_jK_171 p_jL_171 p_jO_171 p_jR_171 p_jS_171 p_jT_171
    obtain ⟨u0_jB_171, u1_jB_171, u2_jB_171, u3_jB_171, u4_jB_171, u5_jB_171⟩ := id p_jB_171
    obtain ⟨u0_jS_171, u1_jS_171, u2_jS_171, u3_jS_171, u4_jS_171, u5_jS_171, u6_jS_171, u7_jS_171⟩ := jS.ints p_jS_171
    obtain ⟨u0_jT_171, u1_jT_171, u2_jT_171, u3_jT_171, u4_jT_171, u5_jT_171⟩ := id p_jT_171
    unfold D_X8_left_171
    refine vB (v_X8_gives) (fun e_171 f_171 q_171 => ?_)
    have k_171 : ∀ a j, ¬ WM_X8_left P a j → e_171.2 a j = M0 a j := fun a j h => (q_171 a j (wz_M_X8_gives_X8_left h)).trans (k_171 a j h)
    have c7_171 : Int32.toInt (e_171.2 P 7) = Int32.toInt (M_171 P 7) := congrArg Int32.toInt (q_171 P 7 (wc_X8_gives_7))
    have c8_171 : Int32.toInt (e_171.2 P 8) = Int32.toInt (M_171 P 8) := congrArg Int32.toInt (q_171 P 8 (wc_X8_gives_8))
    have c33_171 : Int32.toInt (e_171.2 P 33) = Int32.toInt (M_171 P 33) := congrArg Int32.toInt (q_171 P 33 (wc_X8_gives_33))
    have n_171 : nA P e_171.2 = nA P M_171 := nA_congr (fun a j h => q_171 a j (wf_nA_X8_gives h))
    have p_jB_171 : jB P e_171.2 := jB.mono p_jB_171 (fun a j h => q_171 a j (wf_jB_X8_gives h))
    obtain ⟨u0_jB_171, u1_jB_171, u2_jB_171, u3_jB_171, u4_jB_171, u5_jB_171⟩ := id p_jB_171
    have p_jH_171 : jH P e_171.2 := jH.mono p_jH_171 (fun a j h => q_171 a j (wf_jH_X8_gives h))
    have p_jK_171 : jK P e_171.2 := jK.mono p_jK_171 (fun a j h => q_171 a j (wf_jK_X8_gives h))
    have p_jL_171 : jL P e_171.2 := jL.mono p_jL_171 (fun a j h => q_171 a j (wf_jL_X8_gives h))
    have p_jO_171 : jO P e_171.2 := jO.mono p_jO_171 (fun a j h => q_171 a j (wf_jO_X8_gives h))
    have p_jR_171 : jR P e_171.2 := jR.mono p_jR_171 (fun a j h => q_171 a j (wf_jR_X8_gives h))
    have p_jS_171 : jS P e_171.2 := jS.mono p_jS_171 (fun a j h => q_171 a j (wf_jS_X8_gives h))
    obtain ⟨u0_jS_171, u1_jS_171, u2_jS_171, u3_jS_171, u4_jS_171, u5_jS_171, u6_jS_171, u7_jS_171⟩ := jS.ints p_jS_171
    have p_jT_171 : jT P e_171.2 := jT.mono p_jT_171 (fun a j h => q_171 a j (wf_jT_X8_gives h))
    obtain ⟨u0_jT_171, u1_jT_171, u2_jT_171, u3_jT_171, u4_jT_171, u5_jT_171⟩ := id p_jT_171
    exact ⟨_, rfl, k_171, kn_171, ⟨p_jB_171, p_jS_171, p_jR_171, p_jK_171, p_jT_171⟩⟩
  have T_140 : ∀ (y0_140 : Int32) (M_140 : zMt) (N_140 : zNt), (∀ a j, ¬ WM_X8_left P a j → M_140 a j = M0 a j) → (∀ a j, ¬ WN_X8_left P a j → N_140 a j = N0 a j) → (jB P M_140) → (jH P M_140) → (jK P M_140) → (jL P M_140) → (jO P M_140) → (jR P M_140) → (jS P M_140) → (jT P M_140) → ∃ r, D_X8_left_140 P y0_140 M_140 N_140 = some r ∧ ((∀ a j, ¬ WM_X8_left P a j → r.2.1 a j = M0 a j) ∧ (∀ a j, ¬ WN_X8_left P a j → r.2.2 a j = N0 a j) ∧ ((jB P r.2.1) ∧ (jS P r.2.1) ∧ (jR P r.2.1) ∧ (jK P r.2.1) ∧ (jT P r.2.1))) := by
    intro y0_140 M_140 N_140 k_140 kn_140 p_jB_140 p_jH_140 p_jK_140 p_jL_140 p_jO_140 p_jR_140 p_jS_140 p_jT_140
    obtain ⟨u0_jB_140, u1_jB_140, u2_jB_140, u3_jB_140, u4_jB_140, u5_jB_140⟩ := id p_jB_140
    obtain ⟨u0_jS_140, u1_jS_140, u2_jS_140, u3_jS_140, u4_jS_140, u5_jS_140, u6_jS_140, u7_jS_140⟩ := jS.ints p_jS_140
    obtain ⟨u0_jT_140, u1_jT_140, u2_jT_140, u3_jT_140, u4_jT_140, u5_jT_140⟩ := id p_jT_140
    unfold D_X8_left_140
    exact ⟨_, rfl, k_140, kn_140, ⟨p_jB_140, p_jS_140, p_jR_140, p_jK_140, p_jT_140⟩⟩
  have TL_53 : ∀ u : Nat, ∀ (x2_53 : Int32) (x3_53 : Int32) (x4_53 : Int32) (x5_53 : Int32) (x6_53 : Int32) (M_53 : zMt) (N_53 : zNt), (∀ a j, ¬ WM_X8_left P a j → M_53 a j = M0 a j) → (∀ a j, ¬ WN_X8_left P a j → N_53 a j = N0 a j) → (jB P M_53) → (jH P M_53) → (jK P M_53) → (jL P M_53) → (jO P M_53) → (jR P M_53) → (jS P M_53) → (jT P M_53) → (0 ≤ Int32.toInt x6_53) → (Int32.toInt x6_53 ≤ 10) → (0 ≤ Int32.toInt x2_53 ∧ Int32.toInt x2_53 < 5) → (2147483648 - Int32.toInt x6_53).toNat < u → ∃ r, D_X8_left_53 P u x2_53 x3_53 x4_53 x5_53 x6_53 M_53 N_53 = some r ∧ ((∀ a j, ¬ WM_X8_left P a j → r.2.1 a j = M0 a j) ∧ (∀ a j, ¬ WN_X8_left P a j → r.2.2 a j = N0 a j) ∧ ((jB P r.2.1) ∧ (jS P r.2.1) ∧ (jR P r.2.1) ∧ (jK P r.2.1) ∧ (jT P r.2.1))) := by
    intro u
    induction u with
    | zero => intro x2_53 x3_53 x4_53 x5_53 x6_53 M_53 N_53 k_53 kn_53 p_jB_53 p_jH_53 p_jK_53 p_jL_53 p_jO_53 p_jR_53 p_jS_53 p_jT_53 f0_53 f1_53 f2_53 hm_53; exact absurd hm_53 (Nat.not_lt_zero _)
    | succ u_53 ih_53 =>
      have T_109 : ∀ (x2_109 : Int32) (x3_109 : Int32) (x4_109 : Int32) (x5_109 : Int32) (x6_109 : Int32) (M_109 : zMt) (N_109 : zNt), (∀ a j, ¬ WM_X8_left P a j → M_109 a j = M0 a j) → (∀ a j, ¬ WN_X8_left P a j → N_109 a j = N0 a j) → (jB P M_109) → (jH P M_109) → (jK P M_109) → (jL P M_109) → (jO P M_109) → (jR P M_109) → (jS P M_109) → (jT P M_109) → (0 ≤ Int32.toInt x6_109) → (Int32.toInt x6_109 < Int32.toInt (M_109 P 33)) → ((2147483648 - Int32.toInt x6_109).toNat < u_53 + 1) → (Int32.toInt x6_109 < 2147483647) → (0 ≤ Int32.toInt x2_109 ∧ Int32.toInt x2_109 < 5) → ∃ r, D_X8_left_109 P (D_X8_left_53 P u_53) x2_109 x3_109 x4_109 x5_109 x6_109 M_109 N_109 = some r ∧ ((∀ a j, ¬ WM_X8_left P a j → r.2.1 a j = M0 a j) ∧ (∀ a j, ¬ WN_X8_left P a j → r.2.2 a j = N0 a j) ∧ ((jB P r.2.1) ∧ (jS P r.2.1) ∧ (jR P r.2.1) ∧ (jK P r.2.1) ∧ (jT P r.2.1))) := by
        intro x2_109 x3_109 x4_109 x5_109 x6_109 M_109 N_109 k_109 kn_109 p_jB_109 p_jH_109 p_jK_109 p_jL_109 p_jO_109 p_jR_109 p_jS_109 p_jT_109 f0_109 f1_109 f2_109 f3_109 f4_109
        obtain ⟨u0_jB_109, u1_jB_109, u2_jB_109, u3_jB_109, u4_jB_109, u5_jB_109⟩ := id p_jB_109
        obtain ⟨u0_jS_109, u1_jS_109, u2_jS_109, u3_jS_109, u4_jS_109, u5_jS_109, u6_jS_109, u7_jS_109⟩ := jS.ints p_jS_109
        obtain ⟨u0_jT_109, u1_jT_109, u2_jT_109, u3_jT_109, u4_jT_109, u5_jT_109⟩ := id p_jT_109
        unfold D_X8_left_109
        exact ih_53 _ _ _ _ _ _ _ k_109 kn_109 p_jB_109 p_jH_109 p_jK_109 p_jL_109 p_jO_109 p_jR_109 p_jS_109 p_jT_109 (by first | omega | (simp only [Int32.toInt_add, Int32.toInt_sub, Int32.toInt_mul, Int32.toInt_toInt64, Int64.toInt_add, z_m1, Int32.reduceToInt, Int64.reduceToInt, Int32.reduceToNatClampNeg, Int.bmod_def, or_true, true_or, and_true, true_and] <;> omega)) (by first | omega | (simp only [Int32.toInt_add, Int32.toInt_sub, Int32.toInt_mul, Int32.toInt_toInt64, Int64.toInt_add, z_m1, Int32.reduceToInt, Int64.reduceToInt, Int32.reduceToNatClampNeg, Int.bmod_def, or_true, true_or, and_true, true_and] <;> omega)) (by first | omega | (simp only [Int32.toInt_add, Int32.toInt_sub, Int32.toInt_mul, Int32.toInt_toInt64, Int64.toInt_add, z_m1, Int32.reduceToInt, Int64.reduceToInt, Int32.reduceToNatClampNeg, Int.bmod_def, or_true, true_or, and_true, true_and] <;> omega)) (z_up1 f3_109 f2_109)
      have T_107 : ∀ (x2_107 : Int32) (x3_107 : Int32) (x4_107 : Int32) (x6_107 : Int32) (y0_107 : Int32) (M_107 : zMt) (N_107 : zNt), (∀ a j, ¬ WM_X8_left P a j → M_107 a j = M0 a j) → (∀ a j, ¬ WN_X8_left P a j → N_107 a j = N0 a j) → (jB P M_107) → (jH P M_107) → (jK P M_107) → (jL P M_107) → (jO P M_107) → (jR P M_107) → (jS P M_107) → (jT P M_107) → (0 ≤ Int32.toInt x6_107) → (Int32.toInt x6_107 < Int32.toInt (M_107 P 33)) → ((2147483648 - Int32.toInt x6_107).toNat < u_53 + 1) → (Int32.toInt x6_107 < 2147483647) → (0 ≤ Int32.toInt x2_107 ∧ Int32.toInt x2_107 < 5) → ∃ r, D_X8_left_107 P (D_X8_left_53 P u_53) x2_107 x3_107 x4_107 x6_107 y0_107 M_107 N_107 = some r ∧ ((∀ a j, ¬ WM_X8_left P a j → r.2.1 a j = M0 a j) ∧ (∀ a j, ¬ WN_X8_left P a j → r.2.2 a j = N0 a j) ∧ ((jB P r.2.1) ∧ (jS P r.2.1) ∧ (jR P r.2.1) ∧ (jK P r.2.1) ∧ (jT P r.2.1))) := by
        intro x2_107 x3_107 x4_107 x6_107 y0_107 M_107 N_107 k_107 kn_107 p_jB_107 p_jH_107 p_jK_107 p_jL_107 p_jO_107 p_jR_107 p_jS_107 p_jT_107 f0_107 f1_107 f2_107 f3_107 f4_107
        obtain ⟨u0_jB_107, u1_jB_107, u2_jB_107, u3_jB_107, u4_jB_107, u5_jB_107⟩ := id p_jB_107
        obtain ⟨u0_jS_107, u1_jS_107, u2_jS_107, u3_jS_107, u4_jS_107, u5_jS_107, u6_jS_107, u7_jS_107⟩ := jS.ints p_jS_107
        obtain ⟨u0_jT_107, u1_jT_107, u2_jT_107, u3_jT_107, u4_jT_107, u5_jT_107⟩ := id p_jT_107
        unfold D_X8_left_107
        exact T_109 _ _ _ _ _ _ _ k_107 kn_107 p_jB_107 p_jH_107 p_jK_107 p_jL_107 p_jO_107 p_jR_107 p_jS_107 p_jT_107 (by first | omega | (simp only [Int32.toInt_add, Int32.toInt_sub, Int32.toInt_mul, Int32.toInt_toInt64, Int64.toInt_add, z_m1, Int32.reduceToInt, Int64.reduceToInt, Int32.reduceToNatClampNeg, Int.bmod_def, or_true, true_or, and_true, true_and] <;> omega)) (by first | omega | (simp only [Int32.toInt_add, Int32.toInt_sub, Int32.toInt_mul, Int32.toInt_toInt64, Int64.toInt_add, z_m1, Int32.reduceToInt, Int64.reduceToInt, Int32.reduceToNatClampNeg, Int.bmod_def, or_true, true_or, and_true, true_and] <;> omega)) f2_107 f3_107 (by first | omega | (simp only [Int32.toInt_add, Int32.toInt_sub, Int32.toInt_mul, Int32.toInt_toInt64, Int64.toInt_add, z_m1, Int32.reduceToInt, Int64.reduceToInt, Int32.reduceToNatClampNeg, Int.bmod_def, or_true, true_or, and_true, true_and] <;> omega))
      intro x2_53 x3_53 x4_53 x5_53 x6_53 M_53 N_53 k_53 kn_53 p_jB_53 p_jH_53 p_jK_53 p_jL_53 p_jO_53 p_jR_53 p_jS_53 p_jT_53 f0_53 f1_53 f2_53 hm_53
      obtain ⟨u0_jB_53, u1_jB_53, u2_jB_53, u3_jB_53, u4_jB_53, u5_jB_53⟩ := id p_jB_53
      obtain ⟨u0_jS_53, u1_jS_53, u2_jS_53, u3_jS_53, u4_jS_53, u5_jS_53, u6_jS_53, u7_jS_53⟩ := jS.ints p_jS_53
      obtain ⟨u0_jT_53, u1_jT_53, u2_jT_53, u3_jT_53, u4_jT_53, u5_jT_53⟩ := id p_jT_53
      rw [D_X8_left_53]
      refine vIf (fun h_59 => ?_) (fun h_59 => ?_)
      · have i_59 := Int32.le_iff_toInt_le.mp h_59
        (try simp only [Int32.toInt_add, Int32.toInt_sub, Int32.toInt_mul, Int32.toInt_toInt64, Int64.toInt_add, z_m1, Int32.reduceToInt, Int64.reduceToInt, Int32.reduceToNatClampNeg, Int.bmod_def] at i_59)
        refine vIf (fun h_117 => ?_) (fun h_117 => ?_)
        · have i_117 := congrArg Int32.toInt h_117
          (try simp only [Int32.toInt_add, Int32.toInt_sub, Int32.toInt_mul, Int32.toInt_toInt64, Int64.toInt_add, z_m1, Int32.reduceToInt, Int64.reduceToInt, Int32.reduceToNatClampNeg, Int.bmod_def] at i_117)
          refine vIf (fun h_123 => ?_) (fun h_123 => ?_)
          · have i_123 := congrArg Int32.toInt h_123
            (try simp only [Int32.toInt_add, Int32.toInt_sub, Int32.toInt_mul, Int32.toInt_toInt64, Int64.toInt_add, z_m1, Int32.reduceToInt, Int64.reduceToInt, Int32.reduceToNatClampNeg, Int.bmod_def] at i_123)
            refine vB (v_X8_refuse) (fun e_128 f_128 q_128 => ?_)
            have k_128 : ∀ a j, ¬ WM_X8_left P a j → e_128.2 a j = M0 a j := fun a j h => (q_128 a j (wz_M_X8_refuse_X8_left h)).trans (k_53 a j h)
            have c7_128 : Int32.toInt (e_128.2 P 7) = Int32.toInt (M_53 P 7) := congrArg Int32.toInt (q_128 P 7 (wc_X8_refuse_7))
            have c8_128 : Int32.toInt (e_128.2 P 8) = Int32.toInt (M_53 P 8) := congrArg Int32.toInt (q_128 P 8 (wc_X8_refuse_8))
            have c33_128 : Int32.toInt (e_128.2 P 33) = Int32.toInt (M_53 P 33) := congrArg Int32.toInt (q_128 P 33 (wc_X8_refuse_33))
            have n_128 : nA P e_128.2 = nA P M_53 := nA_congr (fun a j h => q_128 a j (wf_nA_X8_refuse h))
            have p_jB_128 : jB P e_128.2 := jB.mono p_jB_53 (fun a j h => q_128 a j (wf_jB_X8_refuse h))
            obtain ⟨u0_jB_128, u1_jB_128, u2_jB_128, u3_jB_128, u4_jB_128, u5_jB_128⟩ := id p_jB_128
            have p_jH_128 : jH P e_128.2 := jH.mono p_jH_53 (fun a j h => q_128 a j (wf_jH_X8_refuse h))
            have p_jK_128 : jK P e_128.2 := jK.mono p_jK_53 (fun a j h => q_128 a j (wf_jK_X8_refuse h))
            have p_jL_128 : jL P e_128.2 := jL.mono p_jL_53 (fun a j h => q_128 a j (wf_jL_X8_refuse h))
            have p_jO_128 : jO P e_128.2 := jO.mono p_jO_53 (fun a j h => q_128 a j (wf_jO_X8_refuse h))
            have p_jR_128 : jR P e_128.2 := jR.mono p_jR_53 (fun a j h => q_128 a j (wf_jR_X8_refuse h))
            have p_jS_128 : jS P e_128.2 := jS.mono p_jS_53 (fun a j h => q_128 a j (wf_jS_X8_refuse h))
            obtain ⟨u0_jS_128, u1_jS_128, u2_jS_128, u3_jS_128, u4_jS_128, u5_jS_128, u6_jS_128, u7_jS_128⟩ := jS.ints p_jS_128
            have p_jT_128 : jT P e_128.2 := jT.mono p_jT_53 (fun a j h => q_128 a j (wf_jT_X8_refuse h))
            obtain ⟨u0_jT_128, u1_jT_128, u2_jT_128, u3_jT_128, u4_jT_128, u5_jT_128⟩ := id p_jT_128
            exact T_140 _ _ _ k_128 kn_53 p_jB_128 p_jH_128 p_jK_128 p_jL_128 p_jO_128 p_jR_128 p_jS_128 p_jT_128
          · have i_123 : ¬ Int32.toInt x5_53 = Int32.toInt (-1 : Int32) := fun q => h_123 (Int32.toInt_inj.mp q)
            (try simp only [Int32.toInt_add, Int32.toInt_sub, Int32.toInt_mul, Int32.toInt_toInt64, Int64.toInt_add, z_m1, Int32.reduceToInt, Int64.reduceToInt, Int32.reduceToNatClampNeg, Int.bmod_def] at i_123)
            refine vB (v_X8_gives) (fun e_137 f_137 q_137 => ?_)
            have k_137 : ∀ a j, ¬ WM_X8_left P a j → e_137.2 a j = M0 a j := fun a j h => (q_137 a j (wz_M_X8_gives_X8_left h)).trans (k_53 a j h)
            have c7_137 : Int32.toInt (e_137.2 P 7) = Int32.toInt (M_53 P 7) := congrArg Int32.toInt (q_137 P 7 (wc_X8_gives_7))
            have c8_137 : Int32.toInt (e_137.2 P 8) = Int32.toInt (M_53 P 8) := congrArg Int32.toInt (q_137 P 8 (wc_X8_gives_8))
            have c33_137 : Int32.toInt (e_137.2 P 33) = Int32.toInt (M_53 P 33) := congrArg Int32.toInt (q_137 P 33 (wc_X8_gives_33))
            have n_137 : nA P e_137.2 = nA P M_53 := nA_congr (fun a j h => q_137 a j (wf_nA_X8_gives h))
            have p_jB_137 : jB P e_137.2 := jB.mono p_jB_53 (fun a j h => q_137 a j (wf_jB_X8_gives h))
            obtain ⟨u0_jB_137, u1_jB_137, u2_jB_137, u3_jB_137, u4_jB_137, u5_jB_137⟩ := id p_jB_137
            have p_jH_137 : jH P e_137.2 := jH.mono p_jH_53 (fun a j h => q_137 a j (wf_jH_X8_gives h))
            have p_jK_137 : jK P e_137.2 := jK.mono p_jK_53 (fun a j h => q_137 a j (wf_jK_X8_gives h))
            have p_jL_137 : jL P e_137.2 := jL.mono p_jL_53 (fun a j h => q_137 a j (wf_jL_X8_gives h))
            have p_jO_137 : jO P e_137.2 := jO.mono p_jO_53 (fun a j h => q_137 a j (wf_jO_X8_gives h))
            have p_jR_137 : jR P e_137.2 := jR.mono p_jR_53 (fun a j h => q_137 a j (wf_jR_X8_gives h))
            have p_jS_137 : jS P e_137.2 := jS.mono p_jS_53 (fun a j h => q_137 a j (wf_jS_X8_gives h))
            obtain ⟨u0_jS_137, u1_jS_137, u2_jS_137, u3_jS_137, u4_jS_137, u5_jS_137, u6_jS_137, u7_jS_137⟩ := jS.ints p_jS_137
            have p_jT_137 : jT P e_137.2 := jT.mono p_jT_53 (fun a j h => q_137 a j (wf_jT_X8_gives h))
            obtain ⟨u0_jT_137, u1_jT_137, u2_jT_137, u3_jT_137, u4_jT_137, u5_jT_137⟩ := id p_jT_137
            exact T_140 _ _ _ k_137 kn_53 p_jB_137 p_jH_137 p_jK_137 p_jL_137 p_jO_137 p_jR_137 p_jS_137 p_jT_137
        · have i_117 : ¬ Int32.toInt x3_53 = Int32.toInt (3 : Int32) := fun q => h_117 (Int32.toInt_inj.mp q)
          (try simp only [Int32.toInt_add, Int32.toInt_sub, Int32.toInt_mul, Int32.toInt_toInt64, Int64.toInt_add, z_m1, Int32.reduceToInt, Int64.reduceToInt, Int32.reduceToNatClampNeg, Int.bmod_def] at i_117)
          refine vIf (fun h_143 => ?_) (fun h_143 => ?_)
          · have i_143 := congrArg Int32.toInt h_143
            (try simp only [Int32.toInt_add, Int32.toInt_sub, Int32.toInt_mul, Int32.toInt_toInt64, Int64.toInt_add, z_m1, Int32.reduceToInt, Int64.reduceToInt, Int32.reduceToNatClampNeg, Int.bmod_def] at i_143)
            refine vI (vp_of (by first | omega | (simp only [Int32.toInt_add, Int32.toInt_sub, Int32.toInt_mul, Int32.toInt_toInt64, Int64.toInt_add, z_m1, Int32.reduceToInt, Int64.reduceToInt, Int32.reduceToNatClampNeg, Int.bmod_def, or_true, true_or, and_true, true_and] <;> omega)) (by first | omega | (simp only [Int32.toInt_add, Int32.toInt_sub, Int32.toInt_mul, Int32.toInt_toInt64, Int64.toInt_add, z_m1, Int32.reduceToInt, Int64.reduceToInt, Int32.reduceToNatClampNeg, Int.bmod_def, or_true, true_or, and_true, true_and] <;> omega))) ?_
            exact T_171 _ _ _ k_53 kn_53 p_jB_53 p_jH_53 p_jK_53 p_jL_53 p_jO_53 p_jR_53 p_jS_53 p_jT_53
          · have i_143 : ¬ Int32.toInt x3_53 = Int32.toInt (0 : Int32) := fun q => h_143 (Int32.toInt_inj.mp q)
            (try simp only [Int32.toInt_add, Int32.toInt_sub, Int32.toInt_mul, Int32.toInt_toInt64, Int64.toInt_add, z_m1, Int32.reduceToInt, Int64.reduceToInt, Int32.reduceToNatClampNeg, Int.bmod_def] at i_143)
            refine vIf (fun h_157 => ?_) (fun h_157 => ?_)
            · have i_157 := congrArg Int32.toInt h_157
              (try simp only [Int32.toInt_add, Int32.toInt_sub, Int32.toInt_mul, Int32.toInt_toInt64, Int64.toInt_add, z_m1, Int32.reduceToInt, Int64.reduceToInt, Int32.reduceToNatClampNeg, Int.bmod_def] at i_157)
              refine vI (vp_of (by first | omega | (simp only [Int32.toInt_add, Int32.toInt_sub, Int32.toInt_mul, Int32.toInt_toInt64, Int64.toInt_add, z_m1, Int32.reduceToInt, Int64.reduceToInt, Int32.reduceToNatClampNeg, Int.bmod_def, or_true, true_or, and_true, true_and] <;> omega)) (by first | omega | (simp only [Int32.toInt_add, Int32.toInt_sub, Int32.toInt_mul, Int32.toInt_toInt64, Int64.toInt_add, z_m1, Int32.reduceToInt, Int64.reduceToInt, Int32.reduceToNatClampNeg, Int.bmod_def, or_true, true_or, and_true, true_and] <;> omega))) ?_
              exact T_171 _ _ _ k_53 kn_53 p_jB_53 p_jH_53 p_jK_53 p_jL_53 p_jO_53 p_jR_53 p_jS_53 p_jT_53
            · have i_157 : ¬ Int32.toInt x3_53 = Int32.toInt (1 : Int32) := fun q => h_157 (Int32.toInt_inj.mp q)
              (try simp only [Int32.toInt_add, Int32.toInt_sub, Int32.toInt_mul, Int32.toInt_toInt64, Int64.toInt_add, z_m1, Int32.reduceToInt, Int64.reduceToInt, Int32.reduceToNatClampNeg, Int.bmod_def] at i_157)
              exact T_171 _ _ _ k_53 kn_53 p_jB_53 p_jH_53 p_jK_53 p_jL_53 p_jO_53 p_jR_53 p_jS_53 p_jT_53
      · have i_59 := Int32.lt_iff_toInt_lt.mp (Int32.not_le.mp h_59)
        (try simp only [Int32.toInt_add, Int32.toInt_sub, Int32.toInt_mul, Int32.toInt_toInt64, Int64.toInt_add, z_m1, Int32.reduceToInt, Int64.reduceToInt, Int32.reduceToNatClampNeg, Int.bmod_def] at i_59)
        refine vI (vp_of (by first | omega | (simp only [Int32.toInt_add, Int32.toInt_sub, Int32.toInt_mul, Int32.toInt_toInt64, Int64.toInt_add, z_m1, Int32.reduceToInt, Int64.reduceToInt, Int32.reduceToNatClampNeg, Int.bmod_def, or_true, true_or, and_true, true_and] <;> omega)) (by first | omega | (simp only [Int32.toInt_add, Int32.toInt_sub, Int32.toInt_mul, Int32.toInt_toInt64, Int64.toInt_add, z_m1, Int32.reduceToInt, Int64.reduceToInt, Int32.reduceToNatClampNeg, Int.bmod_def, or_true, true_or, and_true, true_and] <;> omega))) ?_
        obtain ⟨w0_68, w1_68⟩ := jR.el p_jR_53 (x := x6_53) (by first | omega | (simp only [Int32.toInt_add, Int32.toInt_sub, Int32.toInt_mul, Int32.toInt_toInt64, Int64.toInt_add, z_m1, Int32.reduceToInt, Int64.reduceToInt, Int32.reduceToNatClampNeg, Int.bmod_def, or_true, true_or, and_true, true_and] <;> omega)) (by first | omega | (simp only [Int32.toInt_add, Int32.toInt_sub, Int32.toInt_mul, Int32.toInt_toInt64, Int64.toInt_add, z_m1, Int32.reduceToInt, Int64.reduceToInt, Int32.reduceToNatClampNeg, Int.bmod_def, or_true, true_or, and_true, true_and] <;> omega))
        refine vIf (fun h_70 => ?_) (fun h_70 => ?_)
        · have i_70 := congrArg Int32.toInt h_70
          (try simp only [Int32.toInt_add, Int32.toInt_sub, Int32.toInt_mul, Int32.toInt_toInt64, Int64.toInt_add, z_m1, Int32.reduceToInt, Int64.reduceToInt, Int32.reduceToNatClampNeg, Int.bmod_def] at i_70)
          refine vIf (fun h_82 => ?_) (fun h_82 => ?_)
          · have i_82 := congrArg Int32.toInt h_82
            (try simp only [Int32.toInt_add, Int32.toInt_sub, Int32.toInt_mul, Int32.toInt_toInt64, Int64.toInt_add, z_m1, Int32.reduceToInt, Int64.reduceToInt, Int32.reduceToNatClampNeg, Int.bmod_def] at i_82)
            refine vI (vp_of (by first | omega | (simp only [Int32.toInt_add, Int32.toInt_sub, Int32.toInt_mul, Int32.toInt_toInt64, Int64.toInt_add, z_m1, Int32.reduceToInt, Int64.reduceToInt, Int32.reduceToNatClampNeg, Int.bmod_def, or_true, true_or, and_true, true_and] <;> omega)) (by first | omega | (simp only [Int32.toInt_add, Int32.toInt_sub, Int32.toInt_mul, Int32.toInt_toInt64, Int64.toInt_add, z_m1, Int32.reduceToInt, Int64.reduceToInt, Int32.reduceToNatClampNeg, Int.bmod_def, or_true, true_or, and_true, true_and] <;> omega))) ?_
            exact T_107 _ _ _ _ _ _ _ k_53 kn_53 p_jB_53 p_jH_53 p_jK_53 p_jL_53 p_jO_53 p_jR_53 p_jS_53 p_jT_53 (by first | omega | (simp only [Int32.toInt_add, Int32.toInt_sub, Int32.toInt_mul, Int32.toInt_toInt64, Int64.toInt_add, z_m1, Int32.reduceToInt, Int64.reduceToInt, Int32.reduceToNatClampNeg, Int.bmod_def, or_true, true_or, and_true, true_and] <;> omega)) (by first | omega | (simp only [Int32.toInt_add, Int32.toInt_sub, Int32.toInt_mul, Int32.toInt_toInt64, Int64.toInt_add, z_m1, Int32.reduceToInt, Int64.reduceToInt, Int32.reduceToNatClampNeg, Int.bmod_def, or_true, true_or, and_true, true_and] <;> omega)) hm_53 (by first | assumption | exact z_lt (by assumption) | exact z_lt2 (by assumption) | exact z_lt3 (by assumption) (by first | assumption | decide)) (by first | omega | (simp only [Int32.toInt_add, Int32.toInt_sub, Int32.toInt_mul, Int32.toInt_toInt64, Int64.toInt_add, z_m1, Int32.reduceToInt, Int64.reduceToInt, Int32.reduceToNatClampNeg, Int.bmod_def, or_true, true_or, and_true, true_and] <;> omega))
          · have i_82 : ¬ Int32.toInt x5_53 = Int32.toInt (-1 : Int32) := fun q => h_82 (Int32.toInt_inj.mp q)
            (try simp only [Int32.toInt_add, Int32.toInt_sub, Int32.toInt_mul, Int32.toInt_toInt64, Int64.toInt_add, z_m1, Int32.reduceToInt, Int64.reduceToInt, Int32.reduceToNatClampNeg, Int.bmod_def] at i_82)
            refine vI (vp_of (by first | omega | (simp only [Int32.toInt_add, Int32.toInt_sub, Int32.toInt_mul, Int32.toInt_toInt64, Int64.toInt_add, z_m1, Int32.reduceToInt, Int64.reduceToInt, Int32.reduceToNatClampNeg, Int.bmod_def, or_true, true_or, and_true, true_and] <;> omega)) (by first | omega | (simp only [Int32.toInt_add, Int32.toInt_sub, Int32.toInt_mul, Int32.toInt_toInt64, Int64.toInt_add, z_m1, Int32.reduceToInt, Int64.reduceToInt, Int32.reduceToNatClampNeg, Int.bmod_def, or_true, true_or, and_true, true_and] <;> omega))) ?_
            exact T_107 _ _ _ _ _ _ _ k_53 kn_53 p_jB_53 p_jH_53 p_jK_53 p_jL_53 p_jO_53 p_jR_53 p_jS_53 p_jT_53 (by first | omega | (simp only [Int32.toInt_add, Int32.toInt_sub, Int32.toInt_mul, Int32.toInt_toInt64, Int64.toInt_add, z_m1, Int32.reduceToInt, Int64.reduceToInt, Int32.reduceToNatClampNeg, Int.bmod_def, or_true, true_or, and_true, true_and] <;> omega)) (by first | omega | (simp only [Int32.toInt_add, Int32.toInt_sub, Int32.toInt_mul, Int32.toInt_toInt64, Int64.toInt_add, z_m1, Int32.reduceToInt, Int64.reduceToInt, Int32.reduceToNatClampNeg, Int.bmod_def, or_true, true_or, and_true, true_and] <;> omega)) hm_53 (by first | assumption | exact z_lt (by assumption) | exact z_lt2 (by assumption) | exact z_lt3 (by assumption) (by first | assumption | decide)) (by first | omega | (simp only [Int32.toInt_add, Int32.toInt_sub, Int32.toInt_mul, Int32.toInt_toInt64, Int64.toInt_add, z_m1, Int32.reduceToInt, Int64.reduceToInt, Int32.reduceToNatClampNeg, Int.bmod_def, or_true, true_or, and_true, true_and] <;> omega))
        · have i_70 : ¬ Int32.toInt (M_53 (P + 19) x6_53.toNatClampNeg) = Int32.toInt x2_53 := fun q => h_70 (Int32.toInt_inj.mp q)
          (try simp only [Int32.toInt_add, Int32.toInt_sub, Int32.toInt_mul, Int32.toInt_toInt64, Int64.toInt_add, z_m1, Int32.reduceToInt, Int64.reduceToInt, Int32.reduceToNatClampNeg, Int.bmod_def] at i_70)
          exact T_109 _ _ _ _ _ _ _ k_53 kn_53 p_jB_53 p_jH_53 p_jK_53 p_jL_53 p_jO_53 p_jR_53 p_jS_53 p_jT_53 (by first | omega | (simp only [Int32.toInt_add, Int32.toInt_sub, Int32.toInt_mul, Int32.toInt_toInt64, Int64.toInt_add, z_m1, Int32.reduceToInt, Int64.reduceToInt, Int32.reduceToNatClampNeg, Int.bmod_def, or_true, true_or, and_true, true_and] <;> omega)) (by first | omega | (simp only [Int32.toInt_add, Int32.toInt_sub, Int32.toInt_mul, Int32.toInt_toInt64, Int64.toInt_add, z_m1, Int32.reduceToInt, Int64.reduceToInt, Int32.reduceToNatClampNeg, Int.bmod_def, or_true, true_or, and_true, true_and] <;> omega)) hm_53 (by first | assumption | exact z_lt (by assumption) | exact z_lt2 (by assumption) | exact z_lt3 (by assumption) (by first | assumption | decide)) (by first | omega | (simp only [Int32.toInt_add, Int32.toInt_sub, Int32.toInt_mul, Int32.toInt_toInt64, Int64.toInt_add, z_m1, Int32.reduceToInt, Int64.reduceToInt, Int32.reduceToNatClampNeg, Int.bmod_def, or_true, true_or, and_true, true_and] <;> omega))
  have T_53 : ∀ (x2_53 : Int32) (x3_53 : Int32) (x4_53 : Int32) (x5_53 : Int32) (x6_53 : Int32) (M_53 : zMt) (N_53 : zNt), (∀ a j, ¬ WM_X8_left P a j → M_53 a j = M0 a j) → (∀ a j, ¬ WN_X8_left P a j → N_53 a j = N0 a j) → (jB P M_53) → (jH P M_53) → (jK P M_53) → (jL P M_53) → (jO P M_53) → (jR P M_53) → (jS P M_53) → (jT P M_53) → (0 ≤ Int32.toInt x6_53) → (Int32.toInt x6_53 ≤ 10) → (0 ≤ Int32.toInt x2_53 ∧ Int32.toInt x2_53 < 5) → ∃ r, D_X8_left_53 P zFu x2_53 x3_53 x4_53 x5_53 x6_53 M_53 N_53 = some r ∧ ((∀ a j, ¬ WM_X8_left P a j → r.2.1 a j = M0 a j) ∧ (∀ a j, ¬ WN_X8_left P a j → r.2.2 a j = N0 a j) ∧ ((jB P r.2.1) ∧ (jS P r.2.1) ∧ (jR P r.2.1) ∧ (jK P r.2.1) ∧ (jT P r.2.1))) := fun x2_53 x3_53 x4_53 x5_53 x6_53 M_53 N_53 k_53 kn_53 p_jB_53 p_jH_53 p_jK_53 p_jL_53 p_jO_53 p_jR_53 p_jS_53 p_jT_53 f0_53 f1_53 f2_53 => TL_53 zFu x2_53 x3_53 x4_53 x5_53 x6_53 M_53 N_53 k_53 kn_53 p_jB_53 p_jH_53 p_jK_53 p_jL_53 p_jO_53 p_jR_53 p_jS_53 p_jT_53 f0_53 f1_53 f2_53 (zFu_up _)
  have T_19 : ∀ (M_19 : zMt) (N_19 : zNt), (∀ a j, ¬ WM_X8_left P a j → M_19 a j = M0 a j) → (∀ a j, ¬ WN_X8_left P a j → N_19 a j = N0 a j) → (jB P M_19) → (jK P M_19) → (jR P M_19) → (jS P M_19) → (jT P M_19) → ∃ r, D_X8_left_19 P M_19 N_19 = some r ∧ ((∀ a j, ¬ WM_X8_left P a j → r.2.1 a j = M0 a j) ∧ (∀ a j, ¬ WN_X8_left P a j → r.2.2 a j = N0 a j) ∧ ((jB P r.2.1) ∧ (jS P r.2.1) ∧ (jR P r.2.1) ∧ (jK P r.2.1) ∧ (jT P r.2.1))) := by
    intro M_19 N_19 k_19 kn_19 p_jB_19 p_jK_19 p_jR_19 p_jS_19 p_jT_19
    obtain ⟨u0_jB_19, u1_jB_19, u2_jB_19, u3_jB_19, u4_jB_19, u5_jB_19⟩ := id p_jB_19
    obtain ⟨u0_jS_19, u1_jS_19, u2_jS_19, u3_jS_19, u4_jS_19, u5_jS_19, u6_jS_19, u7_jS_19⟩ := jS.ints p_jS_19
    obtain ⟨u0_jT_19, u1_jT_19, u2_jT_19, u3_jT_19, u4_jT_19, u5_jT_19⟩ := id p_jT_19
    unfold D_X8_left_19
    refine vB (v_X8_refuse) (fun e_21 f_21 q_21 => ?_)
    have k_21 : ∀ a j, ¬ WM_X8_left P a j → e_21.2 a j = M0 a j := fun a j h => (q_21 a j (wz_M_X8_refuse_X8_left h)).trans (k_19 a j h)
    have c7_21 : Int32.toInt (e_21.2 P 7) = Int32.toInt (M_19 P 7) := congrArg Int32.toInt (q_21 P 7 (wc_X8_refuse_7))
    have c8_21 : Int32.toInt (e_21.2 P 8) = Int32.toInt (M_19 P 8) := congrArg Int32.toInt (q_21 P 8 (wc_X8_refuse_8))
    have c33_21 : Int32.toInt (e_21.2 P 33) = Int32.toInt (M_19 P 33) := congrArg Int32.toInt (q_21 P 33 (wc_X8_refuse_33))
    have n_21 : nA P e_21.2 = nA P M_19 := nA_congr (fun a j h => q_21 a j (wf_nA_X8_refuse h))
    have p_jB_21 : jB P e_21.2 := jB.mono p_jB_19 (fun a j h => q_21 a j (wf_jB_X8_refuse h))
    obtain ⟨u0_jB_21, u1_jB_21, u2_jB_21, u3_jB_21, u4_jB_21, u5_jB_21⟩ := id p_jB_21
    have p_jK_21 : jK P e_21.2 := jK.mono p_jK_19 (fun a j h => q_21 a j (wf_jK_X8_refuse h))
    have p_jR_21 : jR P e_21.2 := jR.mono p_jR_19 (fun a j h => q_21 a j (wf_jR_X8_refuse h))
    have p_jS_21 : jS P e_21.2 := jS.mono p_jS_19 (fun a j h => q_21 a j (wf_jS_X8_refuse h))
    obtain ⟨u0_jS_21, u1_jS_21, u2_jS_21, u3_jS_21, u4_jS_21, u5_jS_21, u6_jS_21, u7_jS_21⟩ := jS.ints p_jS_21
    have p_jT_21 : jT P e_21.2 := jT.mono p_jT_19 (fun a j h => q_21 a j (wf_jT_X8_refuse h))
    obtain ⟨u0_jT_21, u1_jT_21, u2_jT_21, u3_jT_21, u4_jT_21, u5_jT_21⟩ := id p_jT_21
    exact ⟨_, rfl, k_21, kn_19, ⟨p_jB_21, p_jS_21, p_jR_21, p_jK_21, p_jT_21⟩⟩
  unfold D_X8_left
  refine vB (v_X8_isSeed) (fun e_1 f_1 q_1 => ?_)
  have b_1 := q_1.1
  have x0_1 := q_1.2
  (try simp only [Int32.toInt_add, Int32.toInt_sub, Int32.toInt_mul, Int32.toInt_toInt64, Int64.toInt_add, z_m1, Int32.reduceToInt, Int64.reduceToInt, Int32.reduceToNatClampNeg, Int.bmod_def] at x0_1)
  refine vIf (fun h_4 => ?_) (fun h_4 => ?_)
  · have i_4 := congrArg Int32.toInt h_4
    (try simp only [Int32.toInt_add, Int32.toInt_sub, Int32.toInt_mul, Int32.toInt_toInt64, Int64.toInt_add, z_m1, Int32.reduceToInt, Int64.reduceToInt, Int32.reduceToNatClampNeg, Int.bmod_def] at i_4)
    exact T_19 _ _ (fun _ _ _ => rfl) (fun _ _ _ => rfl) p_jB p_jK p_jR p_jS p_jT
  · have i_4 : ¬ Int32.toInt e_1 = Int32.toInt (0 : Int32) := fun q => h_4 (Int32.toInt_inj.mp q)
    (try simp only [Int32.toInt_add, Int32.toInt_sub, Int32.toInt_mul, Int32.toInt_toInt64, Int64.toInt_add, z_m1, Int32.reduceToInt, Int64.reduceToInt, Int32.reduceToNatClampNeg, Int.bmod_def] at i_4)
    refine vB (v_X8_isFrom) (fun e_13 f_13 q_13 => ?_)
    have b_13 := q_13.1
    have x0_13 := q_13.2
    (try simp only [Int32.toInt_add, Int32.toInt_sub, Int32.toInt_mul, Int32.toInt_toInt64, Int64.toInt_add, z_m1, Int32.reduceToInt, Int64.reduceToInt, Int32.reduceToNatClampNeg, Int.bmod_def] at x0_13)
    refine vIf (fun h_16 => ?_) (fun h_16 => ?_)
    · have i_16 := congrArg Int32.toInt h_16
      (try simp only [Int32.toInt_add, Int32.toInt_sub, Int32.toInt_mul, Int32.toInt_toInt64, Int64.toInt_add, z_m1, Int32.reduceToInt, Int64.reduceToInt, Int32.reduceToNatClampNeg, Int.bmod_def] at i_16)
      exact T_19 _ _ (fun _ _ _ => rfl) (fun _ _ _ => rfl) p_jB p_jK p_jR p_jS p_jT
    · have i_16 : ¬ Int32.toInt e_13 = Int32.toInt (0 : Int32) := fun q => h_16 (Int32.toInt_inj.mp q)
      (try simp only [Int32.toInt_add, Int32.toInt_sub, Int32.toInt_mul, Int32.toInt_toInt64, Int64.toInt_add, z_m1, Int32.reduceToInt, Int64.reduceToInt, Int32.reduceToNatClampNeg, Int.bmod_def] at i_16)
      refine vB (v_X8_isUnit p_jB) (fun e_27 f_27 q_27 => ?_)
      have b_27 := q_27.1
      have x0_27 := q_27.2
      (try simp only [Int32.toInt_add, Int32.toInt_sub, Int32.toInt_mul, Int32.toInt_toInt64, Int64.toInt_add, z_m1, Int32.reduceToInt, Int64.reduceToInt, Int32.reduceToNatClampNeg, Int.bmod_def] at x0_27)
      refine vIf (fun h_30 => ?_) (fun h_30 => ?_)
      · have i_30 := congrArg Int32.toInt h_30
        (try simp only [Int32.toInt_add, Int32.toInt_sub, Int32.toInt_mul, Int32.toInt_toInt64, Int64.toInt_add, z_m1, Int32.reduceToInt, Int64.reduceToInt, Int32.reduceToNatClampNeg, Int.bmod_def] at i_30)
        refine vB (v_X8_refuse) (fun e_35 f_35 q_35 => ?_)
        have k_35 : ∀ a j, ¬ WM_X8_left P a j → e_35.2 a j = M0 a j := fun a j h => (q_35 a j (wz_M_X8_refuse_X8_left h))
        have c7_35 : Int32.toInt (e_35.2 P 7) = Int32.toInt (M0 P 7) := congrArg Int32.toInt (q_35 P 7 (wc_X8_refuse_7))
        have c8_35 : Int32.toInt (e_35.2 P 8) = Int32.toInt (M0 P 8) := congrArg Int32.toInt (q_35 P 8 (wc_X8_refuse_8))
        have c33_35 : Int32.toInt (e_35.2 P 33) = Int32.toInt (M0 P 33) := congrArg Int32.toInt (q_35 P 33 (wc_X8_refuse_33))
        have n_35 : nA P e_35.2 = nA P M0 := nA_congr (fun a j h => q_35 a j (wf_nA_X8_refuse h))
        have p_jB_35 : jB P e_35.2 := jB.mono p_jB (fun a j h => q_35 a j (wf_jB_X8_refuse h))
        obtain ⟨u0_jB_35, u1_jB_35, u2_jB_35, u3_jB_35, u4_jB_35, u5_jB_35⟩ := id p_jB_35
        have p_jS_35 : jS P e_35.2 := jS.mono p_jS (fun a j h => q_35 a j (wf_jS_X8_refuse h))
        obtain ⟨u0_jS_35, u1_jS_35, u2_jS_35, u3_jS_35, u4_jS_35, u5_jS_35, u6_jS_35, u7_jS_35⟩ := jS.ints p_jS_35
        have p_jR_35 : jR P e_35.2 := jR.mono p_jR (fun a j h => q_35 a j (wf_jR_X8_refuse h))
        have p_jK_35 : jK P e_35.2 := jK.mono p_jK (fun a j h => q_35 a j (wf_jK_X8_refuse h))
        have p_jT_35 : jT P e_35.2 := jT.mono p_jT (fun a j h => q_35 a j (wf_jT_X8_refuse h))
        obtain ⟨u0_jT_35, u1_jT_35, u2_jT_35, u3_jT_35, u4_jT_35, u5_jT_35⟩ := id p_jT_35
        exact ⟨_, rfl, k_35, (fun _ _ _ => rfl), ⟨p_jB_35, p_jS_35, p_jR_35, p_jK_35, p_jT_35⟩⟩
      · have i_30 : ¬ Int32.toInt e_27 = Int32.toInt (0 : Int32) := fun q => h_30 (Int32.toInt_inj.mp q)
        (try simp only [Int32.toInt_add, Int32.toInt_sub, Int32.toInt_mul, Int32.toInt_toInt64, Int64.toInt_add, z_m1, Int32.reduceToInt, Int64.reduceToInt, Int32.reduceToNatClampNeg, Int.bmod_def] at i_30)
        refine vB (v_X8_laysResult p_jB p_jS p_jR (by first | omega | (simp only [Int32.toInt_add, Int32.toInt_sub, Int32.toInt_mul, Int32.toInt_toInt64, Int64.toInt_add, z_m1, Int32.reduceToInt, Int64.reduceToInt, Int32.reduceToNatClampNeg, Int.bmod_def, or_true, true_or, and_true, true_and] <;> omega))) (fun e_41 f_41 q_41 => ?_)
        have k_41 : ∀ a j, ¬ WM_X8_left P a j → e_41.1 a j = M0 a j := fun a j h => (q_41.1 a j (wz_M_X8_laysResult_X8_left h))
        have kn_41 : ∀ a j, ¬ WN_X8_left P a j → e_41.2 a j = N0 a j := fun a j h => (q_41.2.1 a j (wz_N_X8_laysResult_X8_left h))
        have c7_41 : Int32.toInt (e_41.1 P 7) = Int32.toInt (M0 P 7) := congrArg Int32.toInt (q_41.1 P 7 (wc_X8_laysResult_7))
        have c8_41 : Int32.toInt (e_41.1 P 8) = Int32.toInt (M0 P 8) := congrArg Int32.toInt (q_41.1 P 8 (wc_X8_laysResult_8))
        have n_41 : nA P e_41.1 = nA P M0 := nA_congr (fun a j h => q_41.1 a j (wf_nA_X8_laysResult h))
        have p_jS_41 : jS P e_41.1 := jS.mono p_jS (fun a j h => q_41.1 a j (wf_jS_X8_laysResult h))
        obtain ⟨u0_jS_41, u1_jS_41, u2_jS_41, u3_jS_41, u4_jS_41, u5_jS_41, u6_jS_41, u7_jS_41⟩ := jS.ints p_jS_41
        have p_jK_41 : jK P e_41.1 := jK.mono p_jK (fun a j h => q_41.1 a j (wf_jK_X8_laysResult h))
        have p_jT_41 : jT P e_41.1 := jT.mono p_jT (fun a j h => q_41.1 a j (wf_jT_X8_laysResult h))
        obtain ⟨u0_jT_41, u1_jT_41, u2_jT_41, u3_jT_41, u4_jT_41, u5_jT_41⟩ := id p_jT_41
        obtain ⟨x0_41, x1_41, x2_41, x3_41, x4_41, x5_41⟩ := q_41.2.2
        obtain ⟨u0_jB_41, u1_jB_41, u2_jB_41, u3_jB_41, u4_jB_41, u5_jB_41⟩ := id x0_41
        (try simp only [Int32.toInt_add, Int32.toInt_sub, Int32.toInt_mul, Int32.toInt_toInt64, Int64.toInt_add, z_m1, Int32.reduceToInt, Int64.reduceToInt, Int32.reduceToNatClampNeg, Int.bmod_def] at x5_41)
        exact T_53 _ _ _ _ _ _ _ k_41 kn_41 x0_41 x2_41 p_jK_41 x1_41 x3_41 x4_41 p_jS_41 p_jT_41 (by first | omega | (simp only [Int32.toInt_add, Int32.toInt_sub, Int32.toInt_mul, Int32.toInt_toInt64, Int64.toInt_add, z_m1, Int32.reduceToInt, Int64.reduceToInt, Int32.reduceToNatClampNeg, Int.bmod_def, or_true, true_or, and_true, true_and] <;> omega)) (by first | omega | (simp only [Int32.toInt_add, Int32.toInt_sub, Int32.toInt_mul, Int32.toInt_toInt64, Int64.toInt_add, z_m1, Int32.reduceToInt, Int64.reduceToInt, Int32.reduceToNatClampNeg, Int.bmod_def, or_true, true_or, and_true, true_and] <;> omega)) (by first | omega | (simp only [Int32.toInt_add, Int32.toInt_sub, Int32.toInt_mul, Int32.toInt_toInt64, Int64.toInt_add, z_m1, Int32.reduceToInt, Int64.reduceToInt, Int32.reduceToNatClampNeg, Int.bmod_def, or_true, true_or, and_true, true_and] <;> omega))
set_option maxRecDepth 100000 in
set_option maxHeartbeats 4000000 in
theorem v_X8_winnersNow {P : Nat} {M : zMt}   (p_jB : jB P M) : ∃ r, D_X8_winnersNow P M = some r ∧ (True) := by
  obtain ⟨u0_jB, u1_jB, u2_jB, u3_jB, u4_jB, u5_jB⟩ := id p_jB
  have TL_4 : ∀ u : Nat, ∀ (x1_4 : Int32) (x2_4 : Int32), (jB P M) → (0 ≤ Int32.toInt x2_4) → (Int32.toInt x2_4 ≤ 10) → (2147483648 - Int32.toInt x2_4).toNat < u → ∃ r, D_X8_winnersNow_4 P M u x1_4 x2_4 = some r ∧ (True) := by
    intro u
    induction u with
    | zero => intro x1_4 x2_4 p_jB_4 f0_4 f1_4 hm_4; exact absurd hm_4 (Nat.not_lt_zero _)
    | succ u_4 ih_4 =>
      have T_33 : ∀ (x2_33 : Int32) (y0_33 : Int32) (y1_33 : Int32), (jB P M) → (0 ≤ Int32.toInt x2_33) → (Int32.toInt x2_33 < Int32.toInt (M P 33)) → ((2147483648 - Int32.toInt x2_33).toNat < u_4 + 1) → (Int32.toInt x2_33 < 2147483647) → ∃ r, D_X8_winnersNow_33 P M (D_X8_winnersNow_4 P M u_4) x2_33 y0_33 y1_33 = some r ∧ (True) := by
        intro x2_33 y0_33 y1_33 p_jB_33 f0_33 f1_33 f2_33 f3_33
        obtain ⟨u0_jB_33, u1_jB_33, u2_jB_33, u3_jB_33, u4_jB_33, u5_jB_33⟩ := id p_jB_33
        unfold D_X8_winnersNow_33
        exact ih_4 _ _ p_jB_33 (by first | omega | (simp only [Int32.toInt_add, Int32.toInt_sub, Int32.toInt_mul, Int32.toInt_toInt64, Int64.toInt_add, z_m1, Int32.reduceToInt, Int64.reduceToInt, Int32.reduceToNatClampNeg, Int.bmod_def, or_true, true_or, and_true, true_and] <;> omega)) (by first | omega | (simp only [Int32.toInt_add, Int32.toInt_sub, Int32.toInt_mul, Int32.toInt_toInt64, Int64.toInt_add, z_m1, Int32.reduceToInt, Int64.reduceToInt, Int32.reduceToNatClampNeg, Int.bmod_def, or_true, true_or, and_true, true_and] <;> omega)) (z_up1 f3_33 f2_33)
      intro x1_4 x2_4 p_jB_4 f0_4 f1_4 hm_4
      obtain ⟨u0_jB_4, u1_jB_4, u2_jB_4, u3_jB_4, u4_jB_4, u5_jB_4⟩ := id p_jB_4
      rw [D_X8_winnersNow_4]
      refine vIf (fun h_9 => ?_) (fun h_9 => ?_)
      · have i_9 := Int32.le_iff_toInt_le.mp h_9
        (try simp only [Int32.toInt_add, Int32.toInt_sub, Int32.toInt_mul, Int32.toInt_toInt64, Int64.toInt_add, z_m1, Int32.reduceToInt, Int64.reduceToInt, Int32.reduceToNatClampNeg, Int.bmod_def] at i_9)
        exact ⟨_, rfl, trivial⟩
      · have i_9 := Int32.lt_iff_toInt_lt.mp (Int32.not_le.mp h_9)
        (try simp only [Int32.toInt_add, Int32.toInt_sub, Int32.toInt_mul, Int32.toInt_toInt64, Int64.toInt_add, z_m1, Int32.reduceToInt, Int64.reduceToInt, Int32.reduceToNatClampNeg, Int.bmod_def] at i_9)
        refine vI (vp_of (by first | omega | (simp only [Int32.toInt_add, Int32.toInt_sub, Int32.toInt_mul, Int32.toInt_toInt64, Int64.toInt_add, z_m1, Int32.reduceToInt, Int64.reduceToInt, Int32.reduceToNatClampNeg, Int.bmod_def, or_true, true_or, and_true, true_and] <;> omega)) (by first | omega | (simp only [Int32.toInt_add, Int32.toInt_sub, Int32.toInt_mul, Int32.toInt_toInt64, Int64.toInt_add, z_m1, Int32.reduceToInt, Int64.reduceToInt, Int32.reduceToNatClampNeg, Int.bmod_def, or_true, true_or, and_true, true_and] <;> omega))) ?_
        refine vIf (fun h_20 => ?_) (fun h_20 => ?_)
        · have i_20 := congrArg Int32.toInt h_20
          (try simp only [Int32.toInt_add, Int32.toInt_sub, Int32.toInt_mul, Int32.toInt_toInt64, Int64.toInt_add, z_m1, Int32.reduceToInt, Int64.reduceToInt, Int32.reduceToNatClampNeg, Int.bmod_def] at i_20)
          exact T_33 _ _ _ p_jB_4 (by first | omega | (simp only [Int32.toInt_add, Int32.toInt_sub, Int32.toInt_mul, Int32.toInt_toInt64, Int64.toInt_add, z_m1, Int32.reduceToInt, Int64.reduceToInt, Int32.reduceToNatClampNeg, Int.bmod_def, or_true, true_or, and_true, true_and] <;> omega)) (by first | omega | (simp only [Int32.toInt_add, Int32.toInt_sub, Int32.toInt_mul, Int32.toInt_toInt64, Int64.toInt_add, z_m1, Int32.reduceToInt, Int64.reduceToInt, Int32.reduceToNatClampNeg, Int.bmod_def, or_true, true_or, and_true, true_and] <;> omega)) hm_4 (by first | assumption | exact z_lt (by assumption) | exact z_lt2 (by assumption) | exact z_lt3 (by assumption) (by first | assumption | decide))
        · have i_20 : ¬ Int32.toInt (M (P + 19) x2_4.toNatClampNeg) = Int32.toInt (-1 : Int32) := fun q => h_20 (Int32.toInt_inj.mp q)
          (try simp only [Int32.toInt_add, Int32.toInt_sub, Int32.toInt_mul, Int32.toInt_toInt64, Int64.toInt_add, z_m1, Int32.reduceToInt, Int64.reduceToInt, Int32.reduceToNatClampNeg, Int.bmod_def] at i_20)
          refine vI (vp_of (by first | omega | (simp only [Int32.toInt_add, Int32.toInt_sub, Int32.toInt_mul, Int32.toInt_toInt64, Int64.toInt_add, z_m1, Int32.reduceToInt, Int64.reduceToInt, Int32.reduceToNatClampNeg, Int.bmod_def, or_true, true_or, and_true, true_and] <;> omega)) (by first | omega | (simp only [Int32.toInt_add, Int32.toInt_sub, Int32.toInt_mul, Int32.toInt_toInt64, Int64.toInt_add, z_m1, Int32.reduceToInt, Int64.reduceToInt, Int32.reduceToNatClampNeg, Int.bmod_def, or_true, true_or, and_true, true_and] <;> omega))) ?_
          exact T_33 _ _ _ p_jB_4 (by first | omega | (simp only [Int32.toInt_add, Int32.toInt_sub, Int32.toInt_mul, Int32.toInt_toInt64, Int64.toInt_add, z_m1, Int32.reduceToInt, Int64.reduceToInt, Int32.reduceToNatClampNeg, Int.bmod_def, or_true, true_or, and_true, true_and] <;> omega)) (by first | omega | (simp only [Int32.toInt_add, Int32.toInt_sub, Int32.toInt_mul, Int32.toInt_toInt64, Int64.toInt_add, z_m1, Int32.reduceToInt, Int64.reduceToInt, Int32.reduceToNatClampNeg, Int.bmod_def, or_true, true_or, and_true, true_and] <;> omega)) hm_4 (by first | assumption | exact z_lt (by assumption) | exact z_lt2 (by assumption) | exact z_lt3 (by assumption) (by first | assumption | decide))
  have T_4 : ∀ (x1_4 : Int32) (x2_4 : Int32), (jB P M) → (0 ≤ Int32.toInt x2_4) → (Int32.toInt x2_4 ≤ 10) → ∃ r, D_X8_winnersNow_4 P M zFu x1_4 x2_4 = some r ∧ (True) := fun x1_4 x2_4 p_jB_4 f0_4 f1_4 => TL_4 zFu x1_4 x2_4 p_jB_4 f0_4 f1_4 (zFu_up _)
  unfold D_X8_winnersNow
  exact T_4 _ _ p_jB (by first | omega | (simp only [Int32.toInt_add, Int32.toInt_sub, Int32.toInt_mul, Int32.toInt_toInt64, Int64.toInt_add, z_m1, Int32.reduceToInt, Int64.reduceToInt, Int32.reduceToNatClampNeg, Int.bmod_def, or_true, true_or, and_true, true_and] <;> omega)) (by first | omega | (simp only [Int32.toInt_add, Int32.toInt_sub, Int32.toInt_mul, Int32.toInt_toInt64, Int64.toInt_add, z_m1, Int32.reduceToInt, Int64.reduceToInt, Int32.reduceToNatClampNeg, Int.bmod_def, or_true, true_or, and_true, true_and] <;> omega))
def WM_X8_winners (P : Nat) (a j : Nat) : Prop := (P + 11 ≤ a ∧ a < P + 23) ∨ (a = P ∧ (j = 6 ∨ j = 12 ∨ j = 33))
def WN_X8_winners (P : Nat) (a j : Nat) : Prop := (a = P ∧ (j = 46))
theorem wz_M_X8_refuse_X8_winners {P a j : Nat} (h : ¬ WM_X8_winners P a j) : ¬ WM_X8_refuse P a j := by unfold WM_X8_refuse; unfold WM_X8_winners at h; omega
theorem wz_M_X8_laysResult_X8_winners {P a j : Nat} (h : ¬ WM_X8_winners P a j) : ¬ WM_X8_laysResult P a j := by unfold WM_X8_laysResult; unfold WM_X8_winners at h; omega
theorem wz_N_X8_laysResult_X8_winners {P a j : Nat} (h : ¬ WN_X8_winners P a j) : ¬ WN_X8_laysResult P a j := by unfold WN_X8_laysResult; unfold WN_X8_winners at h; omega
theorem wz_M_X8_gives_X8_winners {P a j : Nat} (h : ¬ WM_X8_winners P a j) : ¬ WM_X8_gives P a j := by unfold WM_X8_gives; unfold WM_X8_winners at h; omega
set_option maxRecDepth 100000 in
set_option maxHeartbeats 4000000 in
theorem v_X8_winners {P : Nat} {v0 : Int32} {M0 : zMt} {N0 : zNt}  (p_jB : jB P M0) (p_jS : jS P M0) (p_jR : jR P M0) (p_jK : jK P M0) (p_jT : jT P M0) : ∃ r, D_X8_winners P v0 M0 N0 = some r ∧ ((∀ a j, ¬ WM_X8_winners P a j → r.2.1 a j = M0 a j) ∧ (∀ a j, ¬ WN_X8_winners P a j → r.2.2 a j = N0 a j) ∧ ((jB P r.2.1) ∧ (jS P r.2.1) ∧ (jR P r.2.1) ∧ (jK P r.2.1) ∧ (jT P r.2.1))) := by
  obtain ⟨u0_jB, u1_jB, u2_jB, u3_jB, u4_jB, u5_jB⟩ := id p_jB
  obtain ⟨u0_jS, u1_jS, u2_jS, u3_jS, u4_jS, u5_jS, u6_jS, u7_jS⟩ := jS.ints p_jS
  obtain ⟨u0_jT, u1_jT, u2_jT, u3_jT, u4_jT, u5_jT⟩ := id p_jT
  unfold D_X8_winners
  refine vB (v_X8_isSeed) (fun e_1 f_1 q_1 => ?_)
  have b_1 := q_1.1
  have x0_1 := q_1.2
  (try simp only [Int32.toInt_add, Int32.toInt_sub, Int32.toInt_mul, Int32.toInt_toInt64, Int64.toInt_add, z_m1, Int32.reduceToInt, Int64.reduceToInt, Int32.reduceToNatClampNeg, Int.bmod_def] at x0_1)
  refine vIf (fun h_4 => ?_) (fun h_4 => ?_)
  · have i_4 := congrArg Int32.toInt h_4
    (try simp only [Int32.toInt_add, Int32.toInt_sub, Int32.toInt_mul, Int32.toInt_toInt64, Int64.toInt_add, z_m1, Int32.reduceToInt, Int64.reduceToInt, Int32.reduceToNatClampNeg, Int.bmod_def] at i_4)
    refine vB (v_X8_refuse) (fun e_9 f_9 q_9 => ?_)
    have k_9 : ∀ a j, ¬ WM_X8_winners P a j → e_9.2 a j = M0 a j := fun a j h => (q_9 a j (wz_M_X8_refuse_X8_winners h))
    have c7_9 : Int32.toInt (e_9.2 P 7) = Int32.toInt (M0 P 7) := congrArg Int32.toInt (q_9 P 7 (wc_X8_refuse_7))
    have c8_9 : Int32.toInt (e_9.2 P 8) = Int32.toInt (M0 P 8) := congrArg Int32.toInt (q_9 P 8 (wc_X8_refuse_8))
    have c33_9 : Int32.toInt (e_9.2 P 33) = Int32.toInt (M0 P 33) := congrArg Int32.toInt (q_9 P 33 (wc_X8_refuse_33))
    have n_9 : nA P e_9.2 = nA P M0 := nA_congr (fun a j h => q_9 a j (wf_nA_X8_refuse h))
    have p_jB_9 : jB P e_9.2 := jB.mono p_jB (fun a j h => q_9 a j (wf_jB_X8_refuse h))
    obtain ⟨u0_jB_9, u1_jB_9, u2_jB_9, u3_jB_9, u4_jB_9, u5_jB_9⟩ := id p_jB_9
    have p_jS_9 : jS P e_9.2 := jS.mono p_jS (fun a j h => q_9 a j (wf_jS_X8_refuse h))
    obtain ⟨u0_jS_9, u1_jS_9, u2_jS_9, u3_jS_9, u4_jS_9, u5_jS_9, u6_jS_9, u7_jS_9⟩ := jS.ints p_jS_9
    have p_jR_9 : jR P e_9.2 := jR.mono p_jR (fun a j h => q_9 a j (wf_jR_X8_refuse h))
    have p_jK_9 : jK P e_9.2 := jK.mono p_jK (fun a j h => q_9 a j (wf_jK_X8_refuse h))
    have p_jT_9 : jT P e_9.2 := jT.mono p_jT (fun a j h => q_9 a j (wf_jT_X8_refuse h))
    obtain ⟨u0_jT_9, u1_jT_9, u2_jT_9, u3_jT_9, u4_jT_9, u5_jT_9⟩ := id p_jT_9
    exact ⟨_, rfl, k_9, (fun _ _ _ => rfl), ⟨p_jB_9, p_jS_9, p_jR_9, p_jK_9, p_jT_9⟩⟩
  · have i_4 : ¬ Int32.toInt e_1 = Int32.toInt (0 : Int32) := fun q => h_4 (Int32.toInt_inj.mp q)
    (try simp only [Int32.toInt_add, Int32.toInt_sub, Int32.toInt_mul, Int32.toInt_toInt64, Int64.toInt_add, z_m1, Int32.reduceToInt, Int64.reduceToInt, Int32.reduceToNatClampNeg, Int.bmod_def] at i_4)
    refine vB (v_X8_laysResult p_jB p_jS p_jR (by first | omega | (simp only [Int32.toInt_add, Int32.toInt_sub, Int32.toInt_mul, Int32.toInt_toInt64, Int64.toInt_add, z_m1, Int32.reduceToInt, Int64.reduceToInt, Int32.reduceToNatClampNeg, Int.bmod_def, or_true, true_or, and_true, true_and] <;> omega))) (fun e_15 f_15 q_15 => ?_)
    have k_15 : ∀ a j, ¬ WM_X8_winners P a j → e_15.1 a j = M0 a j := fun a j h => (q_15.1 a j (wz_M_X8_laysResult_X8_winners h))
    have kn_15 : ∀ a j, ¬ WN_X8_winners P a j → e_15.2 a j = N0 a j := fun a j h => (q_15.2.1 a j (wz_N_X8_laysResult_X8_winners h))
    have c7_15 : Int32.toInt (e_15.1 P 7) = Int32.toInt (M0 P 7) := congrArg Int32.toInt (q_15.1 P 7 (wc_X8_laysResult_7))
    have c8_15 : Int32.toInt (e_15.1 P 8) = Int32.toInt (M0 P 8) := congrArg Int32.toInt (q_15.1 P 8 (wc_X8_laysResult_8))
    have n_15 : nA P e_15.1 = nA P M0 := nA_congr (fun a j h => q_15.1 a j (wf_nA_X8_laysResult h))
    have p_jS_15 : jS P e_15.1 := jS.mono p_jS (fun a j h => q_15.1 a j (wf_jS_X8_laysResult h))
    obtain ⟨u0_jS_15, u1_jS_15, u2_jS_15, u3_jS_15, u4_jS_15, u5_jS_15, u6_jS_15, u7_jS_15⟩ := jS.ints p_jS_15
    have p_jK_15 : jK P e_15.1 := jK.mono p_jK (fun a j h => q_15.1 a j (wf_jK_X8_laysResult h))
    have p_jT_15 : jT P e_15.1 := jT.mono p_jT (fun a j h => q_15.1 a j (wf_jT_X8_laysResult h))
    obtain ⟨u0_jT_15, u1_jT_15, u2_jT_15, u3_jT_15, u4_jT_15, u5_jT_15⟩ := id p_jT_15
    obtain ⟨x0_15, x1_15, x2_15, x3_15, x4_15, x5_15⟩ := q_15.2.2
    obtain ⟨u0_jB_15, u1_jB_15, u2_jB_15, u3_jB_15, u4_jB_15, u5_jB_15⟩ := id x0_15
    (try simp only [Int32.toInt_add, Int32.toInt_sub, Int32.toInt_mul, Int32.toInt_toInt64, Int64.toInt_add, z_m1, Int32.reduceToInt, Int64.reduceToInt, Int32.reduceToNatClampNeg, Int.bmod_def] at x5_15)
    refine vB (v_X8_winnersNow x0_15) (fun e_20 f_20 q_20 => ?_)
    refine vB (v_X8_gives) (fun e_23 f_23 q_23 => ?_)
    have k_23 : ∀ a j, ¬ WM_X8_winners P a j → e_23.2 a j = M0 a j := fun a j h => (q_23 a j (wz_M_X8_gives_X8_winners h)).trans (k_15 a j h)
    have c7_23 : Int32.toInt (e_23.2 P 7) = Int32.toInt (e_15.1 P 7) := congrArg Int32.toInt (q_23 P 7 (wc_X8_gives_7))
    have c8_23 : Int32.toInt (e_23.2 P 8) = Int32.toInt (e_15.1 P 8) := congrArg Int32.toInt (q_23 P 8 (wc_X8_gives_8))
    have c33_23 : Int32.toInt (e_23.2 P 33) = Int32.toInt (e_15.1 P 33) := congrArg Int32.toInt (q_23 P 33 (wc_X8_gives_33))
    have n_23 : nA P e_23.2 = nA P e_15.1 := nA_congr (fun a j h => q_23 a j (wf_nA_X8_gives h))
    have p_jS_23 : jS P e_23.2 := jS.mono p_jS_15 (fun a j h => q_23 a j (wf_jS_X8_gives h))
    obtain ⟨u0_jS_23, u1_jS_23, u2_jS_23, u3_jS_23, u4_jS_23, u5_jS_23, u6_jS_23, u7_jS_23⟩ := jS.ints p_jS_23
    have p_jK_23 : jK P e_23.2 := jK.mono p_jK_15 (fun a j h => q_23 a j (wf_jK_X8_gives h))
    have p_jT_23 : jT P e_23.2 := jT.mono p_jT_15 (fun a j h => q_23 a j (wf_jT_X8_gives h))
    obtain ⟨u0_jT_23, u1_jT_23, u2_jT_23, u3_jT_23, u4_jT_23, u5_jT_23⟩ := id p_jT_23
    have p_jB_23 : jB P e_23.2 := jB.mono x0_15 (fun a j h => q_23 a j (wf_jB_X8_gives h))
    obtain ⟨u0_jB_23, u1_jB_23, u2_jB_23, u3_jB_23, u4_jB_23, u5_jB_23⟩ := id p_jB_23
    have p_jL_23 : jL P e_23.2 := jL.mono x1_15 (fun a j h => q_23 a j (wf_jL_X8_gives h))
    have p_jH_23 : jH P e_23.2 := jH.mono x2_15 (fun a j h => q_23 a j (wf_jH_X8_gives h))
    have p_jO_23 : jO P e_23.2 := jO.mono x3_15 (fun a j h => q_23 a j (wf_jO_X8_gives h))
    have p_jR_23 : jR P e_23.2 := jR.mono x4_15 (fun a j h => q_23 a j (wf_jR_X8_gives h))
    exact ⟨_, rfl, k_23, kn_15, ⟨p_jB_23, p_jS_23, p_jR_23, p_jK_23, p_jT_23⟩⟩
set_option maxRecDepth 100000 in
set_option maxHeartbeats 4000000 in
theorem v_X8_isWaiting {P : Nat} {M : zMt} {v0 : Int32} {v1 : Int32}  (p_jB : jB P M) (p_jS : jS P M) (p_jL : jL P M) (i_3 : 0 ≤ Int32.toInt v0) (i_4 : Int32.toInt v0 < Int32.toInt (M P 33)) : ∃ r, D_X8_isWaiting P M v0 v1 = some r ∧ ((r = 0 ∨ r = 1)) := by
  obtain ⟨u0_jB, u1_jB, u2_jB, u3_jB, u4_jB, u5_jB⟩ := id p_jB
  obtain ⟨u0_jS, u1_jS, u2_jS, u3_jS, u4_jS, u5_jS, u6_jS, u7_jS⟩ := jS.ints p_jS
  have T_25 : ∀ (y0_25 : Int32), (jB P M) → (jL P M) → (jS P M) → (y0_25 = 0 ∨ y0_25 = 1) → ∃ r, D_X8_isWaiting_25 P M y0_25 = some r ∧ ((r = 0 ∨ r = 1)) := by
    intro y0_25 p_jB_25 p_jL_25 p_jS_25 f0_25
    obtain ⟨u0_jB_25, u1_jB_25, u2_jB_25, u3_jB_25, u4_jB_25, u5_jB_25⟩ := id p_jB_25
    obtain ⟨u0_jS_25, u1_jS_25, u2_jS_25, u3_jS_25, u4_jS_25, u5_jS_25, u6_jS_25, u7_jS_25⟩ := jS.ints p_jS_25
    unfold D_X8_isWaiting_25
    exact ⟨_, rfl, (by first | exact Or.inl rfl | exact Or.inr rfl | assumption)⟩
  have T_24 : (jB P M) → (jL P M) → (jS P M) → ∃ r, D_X8_isWaiting_24 P M = some r ∧ ((r = 0 ∨ r = 1)) := by
    intro  p_jB_24 p_jL_24 p_jS_24
    obtain ⟨u0_jB_24, u1_jB_24, u2_jB_24, u3_jB_24, u4_jB_24, u5_jB_24⟩ := id p_jB_24
    obtain ⟨u0_jS_24, u1_jS_24, u2_jS_24, u3_jS_24, u4_jS_24, u5_jS_24, u6_jS_24, u7_jS_24⟩ := jS.ints p_jS_24
    unfold D_X8_isWaiting_24
    exact T_25 _ p_jB_24 p_jL_24 p_jS_24 (by first | exact Or.inl rfl | exact Or.inr rfl | assumption)
  unfold D_X8_isWaiting
  refine vI (vp_of (by first | omega | (simp only [Int32.toInt_add, Int32.toInt_sub, Int32.toInt_mul, Int32.toInt_toInt64, Int64.toInt_add, z_m1, Int32.reduceToInt, Int64.reduceToInt, Int32.reduceToNatClampNeg, Int.bmod_def, or_true, true_or, and_true, true_and] <;> omega)) (by first | omega | (simp only [Int32.toInt_add, Int32.toInt_sub, Int32.toInt_mul, Int32.toInt_toInt64, Int64.toInt_add, z_m1, Int32.reduceToInt, Int64.reduceToInt, Int32.reduceToNatClampNeg, Int.bmod_def, or_true, true_or, and_true, true_and] <;> omega))) ?_
  refine vIf (fun h_7 => ?_) (fun h_7 => ?_)
  · have i_7 := congrArg Int32.toInt h_7
    (try simp only [Int32.toInt_add, Int32.toInt_sub, Int32.toInt_mul, Int32.toInt_toInt64, Int64.toInt_add, z_m1, Int32.reduceToInt, Int64.reduceToInt, Int32.reduceToNatClampNeg, Int.bmod_def] at i_7)
    refine vB (v_X8_placeOf p_jB p_jS p_jL (by first | omega | (simp only [Int32.toInt_add, Int32.toInt_sub, Int32.toInt_mul, Int32.toInt_toInt64, Int64.toInt_add, z_m1, Int32.reduceToInt, Int64.reduceToInt, Int32.reduceToNatClampNeg, Int.bmod_def, or_true, true_or, and_true, true_and] <;> omega)) (by first | omega | (simp only [Int32.toInt_add, Int32.toInt_sub, Int32.toInt_mul, Int32.toInt_toInt64, Int64.toInt_add, z_m1, Int32.reduceToInt, Int64.reduceToInt, Int32.reduceToNatClampNeg, Int.bmod_def, or_true, true_or, and_true, true_and] <;> omega))) (fun e_13 f_13 q_13 => ?_)
    obtain ⟨x0_13, x1_13⟩ := q_13
    (try simp only [Int32.toInt_add, Int32.toInt_sub, Int32.toInt_mul, Int32.toInt_toInt64, Int64.toInt_add, z_m1, Int32.reduceToInt, Int64.reduceToInt, Int32.reduceToNatClampNeg, Int.bmod_def] at x0_13)
    (try simp only [Int32.toInt_add, Int32.toInt_sub, Int32.toInt_mul, Int32.toInt_toInt64, Int64.toInt_add, z_m1, Int32.reduceToInt, Int64.reduceToInt, Int32.reduceToNatClampNeg, Int.bmod_def] at x1_13)
    refine vIf (fun h_17 => ?_) (fun h_17 => ?_)
    · have i_17 := congrArg Int32.toInt h_17
      (try simp only [Int32.toInt_add, Int32.toInt_sub, Int32.toInt_mul, Int32.toInt_toInt64, Int64.toInt_add, z_m1, Int32.reduceToInt, Int64.reduceToInt, Int32.reduceToNatClampNeg, Int.bmod_def] at i_17)
      exact T_24 p_jB p_jL p_jS
    · have i_17 : ¬ Int32.toInt e_13 = Int32.toInt (-1 : Int32) := fun q => h_17 (Int32.toInt_inj.mp q)
      (try simp only [Int32.toInt_add, Int32.toInt_sub, Int32.toInt_mul, Int32.toInt_toInt64, Int64.toInt_add, z_m1, Int32.reduceToInt, Int64.reduceToInt, Int32.reduceToNatClampNeg, Int.bmod_def] at i_17)
      exact T_25 _ p_jB p_jL p_jS (by first | exact Or.inl rfl | exact Or.inr rfl | assumption)
  · have i_7 : ¬ Int32.toInt (M (P + 19) v0.toNatClampNeg) = Int32.toInt (-1 : Int32) := fun q => h_7 (Int32.toInt_inj.mp q)
    (try simp only [Int32.toInt_add, Int32.toInt_sub, Int32.toInt_mul, Int32.toInt_toInt64, Int64.toInt_add, z_m1, Int32.reduceToInt, Int64.reduceToInt, Int32.reduceToNatClampNeg, Int.bmod_def] at i_7)
    exact T_24 p_jB p_jL p_jS
def WM_X8_waits (P : Nat) (a j : Nat) : Prop := (P + 11 ≤ a ∧ a < P + 23) ∨ (a = P ∧ (j = 6 ∨ j = 12 ∨ j = 33))
def WN_X8_waits (P : Nat) (a j : Nat) : Prop := (a = P ∧ (j = 46))
theorem wz_M_X8_gives_X8_waits {P a j : Nat} (h : ¬ WM_X8_waits P a j) : ¬ WM_X8_gives P a j := by unfold WM_X8_gives; unfold WM_X8_waits at h; omega
theorem wz_M_X8_refuse_X8_waits {P a j : Nat} (h : ¬ WM_X8_waits P a j) : ¬ WM_X8_refuse P a j := by unfold WM_X8_refuse; unfold WM_X8_waits at h; omega
theorem wz_M_X8_laysResult_X8_waits {P a j : Nat} (h : ¬ WM_X8_waits P a j) : ¬ WM_X8_laysResult P a j := by unfold WM_X8_laysResult; unfold WM_X8_waits at h; omega
theorem wz_N_X8_laysResult_X8_waits {P a j : Nat} (h : ¬ WN_X8_waits P a j) : ¬ WN_X8_laysResult P a j := by unfold WN_X8_laysResult; unfold WN_X8_waits at h; omega
set_option maxRecDepth 100000 in
set_option maxHeartbeats 4000000 in
theorem v_X8_waits {P : Nat} {v0 : Int32} {v1 : Int32} {v2 : Int32} {M0 : zMt} {N0 : zNt}  (p_jB : jB P M0) (p_jS : jS P M0) (p_jR : jR P M0) (p_jK : jK P M0) (p_jT : jT P M0) : ∃ r, D_X8_waits P v0 v1 v2 M0 N0 = some r ∧ ((∀ a j, ¬ WM_X8_waits P a j → r.2.1 a j = M0 a j) ∧ (∀ a j, ¬ WN_X8_waits P a j → r.2.2 a j = N0 a j) ∧ ((jB P r.2.1) ∧ (jS P r.2.1) ∧ (jR P r.2.1) ∧ (jK P r.2.1) ∧ (jT P r.2.1))) := by
  obtain ⟨u0_jB, u1_jB, u2_jB, u3_jB, u4_jB, u5_jB⟩ := id p_jB
  obtain ⟨u0_jS, u1_jS, u2_jS, u3_jS, u4_jS, u5_jS, u6_jS, u7_jS⟩ := jS.ints p_jS
  obtain ⟨u0_jT, u1_jT, u2_jT, u3_jT, u4_jT, u5_jT⟩ := id p_jT
  have T_116 : ∀ (y0_116 : Int32) (M_116 : zMt) (N_116 : zNt), (∀ a j, ¬ WM_X8_waits P a j → M_116 a j = M0 a j) → (∀ a j, ¬ WN_X8_waits P a j → N_116 a j = N0 a j) → (jB P M_116) → (jH P M_116) → (jK P M_116) → (jL P M_116) → (jO P M_116) → (jR P M_116) → (jS P M_116) → (jT P M_116) → ∃ r, D_X8_waits_116 P y0_116 M_116 N_116 = some r ∧ ((∀ a j, ¬ WM_X8_waits P a j → r.2.1 a j = M0 a j) ∧ (∀ a j, ¬ WN_X8_waits P a j → r.2.2 a j = N0 a j) ∧ ((jB P r.2.1) ∧ (jS P r.2.1) ∧ (jR P r.2.1) ∧ (jK P r.2.1) ∧ (jT P r.2.1))) := by
    intro y0_116 M_116 N_116 k_116 kn_116 p_jB_116 p_jH_116 p_jK_116 p_jL_116 p_jO_116 p_jR_116 p_jS_116 p_jT_116
    obtain ⟨u0_jB_116, u1_jB_116, u2_jB_116, u3_jB_116, u4_jB_116, u5_jB_116⟩ := id p_jB_116
    obtain ⟨u0_jS_116, u1_jS_116, u2_jS_116, u3_jS_116, u4_jS_116, u5_jS_116, u6_jS_116, u7_jS_116⟩ := jS.ints p_jS_116
    obtain ⟨u0_jT_116, u1_jT_116, u2_jT_116, u3_jT_116, u4_jT_116, u5_jT_116⟩ := id p_jT_116
    unfold D_X8_waits_116
    exact ⟨_, rfl, k_116, kn_116, ⟨p_jB_116, p_jS_116, p_jR_116, p_jK_116, p_jT_116⟩⟩
  have TL_43 : ∀ u : Nat, ∀ (x2_43 : Int32) (x3_43 : Int32) (x4_43 : Int32) (x5_43 : Int32) (M_43 : zMt) (N_43 : zNt), (∀ a j, ¬ WM_X8_waits P a j → M_43 a j = M0 a j) → (∀ a j, ¬ WN_X8_waits P a j → N_43 a j = N0 a j) → (jB P M_43) → (jH P M_43) → (jK P M_43) → (jL P M_43) → (jO P M_43) → (jR P M_43) → (jS P M_43) → (jT P M_43) → (0 ≤ Int32.toInt x5_43) → (Int32.toInt x5_43 ≤ 10) → (2147483648 - Int32.toInt x5_43).toNat < u → ∃ r, D_X8_waits_43 P u x2_43 x3_43 x4_43 x5_43 M_43 N_43 = some r ∧ ((∀ a j, ¬ WM_X8_waits P a j → r.2.1 a j = M0 a j) ∧ (∀ a j, ¬ WN_X8_waits P a j → r.2.2 a j = N0 a j) ∧ ((jB P r.2.1) ∧ (jS P r.2.1) ∧ (jR P r.2.1) ∧ (jK P r.2.1) ∧ (jT P r.2.1))) := by
    intro u
    induction u with
    | zero => intro x2_43 x3_43 x4_43 x5_43 M_43 N_43 k_43 kn_43 p_jB_43 p_jH_43 p_jK_43 p_jL_43 p_jO_43 p_jR_43 p_jS_43 p_jT_43 f0_43 f1_43 hm_43; exact absurd hm_43 (Nat.not_lt_zero _)
    | succ u_43 ih_43 =>
      have T_91 : ∀ (x2_91 : Int32) (x3_91 : Int32) (x4_91 : Int32) (x5_91 : Int32) (M_91 : zMt) (N_91 : zNt), (∀ a j, ¬ WM_X8_waits P a j → M_91 a j = M0 a j) → (∀ a j, ¬ WN_X8_waits P a j → N_91 a j = N0 a j) → (jB P M_91) → (jH P M_91) → (jK P M_91) → (jL P M_91) → (jO P M_91) → (jR P M_91) → (jS P M_91) → (jT P M_91) → (0 ≤ Int32.toInt x5_91) → (Int32.toInt x5_91 < Int32.toInt (M_91 P 33)) → ((2147483648 - Int32.toInt x5_91).toNat < u_43 + 1) → (Int32.toInt x5_91 < 2147483647) → ∃ r, D_X8_waits_91 P (D_X8_waits_43 P u_43) x2_91 x3_91 x4_91 x5_91 M_91 N_91 = some r ∧ ((∀ a j, ¬ WM_X8_waits P a j → r.2.1 a j = M0 a j) ∧ (∀ a j, ¬ WN_X8_waits P a j → r.2.2 a j = N0 a j) ∧ ((jB P r.2.1) ∧ (jS P r.2.1) ∧ (jR P r.2.1) ∧ (jK P r.2.1) ∧ (jT P r.2.1))) := by
        intro x2_91 x3_91 x4_91 x5_91 M_91 N_91 k_91 kn_91 p_jB_91 p_jH_91 p_jK_91 p_jL_91 p_jO_91 p_jR_91 p_jS_91 p_jT_91 f0_91 f1_91 f2_91 f3_91
        obtain ⟨u0_jB_91, u1_jB_91, u2_jB_91, u3_jB_91, u4_jB_91, u5_jB_91⟩ := id p_jB_91
        obtain ⟨u0_jS_91, u1_jS_91, u2_jS_91, u3_jS_91, u4_jS_91, u5_jS_91, u6_jS_91, u7_jS_91⟩ := jS.ints p_jS_91
        obtain ⟨u0_jT_91, u1_jT_91, u2_jT_91, u3_jT_91, u4_jT_91, u5_jT_91⟩ := id p_jT_91
        unfold D_X8_waits_91
        exact ih_43 _ _ _ _ _ _ k_91 kn_91 p_jB_91 p_jH_91 p_jK_91 p_jL_91 p_jO_91 p_jR_91 p_jS_91 p_jT_91 (by first | omega | (simp only [Int32.toInt_add, Int32.toInt_sub, Int32.toInt_mul, Int32.toInt_toInt64, Int64.toInt_add, z_m1, Int32.reduceToInt, Int64.reduceToInt, Int32.reduceToNatClampNeg, Int.bmod_def, or_true, true_or, and_true, true_and] <;> omega)) (by first | omega | (simp only [Int32.toInt_add, Int32.toInt_sub, Int32.toInt_mul, Int32.toInt_toInt64, Int64.toInt_add, z_m1, Int32.reduceToInt, Int64.reduceToInt, Int32.reduceToNatClampNeg, Int.bmod_def, or_true, true_or, and_true, true_and] <;> omega)) (z_up1 f3_91 f2_91)
      intro x2_43 x3_43 x4_43 x5_43 M_43 N_43 k_43 kn_43 p_jB_43 p_jH_43 p_jK_43 p_jL_43 p_jO_43 p_jR_43 p_jS_43 p_jT_43 f0_43 f1_43 hm_43
      obtain ⟨u0_jB_43, u1_jB_43, u2_jB_43, u3_jB_43, u4_jB_43, u5_jB_43⟩ := id p_jB_43
      obtain ⟨u0_jS_43, u1_jS_43, u2_jS_43, u3_jS_43, u4_jS_43, u5_jS_43, u6_jS_43, u7_jS_43⟩ := jS.ints p_jS_43
      obtain ⟨u0_jT_43, u1_jT_43, u2_jT_43, u3_jT_43, u4_jT_43, u5_jT_43⟩ := id p_jT_43
      rw [D_X8_waits_43]
      refine vIf (fun h_49 => ?_) (fun h_49 => ?_)
      · have i_49 := Int32.le_iff_toInt_le.mp h_49
        (try simp only [Int32.toInt_add, Int32.toInt_sub, Int32.toInt_mul, Int32.toInt_toInt64, Int64.toInt_add, z_m1, Int32.reduceToInt, Int64.reduceToInt, Int32.reduceToNatClampNeg, Int.bmod_def] at i_49)
        refine vIf (fun h_99 => ?_) (fun h_99 => ?_)
        · have i_99 := congrArg Int32.toInt h_99
          (try simp only [Int32.toInt_add, Int32.toInt_sub, Int32.toInt_mul, Int32.toInt_toInt64, Int64.toInt_add, z_m1, Int32.reduceToInt, Int64.reduceToInt, Int32.reduceToNatClampNeg, Int.bmod_def] at i_99)
          refine vB (v_X8_gives) (fun e_105 f_105 q_105 => ?_)
          have k_105 : ∀ a j, ¬ WM_X8_waits P a j → e_105.2 a j = M0 a j := fun a j h => (q_105 a j (wz_M_X8_gives_X8_waits h)).trans (k_43 a j h)
          have c7_105 : Int32.toInt (e_105.2 P 7) = Int32.toInt (M_43 P 7) := congrArg Int32.toInt (q_105 P 7 (wc_X8_gives_7))
          have c8_105 : Int32.toInt (e_105.2 P 8) = Int32.toInt (M_43 P 8) := congrArg Int32.toInt (q_105 P 8 (wc_X8_gives_8))
          have c33_105 : Int32.toInt (e_105.2 P 33) = Int32.toInt (M_43 P 33) := congrArg Int32.toInt (q_105 P 33 (wc_X8_gives_33))
          have n_105 : nA P e_105.2 = nA P M_43 := nA_congr (fun a j h => q_105 a j (wf_nA_X8_gives h))
          have p_jB_105 : jB P e_105.2 := jB.mono p_jB_43 (fun a j h => q_105 a j (wf_jB_X8_gives h))
          obtain ⟨u0_jB_105, u1_jB_105, u2_jB_105, u3_jB_105, u4_jB_105, u5_jB_105⟩ := id p_jB_105
          have p_jH_105 : jH P e_105.2 := jH.mono p_jH_43 (fun a j h => q_105 a j (wf_jH_X8_gives h))
          have p_jK_105 : jK P e_105.2 := jK.mono p_jK_43 (fun a j h => q_105 a j (wf_jK_X8_gives h))
          have p_jL_105 : jL P e_105.2 := jL.mono p_jL_43 (fun a j h => q_105 a j (wf_jL_X8_gives h))
          have p_jO_105 : jO P e_105.2 := jO.mono p_jO_43 (fun a j h => q_105 a j (wf_jO_X8_gives h))
          have p_jR_105 : jR P e_105.2 := jR.mono p_jR_43 (fun a j h => q_105 a j (wf_jR_X8_gives h))
          have p_jS_105 : jS P e_105.2 := jS.mono p_jS_43 (fun a j h => q_105 a j (wf_jS_X8_gives h))
          obtain ⟨u0_jS_105, u1_jS_105, u2_jS_105, u3_jS_105, u4_jS_105, u5_jS_105, u6_jS_105, u7_jS_105⟩ := jS.ints p_jS_105
          have p_jT_105 : jT P e_105.2 := jT.mono p_jT_43 (fun a j h => q_105 a j (wf_jT_X8_gives h))
          obtain ⟨u0_jT_105, u1_jT_105, u2_jT_105, u3_jT_105, u4_jT_105, u5_jT_105⟩ := id p_jT_105
          exact T_116 _ _ _ k_105 kn_43 p_jB_105 p_jH_105 p_jK_105 p_jL_105 p_jO_105 p_jR_105 p_jS_105 p_jT_105
        · have i_99 : ¬ Int32.toInt x3_43 = Int32.toInt (-1 : Int32) := fun q => h_99 (Int32.toInt_inj.mp q)
          (try simp only [Int32.toInt_add, Int32.toInt_sub, Int32.toInt_mul, Int32.toInt_toInt64, Int64.toInt_add, z_m1, Int32.reduceToInt, Int64.reduceToInt, Int32.reduceToNatClampNeg, Int.bmod_def] at i_99)
          refine vB (v_X8_refuse) (fun e_113 f_113 q_113 => ?_)
          have k_113 : ∀ a j, ¬ WM_X8_waits P a j → e_113.2 a j = M0 a j := fun a j h => (q_113 a j (wz_M_X8_refuse_X8_waits h)).trans (k_43 a j h)
          have c7_113 : Int32.toInt (e_113.2 P 7) = Int32.toInt (M_43 P 7) := congrArg Int32.toInt (q_113 P 7 (wc_X8_refuse_7))
          have c8_113 : Int32.toInt (e_113.2 P 8) = Int32.toInt (M_43 P 8) := congrArg Int32.toInt (q_113 P 8 (wc_X8_refuse_8))
          have c33_113 : Int32.toInt (e_113.2 P 33) = Int32.toInt (M_43 P 33) := congrArg Int32.toInt (q_113 P 33 (wc_X8_refuse_33))
          have n_113 : nA P e_113.2 = nA P M_43 := nA_congr (fun a j h => q_113 a j (wf_nA_X8_refuse h))
          have p_jB_113 : jB P e_113.2 := jB.mono p_jB_43 (fun a j h => q_113 a j (wf_jB_X8_refuse h))
          obtain ⟨u0_jB_113, u1_jB_113, u2_jB_113, u3_jB_113, u4_jB_113, u5_jB_113⟩ := id p_jB_113
          have p_jH_113 : jH P e_113.2 := jH.mono p_jH_43 (fun a j h => q_113 a j (wf_jH_X8_refuse h))
          have p_jK_113 : jK P e_113.2 := jK.mono p_jK_43 (fun a j h => q_113 a j (wf_jK_X8_refuse h))
          have p_jL_113 : jL P e_113.2 := jL.mono p_jL_43 (fun a j h => q_113 a j (wf_jL_X8_refuse h))
          have p_jO_113 : jO P e_113.2 := jO.mono p_jO_43 (fun a j h => q_113 a j (wf_jO_X8_refuse h))
          have p_jR_113 : jR P e_113.2 := jR.mono p_jR_43 (fun a j h => q_113 a j (wf_jR_X8_refuse h))
          have p_jS_113 : jS P e_113.2 := jS.mono p_jS_43 (fun a j h => q_113 a j (wf_jS_X8_refuse h))
          obtain ⟨u0_jS_113, u1_jS_113, u2_jS_113, u3_jS_113, u4_jS_113, u5_jS_113, u6_jS_113, u7_jS_113⟩ := jS.ints p_jS_113
          have p_jT_113 : jT P e_113.2 := jT.mono p_jT_43 (fun a j h => q_113 a j (wf_jT_X8_refuse h))
          obtain ⟨u0_jT_113, u1_jT_113, u2_jT_113, u3_jT_113, u4_jT_113, u5_jT_113⟩ := id p_jT_113
          exact T_116 _ _ _ k_113 kn_43 p_jB_113 p_jH_113 p_jK_113 p_jL_113 p_jO_113 p_jR_113 p_jS_113 p_jT_113
      · have i_49 := Int32.lt_iff_toInt_lt.mp (Int32.not_le.mp h_49)
        (try simp only [Int32.toInt_add, Int32.toInt_sub, Int32.toInt_mul, Int32.toInt_toInt64, Int64.toInt_add, z_m1, Int32.reduceToInt, Int64.reduceToInt, Int32.reduceToNatClampNeg, Int.bmod_def] at i_49)
        refine vI (vp_of (by first | omega | (simp only [Int32.toInt_add, Int32.toInt_sub, Int32.toInt_mul, Int32.toInt_toInt64, Int64.toInt_add, z_m1, Int32.reduceToInt, Int64.reduceToInt, Int32.reduceToNatClampNeg, Int.bmod_def, or_true, true_or, and_true, true_and] <;> omega)) (by first | omega | (simp only [Int32.toInt_add, Int32.toInt_sub, Int32.toInt_mul, Int32.toInt_toInt64, Int64.toInt_add, z_m1, Int32.reduceToInt, Int64.reduceToInt, Int32.reduceToNatClampNeg, Int.bmod_def, or_true, true_or, and_true, true_and] <;> omega))) ?_
        obtain ⟨w0_59, w1_59⟩ := jO.el p_jO_43 (x := x5_43) (by first | omega | (simp only [Int32.toInt_add, Int32.toInt_sub, Int32.toInt_mul, Int32.toInt_toInt64, Int64.toInt_add, z_m1, Int32.reduceToInt, Int64.reduceToInt, Int32.reduceToNatClampNeg, Int.bmod_def, or_true, true_or, and_true, true_and] <;> omega)) (by first | omega | (simp only [Int32.toInt_add, Int32.toInt_sub, Int32.toInt_mul, Int32.toInt_toInt64, Int64.toInt_add, z_m1, Int32.reduceToInt, Int64.reduceToInt, Int32.reduceToNatClampNeg, Int.bmod_def, or_true, true_or, and_true, true_and] <;> omega))
        refine vB (v_X8_isWaiting p_jB_43 p_jS_43 p_jL_43 (by first | omega | (simp only [Int32.toInt_add, Int32.toInt_sub, Int32.toInt_mul, Int32.toInt_toInt64, Int64.toInt_add, z_m1, Int32.reduceToInt, Int64.reduceToInt, Int32.reduceToNatClampNeg, Int.bmod_def, or_true, true_or, and_true, true_and] <;> omega)) (by first | omega | (simp only [Int32.toInt_add, Int32.toInt_sub, Int32.toInt_mul, Int32.toInt_toInt64, Int64.toInt_add, z_m1, Int32.reduceToInt, Int64.reduceToInt, Int32.reduceToNatClampNeg, Int.bmod_def, or_true, true_or, and_true, true_and] <;> omega))) (fun e_61 f_61 q_61 => ?_)
        have b_61 := q_61
        refine vIf (fun h_64 => ?_) (fun h_64 => ?_)
        · have i_64 := congrArg Int32.toInt h_64
          (try simp only [Int32.toInt_add, Int32.toInt_sub, Int32.toInt_mul, Int32.toInt_toInt64, Int64.toInt_add, z_m1, Int32.reduceToInt, Int64.reduceToInt, Int32.reduceToNatClampNeg, Int.bmod_def] at i_64)
          exact T_91 _ _ _ _ _ _ k_43 kn_43 p_jB_43 p_jH_43 p_jK_43 p_jL_43 p_jO_43 p_jR_43 p_jS_43 p_jT_43 (by first | omega | (simp only [Int32.toInt_add, Int32.toInt_sub, Int32.toInt_mul, Int32.toInt_toInt64, Int64.toInt_add, z_m1, Int32.reduceToInt, Int64.reduceToInt, Int32.reduceToNatClampNeg, Int.bmod_def, or_true, true_or, and_true, true_and] <;> omega)) (by first | omega | (simp only [Int32.toInt_add, Int32.toInt_sub, Int32.toInt_mul, Int32.toInt_toInt64, Int64.toInt_add, z_m1, Int32.reduceToInt, Int64.reduceToInt, Int32.reduceToNatClampNeg, Int.bmod_def, or_true, true_or, and_true, true_and] <;> omega)) hm_43 (by first | assumption | exact z_lt (by assumption) | exact z_lt2 (by assumption) | exact z_lt3 (by assumption) (by first | assumption | decide))
        · have i_64 : ¬ Int32.toInt e_61 = Int32.toInt (0 : Int32) := fun q => h_64 (Int32.toInt_inj.mp q)
          (try simp only [Int32.toInt_add, Int32.toInt_sub, Int32.toInt_mul, Int32.toInt_toInt64, Int64.toInt_add, z_m1, Int32.reduceToInt, Int64.reduceToInt, Int32.reduceToNatClampNeg, Int.bmod_def] at i_64)
          refine vIf (fun h_73 => ?_) (fun h_73 => ?_)
          · have i_73 := congrArg Int32.toInt h_73
            (try simp only [Int32.toInt_add, Int32.toInt_sub, Int32.toInt_mul, Int32.toInt_toInt64, Int64.toInt_add, z_m1, Int32.reduceToInt, Int64.reduceToInt, Int32.reduceToNatClampNeg, Int.bmod_def] at i_73)
            refine vI (vp_of (by first | omega | (simp only [Int32.toInt_add, Int32.toInt_sub, Int32.toInt_mul, Int32.toInt_toInt64, Int64.toInt_add, z_m1, Int32.reduceToInt, Int64.reduceToInt, Int32.reduceToNatClampNeg, Int.bmod_def, or_true, true_or, and_true, true_and] <;> omega)) (by first | omega | (simp only [Int32.toInt_add, Int32.toInt_sub, Int32.toInt_mul, Int32.toInt_toInt64, Int64.toInt_add, z_m1, Int32.reduceToInt, Int64.reduceToInt, Int32.reduceToNatClampNeg, Int.bmod_def, or_true, true_or, and_true, true_and] <;> omega))) ?_
            obtain ⟨w0_83, w1_83⟩ := jO.el p_jO_43 (x := x5_43) (by first | omega | (simp only [Int32.toInt_add, Int32.toInt_sub, Int32.toInt_mul, Int32.toInt_toInt64, Int64.toInt_add, z_m1, Int32.reduceToInt, Int64.reduceToInt, Int32.reduceToNatClampNeg, Int.bmod_def, or_true, true_or, and_true, true_and] <;> omega)) (by first | omega | (simp only [Int32.toInt_add, Int32.toInt_sub, Int32.toInt_mul, Int32.toInt_toInt64, Int64.toInt_add, z_m1, Int32.reduceToInt, Int64.reduceToInt, Int32.reduceToNatClampNeg, Int.bmod_def, or_true, true_or, and_true, true_and] <;> omega))
            refine vB (v_X8_gives) (fun e_84 f_84 q_84 => ?_)
            have k_84 : ∀ a j, ¬ WM_X8_waits P a j → e_84.2 a j = M0 a j := fun a j h => (q_84 a j (wz_M_X8_gives_X8_waits h)).trans (k_43 a j h)
            have c7_84 : Int32.toInt (e_84.2 P 7) = Int32.toInt (M_43 P 7) := congrArg Int32.toInt (q_84 P 7 (wc_X8_gives_7))
            have c8_84 : Int32.toInt (e_84.2 P 8) = Int32.toInt (M_43 P 8) := congrArg Int32.toInt (q_84 P 8 (wc_X8_gives_8))
            have c33_84 : Int32.toInt (e_84.2 P 33) = Int32.toInt (M_43 P 33) := congrArg Int32.toInt (q_84 P 33 (wc_X8_gives_33))
            have n_84 : nA P e_84.2 = nA P M_43 := nA_congr (fun a j h => q_84 a j (wf_nA_X8_gives h))
            have p_jB_84 : jB P e_84.2 := jB.mono p_jB_43 (fun a j h => q_84 a j (wf_jB_X8_gives h))
            obtain ⟨u0_jB_84, u1_jB_84, u2_jB_84, u3_jB_84, u4_jB_84, u5_jB_84⟩ := id p_jB_84
            have p_jH_84 : jH P e_84.2 := jH.mono p_jH_43 (fun a j h => q_84 a j (wf_jH_X8_gives h))
            have p_jK_84 : jK P e_84.2 := jK.mono p_jK_43 (fun a j h => q_84 a j (wf_jK_X8_gives h))
            have p_jL_84 : jL P e_84.2 := jL.mono p_jL_43 (fun a j h => q_84 a j (wf_jL_X8_gives h))
            have p_jO_84 : jO P e_84.2 := jO.mono p_jO_43 (fun a j h => q_84 a j (wf_jO_X8_gives h))
            have p_jR_84 : jR P e_84.2 := jR.mono p_jR_43 (fun a j h => q_84 a j (wf_jR_X8_gives h))
            have p_jS_84 : jS P e_84.2 := jS.mono p_jS_43 (fun a j h => q_84 a j (wf_jS_X8_gives h))
            obtain ⟨u0_jS_84, u1_jS_84, u2_jS_84, u3_jS_84, u4_jS_84, u5_jS_84, u6_jS_84, u7_jS_84⟩ := jS.ints p_jS_84
            have p_jT_84 : jT P e_84.2 := jT.mono p_jT_43 (fun a j h => q_84 a j (wf_jT_X8_gives h))
            obtain ⟨u0_jT_84, u1_jT_84, u2_jT_84, u3_jT_84, u4_jT_84, u5_jT_84⟩ := id p_jT_84
            exact ⟨_, rfl, k_84, kn_43, ⟨p_jB_84, p_jS_84, p_jR_84, p_jK_84, p_jT_84⟩⟩
          · have i_73 : ¬ Int32.toInt x4_43 = Int32.toInt x3_43 := fun q => h_73 (Int32.toInt_inj.mp q)
            (try simp only [Int32.toInt_add, Int32.toInt_sub, Int32.toInt_mul, Int32.toInt_toInt64, Int64.toInt_add, z_m1, Int32.reduceToInt, Int64.reduceToInt, Int32.reduceToNatClampNeg, Int.bmod_def] at i_73)
            exact T_91 _ _ _ _ _ _ k_43 kn_43 p_jB_43 p_jH_43 p_jK_43 p_jL_43 p_jO_43 p_jR_43 p_jS_43 p_jT_43 (by first | omega | (simp only [Int32.toInt_add, Int32.toInt_sub, Int32.toInt_mul, Int32.toInt_toInt64, Int64.toInt_add, z_m1, Int32.reduceToInt, Int64.reduceToInt, Int32.reduceToNatClampNeg, Int.bmod_def, or_true, true_or, and_true, true_and] <;> omega)) (by first | omega | (simp only [Int32.toInt_add, Int32.toInt_sub, Int32.toInt_mul, Int32.toInt_toInt64, Int64.toInt_add, z_m1, Int32.reduceToInt, Int64.reduceToInt, Int32.reduceToNatClampNeg, Int.bmod_def, or_true, true_or, and_true, true_and] <;> omega)) hm_43 (by first | assumption | exact z_lt (by assumption) | exact z_lt2 (by assumption) | exact z_lt3 (by assumption) (by first | assumption | decide))
  have T_43 : ∀ (x2_43 : Int32) (x3_43 : Int32) (x4_43 : Int32) (x5_43 : Int32) (M_43 : zMt) (N_43 : zNt), (∀ a j, ¬ WM_X8_waits P a j → M_43 a j = M0 a j) → (∀ a j, ¬ WN_X8_waits P a j → N_43 a j = N0 a j) → (jB P M_43) → (jH P M_43) → (jK P M_43) → (jL P M_43) → (jO P M_43) → (jR P M_43) → (jS P M_43) → (jT P M_43) → (0 ≤ Int32.toInt x5_43) → (Int32.toInt x5_43 ≤ 10) → ∃ r, D_X8_waits_43 P zFu x2_43 x3_43 x4_43 x5_43 M_43 N_43 = some r ∧ ((∀ a j, ¬ WM_X8_waits P a j → r.2.1 a j = M0 a j) ∧ (∀ a j, ¬ WN_X8_waits P a j → r.2.2 a j = N0 a j) ∧ ((jB P r.2.1) ∧ (jS P r.2.1) ∧ (jR P r.2.1) ∧ (jK P r.2.1) ∧ (jT P r.2.1))) := fun x2_43 x3_43 x4_43 x5_43 M_43 N_43 k_43 kn_43 p_jB_43 p_jH_43 p_jK_43 p_jL_43 p_jO_43 p_jR_43 p_jS_43 p_jT_43 f0_43 f1_43 => TL_43 zFu x2_43 x3_43 x4_43 x5_43 M_43 N_43 k_43 kn_43 p_jB_43 p_jH_43 p_jK_43 p_jL_43 p_jO_43 p_jR_43 p_jS_43 p_jT_43 f0_43 f1_43 (zFu_up _)
  have T_12 : ∀ (M_12 : zMt) (N_12 : zNt), (∀ a j, ¬ WM_X8_waits P a j → M_12 a j = M0 a j) → (∀ a j, ¬ WN_X8_waits P a j → N_12 a j = N0 a j) → (jB P M_12) → (jK P M_12) → (jR P M_12) → (jS P M_12) → (jT P M_12) → ∃ r, D_X8_waits_12 P M_12 N_12 = some r ∧ ((∀ a j, ¬ WM_X8_waits P a j → r.2.1 a j = M0 a j) ∧ (∀ a j, ¬ WN_X8_waits P a j → r.2.2 a j = N0 a j) ∧ ((jB P r.2.1) ∧ (jS P r.2.1) ∧ (jR P r.2.1) ∧ (jK P r.2.1) ∧ (jT P r.2.1))) := by
    intro M_12 N_12 k_12 kn_12 p_jB_12 p_jK_12 p_jR_12 p_jS_12 p_jT_12
    obtain ⟨u0_jB_12, u1_jB_12, u2_jB_12, u3_jB_12, u4_jB_12, u5_jB_12⟩ := id p_jB_12
    obtain ⟨u0_jS_12, u1_jS_12, u2_jS_12, u3_jS_12, u4_jS_12, u5_jS_12, u6_jS_12, u7_jS_12⟩ := jS.ints p_jS_12
    obtain ⟨u0_jT_12, u1_jT_12, u2_jT_12, u3_jT_12, u4_jT_12, u5_jT_12⟩ := id p_jT_12
    unfold D_X8_waits_12
    refine vB (v_X8_refuse) (fun e_14 f_14 q_14 => ?_)
    have k_14 : ∀ a j, ¬ WM_X8_waits P a j → e_14.2 a j = M0 a j := fun a j h => (q_14 a j (wz_M_X8_refuse_X8_waits h)).trans (k_12 a j h)
    have c7_14 : Int32.toInt (e_14.2 P 7) = Int32.toInt (M_12 P 7) := congrArg Int32.toInt (q_14 P 7 (wc_X8_refuse_7))
    have c8_14 : Int32.toInt (e_14.2 P 8) = Int32.toInt (M_12 P 8) := congrArg Int32.toInt (q_14 P 8 (wc_X8_refuse_8))
    have c33_14 : Int32.toInt (e_14.2 P 33) = Int32.toInt (M_12 P 33) := congrArg Int32.toInt (q_14 P 33 (wc_X8_refuse_33))
    have n_14 : nA P e_14.2 = nA P M_12 := nA_congr (fun a j h => q_14 a j (wf_nA_X8_refuse h))
    have p_jB_14 : jB P e_14.2 := jB.mono p_jB_12 (fun a j h => q_14 a j (wf_jB_X8_refuse h))
    obtain ⟨u0_jB_14, u1_jB_14, u2_jB_14, u3_jB_14, u4_jB_14, u5_jB_14⟩ := id p_jB_14
    have p_jK_14 : jK P e_14.2 := jK.mono p_jK_12 (fun a j h => q_14 a j (wf_jK_X8_refuse h))
    have p_jR_14 : jR P e_14.2 := jR.mono p_jR_12 (fun a j h => q_14 a j (wf_jR_X8_refuse h))
    have p_jS_14 : jS P e_14.2 := jS.mono p_jS_12 (fun a j h => q_14 a j (wf_jS_X8_refuse h))
    obtain ⟨u0_jS_14, u1_jS_14, u2_jS_14, u3_jS_14, u4_jS_14, u5_jS_14, u6_jS_14, u7_jS_14⟩ := jS.ints p_jS_14
    have p_jT_14 : jT P e_14.2 := jT.mono p_jT_12 (fun a j h => q_14 a j (wf_jT_X8_refuse h))
    obtain ⟨u0_jT_14, u1_jT_14, u2_jT_14, u3_jT_14, u4_jT_14, u5_jT_14⟩ := id p_jT_14
    exact ⟨_, rfl, k_14, kn_12, ⟨p_jB_14, p_jS_14, p_jR_14, p_jK_14, p_jT_14⟩⟩
  unfold D_X8_waits
  refine vB (v_X8_isSeed) (fun e_1 f_1 q_1 => ?_)
  have b_1 := q_1.1
  have x0_1 := q_1.2
  (try simp only [Int32.toInt_add, Int32.toInt_sub, Int32.toInt_mul, Int32.toInt_toInt64, Int64.toInt_add, z_m1, Int32.reduceToInt, Int64.reduceToInt, Int32.reduceToNatClampNeg, Int.bmod_def] at x0_1)
  refine vIf (fun h_4 => ?_) (fun h_4 => ?_)
  · have i_4 := congrArg Int32.toInt h_4
    (try simp only [Int32.toInt_add, Int32.toInt_sub, Int32.toInt_mul, Int32.toInt_toInt64, Int64.toInt_add, z_m1, Int32.reduceToInt, Int64.reduceToInt, Int32.reduceToNatClampNeg, Int.bmod_def] at i_4)
    exact T_12 _ _ (fun _ _ _ => rfl) (fun _ _ _ => rfl) p_jB p_jK p_jR p_jS p_jT
  · have i_4 : ¬ Int32.toInt e_1 = Int32.toInt (0 : Int32) := fun q => h_4 (Int32.toInt_inj.mp q)
    (try simp only [Int32.toInt_add, Int32.toInt_sub, Int32.toInt_mul, Int32.toInt_toInt64, Int64.toInt_add, z_m1, Int32.reduceToInt, Int64.reduceToInt, Int32.reduceToNatClampNeg, Int.bmod_def] at i_4)
    refine vIf (fun h_9 => ?_) (fun h_9 => ?_)
    · have i_9 := Int32.le_iff_toInt_le.mp h_9
      (try simp only [Int32.toInt_add, Int32.toInt_sub, Int32.toInt_mul, Int32.toInt_toInt64, Int64.toInt_add, z_m1, Int32.reduceToInt, Int64.reduceToInt, Int32.reduceToNatClampNeg, Int.bmod_def] at i_9)
      refine vB (v_X8_isUnit p_jB) (fun e_20 f_20 q_20 => ?_)
      have b_20 := q_20.1
      have x0_20 := q_20.2
      (try simp only [Int32.toInt_add, Int32.toInt_sub, Int32.toInt_mul, Int32.toInt_toInt64, Int64.toInt_add, z_m1, Int32.reduceToInt, Int64.reduceToInt, Int32.reduceToNatClampNeg, Int.bmod_def] at x0_20)
      refine vIf (fun h_23 => ?_) (fun h_23 => ?_)
      · have i_23 := congrArg Int32.toInt h_23
        (try simp only [Int32.toInt_add, Int32.toInt_sub, Int32.toInt_mul, Int32.toInt_toInt64, Int64.toInt_add, z_m1, Int32.reduceToInt, Int64.reduceToInt, Int32.reduceToNatClampNeg, Int.bmod_def] at i_23)
        refine vB (v_X8_refuse) (fun e_28 f_28 q_28 => ?_)
        have k_28 : ∀ a j, ¬ WM_X8_waits P a j → e_28.2 a j = M0 a j := fun a j h => (q_28 a j (wz_M_X8_refuse_X8_waits h))
        have c7_28 : Int32.toInt (e_28.2 P 7) = Int32.toInt (M0 P 7) := congrArg Int32.toInt (q_28 P 7 (wc_X8_refuse_7))
        have c8_28 : Int32.toInt (e_28.2 P 8) = Int32.toInt (M0 P 8) := congrArg Int32.toInt (q_28 P 8 (wc_X8_refuse_8))
        have c33_28 : Int32.toInt (e_28.2 P 33) = Int32.toInt (M0 P 33) := congrArg Int32.toInt (q_28 P 33 (wc_X8_refuse_33))
        have n_28 : nA P e_28.2 = nA P M0 := nA_congr (fun a j h => q_28 a j (wf_nA_X8_refuse h))
        have p_jB_28 : jB P e_28.2 := jB.mono p_jB (fun a j h => q_28 a j (wf_jB_X8_refuse h))
        obtain ⟨u0_jB_28, u1_jB_28, u2_jB_28, u3_jB_28, u4_jB_28, u5_jB_28⟩ := id p_jB_28
        have p_jS_28 : jS P e_28.2 := jS.mono p_jS (fun a j h => q_28 a j (wf_jS_X8_refuse h))
        obtain ⟨u0_jS_28, u1_jS_28, u2_jS_28, u3_jS_28, u4_jS_28, u5_jS_28, u6_jS_28, u7_jS_28⟩ := jS.ints p_jS_28
        have p_jR_28 : jR P e_28.2 := jR.mono p_jR (fun a j h => q_28 a j (wf_jR_X8_refuse h))
        have p_jK_28 : jK P e_28.2 := jK.mono p_jK (fun a j h => q_28 a j (wf_jK_X8_refuse h))
        have p_jT_28 : jT P e_28.2 := jT.mono p_jT (fun a j h => q_28 a j (wf_jT_X8_refuse h))
        obtain ⟨u0_jT_28, u1_jT_28, u2_jT_28, u3_jT_28, u4_jT_28, u5_jT_28⟩ := id p_jT_28
        exact ⟨_, rfl, k_28, (fun _ _ _ => rfl), ⟨p_jB_28, p_jS_28, p_jR_28, p_jK_28, p_jT_28⟩⟩
      · have i_23 : ¬ Int32.toInt e_20 = Int32.toInt (0 : Int32) := fun q => h_23 (Int32.toInt_inj.mp q)
        (try simp only [Int32.toInt_add, Int32.toInt_sub, Int32.toInt_mul, Int32.toInt_toInt64, Int64.toInt_add, z_m1, Int32.reduceToInt, Int64.reduceToInt, Int32.reduceToNatClampNeg, Int.bmod_def] at i_23)
        refine vB (v_X8_laysResult p_jB p_jS p_jR (by first | omega | (simp only [Int32.toInt_add, Int32.toInt_sub, Int32.toInt_mul, Int32.toInt_toInt64, Int64.toInt_add, z_m1, Int32.reduceToInt, Int64.reduceToInt, Int32.reduceToNatClampNeg, Int.bmod_def, or_true, true_or, and_true, true_and] <;> omega))) (fun e_34 f_34 q_34 => ?_)
        have k_34 : ∀ a j, ¬ WM_X8_waits P a j → e_34.1 a j = M0 a j := fun a j h => (q_34.1 a j (wz_M_X8_laysResult_X8_waits h))
        have kn_34 : ∀ a j, ¬ WN_X8_waits P a j → e_34.2 a j = N0 a j := fun a j h => (q_34.2.1 a j (wz_N_X8_laysResult_X8_waits h))
        have c7_34 : Int32.toInt (e_34.1 P 7) = Int32.toInt (M0 P 7) := congrArg Int32.toInt (q_34.1 P 7 (wc_X8_laysResult_7))
        have c8_34 : Int32.toInt (e_34.1 P 8) = Int32.toInt (M0 P 8) := congrArg Int32.toInt (q_34.1 P 8 (wc_X8_laysResult_8))
        have n_34 : nA P e_34.1 = nA P M0 := nA_congr (fun a j h => q_34.1 a j (wf_nA_X8_laysResult h))
        have p_jS_34 : jS P e_34.1 := jS.mono p_jS (fun a j h => q_34.1 a j (wf_jS_X8_laysResult h))
        obtain ⟨u0_jS_34, u1_jS_34, u2_jS_34, u3_jS_34, u4_jS_34, u5_jS_34, u6_jS_34, u7_jS_34⟩ := jS.ints p_jS_34
        have p_jK_34 : jK P e_34.1 := jK.mono p_jK (fun a j h => q_34.1 a j (wf_jK_X8_laysResult h))
        have p_jT_34 : jT P e_34.1 := jT.mono p_jT (fun a j h => q_34.1 a j (wf_jT_X8_laysResult h))
        obtain ⟨u0_jT_34, u1_jT_34, u2_jT_34, u3_jT_34, u4_jT_34, u5_jT_34⟩ := id p_jT_34
        obtain ⟨x0_34, x1_34, x2_34, x3_34, x4_34, x5_34⟩ := q_34.2.2
        obtain ⟨u0_jB_34, u1_jB_34, u2_jB_34, u3_jB_34, u4_jB_34, u5_jB_34⟩ := id x0_34
        (try simp only [Int32.toInt_add, Int32.toInt_sub, Int32.toInt_mul, Int32.toInt_toInt64, Int64.toInt_add, z_m1, Int32.reduceToInt, Int64.reduceToInt, Int32.reduceToNatClampNeg, Int.bmod_def] at x5_34)
        exact T_43 _ _ _ _ _ _ k_34 kn_34 x0_34 x2_34 p_jK_34 x1_34 x3_34 x4_34 p_jS_34 p_jT_34 (by first | omega | (simp only [Int32.toInt_add, Int32.toInt_sub, Int32.toInt_mul, Int32.toInt_toInt64, Int64.toInt_add, z_m1, Int32.reduceToInt, Int64.reduceToInt, Int32.reduceToNatClampNeg, Int.bmod_def, or_true, true_or, and_true, true_and] <;> omega)) (by first | omega | (simp only [Int32.toInt_add, Int32.toInt_sub, Int32.toInt_mul, Int32.toInt_toInt64, Int64.toInt_add, z_m1, Int32.reduceToInt, Int64.reduceToInt, Int32.reduceToNatClampNeg, Int.bmod_def, or_true, true_or, and_true, true_and] <;> omega))
    · have i_9 := Int32.lt_iff_toInt_lt.mp (Int32.not_le.mp h_9)
      (try simp only [Int32.toInt_add, Int32.toInt_sub, Int32.toInt_mul, Int32.toInt_toInt64, Int64.toInt_add, z_m1, Int32.reduceToInt, Int64.reduceToInt, Int32.reduceToNatClampNeg, Int.bmod_def] at i_9)
      exact T_12 _ _ (fun _ _ _ => rfl) (fun _ _ _ => rfl) p_jB p_jK p_jR p_jS p_jT
def WM_X8_next_ (P : Nat) (a j : Nat) : Prop := (P + 11 ≤ a ∧ a < P + 23) ∨ (a = P ∧ (j = 6 ∨ j = 12 ∨ j = 33))
def WN_X8_next_ (P : Nat) (a j : Nat) : Prop := (a = P ∧ (j = 46))
theorem wz_M_X8_refuse_X8_next_ {P a j : Nat} (h : ¬ WM_X8_next_ P a j) : ¬ WM_X8_refuse P a j := by unfold WM_X8_refuse; unfold WM_X8_next_ at h; omega
theorem wz_M_X8_gives_X8_next_ {P a j : Nat} (h : ¬ WM_X8_next_ P a j) : ¬ WM_X8_gives P a j := by unfold WM_X8_gives; unfold WM_X8_next_ at h; omega
theorem wz_M_X8_laysResult_X8_next_ {P a j : Nat} (h : ¬ WM_X8_next_ P a j) : ¬ WM_X8_laysResult P a j := by unfold WM_X8_laysResult; unfold WM_X8_next_ at h; omega
theorem wz_N_X8_laysResult_X8_next_ {P a j : Nat} (h : ¬ WN_X8_next_ P a j) : ¬ WN_X8_laysResult P a j := by unfold WN_X8_laysResult; unfold WN_X8_next_ at h; omega
theorem wq_X8_next__M22_r {P a j : Nat} (h : ¬ WM_X8_next_ P a j) : ¬ a = P + 22 := by unfold WM_X8_next_ at h; omega
theorem wf_jK_M22_r {P a j : Nat} (h : ((a = P ∧ (j = 7 ∨ j = 8 ∨ j = 9)) ∨ a = P + 4)) : ¬ a = P + 22 := by omega
theorem wf_jT_M22_r {P a j : Nat} (h : (a = P ∧ (j = 9 ∨ j = 11 ∨ j = 64))) : ¬ a = P + 22 := by omega
theorem wf_jH_M22_r {P a j : Nat} (h : ((a = P ∧ (j = 8 ∨ j = 33)) ∨ a = P + 11)) : ¬ a = P + 22 := by omega
set_option maxRecDepth 100000 in
set_option maxHeartbeats 4000000 in
theorem v_X8_next_ {P : Nat} {v0 : Int32} {v1 : Int32} {v2 : Int32} {M0 : zMt} {N0 : zNt}  (p_jB : jB P M0) (p_jS : jS P M0) (p_jR : jR P M0) (p_jK : jK P M0) (p_jT : jT P M0) : ∃ r, D_X8_next_ P v0 v1 v2 M0 N0 = some r ∧ ((∀ a j, ¬ WM_X8_next_ P a j → r.2.1 a j = M0 a j) ∧ (∀ a j, ¬ WN_X8_next_ P a j → r.2.2 a j = N0 a j) ∧ ((jB P r.2.1) ∧ (jS P r.2.1) ∧ (jR P r.2.1) ∧ (jK P r.2.1) ∧ (jT P r.2.1))) := by
  obtain ⟨u0_jB, u1_jB, u2_jB, u3_jB, u4_jB, u5_jB⟩ := id p_jB
  obtain ⟨u0_jS, u1_jS, u2_jS, u3_jS, u4_jS, u5_jS, u6_jS, u7_jS⟩ := jS.ints p_jS
  obtain ⟨u0_jT, u1_jT, u2_jT, u3_jT, u4_jT, u5_jT⟩ := id p_jT
  have TL_57 : ∀ u : Nat, ∀ (x2_57 : Int32) (x3_57 : Int32) (x4_57 : Int32) (M_57 : zMt) (N_57 : zNt), (∀ a j, ¬ WM_X8_next_ P a j → M_57 a j = M0 a j) → (∀ a j, ¬ WN_X8_next_ P a j → N_57 a j = N0 a j) → (jB P M_57) → (jH P M_57) → (jK P M_57) → (jL P M_57) → (jO P M_57) → (jR P M_57) → (jS P M_57) → (jT P M_57) → (0 ≤ Int32.toInt x4_57) → (Int32.toInt x4_57 ≤ 10) → (0 ≤ Int32.toInt x2_57 ∧ Int32.toInt x2_57 < 5) → (2147483648 - Int32.toInt x4_57).toNat < u → ∃ r, D_X8_next__57 P u x2_57 x3_57 x4_57 M_57 N_57 = some r ∧ ((∀ a j, ¬ WM_X8_next_ P a j → r.2.1 a j = M0 a j) ∧ (∀ a j, ¬ WN_X8_next_ P a j → r.2.2 a j = N0 a j) ∧ ((jB P r.2.1) ∧ (jS P r.2.1) ∧ (jR P r.2.1) ∧ (jK P r.2.1) ∧ (jT P r.2.1))) := by
    intro u
    induction u with
    | zero => intro x2_57 x3_57 x4_57 M_57 N_57 k_57 kn_57 p_jB_57 p_jH_57 p_jK_57 p_jL_57 p_jO_57 p_jR_57 p_jS_57 p_jT_57 f0_57 f1_57 f2_57 hm_57; exact absurd hm_57 (Nat.not_lt_zero _)
    | succ u_57 ih_57 =>
      have T_116 : ∀ (x2_116 : Int32) (x3_116 : Int32) (x4_116 : Int32) (M_116 : zMt) (N_116 : zNt), (∀ a j, ¬ WM_X8_next_ P a j → M_116 a j = M0 a j) → (∀ a j, ¬ WN_X8_next_ P a j → N_116 a j = N0 a j) → (jB P M_116) → (jH P M_116) → (jK P M_116) → (jL P M_116) → (jO P M_116) → (jR P M_116) → (jS P M_116) → (jT P M_116) → (0 ≤ Int32.toInt x4_116) → (Int32.toInt x4_116 < Int32.toInt (M_116 P 33)) → ((2147483648 - Int32.toInt x4_116).toNat < u_57 + 1) → (Int32.toInt x4_116 < 2147483647) → (0 ≤ Int32.toInt x2_116 ∧ Int32.toInt x2_116 < 5) → ∃ r, D_X8_next__116 P (D_X8_next__57 P u_57) x2_116 x3_116 x4_116 M_116 N_116 = some r ∧ ((∀ a j, ¬ WM_X8_next_ P a j → r.2.1 a j = M0 a j) ∧ (∀ a j, ¬ WN_X8_next_ P a j → r.2.2 a j = N0 a j) ∧ ((jB P r.2.1) ∧ (jS P r.2.1) ∧ (jR P r.2.1) ∧ (jK P r.2.1) ∧ (jT P r.2.1))) := by
        intro x2_116 x3_116 x4_116 M_116 N_116 k_116 kn_116 p_jB_116 p_jH_116 p_jK_116 p_jL_116 p_jO_116 p_jR_116 p_jS_116 p_jT_116 f0_116 f1_116 f2_116 f3_116 f4_116
        obtain ⟨u0_jB_116, u1_jB_116, u2_jB_116, u3_jB_116, u4_jB_116, u5_jB_116⟩ := id p_jB_116
        obtain ⟨u0_jS_116, u1_jS_116, u2_jS_116, u3_jS_116, u4_jS_116, u5_jS_116, u6_jS_116, u7_jS_116⟩ := jS.ints p_jS_116
        obtain ⟨u0_jT_116, u1_jT_116, u2_jT_116, u3_jT_116, u4_jT_116, u5_jT_116⟩ := id p_jT_116
        unfold D_X8_next__116
        exact ih_57 _ _ _ _ _ k_116 kn_116 p_jB_116 p_jH_116 p_jK_116 p_jL_116 p_jO_116 p_jR_116 p_jS_116 p_jT_116 (by first | omega | (simp only [Int32.toInt_add, Int32.toInt_sub, Int32.toInt_mul, Int32.toInt_toInt64, Int64.toInt_add, z_m1, Int32.reduceToInt, Int64.reduceToInt, Int32.reduceToNatClampNeg, Int.bmod_def, or_true, true_or, and_true, true_and] <;> omega)) (by first | omega | (simp only [Int32.toInt_add, Int32.toInt_sub, Int32.toInt_mul, Int32.toInt_toInt64, Int64.toInt_add, z_m1, Int32.reduceToInt, Int64.reduceToInt, Int32.reduceToNatClampNeg, Int.bmod_def, or_true, true_or, and_true, true_and] <;> omega)) (by first | omega | (simp only [Int32.toInt_add, Int32.toInt_sub, Int32.toInt_mul, Int32.toInt_toInt64, Int64.toInt_add, z_m1, Int32.reduceToInt, Int64.reduceToInt, Int32.reduceToNatClampNeg, Int.bmod_def, or_true, true_or, and_true, true_and] <;> omega)) (z_up1 f3_116 f2_116)
      intro x2_57 x3_57 x4_57 M_57 N_57 k_57 kn_57 p_jB_57 p_jH_57 p_jK_57 p_jL_57 p_jO_57 p_jR_57 p_jS_57 p_jT_57 f0_57 f1_57 f2_57 hm_57
      obtain ⟨u0_jB_57, u1_jB_57, u2_jB_57, u3_jB_57, u4_jB_57, u5_jB_57⟩ := id p_jB_57
      obtain ⟨u0_jS_57, u1_jS_57, u2_jS_57, u3_jS_57, u4_jS_57, u5_jS_57, u6_jS_57, u7_jS_57⟩ := jS.ints p_jS_57
      obtain ⟨u0_jT_57, u1_jT_57, u2_jT_57, u3_jT_57, u4_jT_57, u5_jT_57⟩ := id p_jT_57
      rw [D_X8_next__57]
      refine vIf (fun h_63 => ?_) (fun h_63 => ?_)
      · have i_63 := Int32.le_iff_toInt_le.mp h_63
        (try simp only [Int32.toInt_add, Int32.toInt_sub, Int32.toInt_mul, Int32.toInt_toInt64, Int64.toInt_add, z_m1, Int32.reduceToInt, Int64.reduceToInt, Int32.reduceToNatClampNeg, Int.bmod_def] at i_63)
        refine vB (v_X8_refuse) (fun e_124 f_124 q_124 => ?_)
        have k_124 : ∀ a j, ¬ WM_X8_next_ P a j → e_124.2 a j = M0 a j := fun a j h => (q_124 a j (wz_M_X8_refuse_X8_next_ h)).trans (k_57 a j h)
        have c7_124 : Int32.toInt (e_124.2 P 7) = Int32.toInt (M_57 P 7) := congrArg Int32.toInt (q_124 P 7 (wc_X8_refuse_7))
        have c8_124 : Int32.toInt (e_124.2 P 8) = Int32.toInt (M_57 P 8) := congrArg Int32.toInt (q_124 P 8 (wc_X8_refuse_8))
        have c33_124 : Int32.toInt (e_124.2 P 33) = Int32.toInt (M_57 P 33) := congrArg Int32.toInt (q_124 P 33 (wc_X8_refuse_33))
        have n_124 : nA P e_124.2 = nA P M_57 := nA_congr (fun a j h => q_124 a j (wf_nA_X8_refuse h))
        have p_jB_124 : jB P e_124.2 := jB.mono p_jB_57 (fun a j h => q_124 a j (wf_jB_X8_refuse h))
        obtain ⟨u0_jB_124, u1_jB_124, u2_jB_124, u3_jB_124, u4_jB_124, u5_jB_124⟩ := id p_jB_124
        have p_jH_124 : jH P e_124.2 := jH.mono p_jH_57 (fun a j h => q_124 a j (wf_jH_X8_refuse h))
        have p_jK_124 : jK P e_124.2 := jK.mono p_jK_57 (fun a j h => q_124 a j (wf_jK_X8_refuse h))
        have p_jL_124 : jL P e_124.2 := jL.mono p_jL_57 (fun a j h => q_124 a j (wf_jL_X8_refuse h))
        have p_jO_124 : jO P e_124.2 := jO.mono p_jO_57 (fun a j h => q_124 a j (wf_jO_X8_refuse h))
        have p_jR_124 : jR P e_124.2 := jR.mono p_jR_57 (fun a j h => q_124 a j (wf_jR_X8_refuse h))
        have p_jS_124 : jS P e_124.2 := jS.mono p_jS_57 (fun a j h => q_124 a j (wf_jS_X8_refuse h))
        obtain ⟨u0_jS_124, u1_jS_124, u2_jS_124, u3_jS_124, u4_jS_124, u5_jS_124, u6_jS_124, u7_jS_124⟩ := jS.ints p_jS_124
        have p_jT_124 : jT P e_124.2 := jT.mono p_jT_57 (fun a j h => q_124 a j (wf_jT_X8_refuse h))
        obtain ⟨u0_jT_124, u1_jT_124, u2_jT_124, u3_jT_124, u4_jT_124, u5_jT_124⟩ := id p_jT_124
        exact ⟨_, rfl, k_124, kn_57, ⟨p_jB_124, p_jS_124, p_jR_124, p_jK_124, p_jT_124⟩⟩
      · have i_63 := Int32.lt_iff_toInt_lt.mp (Int32.not_le.mp h_63)
        (try simp only [Int32.toInt_add, Int32.toInt_sub, Int32.toInt_mul, Int32.toInt_toInt64, Int64.toInt_add, z_m1, Int32.reduceToInt, Int64.reduceToInt, Int32.reduceToNatClampNeg, Int.bmod_def] at i_63)
        refine vI (vp_of (by first | omega | (simp only [Int32.toInt_add, Int32.toInt_sub, Int32.toInt_mul, Int32.toInt_toInt64, Int64.toInt_add, z_m1, Int32.reduceToInt, Int64.reduceToInt, Int32.reduceToNatClampNeg, Int.bmod_def, or_true, true_or, and_true, true_and] <;> omega)) (by first | omega | (simp only [Int32.toInt_add, Int32.toInt_sub, Int32.toInt_mul, Int32.toInt_toInt64, Int64.toInt_add, z_m1, Int32.reduceToInt, Int64.reduceToInt, Int32.reduceToNatClampNeg, Int.bmod_def, or_true, true_or, and_true, true_and] <;> omega))) ?_
        obtain ⟨w0_73, w1_73⟩ := jO.el p_jO_57 (x := x4_57) (by first | omega | (simp only [Int32.toInt_add, Int32.toInt_sub, Int32.toInt_mul, Int32.toInt_toInt64, Int64.toInt_add, z_m1, Int32.reduceToInt, Int64.reduceToInt, Int32.reduceToNatClampNeg, Int.bmod_def, or_true, true_or, and_true, true_and] <;> omega)) (by first | omega | (simp only [Int32.toInt_add, Int32.toInt_sub, Int32.toInt_mul, Int32.toInt_toInt64, Int64.toInt_add, z_m1, Int32.reduceToInt, Int64.reduceToInt, Int32.reduceToNatClampNeg, Int.bmod_def, or_true, true_or, and_true, true_and] <;> omega))
        refine vB (v_X8_isWaiting p_jB_57 p_jS_57 p_jL_57 (by first | omega | (simp only [Int32.toInt_add, Int32.toInt_sub, Int32.toInt_mul, Int32.toInt_toInt64, Int64.toInt_add, z_m1, Int32.reduceToInt, Int64.reduceToInt, Int32.reduceToNatClampNeg, Int.bmod_def, or_true, true_or, and_true, true_and] <;> omega)) (by first | omega | (simp only [Int32.toInt_add, Int32.toInt_sub, Int32.toInt_mul, Int32.toInt_toInt64, Int64.toInt_add, z_m1, Int32.reduceToInt, Int64.reduceToInt, Int32.reduceToNatClampNeg, Int.bmod_def, or_true, true_or, and_true, true_and] <;> omega))) (fun e_75 f_75 q_75 => ?_)
        have b_75 := q_75
        refine vIf (fun h_78 => ?_) (fun h_78 => ?_)
        · have i_78 := congrArg Int32.toInt h_78
          (try simp only [Int32.toInt_add, Int32.toInt_sub, Int32.toInt_mul, Int32.toInt_toInt64, Int64.toInt_add, z_m1, Int32.reduceToInt, Int64.reduceToInt, Int32.reduceToNatClampNeg, Int.bmod_def] at i_78)
          exact T_116 _ _ _ _ _ k_57 kn_57 p_jB_57 p_jH_57 p_jK_57 p_jL_57 p_jO_57 p_jR_57 p_jS_57 p_jT_57 (by first | omega | (simp only [Int32.toInt_add, Int32.toInt_sub, Int32.toInt_mul, Int32.toInt_toInt64, Int64.toInt_add, z_m1, Int32.reduceToInt, Int64.reduceToInt, Int32.reduceToNatClampNeg, Int.bmod_def, or_true, true_or, and_true, true_and] <;> omega)) (by first | omega | (simp only [Int32.toInt_add, Int32.toInt_sub, Int32.toInt_mul, Int32.toInt_toInt64, Int64.toInt_add, z_m1, Int32.reduceToInt, Int64.reduceToInt, Int32.reduceToNatClampNeg, Int.bmod_def, or_true, true_or, and_true, true_and] <;> omega)) hm_57 (by first | assumption | exact z_lt (by assumption) | exact z_lt2 (by assumption) | exact z_lt3 (by assumption) (by first | assumption | decide)) (by first | omega | (simp only [Int32.toInt_add, Int32.toInt_sub, Int32.toInt_mul, Int32.toInt_toInt64, Int64.toInt_add, z_m1, Int32.reduceToInt, Int64.reduceToInt, Int32.reduceToNatClampNeg, Int.bmod_def, or_true, true_or, and_true, true_and] <;> omega))
        · have i_78 : ¬ Int32.toInt e_75 = Int32.toInt (0 : Int32) := fun q => h_78 (Int32.toInt_inj.mp q)
          (try simp only [Int32.toInt_add, Int32.toInt_sub, Int32.toInt_mul, Int32.toInt_toInt64, Int64.toInt_add, z_m1, Int32.reduceToInt, Int64.reduceToInt, Int32.reduceToNatClampNeg, Int.bmod_def] at i_78)
          refine vI (vp_of (by first | omega | (simp only [Int32.toInt_add, Int32.toInt_sub, Int32.toInt_mul, Int32.toInt_toInt64, Int64.toInt_add, z_m1, Int32.reduceToInt, Int64.reduceToInt, Int32.reduceToNatClampNeg, Int.bmod_def, or_true, true_or, and_true, true_and] <;> omega)) (by first | omega | (simp only [Int32.toInt_add, Int32.toInt_sub, Int32.toInt_mul, Int32.toInt_toInt64, Int64.toInt_add, z_m1, Int32.reduceToInt, Int64.reduceToInt, Int32.reduceToNatClampNeg, Int.bmod_def, or_true, true_or, and_true, true_and] <;> omega))) ?_
          obtain ⟨w0_88, w1_88⟩ := jO.el p_jO_57 (x := x4_57) (by first | omega | (simp only [Int32.toInt_add, Int32.toInt_sub, Int32.toInt_mul, Int32.toInt_toInt64, Int64.toInt_add, z_m1, Int32.reduceToInt, Int64.reduceToInt, Int32.reduceToNatClampNeg, Int.bmod_def, or_true, true_or, and_true, true_and] <;> omega)) (by first | omega | (simp only [Int32.toInt_add, Int32.toInt_sub, Int32.toInt_mul, Int32.toInt_toInt64, Int64.toInt_add, z_m1, Int32.reduceToInt, Int64.reduceToInt, Int32.reduceToNatClampNeg, Int.bmod_def, or_true, true_or, and_true, true_and] <;> omega))
          refine vI (vp_of (by first | omega | (simp only [Int32.toInt_add, Int32.toInt_sub, Int32.toInt_mul, Int32.toInt_toInt64, Int64.toInt_add, z_m1, Int32.reduceToInt, Int64.reduceToInt, Int32.reduceToNatClampNeg, Int.bmod_def, or_true, true_or, and_true, true_and] <;> omega)) (by first | omega | (simp only [Int32.toInt_add, Int32.toInt_sub, Int32.toInt_mul, Int32.toInt_toInt64, Int64.toInt_add, z_m1, Int32.reduceToInt, Int64.reduceToInt, Int32.reduceToNatClampNeg, Int.bmod_def, or_true, true_or, and_true, true_and] <;> omega))) ?_
          refine vB (v_X8_fits (by first | omega | (simp only [Int32.toInt_add, Int32.toInt_sub, Int32.toInt_mul, Int32.toInt_toInt64, Int64.toInt_add, z_m1, Int32.reduceToInt, Int64.reduceToInt, Int32.reduceToNatClampNeg, Int.bmod_def, or_true, true_or, and_true, true_and] <;> omega)) (by first | omega | (simp only [Int32.toInt_add, Int32.toInt_sub, Int32.toInt_mul, Int32.toInt_toInt64, Int64.toInt_add, z_m1, Int32.reduceToInt, Int64.reduceToInt, Int32.reduceToNatClampNeg, Int.bmod_def, or_true, true_or, and_true, true_and] <;> omega)) (by first | omega | (simp only [Int32.toInt_add, Int32.toInt_sub, Int32.toInt_mul, Int32.toInt_toInt64, Int64.toInt_add, z_m1, Int32.reduceToInt, Int64.reduceToInt, Int32.reduceToNatClampNeg, Int.bmod_def, or_true, true_or, and_true, true_and] <;> omega)) (by first | omega | (simp only [Int32.toInt_add, Int32.toInt_sub, Int32.toInt_mul, Int32.toInt_toInt64, Int64.toInt_add, z_m1, Int32.reduceToInt, Int64.reduceToInt, Int32.reduceToNatClampNeg, Int.bmod_def, or_true, true_or, and_true, true_and] <;> omega))) (fun e_98 f_98 q_98 => ?_)
          have b_98 := q_98
          refine vIf (fun h_101 => ?_) (fun h_101 => ?_)
          · have i_101 := congrArg Int32.toInt h_101
            (try simp only [Int32.toInt_add, Int32.toInt_sub, Int32.toInt_mul, Int32.toInt_toInt64, Int64.toInt_add, z_m1, Int32.reduceToInt, Int64.reduceToInt, Int32.reduceToNatClampNeg, Int.bmod_def] at i_101)
            exact T_116 _ _ _ _ _ k_57 kn_57 p_jB_57 p_jH_57 p_jK_57 p_jL_57 p_jO_57 p_jR_57 p_jS_57 p_jT_57 (by first | omega | (simp only [Int32.toInt_add, Int32.toInt_sub, Int32.toInt_mul, Int32.toInt_toInt64, Int64.toInt_add, z_m1, Int32.reduceToInt, Int64.reduceToInt, Int32.reduceToNatClampNeg, Int.bmod_def, or_true, true_or, and_true, true_and] <;> omega)) (by first | omega | (simp only [Int32.toInt_add, Int32.toInt_sub, Int32.toInt_mul, Int32.toInt_toInt64, Int64.toInt_add, z_m1, Int32.reduceToInt, Int64.reduceToInt, Int32.reduceToNatClampNeg, Int.bmod_def, or_true, true_or, and_true, true_and] <;> omega)) hm_57 (by first | assumption | exact z_lt (by assumption) | exact z_lt2 (by assumption) | exact z_lt3 (by assumption) (by first | assumption | decide)) (by first | omega | (simp only [Int32.toInt_add, Int32.toInt_sub, Int32.toInt_mul, Int32.toInt_toInt64, Int64.toInt_add, z_m1, Int32.reduceToInt, Int64.reduceToInt, Int32.reduceToNatClampNeg, Int.bmod_def, or_true, true_or, and_true, true_and] <;> omega))
          · have i_101 : ¬ Int32.toInt e_98 = Int32.toInt (0 : Int32) := fun q => h_101 (Int32.toInt_inj.mp q)
            (try simp only [Int32.toInt_add, Int32.toInt_sub, Int32.toInt_mul, Int32.toInt_toInt64, Int64.toInt_add, z_m1, Int32.reduceToInt, Int64.reduceToInt, Int32.reduceToNatClampNeg, Int.bmod_def] at i_101)
            refine vI (vp_of (by first | omega | (simp only [Int32.toInt_add, Int32.toInt_sub, Int32.toInt_mul, Int32.toInt_toInt64, Int64.toInt_add, z_m1, Int32.reduceToInt, Int64.reduceToInt, Int32.reduceToNatClampNeg, Int.bmod_def, or_true, true_or, and_true, true_and] <;> omega)) (by first | omega | (simp only [Int32.toInt_add, Int32.toInt_sub, Int32.toInt_mul, Int32.toInt_toInt64, Int64.toInt_add, z_m1, Int32.reduceToInt, Int64.reduceToInt, Int32.reduceToNatClampNeg, Int.bmod_def, or_true, true_or, and_true, true_and] <;> omega))) ?_
            obtain ⟨w0_111, w1_111⟩ := jO.el p_jO_57 (x := x4_57) (by first | omega | (simp only [Int32.toInt_add, Int32.toInt_sub, Int32.toInt_mul, Int32.toInt_toInt64, Int64.toInt_add, z_m1, Int32.reduceToInt, Int64.reduceToInt, Int32.reduceToNatClampNeg, Int.bmod_def, or_true, true_or, and_true, true_and] <;> omega)) (by first | omega | (simp only [Int32.toInt_add, Int32.toInt_sub, Int32.toInt_mul, Int32.toInt_toInt64, Int64.toInt_add, z_m1, Int32.reduceToInt, Int64.reduceToInt, Int32.reduceToNatClampNeg, Int.bmod_def, or_true, true_or, and_true, true_and] <;> omega))
            refine vB (v_X8_gives) (fun e_112 f_112 q_112 => ?_)
            have k_112 : ∀ a j, ¬ WM_X8_next_ P a j → e_112.2 a j = M0 a j := fun a j h => (q_112 a j (wz_M_X8_gives_X8_next_ h)).trans (k_57 a j h)
            have c7_112 : Int32.toInt (e_112.2 P 7) = Int32.toInt (M_57 P 7) := congrArg Int32.toInt (q_112 P 7 (wc_X8_gives_7))
            have c8_112 : Int32.toInt (e_112.2 P 8) = Int32.toInt (M_57 P 8) := congrArg Int32.toInt (q_112 P 8 (wc_X8_gives_8))
            have c33_112 : Int32.toInt (e_112.2 P 33) = Int32.toInt (M_57 P 33) := congrArg Int32.toInt (q_112 P 33 (wc_X8_gives_33))
            have n_112 : nA P e_112.2 = nA P M_57 := nA_congr (fun a j h => q_112 a j (wf_nA_X8_gives h))
            have p_jB_112 : jB P e_112.2 := jB.mono p_jB_57 (fun a j h => q_112 a j (wf_jB_X8_gives h))
            obtain ⟨u0_jB_112, u1_jB_112, u2_jB_112, u3_jB_112, u4_jB_112, u5_jB_112⟩ := id p_jB_112
            have p_jH_112 : jH P e_112.2 := jH.mono p_jH_57 (fun a j h => q_112 a j (wf_jH_X8_gives h))
            have p_jK_112 : jK P e_112.2 := jK.mono p_jK_57 (fun a j h => q_112 a j (wf_jK_X8_gives h))
            have p_jL_112 : jL P e_112.2 := jL.mono p_jL_57 (fun a j h => q_112 a j (wf_jL_X8_gives h))
            have p_jO_112 : jO P e_112.2 := jO.mono p_jO_57 (fun a j h => q_112 a j (wf_jO_X8_gives h))
            have p_jR_112 : jR P e_112.2 := jR.mono p_jR_57 (fun a j h => q_112 a j (wf_jR_X8_gives h))
            have p_jS_112 : jS P e_112.2 := jS.mono p_jS_57 (fun a j h => q_112 a j (wf_jS_X8_gives h))
            obtain ⟨u0_jS_112, u1_jS_112, u2_jS_112, u3_jS_112, u4_jS_112, u5_jS_112, u6_jS_112, u7_jS_112⟩ := jS.ints p_jS_112
            have p_jT_112 : jT P e_112.2 := jT.mono p_jT_57 (fun a j h => q_112 a j (wf_jT_X8_gives h))
            obtain ⟨u0_jT_112, u1_jT_112, u2_jT_112, u3_jT_112, u4_jT_112, u5_jT_112⟩ := id p_jT_112
            exact ⟨_, rfl, k_112, kn_57, ⟨p_jB_112, p_jS_112, p_jR_112, p_jK_112, p_jT_112⟩⟩
  have T_57 : ∀ (x2_57 : Int32) (x3_57 : Int32) (x4_57 : Int32) (M_57 : zMt) (N_57 : zNt), (∀ a j, ¬ WM_X8_next_ P a j → M_57 a j = M0 a j) → (∀ a j, ¬ WN_X8_next_ P a j → N_57 a j = N0 a j) → (jB P M_57) → (jH P M_57) → (jK P M_57) → (jL P M_57) → (jO P M_57) → (jR P M_57) → (jS P M_57) → (jT P M_57) → (0 ≤ Int32.toInt x4_57) → (Int32.toInt x4_57 ≤ 10) → (0 ≤ Int32.toInt x2_57 ∧ Int32.toInt x2_57 < 5) → ∃ r, D_X8_next__57 P zFu x2_57 x3_57 x4_57 M_57 N_57 = some r ∧ ((∀ a j, ¬ WM_X8_next_ P a j → r.2.1 a j = M0 a j) ∧ (∀ a j, ¬ WN_X8_next_ P a j → r.2.2 a j = N0 a j) ∧ ((jB P r.2.1) ∧ (jS P r.2.1) ∧ (jR P r.2.1) ∧ (jK P r.2.1) ∧ (jT P r.2.1))) := fun x2_57 x3_57 x4_57 M_57 N_57 k_57 kn_57 p_jB_57 p_jH_57 p_jK_57 p_jL_57 p_jO_57 p_jR_57 p_jS_57 p_jT_57 f0_57 f1_57 f2_57 => TL_57 zFu x2_57 x3_57 x4_57 M_57 N_57 k_57 kn_57 p_jB_57 p_jH_57 p_jK_57 p_jL_57 p_jO_57 p_jR_57 p_jS_57 p_jT_57 f0_57 f1_57 f2_57 (zFu_up _)
  have T_19 : ∀ (M_19 : zMt) (N_19 : zNt), (∀ a j, ¬ WM_X8_next_ P a j → M_19 a j = M0 a j) → (∀ a j, ¬ WN_X8_next_ P a j → N_19 a j = N0 a j) → (jB P M_19) → (jK P M_19) → (jR P M_19) → (jS P M_19) → (jT P M_19) → ∃ r, D_X8_next__19 P M_19 N_19 = some r ∧ ((∀ a j, ¬ WM_X8_next_ P a j → r.2.1 a j = M0 a j) ∧ (∀ a j, ¬ WN_X8_next_ P a j → r.2.2 a j = N0 a j) ∧ ((jB P r.2.1) ∧ (jS P r.2.1) ∧ (jR P r.2.1) ∧ (jK P r.2.1) ∧ (jT P r.2.1))) := by
    intro M_19 N_19 k_19 kn_19 p_jB_19 p_jK_19 p_jR_19 p_jS_19 p_jT_19
    obtain ⟨u0_jB_19, u1_jB_19, u2_jB_19, u3_jB_19, u4_jB_19, u5_jB_19⟩ := id p_jB_19
    obtain ⟨u0_jS_19, u1_jS_19, u2_jS_19, u3_jS_19, u4_jS_19, u5_jS_19, u6_jS_19, u7_jS_19⟩ := jS.ints p_jS_19
    obtain ⟨u0_jT_19, u1_jT_19, u2_jT_19, u3_jT_19, u4_jT_19, u5_jT_19⟩ := id p_jT_19
    unfold D_X8_next__19
    refine vB (v_X8_refuse) (fun e_21 f_21 q_21 => ?_)
    have k_21 : ∀ a j, ¬ WM_X8_next_ P a j → e_21.2 a j = M0 a j := fun a j h => (q_21 a j (wz_M_X8_refuse_X8_next_ h)).trans (k_19 a j h)
    have c7_21 : Int32.toInt (e_21.2 P 7) = Int32.toInt (M_19 P 7) := congrArg Int32.toInt (q_21 P 7 (wc_X8_refuse_7))
    have c8_21 : Int32.toInt (e_21.2 P 8) = Int32.toInt (M_19 P 8) := congrArg Int32.toInt (q_21 P 8 (wc_X8_refuse_8))
    have c33_21 : Int32.toInt (e_21.2 P 33) = Int32.toInt (M_19 P 33) := congrArg Int32.toInt (q_21 P 33 (wc_X8_refuse_33))
    have n_21 : nA P e_21.2 = nA P M_19 := nA_congr (fun a j h => q_21 a j (wf_nA_X8_refuse h))
    have p_jB_21 : jB P e_21.2 := jB.mono p_jB_19 (fun a j h => q_21 a j (wf_jB_X8_refuse h))
    obtain ⟨u0_jB_21, u1_jB_21, u2_jB_21, u3_jB_21, u4_jB_21, u5_jB_21⟩ := id p_jB_21
    have p_jK_21 : jK P e_21.2 := jK.mono p_jK_19 (fun a j h => q_21 a j (wf_jK_X8_refuse h))
    have p_jR_21 : jR P e_21.2 := jR.mono p_jR_19 (fun a j h => q_21 a j (wf_jR_X8_refuse h))
    have p_jS_21 : jS P e_21.2 := jS.mono p_jS_19 (fun a j h => q_21 a j (wf_jS_X8_refuse h))
    obtain ⟨u0_jS_21, u1_jS_21, u2_jS_21, u3_jS_21, u4_jS_21, u5_jS_21, u6_jS_21, u7_jS_21⟩ := jS.ints p_jS_21
    have p_jT_21 : jT P e_21.2 := jT.mono p_jT_19 (fun a j h => q_21 a j (wf_jT_X8_refuse h))
    obtain ⟨u0_jT_21, u1_jT_21, u2_jT_21, u3_jT_21, u4_jT_21, u5_jT_21⟩ := id p_jT_21
    exact ⟨_, rfl, k_21, kn_19, ⟨p_jB_21, p_jS_21, p_jR_21, p_jK_21, p_jT_21⟩⟩
  unfold D_X8_next_
  refine vB (v_X8_isSeed) (fun e_1 f_1 q_1 => ?_)
  have b_1 := q_1.1
  have x0_1 := q_1.2
  (try simp only [Int32.toInt_add, Int32.toInt_sub, Int32.toInt_mul, Int32.toInt_toInt64, Int64.toInt_add, z_m1, Int32.reduceToInt, Int64.reduceToInt, Int32.reduceToNatClampNeg, Int.bmod_def] at x0_1)
  refine vIf (fun h_4 => ?_) (fun h_4 => ?_)
  · have i_4 := congrArg Int32.toInt h_4
    (try simp only [Int32.toInt_add, Int32.toInt_sub, Int32.toInt_mul, Int32.toInt_toInt64, Int64.toInt_add, z_m1, Int32.reduceToInt, Int64.reduceToInt, Int32.reduceToNatClampNeg, Int.bmod_def] at i_4)
    exact T_19 _ _ (fun _ _ _ => rfl) (fun _ _ _ => rfl) p_jB p_jK p_jR p_jS p_jT
  · have i_4 : ¬ Int32.toInt e_1 = Int32.toInt (0 : Int32) := fun q => h_4 (Int32.toInt_inj.mp q)
    (try simp only [Int32.toInt_add, Int32.toInt_sub, Int32.toInt_mul, Int32.toInt_toInt64, Int64.toInt_add, z_m1, Int32.reduceToInt, Int64.reduceToInt, Int32.reduceToNatClampNeg, Int.bmod_def] at i_4)
    refine vB (v_X8_isFrom) (fun e_13 f_13 q_13 => ?_)
    have b_13 := q_13.1
    have x0_13 := q_13.2
    (try simp only [Int32.toInt_add, Int32.toInt_sub, Int32.toInt_mul, Int32.toInt_toInt64, Int64.toInt_add, z_m1, Int32.reduceToInt, Int64.reduceToInt, Int32.reduceToNatClampNeg, Int.bmod_def] at x0_13)
    refine vIf (fun h_16 => ?_) (fun h_16 => ?_)
    · have i_16 := congrArg Int32.toInt h_16
      (try simp only [Int32.toInt_add, Int32.toInt_sub, Int32.toInt_mul, Int32.toInt_toInt64, Int64.toInt_add, z_m1, Int32.reduceToInt, Int64.reduceToInt, Int32.reduceToNatClampNeg, Int.bmod_def] at i_16)
      exact T_19 _ _ (fun _ _ _ => rfl) (fun _ _ _ => rfl) p_jB p_jK p_jR p_jS p_jT
    · have i_16 : ¬ Int32.toInt e_13 = Int32.toInt (0 : Int32) := fun q => h_16 (Int32.toInt_inj.mp q)
      (try simp only [Int32.toInt_add, Int32.toInt_sub, Int32.toInt_mul, Int32.toInt_toInt64, Int64.toInt_add, z_m1, Int32.reduceToInt, Int64.reduceToInt, Int32.reduceToNatClampNeg, Int.bmod_def] at i_16)
      refine vB (v_X8_isUnit p_jB) (fun e_27 f_27 q_27 => ?_)
      have b_27 := q_27.1
      have x0_27 := q_27.2
      (try simp only [Int32.toInt_add, Int32.toInt_sub, Int32.toInt_mul, Int32.toInt_toInt64, Int64.toInt_add, z_m1, Int32.reduceToInt, Int64.reduceToInt, Int32.reduceToNatClampNeg, Int.bmod_def] at x0_27)
      refine vIf (fun h_30 => ?_) (fun h_30 => ?_)
      · have i_30 := congrArg Int32.toInt h_30
        (try simp only [Int32.toInt_add, Int32.toInt_sub, Int32.toInt_mul, Int32.toInt_toInt64, Int64.toInt_add, z_m1, Int32.reduceToInt, Int64.reduceToInt, Int32.reduceToNatClampNeg, Int.bmod_def] at i_30)
        refine vB (v_X8_refuse) (fun e_35 f_35 q_35 => ?_)
        have k_35 : ∀ a j, ¬ WM_X8_next_ P a j → e_35.2 a j = M0 a j := fun a j h => (q_35 a j (wz_M_X8_refuse_X8_next_ h))
        have c7_35 : Int32.toInt (e_35.2 P 7) = Int32.toInt (M0 P 7) := congrArg Int32.toInt (q_35 P 7 (wc_X8_refuse_7))
        have c8_35 : Int32.toInt (e_35.2 P 8) = Int32.toInt (M0 P 8) := congrArg Int32.toInt (q_35 P 8 (wc_X8_refuse_8))
        have c33_35 : Int32.toInt (e_35.2 P 33) = Int32.toInt (M0 P 33) := congrArg Int32.toInt (q_35 P 33 (wc_X8_refuse_33))
        have n_35 : nA P e_35.2 = nA P M0 := nA_congr (fun a j h => q_35 a j (wf_nA_X8_refuse h))
        have p_jB_35 : jB P e_35.2 := jB.mono p_jB (fun a j h => q_35 a j (wf_jB_X8_refuse h))
        obtain ⟨u0_jB_35, u1_jB_35, u2_jB_35, u3_jB_35, u4_jB_35, u5_jB_35⟩ := id p_jB_35
        have p_jS_35 : jS P e_35.2 := jS.mono p_jS (fun a j h => q_35 a j (wf_jS_X8_refuse h))
        obtain ⟨u0_jS_35, u1_jS_35, u2_jS_35, u3_jS_35, u4_jS_35, u5_jS_35, u6_jS_35, u7_jS_35⟩ := jS.ints p_jS_35
        have p_jR_35 : jR P e_35.2 := jR.mono p_jR (fun a j h => q_35 a j (wf_jR_X8_refuse h))
        have p_jK_35 : jK P e_35.2 := jK.mono p_jK (fun a j h => q_35 a j (wf_jK_X8_refuse h))
        have p_jT_35 : jT P e_35.2 := jT.mono p_jT (fun a j h => q_35 a j (wf_jT_X8_refuse h))
        obtain ⟨u0_jT_35, u1_jT_35, u2_jT_35, u3_jT_35, u4_jT_35, u5_jT_35⟩ := id p_jT_35
        exact ⟨_, rfl, k_35, (fun _ _ _ => rfl), ⟨p_jB_35, p_jS_35, p_jR_35, p_jK_35, p_jT_35⟩⟩
      · have i_30 : ¬ Int32.toInt e_27 = Int32.toInt (0 : Int32) := fun q => h_30 (Int32.toInt_inj.mp q)
        (try simp only [Int32.toInt_add, Int32.toInt_sub, Int32.toInt_mul, Int32.toInt_toInt64, Int64.toInt_add, z_m1, Int32.reduceToInt, Int64.reduceToInt, Int32.reduceToNatClampNeg, Int.bmod_def] at i_30)
        refine vB (v_X8_laysResult p_jB p_jS p_jR (by first | omega | (simp only [Int32.toInt_add, Int32.toInt_sub, Int32.toInt_mul, Int32.toInt_toInt64, Int64.toInt_add, z_m1, Int32.reduceToInt, Int64.reduceToInt, Int32.reduceToNatClampNeg, Int.bmod_def, or_true, true_or, and_true, true_and] <;> omega))) (fun e_41 f_41 q_41 => ?_)
        have k_41 : ∀ a j, ¬ WM_X8_next_ P a j → e_41.1 a j = M0 a j := fun a j h => (q_41.1 a j (wz_M_X8_laysResult_X8_next_ h))
        have kn_41 : ∀ a j, ¬ WN_X8_next_ P a j → e_41.2 a j = N0 a j := fun a j h => (q_41.2.1 a j (wz_N_X8_laysResult_X8_next_ h))
        have c7_41 : Int32.toInt (e_41.1 P 7) = Int32.toInt (M0 P 7) := congrArg Int32.toInt (q_41.1 P 7 (wc_X8_laysResult_7))
        have c8_41 : Int32.toInt (e_41.1 P 8) = Int32.toInt (M0 P 8) := congrArg Int32.toInt (q_41.1 P 8 (wc_X8_laysResult_8))
        have n_41 : nA P e_41.1 = nA P M0 := nA_congr (fun a j h => q_41.1 a j (wf_nA_X8_laysResult h))
        have p_jS_41 : jS P e_41.1 := jS.mono p_jS (fun a j h => q_41.1 a j (wf_jS_X8_laysResult h))
        obtain ⟨u0_jS_41, u1_jS_41, u2_jS_41, u3_jS_41, u4_jS_41, u5_jS_41, u6_jS_41, u7_jS_41⟩ := jS.ints p_jS_41
        have p_jK_41 : jK P e_41.1 := jK.mono p_jK (fun a j h => q_41.1 a j (wf_jK_X8_laysResult h))
        have p_jT_41 : jT P e_41.1 := jT.mono p_jT (fun a j h => q_41.1 a j (wf_jT_X8_laysResult h))
        obtain ⟨u0_jT_41, u1_jT_41, u2_jT_41, u3_jT_41, u4_jT_41, u5_jT_41⟩ := id p_jT_41
        obtain ⟨x0_41, x1_41, x2_41, x3_41, x4_41, x5_41⟩ := q_41.2.2
        obtain ⟨u0_jB_41, u1_jB_41, u2_jB_41, u3_jB_41, u4_jB_41, u5_jB_41⟩ := id x0_41
        (try simp only [Int32.toInt_add, Int32.toInt_sub, Int32.toInt_mul, Int32.toInt_toInt64, Int64.toInt_add, z_m1, Int32.reduceToInt, Int64.reduceToInt, Int32.reduceToNatClampNeg, Int.bmod_def] at x5_41)
        refine vI (vp_of (by first | omega | (simp only [Int32.toInt_add, Int32.toInt_sub, Int32.toInt_mul, Int32.toInt_toInt64, Int64.toInt_add, z_m1, Int32.reduceToInt, Int64.reduceToInt, Int32.reduceToNatClampNeg, Int.bmod_def, or_true, true_or, and_true, true_and] <;> omega)) (by first | omega | (simp only [Int32.toInt_add, Int32.toInt_sub, Int32.toInt_mul, Int32.toInt_toInt64, Int64.toInt_add, z_m1, Int32.reduceToInt, Int64.reduceToInt, Int32.reduceToNatClampNeg, Int.bmod_def, or_true, true_or, and_true, true_and] <;> omega))) ?_
        refine vI (vp_of (by first | omega | (simp only [Int32.toInt_add, Int32.toInt_sub, Int32.toInt_mul, Int32.toInt_toInt64, Int64.toInt_add, z_m1, Int32.reduceToInt, Int64.reduceToInt, Int32.reduceToNatClampNeg, Int.bmod_def, or_true, true_or, and_true, true_and] <;> omega)) (by first | omega | (simp only [Int32.toInt_add, Int32.toInt_sub, Int32.toInt_mul, Int32.toInt_toInt64, Int64.toInt_add, z_m1, Int32.reduceToInt, Int64.reduceToInt, Int32.reduceToNatClampNeg, Int.bmod_def, or_true, true_or, and_true, true_and] <;> omega))) ?_
        refine vLm (W := WM_X8_next_ P) (fun a j h => (zu_ne (fun z => wq_X8_next__M22_r h z.1)).trans (k_41 a j h)) (fun M_53 f_53 k_53 => ?_)
        have c7_53 : Int32.toInt (M_53 P 7) = Int32.toInt (e_41.1 P 7) := congrArg Int32.toInt ((congrFun (congrFun f_53.symm P) 7).trans (zu_ne (fun z => wq_pne0 (by decide) z.1)))
        have c8_53 : Int32.toInt (M_53 P 8) = Int32.toInt (e_41.1 P 8) := congrArg Int32.toInt ((congrFun (congrFun f_53.symm P) 8).trans (zu_ne (fun z => wq_pne0 (by decide) z.1)))
        have c33_53 : Int32.toInt (M_53 P 33) = Int32.toInt (e_41.1 P 33) := congrArg Int32.toInt ((congrFun (congrFun f_53.symm P) 33).trans (zu_ne (fun z => wq_pne0 (by decide) z.1)))
        have n_53 : nA P M_53 = nA P e_41.1 := nA_congr (fun a j h => (congrFun (congrFun f_53.symm a) j).trans (zu_ne (fun z => wf_nA_M22_r h z.1)))
        have p_jS_53 : jS P M_53 := jS.mono p_jS_41 (fun a j h => (congrFun (congrFun f_53.symm a) j).trans (zu_ne (fun z => wf_jS_M22_r h z.1)))
        obtain ⟨u0_jS_53, u1_jS_53, u2_jS_53, u3_jS_53, u4_jS_53, u5_jS_53, u6_jS_53, u7_jS_53⟩ := jS.ints p_jS_53
        have p_jK_53 : jK P M_53 := jK.mono p_jK_41 (fun a j h => (congrFun (congrFun f_53.symm a) j).trans (zu_ne (fun z => wf_jK_M22_r h z.1)))
        have p_jT_53 : jT P M_53 := jT.mono p_jT_41 (fun a j h => (congrFun (congrFun f_53.symm a) j).trans (zu_ne (fun z => wf_jT_M22_r h z.1)))
        obtain ⟨u0_jT_53, u1_jT_53, u2_jT_53, u3_jT_53, u4_jT_53, u5_jT_53⟩ := id p_jT_53
        have p_jB_53 : jB P M_53 := jB.mono x0_41 (fun a j h => (congrFun (congrFun f_53.symm a) j).trans (zu_ne (fun z => wf_jB_M22_r h z.1)))
        obtain ⟨u0_jB_53, u1_jB_53, u2_jB_53, u3_jB_53, u4_jB_53, u5_jB_53⟩ := id p_jB_53
        have p_jL_53 : jL P M_53 := jL.mono x1_41 (fun a j h => (congrFun (congrFun f_53.symm a) j).trans (zu_ne (fun z => wf_jL_M22_r h z.1)))
        have p_jH_53 : jH P M_53 := jH.mono x2_41 (fun a j h => (congrFun (congrFun f_53.symm a) j).trans (zu_ne (fun z => wf_jH_M22_r h z.1)))
        have p_jO_53 : jO P M_53 := jO.mono x3_41 (fun a j h => (congrFun (congrFun f_53.symm a) j).trans (zu_ne (fun z => wf_jO_M22_r h z.1)))
        have p_jR_53 : jR P M_53 := jR.mono x4_41 (fun a j h => (congrFun (congrFun f_53.symm a) j).trans (zu_ne (fun z => wf_jR_M22_r h z.1)))
        exact T_57 _ _ _ _ _ k_53 kn_41 p_jB_53 p_jH_53 p_jK_53 p_jL_53 p_jO_53 p_jR_53 p_jS_53 p_jT_53 (by first | omega | (simp only [Int32.toInt_add, Int32.toInt_sub, Int32.toInt_mul, Int32.toInt_toInt64, Int64.toInt_add, z_m1, Int32.reduceToInt, Int64.reduceToInt, Int32.reduceToNatClampNeg, Int.bmod_def, or_true, true_or, and_true, true_and] <;> omega)) (by first | omega | (simp only [Int32.toInt_add, Int32.toInt_sub, Int32.toInt_mul, Int32.toInt_toInt64, Int64.toInt_add, z_m1, Int32.reduceToInt, Int64.reduceToInt, Int32.reduceToNatClampNeg, Int.bmod_def, or_true, true_or, and_true, true_and] <;> omega)) (by first | omega | (simp only [Int32.toInt_add, Int32.toInt_sub, Int32.toInt_mul, Int32.toInt_toInt64, Int64.toInt_add, z_m1, Int32.reduceToInt, Int64.reduceToInt, Int32.reduceToNatClampNeg, Int.bmod_def, or_true, true_or, and_true, true_and] <;> omega))
set_option maxRecDepth 100000 in
set_option maxHeartbeats 4000000 in
theorem v_X8_placeNow {P : Nat} {M : zMt} {v0 : Int32}  (p_jB : jB P M) (p_jS : jS P M) (p_jL : jL P M) (p_jR : jR P M) (i_4 : 0 ≤ Int32.toInt v0) (i_5 : Int32.toInt v0 < Int32.toInt (M P 33)) : ∃ r, D_X8_placeNow P M v0 = some r ∧ (((-1 ≤ Int32.toInt r) ∧ (Int32.toInt r ≤ 3))) := by
  obtain ⟨u0_jB, u1_jB, u2_jB, u3_jB, u4_jB, u5_jB⟩ := id p_jB
  obtain ⟨u0_jS, u1_jS, u2_jS, u3_jS, u4_jS, u5_jS, u6_jS, u7_jS⟩ := jS.ints p_jS
  have T_29 : ∀ (y0_29 : Int32), (jB P M) → (jL P M) → (jR P M) → (jS P M) → (-1 ≤ Int32.toInt y0_29 ∧ Int32.toInt y0_29 ≤ 3) → ∃ r, D_X8_placeNow_29 P M y0_29 = some r ∧ (((-1 ≤ Int32.toInt r) ∧ (Int32.toInt r ≤ 3))) := by
    intro y0_29 p_jB_29 p_jL_29 p_jR_29 p_jS_29 f0_29
    obtain ⟨u0_jB_29, u1_jB_29, u2_jB_29, u3_jB_29, u4_jB_29, u5_jB_29⟩ := id p_jB_29
    obtain ⟨u0_jS_29, u1_jS_29, u2_jS_29, u3_jS_29, u4_jS_29, u5_jS_29, u6_jS_29, u7_jS_29⟩ := jS.ints p_jS_29
    unfold D_X8_placeNow_29
    exact ⟨_, rfl, ⟨(by first | omega | (simp only [Int32.toInt_add, Int32.toInt_sub, Int32.toInt_mul, Int32.toInt_toInt64, Int64.toInt_add, z_m1, Int32.reduceToInt, Int64.reduceToInt, Int32.reduceToNatClampNeg, Int.bmod_def, or_true, true_or, and_true, true_and] <;> omega)), (by first | omega | (simp only [Int32.toInt_add, Int32.toInt_sub, Int32.toInt_mul, Int32.toInt_toInt64, Int64.toInt_add, z_m1, Int32.reduceToInt, Int64.reduceToInt, Int32.reduceToNatClampNeg, Int.bmod_def, or_true, true_or, and_true, true_and] <;> omega))⟩⟩
  unfold D_X8_placeNow
  refine vI (vp_of (by first | omega | (simp only [Int32.toInt_add, Int32.toInt_sub, Int32.toInt_mul, Int32.toInt_toInt64, Int64.toInt_add, z_m1, Int32.reduceToInt, Int64.reduceToInt, Int32.reduceToNatClampNeg, Int.bmod_def, or_true, true_or, and_true, true_and] <;> omega)) (by first | omega | (simp only [Int32.toInt_add, Int32.toInt_sub, Int32.toInt_mul, Int32.toInt_toInt64, Int64.toInt_add, z_m1, Int32.reduceToInt, Int64.reduceToInt, Int32.reduceToNatClampNeg, Int.bmod_def, or_true, true_or, and_true, true_and] <;> omega))) ?_
  obtain ⟨w0_5, w1_5⟩ := jR.el p_jR (x := v0) (by first | omega | (simp only [Int32.toInt_add, Int32.toInt_sub, Int32.toInt_mul, Int32.toInt_toInt64, Int64.toInt_add, z_m1, Int32.reduceToInt, Int64.reduceToInt, Int32.reduceToNatClampNeg, Int.bmod_def, or_true, true_or, and_true, true_and] <;> omega)) (by first | omega | (simp only [Int32.toInt_add, Int32.toInt_sub, Int32.toInt_mul, Int32.toInt_toInt64, Int64.toInt_add, z_m1, Int32.reduceToInt, Int64.reduceToInt, Int32.reduceToNatClampNeg, Int.bmod_def, or_true, true_or, and_true, true_and] <;> omega))
  refine vIf (fun h_7 => ?_) (fun h_7 => ?_)
  · have i_7 := congrArg Int32.toInt h_7
    (try simp only [Int32.toInt_add, Int32.toInt_sub, Int32.toInt_mul, Int32.toInt_toInt64, Int64.toInt_add, z_m1, Int32.reduceToInt, Int64.reduceToInt, Int32.reduceToNatClampNeg, Int.bmod_def] at i_7)
    refine vB (v_X8_choiceMany p_jB p_jS p_jL (by first | omega | (simp only [Int32.toInt_add, Int32.toInt_sub, Int32.toInt_mul, Int32.toInt_toInt64, Int64.toInt_add, z_m1, Int32.reduceToInt, Int64.reduceToInt, Int32.reduceToNatClampNeg, Int.bmod_def, or_true, true_or, and_true, true_and] <;> omega)) (by first | omega | (simp only [Int32.toInt_add, Int32.toInt_sub, Int32.toInt_mul, Int32.toInt_toInt64, Int64.toInt_add, z_m1, Int32.reduceToInt, Int64.reduceToInt, Int32.reduceToNatClampNeg, Int.bmod_def, or_true, true_or, and_true, true_and] <;> omega))) (fun e_12 f_12 q_12 => ?_)
    obtain ⟨x0_12, x1_12, x2_12⟩ := q_12
    (try simp only [Int32.toInt_add, Int32.toInt_sub, Int32.toInt_mul, Int32.toInt_toInt64, Int64.toInt_add, z_m1, Int32.reduceToInt, Int64.reduceToInt, Int32.reduceToNatClampNeg, Int.bmod_def] at x0_12)
    (try simp only [Int32.toInt_add, Int32.toInt_sub, Int32.toInt_mul, Int32.toInt_toInt64, Int64.toInt_add, z_m1, Int32.reduceToInt, Int64.reduceToInt, Int32.reduceToNatClampNeg, Int.bmod_def] at x1_12)
    exact T_29 _ p_jB p_jL p_jR p_jS (by first | omega | (simp only [Int32.toInt_add, Int32.toInt_sub, Int32.toInt_mul, Int32.toInt_toInt64, Int64.toInt_add, z_m1, Int32.reduceToInt, Int64.reduceToInt, Int32.reduceToNatClampNeg, Int.bmod_def, or_true, true_or, and_true, true_and] <;> omega))
  · have i_7 : ¬ Int32.toInt (M (P + 19) v0.toNatClampNeg) = Int32.toInt (-1 : Int32) := fun q => h_7 (Int32.toInt_inj.mp q)
    (try simp only [Int32.toInt_add, Int32.toInt_sub, Int32.toInt_mul, Int32.toInt_toInt64, Int64.toInt_add, z_m1, Int32.reduceToInt, Int64.reduceToInt, Int32.reduceToNatClampNeg, Int.bmod_def] at i_7)
    refine vI (vp_of (by first | omega | (simp only [Int32.toInt_add, Int32.toInt_sub, Int32.toInt_mul, Int32.toInt_toInt64, Int64.toInt_add, z_m1, Int32.reduceToInt, Int64.reduceToInt, Int32.reduceToNatClampNeg, Int.bmod_def, or_true, true_or, and_true, true_and] <;> omega)) (by first | omega | (simp only [Int32.toInt_add, Int32.toInt_sub, Int32.toInt_mul, Int32.toInt_toInt64, Int64.toInt_add, z_m1, Int32.reduceToInt, Int64.reduceToInt, Int32.reduceToNatClampNeg, Int.bmod_def, or_true, true_or, and_true, true_and] <;> omega))) ?_
    obtain ⟨w0_25, w1_25⟩ := jR.el p_jR (x := v0) (by first | omega | (simp only [Int32.toInt_add, Int32.toInt_sub, Int32.toInt_mul, Int32.toInt_toInt64, Int64.toInt_add, z_m1, Int32.reduceToInt, Int64.reduceToInt, Int32.reduceToNatClampNeg, Int.bmod_def, or_true, true_or, and_true, true_and] <;> omega)) (by first | omega | (simp only [Int32.toInt_add, Int32.toInt_sub, Int32.toInt_mul, Int32.toInt_toInt64, Int64.toInt_add, z_m1, Int32.reduceToInt, Int64.reduceToInt, Int32.reduceToNatClampNeg, Int.bmod_def, or_true, true_or, and_true, true_and] <;> omega))
    refine vB (v_X8_placeOf p_jB p_jS p_jL (by first | omega | (simp only [Int32.toInt_add, Int32.toInt_sub, Int32.toInt_mul, Int32.toInt_toInt64, Int64.toInt_add, z_m1, Int32.reduceToInt, Int64.reduceToInt, Int32.reduceToNatClampNeg, Int.bmod_def, or_true, true_or, and_true, true_and] <;> omega)) (by first | omega | (simp only [Int32.toInt_add, Int32.toInt_sub, Int32.toInt_mul, Int32.toInt_toInt64, Int64.toInt_add, z_m1, Int32.reduceToInt, Int64.reduceToInt, Int32.reduceToNatClampNeg, Int.bmod_def, or_true, true_or, and_true, true_and] <;> omega))) (fun e_26 f_26 q_26 => ?_)
    obtain ⟨x0_26, x1_26⟩ := q_26
    (try simp only [Int32.toInt_add, Int32.toInt_sub, Int32.toInt_mul, Int32.toInt_toInt64, Int64.toInt_add, z_m1, Int32.reduceToInt, Int64.reduceToInt, Int32.reduceToNatClampNeg, Int.bmod_def] at x0_26)
    (try simp only [Int32.toInt_add, Int32.toInt_sub, Int32.toInt_mul, Int32.toInt_toInt64, Int64.toInt_add, z_m1, Int32.reduceToInt, Int64.reduceToInt, Int32.reduceToNatClampNeg, Int.bmod_def] at x1_26)
    exact T_29 _ p_jB p_jL p_jR p_jS (by first | omega | (simp only [Int32.toInt_add, Int32.toInt_sub, Int32.toInt_mul, Int32.toInt_toInt64, Int64.toInt_add, z_m1, Int32.reduceToInt, Int64.reduceToInt, Int32.reduceToNatClampNeg, Int.bmod_def, or_true, true_or, and_true, true_and] <;> omega))
def WM_X8_envies (P : Nat) (a j : Nat) : Prop := (P + 11 ≤ a ∧ a < P + 23) ∨ (a = P ∧ (j = 6 ∨ j = 12 ∨ j = 33))
def WN_X8_envies (P : Nat) (a j : Nat) : Prop := (a = P ∧ (j = 46))
theorem wz_M_X8_gives_X8_envies {P a j : Nat} (h : ¬ WM_X8_envies P a j) : ¬ WM_X8_gives P a j := by unfold WM_X8_gives; unfold WM_X8_envies at h; omega
theorem wz_M_X8_refuse_X8_envies {P a j : Nat} (h : ¬ WM_X8_envies P a j) : ¬ WM_X8_refuse P a j := by unfold WM_X8_refuse; unfold WM_X8_envies at h; omega
theorem wz_M_X8_isApplicant_X8_envies {P a j : Nat} (h : ¬ WM_X8_envies P a j) : ¬ WM_X8_isApplicant P a j := by unfold WM_X8_isApplicant; unfold WM_X8_envies at h; omega
theorem wz_M_X8_laysResult_X8_envies {P a j : Nat} (h : ¬ WM_X8_envies P a j) : ¬ WM_X8_laysResult P a j := by unfold WM_X8_laysResult; unfold WM_X8_envies at h; omega
theorem wz_N_X8_laysResult_X8_envies {P a j : Nat} (h : ¬ WN_X8_envies P a j) : ¬ WN_X8_laysResult P a j := by unfold WN_X8_laysResult; unfold WN_X8_envies at h; omega
set_option maxRecDepth 100000 in
set_option maxHeartbeats 4000000 in
theorem v_X8_envies {P : Nat} {v0 : Int32} {v1 : Int32} {M0 : zMt} {N0 : zNt}  (p_jB : jB P M0) (p_jS : jS P M0) (p_jR : jR P M0) (p_jK : jK P M0) (p_jT : jT P M0) : ∃ r, D_X8_envies P v0 v1 M0 N0 = some r ∧ ((∀ a j, ¬ WM_X8_envies P a j → r.2.1 a j = M0 a j) ∧ (∀ a j, ¬ WN_X8_envies P a j → r.2.2 a j = N0 a j) ∧ ((jB P r.2.1) ∧ (jS P r.2.1) ∧ (jR P r.2.1) ∧ (jK P r.2.1) ∧ (jT P r.2.1))) := by
  obtain ⟨u0_jB, u1_jB, u2_jB, u3_jB, u4_jB, u5_jB⟩ := id p_jB
  obtain ⟨u0_jS, u1_jS, u2_jS, u3_jS, u4_jS, u5_jS, u6_jS, u7_jS⟩ := jS.ints p_jS
  obtain ⟨u0_jT, u1_jT, u2_jT, u3_jT, u4_jT, u5_jT⟩ := id p_jT
  have TL_37 : ∀ u : Nat, ∀ (x2_37 : Int32) (x3_37 : Int32) (x4_37 : Int32) (M_37 : zMt) (N_37 : zNt), (∀ a j, ¬ WM_X8_envies P a j → M_37 a j = M0 a j) → (∀ a j, ¬ WN_X8_envies P a j → N_37 a j = N0 a j) → (jB P M_37) → (jH P M_37) → (jK P M_37) → (jL P M_37) → (jO P M_37) → (jR P M_37) → (jS P M_37) → (jT P M_37) → (0 ≤ Int32.toInt x4_37) → (Int32.toInt x4_37 ≤ 10) → (0 ≤ Int32.toInt x2_37 ∧ Int32.toInt x2_37 < Int32.toInt (M_37 P 33)) → (2147483648 - Int32.toInt x4_37).toNat < u → ∃ r, D_X8_envies_37 P u x2_37 x3_37 x4_37 M_37 N_37 = some r ∧ ((∀ a j, ¬ WM_X8_envies P a j → r.2.1 a j = M0 a j) ∧ (∀ a j, ¬ WN_X8_envies P a j → r.2.2 a j = N0 a j) ∧ ((jB P r.2.1) ∧ (jS P r.2.1) ∧ (jR P r.2.1) ∧ (jK P r.2.1) ∧ (jT P r.2.1))) := by
    intro u
    induction u with
    | zero => intro x2_37 x3_37 x4_37 M_37 N_37 k_37 kn_37 p_jB_37 p_jH_37 p_jK_37 p_jL_37 p_jO_37 p_jR_37 p_jS_37 p_jT_37 f0_37 f1_37 f2_37 hm_37; exact absurd hm_37 (Nat.not_lt_zero _)
    | succ u_37 ih_37 =>
      have T_117 : ∀ (x2_117 : Int32) (x3_117 : Int32) (x4_117 : Int32) (M_117 : zMt) (N_117 : zNt), (∀ a j, ¬ WM_X8_envies P a j → M_117 a j = M0 a j) → (∀ a j, ¬ WN_X8_envies P a j → N_117 a j = N0 a j) → (jB P M_117) → (jH P M_117) → (jK P M_117) → (jL P M_117) → (jO P M_117) → (jR P M_117) → (jS P M_117) → (jT P M_117) → (0 ≤ Int32.toInt x4_117) → (Int32.toInt x4_117 < Int32.toInt (M_117 P 33)) → ((2147483648 - Int32.toInt x4_117).toNat < u_37 + 1) → (Int32.toInt x4_117 < 2147483647) → (0 ≤ Int32.toInt x2_117 ∧ Int32.toInt x2_117 < Int32.toInt (M_117 P 33)) → ∃ r, D_X8_envies_117 P (D_X8_envies_37 P u_37) x2_117 x3_117 x4_117 M_117 N_117 = some r ∧ ((∀ a j, ¬ WM_X8_envies P a j → r.2.1 a j = M0 a j) ∧ (∀ a j, ¬ WN_X8_envies P a j → r.2.2 a j = N0 a j) ∧ ((jB P r.2.1) ∧ (jS P r.2.1) ∧ (jR P r.2.1) ∧ (jK P r.2.1) ∧ (jT P r.2.1))) := by
        intro x2_117 x3_117 x4_117 M_117 N_117 k_117 kn_117 p_jB_117 p_jH_117 p_jK_117 p_jL_117 p_jO_117 p_jR_117 p_jS_117 p_jT_117 f0_117 f1_117 f2_117 f3_117 f4_117
        obtain ⟨u0_jB_117, u1_jB_117, u2_jB_117, u3_jB_117, u4_jB_117, u5_jB_117⟩ := id p_jB_117
        obtain ⟨u0_jS_117, u1_jS_117, u2_jS_117, u3_jS_117, u4_jS_117, u5_jS_117, u6_jS_117, u7_jS_117⟩ := jS.ints p_jS_117
        obtain ⟨u0_jT_117, u1_jT_117, u2_jT_117, u3_jT_117, u4_jT_117, u5_jT_117⟩ := id p_jT_117
        unfold D_X8_envies_117
        exact ih_37 _ _ _ _ _ k_117 kn_117 p_jB_117 p_jH_117 p_jK_117 p_jL_117 p_jO_117 p_jR_117 p_jS_117 p_jT_117 (by first | omega | (simp only [Int32.toInt_add, Int32.toInt_sub, Int32.toInt_mul, Int32.toInt_toInt64, Int64.toInt_add, z_m1, Int32.reduceToInt, Int64.reduceToInt, Int32.reduceToNatClampNeg, Int.bmod_def, or_true, true_or, and_true, true_and] <;> omega)) (by first | omega | (simp only [Int32.toInt_add, Int32.toInt_sub, Int32.toInt_mul, Int32.toInt_toInt64, Int64.toInt_add, z_m1, Int32.reduceToInt, Int64.reduceToInt, Int32.reduceToNatClampNeg, Int.bmod_def, or_true, true_or, and_true, true_and] <;> omega)) (by first | omega | (simp only [Int32.toInt_add, Int32.toInt_sub, Int32.toInt_mul, Int32.toInt_toInt64, Int64.toInt_add, z_m1, Int32.reduceToInt, Int64.reduceToInt, Int32.reduceToNatClampNeg, Int.bmod_def, or_true, true_or, and_true, true_and] <;> omega)) (z_up1 f3_117 f2_117)
      have T_115 : ∀ (x2_115 : Int32) (x4_115 : Int32) (y0_115 : Int32) (y1_115 : Int32) (M_115 : zMt) (N_115 : zNt), (∀ a j, ¬ WM_X8_envies P a j → M_115 a j = M0 a j) → (∀ a j, ¬ WN_X8_envies P a j → N_115 a j = N0 a j) → (jB P M_115) → (jH P M_115) → (jK P M_115) → (jL P M_115) → (jO P M_115) → (jR P M_115) → (jS P M_115) → (jT P M_115) → (0 ≤ Int32.toInt x4_115) → (Int32.toInt x4_115 < Int32.toInt (M_115 P 33)) → ((2147483648 - Int32.toInt x4_115).toNat < u_37 + 1) → (Int32.toInt x4_115 < 2147483647) → (0 ≤ Int32.toInt x2_115 ∧ Int32.toInt x2_115 < Int32.toInt (M_115 P 33)) → ∃ r, D_X8_envies_115 P (D_X8_envies_37 P u_37) x2_115 x4_115 y0_115 y1_115 M_115 N_115 = some r ∧ ((∀ a j, ¬ WM_X8_envies P a j → r.2.1 a j = M0 a j) ∧ (∀ a j, ¬ WN_X8_envies P a j → r.2.2 a j = N0 a j) ∧ ((jB P r.2.1) ∧ (jS P r.2.1) ∧ (jR P r.2.1) ∧ (jK P r.2.1) ∧ (jT P r.2.1))) := by
        intro x2_115 x4_115 y0_115 y1_115 M_115 N_115 k_115 kn_115 p_jB_115 p_jH_115 p_jK_115 p_jL_115 p_jO_115 p_jR_115 p_jS_115 p_jT_115 f0_115 f1_115 f2_115 f3_115 f4_115
        obtain ⟨u0_jB_115, u1_jB_115, u2_jB_115, u3_jB_115, u4_jB_115, u5_jB_115⟩ := id p_jB_115
        obtain ⟨u0_jS_115, u1_jS_115, u2_jS_115, u3_jS_115, u4_jS_115, u5_jS_115, u6_jS_115, u7_jS_115⟩ := jS.ints p_jS_115
        obtain ⟨u0_jT_115, u1_jT_115, u2_jT_115, u3_jT_115, u4_jT_115, u5_jT_115⟩ := id p_jT_115
        unfold D_X8_envies_115
        exact T_117 _ _ _ _ _ k_115 kn_115 p_jB_115 p_jH_115 p_jK_115 p_jL_115 p_jO_115 p_jR_115 p_jS_115 p_jT_115 (by first | omega | (simp only [Int32.toInt_add, Int32.toInt_sub, Int32.toInt_mul, Int32.toInt_toInt64, Int64.toInt_add, z_m1, Int32.reduceToInt, Int64.reduceToInt, Int32.reduceToNatClampNeg, Int.bmod_def, or_true, true_or, and_true, true_and] <;> omega)) (by first | omega | (simp only [Int32.toInt_add, Int32.toInt_sub, Int32.toInt_mul, Int32.toInt_toInt64, Int64.toInt_add, z_m1, Int32.reduceToInt, Int64.reduceToInt, Int32.reduceToNatClampNeg, Int.bmod_def, or_true, true_or, and_true, true_and] <;> omega)) f2_115 f3_115 (by first | omega | (simp only [Int32.toInt_add, Int32.toInt_sub, Int32.toInt_mul, Int32.toInt_toInt64, Int64.toInt_add, z_m1, Int32.reduceToInt, Int64.reduceToInt, Int32.reduceToNatClampNeg, Int.bmod_def, or_true, true_or, and_true, true_and] <;> omega))
      have T_114 : ∀ (x2_114 : Int32) (x4_114 : Int32) (y0_114 : Int32) (M_114 : zMt) (N_114 : zNt), (∀ a j, ¬ WM_X8_envies P a j → M_114 a j = M0 a j) → (∀ a j, ¬ WN_X8_envies P a j → N_114 a j = N0 a j) → (jB P M_114) → (jH P M_114) → (jK P M_114) → (jL P M_114) → (jO P M_114) → (jR P M_114) → (jS P M_114) → (jT P M_114) → (0 ≤ Int32.toInt x4_114) → (Int32.toInt x4_114 < Int32.toInt (M_114 P 33)) → ((2147483648 - Int32.toInt x4_114).toNat < u_37 + 1) → (Int32.toInt x4_114 < 2147483647) → (0 ≤ Int32.toInt x2_114 ∧ Int32.toInt x2_114 < Int32.toInt (M_114 P 33)) → ∃ r, D_X8_envies_114 P (D_X8_envies_37 P u_37) x2_114 x4_114 y0_114 M_114 N_114 = some r ∧ ((∀ a j, ¬ WM_X8_envies P a j → r.2.1 a j = M0 a j) ∧ (∀ a j, ¬ WN_X8_envies P a j → r.2.2 a j = N0 a j) ∧ ((jB P r.2.1) ∧ (jS P r.2.1) ∧ (jR P r.2.1) ∧ (jK P r.2.1) ∧ (jT P r.2.1))) := by
        intro x2_114 x4_114 y0_114 M_114 N_114 k_114 kn_114 p_jB_114 p_jH_114 p_jK_114 p_jL_114 p_jO_114 p_jR_114 p_jS_114 p_jT_114 f0_114 f1_114 f2_114 f3_114 f4_114
        obtain ⟨u0_jB_114, u1_jB_114, u2_jB_114, u3_jB_114, u4_jB_114, u5_jB_114⟩ := id p_jB_114
        obtain ⟨u0_jS_114, u1_jS_114, u2_jS_114, u3_jS_114, u4_jS_114, u5_jS_114, u6_jS_114, u7_jS_114⟩ := jS.ints p_jS_114
        obtain ⟨u0_jT_114, u1_jT_114, u2_jT_114, u3_jT_114, u4_jT_114, u5_jT_114⟩ := id p_jT_114
        unfold D_X8_envies_114
        exact T_115 _ _ _ _ _ _ k_114 kn_114 p_jB_114 p_jH_114 p_jK_114 p_jL_114 p_jO_114 p_jR_114 p_jS_114 p_jT_114 (by first | omega | (simp only [Int32.toInt_add, Int32.toInt_sub, Int32.toInt_mul, Int32.toInt_toInt64, Int64.toInt_add, z_m1, Int32.reduceToInt, Int64.reduceToInt, Int32.reduceToNatClampNeg, Int.bmod_def, or_true, true_or, and_true, true_and] <;> omega)) (by first | omega | (simp only [Int32.toInt_add, Int32.toInt_sub, Int32.toInt_mul, Int32.toInt_toInt64, Int64.toInt_add, z_m1, Int32.reduceToInt, Int64.reduceToInt, Int32.reduceToNatClampNeg, Int.bmod_def, or_true, true_or, and_true, true_and] <;> omega)) f2_114 f3_114 (by first | omega | (simp only [Int32.toInt_add, Int32.toInt_sub, Int32.toInt_mul, Int32.toInt_toInt64, Int64.toInt_add, z_m1, Int32.reduceToInt, Int64.reduceToInt, Int32.reduceToNatClampNeg, Int.bmod_def, or_true, true_or, and_true, true_and] <;> omega))
      intro x2_37 x3_37 x4_37 M_37 N_37 k_37 kn_37 p_jB_37 p_jH_37 p_jK_37 p_jL_37 p_jO_37 p_jR_37 p_jS_37 p_jT_37 f0_37 f1_37 f2_37 hm_37
      obtain ⟨u0_jB_37, u1_jB_37, u2_jB_37, u3_jB_37, u4_jB_37, u5_jB_37⟩ := id p_jB_37
      obtain ⟨u0_jS_37, u1_jS_37, u2_jS_37, u3_jS_37, u4_jS_37, u5_jS_37, u6_jS_37, u7_jS_37⟩ := jS.ints p_jS_37
      obtain ⟨u0_jT_37, u1_jT_37, u2_jT_37, u3_jT_37, u4_jT_37, u5_jT_37⟩ := id p_jT_37
      rw [D_X8_envies_37]
      refine vIf (fun h_43 => ?_) (fun h_43 => ?_)
      · have i_43 := Int32.le_iff_toInt_le.mp h_43
        (try simp only [Int32.toInt_add, Int32.toInt_sub, Int32.toInt_mul, Int32.toInt_toInt64, Int64.toInt_add, z_m1, Int32.reduceToInt, Int64.reduceToInt, Int32.reduceToNatClampNeg, Int.bmod_def] at i_43)
        refine vB (v_X8_gives) (fun e_125 f_125 q_125 => ?_)
        have k_125 : ∀ a j, ¬ WM_X8_envies P a j → e_125.2 a j = M0 a j := fun a j h => (q_125 a j (wz_M_X8_gives_X8_envies h)).trans (k_37 a j h)
        have c7_125 : Int32.toInt (e_125.2 P 7) = Int32.toInt (M_37 P 7) := congrArg Int32.toInt (q_125 P 7 (wc_X8_gives_7))
        have c8_125 : Int32.toInt (e_125.2 P 8) = Int32.toInt (M_37 P 8) := congrArg Int32.toInt (q_125 P 8 (wc_X8_gives_8))
        have c33_125 : Int32.toInt (e_125.2 P 33) = Int32.toInt (M_37 P 33) := congrArg Int32.toInt (q_125 P 33 (wc_X8_gives_33))
        have n_125 : nA P e_125.2 = nA P M_37 := nA_congr (fun a j h => q_125 a j (wf_nA_X8_gives h))
        have p_jB_125 : jB P e_125.2 := jB.mono p_jB_37 (fun a j h => q_125 a j (wf_jB_X8_gives h))
        obtain ⟨u0_jB_125, u1_jB_125, u2_jB_125, u3_jB_125, u4_jB_125, u5_jB_125⟩ := id p_jB_125
        have p_jH_125 : jH P e_125.2 := jH.mono p_jH_37 (fun a j h => q_125 a j (wf_jH_X8_gives h))
        have p_jK_125 : jK P e_125.2 := jK.mono p_jK_37 (fun a j h => q_125 a j (wf_jK_X8_gives h))
        have p_jL_125 : jL P e_125.2 := jL.mono p_jL_37 (fun a j h => q_125 a j (wf_jL_X8_gives h))
        have p_jO_125 : jO P e_125.2 := jO.mono p_jO_37 (fun a j h => q_125 a j (wf_jO_X8_gives h))
        have p_jR_125 : jR P e_125.2 := jR.mono p_jR_37 (fun a j h => q_125 a j (wf_jR_X8_gives h))
        have p_jS_125 : jS P e_125.2 := jS.mono p_jS_37 (fun a j h => q_125 a j (wf_jS_X8_gives h))
        obtain ⟨u0_jS_125, u1_jS_125, u2_jS_125, u3_jS_125, u4_jS_125, u5_jS_125, u6_jS_125, u7_jS_125⟩ := jS.ints p_jS_125
        have p_jT_125 : jT P e_125.2 := jT.mono p_jT_37 (fun a j h => q_125 a j (wf_jT_X8_gives h))
        obtain ⟨u0_jT_125, u1_jT_125, u2_jT_125, u3_jT_125, u4_jT_125, u5_jT_125⟩ := id p_jT_125
        exact ⟨_, rfl, k_125, kn_37, ⟨p_jB_125, p_jS_125, p_jR_125, p_jK_125, p_jT_125⟩⟩
      · have i_43 := Int32.lt_iff_toInt_lt.mp (Int32.not_le.mp h_43)
        (try simp only [Int32.toInt_add, Int32.toInt_sub, Int32.toInt_mul, Int32.toInt_toInt64, Int64.toInt_add, z_m1, Int32.reduceToInt, Int64.reduceToInt, Int32.reduceToNatClampNeg, Int.bmod_def] at i_43)
        refine vI (vp_of (by first | omega | (simp only [Int32.toInt_add, Int32.toInt_sub, Int32.toInt_mul, Int32.toInt_toInt64, Int64.toInt_add, z_m1, Int32.reduceToInt, Int64.reduceToInt, Int32.reduceToNatClampNeg, Int.bmod_def, or_true, true_or, and_true, true_and] <;> omega)) (by first | omega | (simp only [Int32.toInt_add, Int32.toInt_sub, Int32.toInt_mul, Int32.toInt_toInt64, Int64.toInt_add, z_m1, Int32.reduceToInt, Int64.reduceToInt, Int32.reduceToNatClampNeg, Int.bmod_def, or_true, true_or, and_true, true_and] <;> omega))) ?_
        obtain ⟨w0_52, w1_52⟩ := jR.el p_jR_37 (x := x4_37) (by first | omega | (simp only [Int32.toInt_add, Int32.toInt_sub, Int32.toInt_mul, Int32.toInt_toInt64, Int64.toInt_add, z_m1, Int32.reduceToInt, Int64.reduceToInt, Int32.reduceToNatClampNeg, Int.bmod_def, or_true, true_or, and_true, true_and] <;> omega)) (by first | omega | (simp only [Int32.toInt_add, Int32.toInt_sub, Int32.toInt_mul, Int32.toInt_toInt64, Int64.toInt_add, z_m1, Int32.reduceToInt, Int64.reduceToInt, Int32.reduceToNatClampNeg, Int.bmod_def, or_true, true_or, and_true, true_and] <;> omega))
        refine vIf (fun h_54 => ?_) (fun h_54 => ?_)
        · have i_54 := congrArg Int32.toInt h_54
          (try simp only [Int32.toInt_add, Int32.toInt_sub, Int32.toInt_mul, Int32.toInt_toInt64, Int64.toInt_add, z_m1, Int32.reduceToInt, Int64.reduceToInt, Int32.reduceToNatClampNeg, Int.bmod_def] at i_54)
          exact T_117 _ _ _ _ _ k_37 kn_37 p_jB_37 p_jH_37 p_jK_37 p_jL_37 p_jO_37 p_jR_37 p_jS_37 p_jT_37 (by first | omega | (simp only [Int32.toInt_add, Int32.toInt_sub, Int32.toInt_mul, Int32.toInt_toInt64, Int64.toInt_add, z_m1, Int32.reduceToInt, Int64.reduceToInt, Int32.reduceToNatClampNeg, Int.bmod_def, or_true, true_or, and_true, true_and] <;> omega)) (by first | omega | (simp only [Int32.toInt_add, Int32.toInt_sub, Int32.toInt_mul, Int32.toInt_toInt64, Int64.toInt_add, z_m1, Int32.reduceToInt, Int64.reduceToInt, Int32.reduceToNatClampNeg, Int.bmod_def, or_true, true_or, and_true, true_and] <;> omega)) hm_37 (by first | assumption | exact z_lt (by assumption) | exact z_lt2 (by assumption) | exact z_lt3 (by assumption) (by first | assumption | decide)) (by first | omega | (simp only [Int32.toInt_add, Int32.toInt_sub, Int32.toInt_mul, Int32.toInt_toInt64, Int64.toInt_add, z_m1, Int32.reduceToInt, Int64.reduceToInt, Int32.reduceToNatClampNeg, Int.bmod_def, or_true, true_or, and_true, true_and] <;> omega))
        · have i_54 : ¬ Int32.toInt (M_37 (P + 19) x4_37.toNatClampNeg) = Int32.toInt (-1 : Int32) := fun q => h_54 (Int32.toInt_inj.mp q)
          (try simp only [Int32.toInt_add, Int32.toInt_sub, Int32.toInt_mul, Int32.toInt_toInt64, Int64.toInt_add, z_m1, Int32.reduceToInt, Int64.reduceToInt, Int32.reduceToNatClampNeg, Int.bmod_def] at i_54)
          refine vI (vp_of (by first | omega | (simp only [Int32.toInt_add, Int32.toInt_sub, Int32.toInt_mul, Int32.toInt_toInt64, Int64.toInt_add, z_m1, Int32.reduceToInt, Int64.reduceToInt, Int32.reduceToNatClampNeg, Int.bmod_def, or_true, true_or, and_true, true_and] <;> omega)) (by first | omega | (simp only [Int32.toInt_add, Int32.toInt_sub, Int32.toInt_mul, Int32.toInt_toInt64, Int64.toInt_add, z_m1, Int32.reduceToInt, Int64.reduceToInt, Int32.reduceToNatClampNeg, Int.bmod_def, or_true, true_or, and_true, true_and] <;> omega))) ?_
          refine vI (vp_of (by first | omega | (simp only [Int32.toInt_add, Int32.toInt_sub, Int32.toInt_mul, Int32.toInt_toInt64, Int64.toInt_add, z_m1, Int32.reduceToInt, Int64.reduceToInt, Int32.reduceToNatClampNeg, Int.bmod_def, or_true, true_or, and_true, true_and] <;> omega)) (by first | omega | (simp only [Int32.toInt_add, Int32.toInt_sub, Int32.toInt_mul, Int32.toInt_toInt64, Int64.toInt_add, z_m1, Int32.reduceToInt, Int64.reduceToInt, Int32.reduceToNatClampNeg, Int.bmod_def, or_true, true_or, and_true, true_and] <;> omega))) ?_
          refine vIf (fun h_70 => ?_) (fun h_70 => ?_)
          · have i_70 := Int32.lt_iff_toInt_lt.mp h_70
            (try simp only [Int32.toInt_add, Int32.toInt_sub, Int32.toInt_mul, Int32.toInt_toInt64, Int64.toInt_add, z_m1, Int32.reduceToInt, Int64.reduceToInt, Int32.reduceToNatClampNeg, Int.bmod_def] at i_70)
            refine vI (vp_of (by first | omega | (simp only [Int32.toInt_add, Int32.toInt_sub, Int32.toInt_mul, Int32.toInt_toInt64, Int64.toInt_add, z_m1, Int32.reduceToInt, Int64.reduceToInt, Int32.reduceToNatClampNeg, Int.bmod_def, or_true, true_or, and_true, true_and] <;> omega)) (by first | omega | (simp only [Int32.toInt_add, Int32.toInt_sub, Int32.toInt_mul, Int32.toInt_toInt64, Int64.toInt_add, z_m1, Int32.reduceToInt, Int64.reduceToInt, Int32.reduceToNatClampNeg, Int.bmod_def, or_true, true_or, and_true, true_and] <;> omega))) ?_
            obtain ⟨w0_84, w1_84⟩ := jR.el p_jR_37 (x := x4_37) (by first | omega | (simp only [Int32.toInt_add, Int32.toInt_sub, Int32.toInt_mul, Int32.toInt_toInt64, Int64.toInt_add, z_m1, Int32.reduceToInt, Int64.reduceToInt, Int32.reduceToNatClampNeg, Int.bmod_def, or_true, true_or, and_true, true_and] <;> omega)) (by first | omega | (simp only [Int32.toInt_add, Int32.toInt_sub, Int32.toInt_mul, Int32.toInt_toInt64, Int64.toInt_add, z_m1, Int32.reduceToInt, Int64.reduceToInt, Int32.reduceToNatClampNeg, Int.bmod_def, or_true, true_or, and_true, true_and] <;> omega))
            refine vB (v_X8_placeOf p_jB_37 p_jS_37 p_jL_37 (by first | omega | (simp only [Int32.toInt_add, Int32.toInt_sub, Int32.toInt_mul, Int32.toInt_toInt64, Int64.toInt_add, z_m1, Int32.reduceToInt, Int64.reduceToInt, Int32.reduceToNatClampNeg, Int.bmod_def, or_true, true_or, and_true, true_and] <;> omega)) (by first | omega | (simp only [Int32.toInt_add, Int32.toInt_sub, Int32.toInt_mul, Int32.toInt_toInt64, Int64.toInt_add, z_m1, Int32.reduceToInt, Int64.reduceToInt, Int32.reduceToNatClampNeg, Int.bmod_def, or_true, true_or, and_true, true_and] <;> omega))) (fun e_85 f_85 q_85 => ?_)
            obtain ⟨x0_85, x1_85⟩ := q_85
            (try simp only [Int32.toInt_add, Int32.toInt_sub, Int32.toInt_mul, Int32.toInt_toInt64, Int64.toInt_add, z_m1, Int32.reduceToInt, Int64.reduceToInt, Int32.reduceToNatClampNeg, Int.bmod_def] at x0_85)
            (try simp only [Int32.toInt_add, Int32.toInt_sub, Int32.toInt_mul, Int32.toInt_toInt64, Int64.toInt_add, z_m1, Int32.reduceToInt, Int64.reduceToInt, Int32.reduceToNatClampNeg, Int.bmod_def] at x1_85)
            refine vIf (fun h_94 => ?_) (fun h_94 => ?_)
            · have i_94 := congrArg Int32.toInt h_94
              (try simp only [Int32.toInt_add, Int32.toInt_sub, Int32.toInt_mul, Int32.toInt_toInt64, Int64.toInt_add, z_m1, Int32.reduceToInt, Int64.reduceToInt, Int32.reduceToNatClampNeg, Int.bmod_def] at i_94)
              exact T_114 _ _ _ _ _ k_37 kn_37 p_jB_37 p_jH_37 p_jK_37 p_jL_37 p_jO_37 p_jR_37 p_jS_37 p_jT_37 (by first | omega | (simp only [Int32.toInt_add, Int32.toInt_sub, Int32.toInt_mul, Int32.toInt_toInt64, Int64.toInt_add, z_m1, Int32.reduceToInt, Int64.reduceToInt, Int32.reduceToNatClampNeg, Int.bmod_def, or_true, true_or, and_true, true_and] <;> omega)) (by first | omega | (simp only [Int32.toInt_add, Int32.toInt_sub, Int32.toInt_mul, Int32.toInt_toInt64, Int64.toInt_add, z_m1, Int32.reduceToInt, Int64.reduceToInt, Int32.reduceToNatClampNeg, Int.bmod_def, or_true, true_or, and_true, true_and] <;> omega)) hm_37 (by first | assumption | exact z_lt (by assumption) | exact z_lt2 (by assumption) | exact z_lt3 (by assumption) (by first | assumption | decide)) (by first | omega | (simp only [Int32.toInt_add, Int32.toInt_sub, Int32.toInt_mul, Int32.toInt_toInt64, Int64.toInt_add, z_m1, Int32.reduceToInt, Int64.reduceToInt, Int32.reduceToNatClampNeg, Int.bmod_def, or_true, true_or, and_true, true_and] <;> omega))
            · have i_94 : ¬ Int32.toInt e_85 = Int32.toInt (-1 : Int32) := fun q => h_94 (Int32.toInt_inj.mp q)
              (try simp only [Int32.toInt_add, Int32.toInt_sub, Int32.toInt_mul, Int32.toInt_toInt64, Int64.toInt_add, z_m1, Int32.reduceToInt, Int64.reduceToInt, Int32.reduceToNatClampNeg, Int.bmod_def] at i_94)
              refine vB (v_X8_placeNow p_jB_37 p_jS_37 p_jL_37 p_jR_37 (by first | omega | (simp only [Int32.toInt_add, Int32.toInt_sub, Int32.toInt_mul, Int32.toInt_toInt64, Int64.toInt_add, z_m1, Int32.reduceToInt, Int64.reduceToInt, Int32.reduceToNatClampNeg, Int.bmod_def, or_true, true_or, and_true, true_and] <;> omega)) (by first | omega | (simp only [Int32.toInt_add, Int32.toInt_sub, Int32.toInt_mul, Int32.toInt_toInt64, Int64.toInt_add, z_m1, Int32.reduceToInt, Int64.reduceToInt, Int32.reduceToNatClampNeg, Int.bmod_def, or_true, true_or, and_true, true_and] <;> omega))) (fun e_101 f_101 q_101 => ?_)
              obtain ⟨x0_101, x1_101⟩ := q_101
              (try simp only [Int32.toInt_add, Int32.toInt_sub, Int32.toInt_mul, Int32.toInt_toInt64, Int64.toInt_add, z_m1, Int32.reduceToInt, Int64.reduceToInt, Int32.reduceToNatClampNeg, Int.bmod_def] at x0_101)
              (try simp only [Int32.toInt_add, Int32.toInt_sub, Int32.toInt_mul, Int32.toInt_toInt64, Int64.toInt_add, z_m1, Int32.reduceToInt, Int64.reduceToInt, Int32.reduceToNatClampNeg, Int.bmod_def] at x1_101)
              refine vIf (fun h_104 => ?_) (fun h_104 => ?_)
              · have i_104 := Int32.le_iff_toInt_le.mp h_104
                (try simp only [Int32.toInt_add, Int32.toInt_sub, Int32.toInt_mul, Int32.toInt_toInt64, Int64.toInt_add, z_m1, Int32.reduceToInt, Int64.reduceToInt, Int32.reduceToNatClampNeg, Int.bmod_def] at i_104)
                exact T_114 _ _ _ _ _ k_37 kn_37 p_jB_37 p_jH_37 p_jK_37 p_jL_37 p_jO_37 p_jR_37 p_jS_37 p_jT_37 (by first | omega | (simp only [Int32.toInt_add, Int32.toInt_sub, Int32.toInt_mul, Int32.toInt_toInt64, Int64.toInt_add, z_m1, Int32.reduceToInt, Int64.reduceToInt, Int32.reduceToNatClampNeg, Int.bmod_def, or_true, true_or, and_true, true_and] <;> omega)) (by first | omega | (simp only [Int32.toInt_add, Int32.toInt_sub, Int32.toInt_mul, Int32.toInt_toInt64, Int64.toInt_add, z_m1, Int32.reduceToInt, Int64.reduceToInt, Int32.reduceToNatClampNeg, Int.bmod_def, or_true, true_or, and_true, true_and] <;> omega)) hm_37 (by first | assumption | exact z_lt (by assumption) | exact z_lt2 (by assumption) | exact z_lt3 (by assumption) (by first | assumption | decide)) (by first | omega | (simp only [Int32.toInt_add, Int32.toInt_sub, Int32.toInt_mul, Int32.toInt_toInt64, Int64.toInt_add, z_m1, Int32.reduceToInt, Int64.reduceToInt, Int32.reduceToNatClampNeg, Int.bmod_def, or_true, true_or, and_true, true_and] <;> omega))
              · have i_104 := Int32.lt_iff_toInt_lt.mp (Int32.not_le.mp h_104)
                (try simp only [Int32.toInt_add, Int32.toInt_sub, Int32.toInt_mul, Int32.toInt_toInt64, Int64.toInt_add, z_m1, Int32.reduceToInt, Int64.reduceToInt, Int32.reduceToNatClampNeg, Int.bmod_def] at i_104)
                exact T_115 _ _ _ _ _ _ k_37 kn_37 p_jB_37 p_jH_37 p_jK_37 p_jL_37 p_jO_37 p_jR_37 p_jS_37 p_jT_37 (by first | omega | (simp only [Int32.toInt_add, Int32.toInt_sub, Int32.toInt_mul, Int32.toInt_toInt64, Int64.toInt_add, z_m1, Int32.reduceToInt, Int64.reduceToInt, Int32.reduceToNatClampNeg, Int.bmod_def, or_true, true_or, and_true, true_and] <;> omega)) (by first | omega | (simp only [Int32.toInt_add, Int32.toInt_sub, Int32.toInt_mul, Int32.toInt_toInt64, Int64.toInt_add, z_m1, Int32.reduceToInt, Int64.reduceToInt, Int32.reduceToNatClampNeg, Int.bmod_def, or_true, true_or, and_true, true_and] <;> omega)) hm_37 (by first | assumption | exact z_lt (by assumption) | exact z_lt2 (by assumption) | exact z_lt3 (by assumption) (by first | assumption | decide)) (by first | omega | (simp only [Int32.toInt_add, Int32.toInt_sub, Int32.toInt_mul, Int32.toInt_toInt64, Int64.toInt_add, z_m1, Int32.reduceToInt, Int64.reduceToInt, Int32.reduceToNatClampNeg, Int.bmod_def, or_true, true_or, and_true, true_and] <;> omega))
          · have i_70 := Int32.le_iff_toInt_le.mp (Int32.not_lt.mp h_70)
            (try simp only [Int32.toInt_add, Int32.toInt_sub, Int32.toInt_mul, Int32.toInt_toInt64, Int64.toInt_add, z_m1, Int32.reduceToInt, Int64.reduceToInt, Int32.reduceToNatClampNeg, Int.bmod_def] at i_70)
            exact T_117 _ _ _ _ _ k_37 kn_37 p_jB_37 p_jH_37 p_jK_37 p_jL_37 p_jO_37 p_jR_37 p_jS_37 p_jT_37 (by first | omega | (simp only [Int32.toInt_add, Int32.toInt_sub, Int32.toInt_mul, Int32.toInt_toInt64, Int64.toInt_add, z_m1, Int32.reduceToInt, Int64.reduceToInt, Int32.reduceToNatClampNeg, Int.bmod_def, or_true, true_or, and_true, true_and] <;> omega)) (by first | omega | (simp only [Int32.toInt_add, Int32.toInt_sub, Int32.toInt_mul, Int32.toInt_toInt64, Int64.toInt_add, z_m1, Int32.reduceToInt, Int64.reduceToInt, Int32.reduceToNatClampNeg, Int.bmod_def, or_true, true_or, and_true, true_and] <;> omega)) hm_37 (by first | assumption | exact z_lt (by assumption) | exact z_lt2 (by assumption) | exact z_lt3 (by assumption) (by first | assumption | decide)) (by first | omega | (simp only [Int32.toInt_add, Int32.toInt_sub, Int32.toInt_mul, Int32.toInt_toInt64, Int64.toInt_add, z_m1, Int32.reduceToInt, Int64.reduceToInt, Int32.reduceToNatClampNeg, Int.bmod_def, or_true, true_or, and_true, true_and] <;> omega))
  have T_37 : ∀ (x2_37 : Int32) (x3_37 : Int32) (x4_37 : Int32) (M_37 : zMt) (N_37 : zNt), (∀ a j, ¬ WM_X8_envies P a j → M_37 a j = M0 a j) → (∀ a j, ¬ WN_X8_envies P a j → N_37 a j = N0 a j) → (jB P M_37) → (jH P M_37) → (jK P M_37) → (jL P M_37) → (jO P M_37) → (jR P M_37) → (jS P M_37) → (jT P M_37) → (0 ≤ Int32.toInt x4_37) → (Int32.toInt x4_37 ≤ 10) → (0 ≤ Int32.toInt x2_37 ∧ Int32.toInt x2_37 < Int32.toInt (M_37 P 33)) → ∃ r, D_X8_envies_37 P zFu x2_37 x3_37 x4_37 M_37 N_37 = some r ∧ ((∀ a j, ¬ WM_X8_envies P a j → r.2.1 a j = M0 a j) ∧ (∀ a j, ¬ WN_X8_envies P a j → r.2.2 a j = N0 a j) ∧ ((jB P r.2.1) ∧ (jS P r.2.1) ∧ (jR P r.2.1) ∧ (jK P r.2.1) ∧ (jT P r.2.1))) := fun x2_37 x3_37 x4_37 M_37 N_37 k_37 kn_37 p_jB_37 p_jH_37 p_jK_37 p_jL_37 p_jO_37 p_jR_37 p_jS_37 p_jT_37 f0_37 f1_37 f2_37 => TL_37 zFu x2_37 x3_37 x4_37 M_37 N_37 k_37 kn_37 p_jB_37 p_jH_37 p_jK_37 p_jL_37 p_jO_37 p_jR_37 p_jS_37 p_jT_37 f0_37 f1_37 f2_37 (zFu_up _)
  unfold D_X8_envies
  refine vB (v_X8_isSeed) (fun e_1 f_1 q_1 => ?_)
  have b_1 := q_1.1
  have x0_1 := q_1.2
  (try simp only [Int32.toInt_add, Int32.toInt_sub, Int32.toInt_mul, Int32.toInt_toInt64, Int64.toInt_add, z_m1, Int32.reduceToInt, Int64.reduceToInt, Int32.reduceToNatClampNeg, Int.bmod_def] at x0_1)
  refine vIf (fun h_4 => ?_) (fun h_4 => ?_)
  · have i_4 := congrArg Int32.toInt h_4
    (try simp only [Int32.toInt_add, Int32.toInt_sub, Int32.toInt_mul, Int32.toInt_toInt64, Int64.toInt_add, z_m1, Int32.reduceToInt, Int64.reduceToInt, Int32.reduceToNatClampNeg, Int.bmod_def] at i_4)
    refine vB (v_X8_refuse) (fun e_9 f_9 q_9 => ?_)
    have k_9 : ∀ a j, ¬ WM_X8_envies P a j → e_9.2 a j = M0 a j := fun a j h => (q_9 a j (wz_M_X8_refuse_X8_envies h))
    have c7_9 : Int32.toInt (e_9.2 P 7) = Int32.toInt (M0 P 7) := congrArg Int32.toInt (q_9 P 7 (wc_X8_refuse_7))
    have c8_9 : Int32.toInt (e_9.2 P 8) = Int32.toInt (M0 P 8) := congrArg Int32.toInt (q_9 P 8 (wc_X8_refuse_8))
    have c33_9 : Int32.toInt (e_9.2 P 33) = Int32.toInt (M0 P 33) := congrArg Int32.toInt (q_9 P 33 (wc_X8_refuse_33))
    have n_9 : nA P e_9.2 = nA P M0 := nA_congr (fun a j h => q_9 a j (wf_nA_X8_refuse h))
    have p_jB_9 : jB P e_9.2 := jB.mono p_jB (fun a j h => q_9 a j (wf_jB_X8_refuse h))
    obtain ⟨u0_jB_9, u1_jB_9, u2_jB_9, u3_jB_9, u4_jB_9, u5_jB_9⟩ := id p_jB_9
    have p_jS_9 : jS P e_9.2 := jS.mono p_jS (fun a j h => q_9 a j (wf_jS_X8_refuse h))
    obtain ⟨u0_jS_9, u1_jS_9, u2_jS_9, u3_jS_9, u4_jS_9, u5_jS_9, u6_jS_9, u7_jS_9⟩ := jS.ints p_jS_9
    have p_jR_9 : jR P e_9.2 := jR.mono p_jR (fun a j h => q_9 a j (wf_jR_X8_refuse h))
    have p_jK_9 : jK P e_9.2 := jK.mono p_jK (fun a j h => q_9 a j (wf_jK_X8_refuse h))
    have p_jT_9 : jT P e_9.2 := jT.mono p_jT (fun a j h => q_9 a j (wf_jT_X8_refuse h))
    obtain ⟨u0_jT_9, u1_jT_9, u2_jT_9, u3_jT_9, u4_jT_9, u5_jT_9⟩ := id p_jT_9
    exact ⟨_, rfl, k_9, (fun _ _ _ => rfl), ⟨p_jB_9, p_jS_9, p_jR_9, p_jK_9, p_jT_9⟩⟩
  · have i_4 : ¬ Int32.toInt e_1 = Int32.toInt (0 : Int32) := fun q => h_4 (Int32.toInt_inj.mp q)
    (try simp only [Int32.toInt_add, Int32.toInt_sub, Int32.toInt_mul, Int32.toInt_toInt64, Int64.toInt_add, z_m1, Int32.reduceToInt, Int64.reduceToInt, Int32.reduceToNatClampNeg, Int.bmod_def] at i_4)
    refine vB (v_X8_isApplicant p_jB p_jS) (fun e_15 f_15 q_15 => ?_)
    have k_15 : ∀ a j, ¬ WM_X8_envies P a j → e_15.2 a j = M0 a j := fun a j h => (q_15.1 a j (wz_M_X8_isApplicant_X8_envies h))
    have b_15 := q_15.2.1
    have c7_15 : Int32.toInt (e_15.2 P 7) = Int32.toInt (M0 P 7) := congrArg Int32.toInt (q_15.1 P 7 (wc_X8_isApplicant_7))
    have c8_15 : Int32.toInt (e_15.2 P 8) = Int32.toInt (M0 P 8) := congrArg Int32.toInt (q_15.1 P 8 (wc_X8_isApplicant_8))
    have n_15 : nA P e_15.2 = nA P M0 := nA_congr (fun a j h => q_15.1 a j (wf_nA_X8_isApplicant h))
    have p_jS_15 : jS P e_15.2 := jS.mono p_jS (fun a j h => q_15.1 a j (wf_jS_X8_isApplicant h))
    obtain ⟨u0_jS_15, u1_jS_15, u2_jS_15, u3_jS_15, u4_jS_15, u5_jS_15, u6_jS_15, u7_jS_15⟩ := jS.ints p_jS_15
    have p_jR_15 : jR P e_15.2 := jR.mono p_jR (fun a j h => q_15.1 a j (wf_jR_X8_isApplicant h))
    have p_jK_15 : jK P e_15.2 := jK.mono p_jK (fun a j h => q_15.1 a j (wf_jK_X8_isApplicant h))
    have p_jT_15 : jT P e_15.2 := jT.mono p_jT (fun a j h => q_15.1 a j (wf_jT_X8_isApplicant h))
    obtain ⟨u0_jT_15, u1_jT_15, u2_jT_15, u3_jT_15, u4_jT_15, u5_jT_15⟩ := id p_jT_15
    obtain ⟨x0_15, x1_15, x2_15, x3_15, x4_15⟩ := q_15.2.2
    obtain ⟨u0_jB_15, u1_jB_15, u2_jB_15, u3_jB_15, u4_jB_15, u5_jB_15⟩ := id x0_15
    (try simp only [Int32.toInt_add, Int32.toInt_sub, Int32.toInt_mul, Int32.toInt_toInt64, Int64.toInt_add, z_m1, Int32.reduceToInt, Int64.reduceToInt, Int32.reduceToNatClampNeg, Int.bmod_def] at x3_15)
    (try simp only [Int32.toInt_add, Int32.toInt_sub, Int32.toInt_mul, Int32.toInt_toInt64, Int64.toInt_add, z_m1, Int32.reduceToInt, Int64.reduceToInt, Int32.reduceToNatClampNeg, Int.bmod_def] at x4_15)
    refine vIf (fun h_18 => ?_) (fun h_18 => ?_)
    · have i_18 := congrArg Int32.toInt h_18
      (try simp only [Int32.toInt_add, Int32.toInt_sub, Int32.toInt_mul, Int32.toInt_toInt64, Int64.toInt_add, z_m1, Int32.reduceToInt, Int64.reduceToInt, Int32.reduceToNatClampNeg, Int.bmod_def] at i_18)
      refine vB (v_X8_refuse) (fun e_23 f_23 q_23 => ?_)
      have k_23 : ∀ a j, ¬ WM_X8_envies P a j → e_23.2 a j = M0 a j := fun a j h => (q_23 a j (wz_M_X8_refuse_X8_envies h)).trans (k_15 a j h)
      have c7_23 : Int32.toInt (e_23.2 P 7) = Int32.toInt (e_15.2 P 7) := congrArg Int32.toInt (q_23 P 7 (wc_X8_refuse_7))
      have c8_23 : Int32.toInt (e_23.2 P 8) = Int32.toInt (e_15.2 P 8) := congrArg Int32.toInt (q_23 P 8 (wc_X8_refuse_8))
      have c33_23 : Int32.toInt (e_23.2 P 33) = Int32.toInt (e_15.2 P 33) := congrArg Int32.toInt (q_23 P 33 (wc_X8_refuse_33))
      have n_23 : nA P e_23.2 = nA P e_15.2 := nA_congr (fun a j h => q_23 a j (wf_nA_X8_refuse h))
      have p_jS_23 : jS P e_23.2 := jS.mono p_jS_15 (fun a j h => q_23 a j (wf_jS_X8_refuse h))
      obtain ⟨u0_jS_23, u1_jS_23, u2_jS_23, u3_jS_23, u4_jS_23, u5_jS_23, u6_jS_23, u7_jS_23⟩ := jS.ints p_jS_23
      have p_jR_23 : jR P e_23.2 := jR.mono p_jR_15 (fun a j h => q_23 a j (wf_jR_X8_refuse h))
      have p_jK_23 : jK P e_23.2 := jK.mono p_jK_15 (fun a j h => q_23 a j (wf_jK_X8_refuse h))
      have p_jT_23 : jT P e_23.2 := jT.mono p_jT_15 (fun a j h => q_23 a j (wf_jT_X8_refuse h))
      obtain ⟨u0_jT_23, u1_jT_23, u2_jT_23, u3_jT_23, u4_jT_23, u5_jT_23⟩ := id p_jT_23
      have p_jB_23 : jB P e_23.2 := jB.mono x0_15 (fun a j h => q_23 a j (wf_jB_X8_refuse h))
      obtain ⟨u0_jB_23, u1_jB_23, u2_jB_23, u3_jB_23, u4_jB_23, u5_jB_23⟩ := id p_jB_23
      have p_jL_23 : jL P e_23.2 := jL.mono x1_15 (fun a j h => q_23 a j (wf_jL_X8_refuse h))
      have p_jH_23 : jH P e_23.2 := jH.mono x2_15 (fun a j h => q_23 a j (wf_jH_X8_refuse h))
      exact ⟨_, rfl, k_23, (fun _ _ _ => rfl), ⟨p_jB_23, p_jS_23, p_jR_23, p_jK_23, p_jT_23⟩⟩
    · have i_18 : ¬ Int32.toInt e_15.1 = Int32.toInt (0 : Int32) := fun q => h_18 (Int32.toInt_inj.mp q)
      (try simp only [Int32.toInt_add, Int32.toInt_sub, Int32.toInt_mul, Int32.toInt_toInt64, Int64.toInt_add, z_m1, Int32.reduceToInt, Int64.reduceToInt, Int32.reduceToNatClampNeg, Int.bmod_def] at i_18)
      refine vB (v_X8_laysResult x0_15 p_jS_15 p_jR_15 (by first | omega | (simp only [Int32.toInt_add, Int32.toInt_sub, Int32.toInt_mul, Int32.toInt_toInt64, Int64.toInt_add, z_m1, Int32.reduceToInt, Int64.reduceToInt, Int32.reduceToNatClampNeg, Int.bmod_def, or_true, true_or, and_true, true_and] <;> omega))) (fun e_29 f_29 q_29 => ?_)
      have k_29 : ∀ a j, ¬ WM_X8_envies P a j → e_29.1 a j = M0 a j := fun a j h => (q_29.1 a j (wz_M_X8_laysResult_X8_envies h)).trans (k_15 a j h)
      have kn_29 : ∀ a j, ¬ WN_X8_envies P a j → e_29.2 a j = N0 a j := fun a j h => (q_29.2.1 a j (wz_N_X8_laysResult_X8_envies h))
      have c7_29 : Int32.toInt (e_29.1 P 7) = Int32.toInt (e_15.2 P 7) := congrArg Int32.toInt (q_29.1 P 7 (wc_X8_laysResult_7))
      have c8_29 : Int32.toInt (e_29.1 P 8) = Int32.toInt (e_15.2 P 8) := congrArg Int32.toInt (q_29.1 P 8 (wc_X8_laysResult_8))
      have n_29 : nA P e_29.1 = nA P e_15.2 := nA_congr (fun a j h => q_29.1 a j (wf_nA_X8_laysResult h))
      have p_jS_29 : jS P e_29.1 := jS.mono p_jS_15 (fun a j h => q_29.1 a j (wf_jS_X8_laysResult h))
      obtain ⟨u0_jS_29, u1_jS_29, u2_jS_29, u3_jS_29, u4_jS_29, u5_jS_29, u6_jS_29, u7_jS_29⟩ := jS.ints p_jS_29
      have p_jK_29 : jK P e_29.1 := jK.mono p_jK_15 (fun a j h => q_29.1 a j (wf_jK_X8_laysResult h))
      have p_jT_29 : jT P e_29.1 := jT.mono p_jT_15 (fun a j h => q_29.1 a j (wf_jT_X8_laysResult h))
      obtain ⟨u0_jT_29, u1_jT_29, u2_jT_29, u3_jT_29, u4_jT_29, u5_jT_29⟩ := id p_jT_29
      obtain ⟨x0_29, x1_29, x2_29, x3_29, x4_29, x5_29⟩ := q_29.2.2
      obtain ⟨u0_jB_29, u1_jB_29, u2_jB_29, u3_jB_29, u4_jB_29, u5_jB_29⟩ := id x0_29
      (try simp only [Int32.toInt_add, Int32.toInt_sub, Int32.toInt_mul, Int32.toInt_toInt64, Int64.toInt_add, z_m1, Int32.reduceToInt, Int64.reduceToInt, Int32.reduceToNatClampNeg, Int.bmod_def] at x5_29)
      exact T_37 _ _ _ _ _ k_29 kn_29 x0_29 x2_29 p_jK_29 x1_29 x3_29 x4_29 p_jS_29 p_jT_29 (by first | omega | (simp only [Int32.toInt_add, Int32.toInt_sub, Int32.toInt_mul, Int32.toInt_toInt64, Int64.toInt_add, z_m1, Int32.reduceToInt, Int64.reduceToInt, Int32.reduceToNatClampNeg, Int.bmod_def, or_true, true_or, and_true, true_and] <;> omega)) (by first | omega | (simp only [Int32.toInt_add, Int32.toInt_sub, Int32.toInt_mul, Int32.toInt_toInt64, Int64.toInt_add, z_m1, Int32.reduceToInt, Int64.reduceToInt, Int32.reduceToNatClampNeg, Int.bmod_def, or_true, true_or, and_true, true_and] <;> omega)) (by first | omega | (simp only [Int32.toInt_add, Int32.toInt_sub, Int32.toInt_mul, Int32.toInt_toInt64, Int64.toInt_add, z_m1, Int32.reduceToInt, Int64.reduceToInt, Int32.reduceToNatClampNeg, Int.bmod_def, or_true, true_or, and_true, true_and] <;> omega))
def WM_X8_spoils (P : Nat) (a j : Nat) : Prop := (P + 11 ≤ a ∧ a < P + 24) ∨ (a = P ∧ (j = 6 ∨ j = 12 ∨ j = 33))
def WN_X8_spoils (P : Nat) (a j : Nat) : Prop := (a = P ∧ (j = 46))
theorem wz_M_X8_gives_X8_spoils {P a j : Nat} (h : ¬ WM_X8_spoils P a j) : ¬ WM_X8_gives P a j := by unfold WM_X8_gives; unfold WM_X8_spoils at h; omega
theorem wz_M_X8_results_X8_spoils {P a j : Nat} (h : ¬ WM_X8_spoils P a j) : ¬ WM_X8_results P a j := by unfold WM_X8_results; unfold WM_X8_spoils at h; omega
theorem wf_jK_X8_results {P a j : Nat} (h : ((a = P ∧ (j = 7 ∨ j = 8 ∨ j = 9)) ∨ a = P + 4)) : ¬ WM_X8_results P a j := by unfold WM_X8_results; omega
theorem wf_jT_X8_results {P a j : Nat} (h : (a = P ∧ (j = 9 ∨ j = 11 ∨ j = 64))) : ¬ WM_X8_results P a j := by unfold WM_X8_results; omega
theorem wq_X8_spoils_M23_r {P a j : Nat} (h : ¬ WM_X8_spoils P a j) : ¬ a = P + 23 := by unfold WM_X8_spoils at h; omega
theorem wf_nA_M23_r {P a j : Nat} (h : (a = P + 1 ∨ (a = P ∧ j = 8))) : ¬ a = P + 23 := by omega
theorem wf_jB_M23_r {P a j : Nat} (h : (a = P ∧ (j = 7 ∨ j = 8 ∨ j = 33))) : ¬ a = P + 23 := by omega
theorem wf_jH_M23_r {P a j : Nat} (h : ((a = P ∧ (j = 8 ∨ j = 33)) ∨ a = P + 11)) : ¬ a = P + 23 := by omega
theorem wf_jK_M23_r {P a j : Nat} (h : ((a = P ∧ (j = 7 ∨ j = 8 ∨ j = 9)) ∨ a = P + 4)) : ¬ a = P + 23 := by omega
theorem wf_jL_M23_r {P a j : Nat} (h : ((a = P ∧ j = 33) ∨ a = P + 13 ∨ a = P + 14 ∨ a = P + 17)) : ¬ a = P + 23 := by omega
theorem wf_jO_M23_r {P a j : Nat} (h : ((a = P ∧ j = 33) ∨ a = P + 18)) : ¬ a = P + 23 := by omega
theorem wf_jR_M23_r {P a : Nat} (h : a = P + 19) : ¬ a = P + 23 := by omega
theorem wf_jS_M23_r {P a j : Nat} (h : (a = P + 1 ∨ (a = P ∧ (j = 7 ∨ j = 8)))) : ¬ a = P + 23 := by omega
theorem wf_jT_M23_r {P a j : Nat} (h : (a = P ∧ (j = 9 ∨ j = 11 ∨ j = 64))) : ¬ a = P + 23 := by omega
theorem wz_M_X8_refuse_X8_spoils {P a j : Nat} (h : ¬ WM_X8_spoils P a j) : ¬ WM_X8_refuse P a j := by unfold WM_X8_refuse; unfold WM_X8_spoils at h; omega
theorem wz_M_X8_isApplicant_X8_spoils {P a j : Nat} (h : ¬ WM_X8_spoils P a j) : ¬ WM_X8_isApplicant P a j := by unfold WM_X8_isApplicant; unfold WM_X8_spoils at h; omega
theorem wz_M_X8_laysResult_X8_spoils {P a j : Nat} (h : ¬ WM_X8_spoils P a j) : ¬ WM_X8_laysResult P a j := by unfold WM_X8_laysResult; unfold WM_X8_spoils at h; omega
theorem wz_N_X8_laysResult_X8_spoils {P a j : Nat} (h : ¬ WN_X8_spoils P a j) : ¬ WN_X8_laysResult P a j := by unfold WN_X8_laysResult; unfold WN_X8_spoils at h; omega
set_option maxRecDepth 100000 in
set_option maxHeartbeats 4000000 in
theorem v_X8_spoils {P : Nat} {v0 : Int32} {v1 : Int32} {M0 : zMt} {N0 : zNt}  (p_jB : jB P M0) (p_jS : jS P M0) (p_jR : jR P M0) (p_jK : jK P M0) (p_jT : jT P M0) : ∃ r, D_X8_spoils P v0 v1 M0 N0 = some r ∧ ((∀ a j, ¬ WM_X8_spoils P a j → r.2.1 a j = M0 a j) ∧ (∀ a j, ¬ WN_X8_spoils P a j → r.2.2 a j = N0 a j) ∧ ((jB P r.2.1) ∧ (jS P r.2.1) ∧ (jR P r.2.1) ∧ (jK P r.2.1) ∧ (jT P r.2.1))) := by
  obtain ⟨u0_jB, u1_jB, u2_jB, u3_jB, u4_jB, u5_jB⟩ := id p_jB
  obtain ⟨u0_jS, u1_jS, u2_jS, u3_jS, u4_jS, u5_jS, u6_jS, u7_jS⟩ := jS.ints p_jS
  obtain ⟨u0_jT, u1_jT, u2_jT, u3_jT, u4_jT, u5_jT⟩ := id p_jT
  have TL_69 : ∀ u : Nat, ∀ (x2_69 : Int32) (x3_69 : Int32) (x4_69 : Int32) (M_69 : zMt) (N_69 : zNt), (∀ a j, ¬ WM_X8_spoils P a j → M_69 a j = M0 a j) → (∀ a j, ¬ WN_X8_spoils P a j → N_69 a j = N0 a j) → (jB P M_69) → (jH P M_69) → (jK P M_69) → (jL P M_69) → (jO P M_69) → (jR P M_69) → (jS P M_69) → (jT P M_69) → (0 ≤ Int32.toInt x4_69) → (Int32.toInt x4_69 ≤ 10) → (2147483648 - Int32.toInt x4_69).toNat < u → ∃ r, D_X8_spoils_69 P u x2_69 x3_69 x4_69 M_69 N_69 = some r ∧ ((∀ a j, ¬ WM_X8_spoils P a j → r.2.1 a j = M0 a j) ∧ (∀ a j, ¬ WN_X8_spoils P a j → r.2.2 a j = N0 a j) ∧ ((jB P r.2.1) ∧ (jS P r.2.1) ∧ (jR P r.2.1) ∧ (jK P r.2.1) ∧ (jT P r.2.1))) := by
    intro u
    induction u with
    | zero => intro x2_69 x3_69 x4_69 M_69 N_69 k_69 kn_69 p_jB_69 p_jH_69 p_jK_69 p_jL_69 p_jO_69 p_jR_69 p_jS_69 p_jT_69 f0_69 f1_69 hm_69; exact absurd hm_69 (Nat.not_lt_zero _)
    | succ u_69 ih_69 =>
      have T_109 : ∀ (x2_109 : Int32) (x4_109 : Int32) (y0_109 : Int32) (y1_109 : Int32) (M_109 : zMt) (N_109 : zNt), (∀ a j, ¬ WM_X8_spoils P a j → M_109 a j = M0 a j) → (∀ a j, ¬ WN_X8_spoils P a j → N_109 a j = N0 a j) → (jB P M_109) → (jH P M_109) → (jK P M_109) → (jL P M_109) → (jO P M_109) → (jR P M_109) → (jS P M_109) → (jT P M_109) → (0 ≤ Int32.toInt x4_109) → (Int32.toInt x4_109 < Int32.toInt (M_109 P 33)) → ((2147483648 - Int32.toInt x4_109).toNat < u_69 + 1) → (Int32.toInt x4_109 < 2147483647) → ∃ r, D_X8_spoils_109 P (D_X8_spoils_69 P u_69) x2_109 x4_109 y0_109 y1_109 M_109 N_109 = some r ∧ ((∀ a j, ¬ WM_X8_spoils P a j → r.2.1 a j = M0 a j) ∧ (∀ a j, ¬ WN_X8_spoils P a j → r.2.2 a j = N0 a j) ∧ ((jB P r.2.1) ∧ (jS P r.2.1) ∧ (jR P r.2.1) ∧ (jK P r.2.1) ∧ (jT P r.2.1))) := by
        intro x2_109 x4_109 y0_109 y1_109 M_109 N_109 k_109 kn_109 p_jB_109 p_jH_109 p_jK_109 p_jL_109 p_jO_109 p_jR_109 p_jS_109 p_jT_109 f0_109 f1_109 f2_109 f3_109
        obtain ⟨u0_jB_109, u1_jB_109, u2_jB_109, u3_jB_109, u4_jB_109, u5_jB_109⟩ := id p_jB_109
        obtain ⟨u0_jS_109, u1_jS_109, u2_jS_109, u3_jS_109, u4_jS_109, u5_jS_109, u6_jS_109, u7_jS_109⟩ := jS.ints p_jS_109
        obtain ⟨u0_jT_109, u1_jT_109, u2_jT_109, u3_jT_109, u4_jT_109, u5_jT_109⟩ := id p_jT_109
        unfold D_X8_spoils_109
        exact ih_69 _ _ _ _ _ k_109 kn_109 p_jB_109 p_jH_109 p_jK_109 p_jL_109 p_jO_109 p_jR_109 p_jS_109 p_jT_109 (by first | omega | (simp only [Int32.toInt_add, Int32.toInt_sub, Int32.toInt_mul, Int32.toInt_toInt64, Int64.toInt_add, z_m1, Int32.reduceToInt, Int64.reduceToInt, Int32.reduceToNatClampNeg, Int.bmod_def, or_true, true_or, and_true, true_and] <;> omega)) (by first | omega | (simp only [Int32.toInt_add, Int32.toInt_sub, Int32.toInt_mul, Int32.toInt_toInt64, Int64.toInt_add, z_m1, Int32.reduceToInt, Int64.reduceToInt, Int32.reduceToNatClampNeg, Int.bmod_def, or_true, true_or, and_true, true_and] <;> omega)) (z_up1 f3_109 f2_109)
      have T_108 : ∀ (x2_108 : Int32) (x4_108 : Int32) (y0_108 : Int32) (M_108 : zMt) (N_108 : zNt), (∀ a j, ¬ WM_X8_spoils P a j → M_108 a j = M0 a j) → (∀ a j, ¬ WN_X8_spoils P a j → N_108 a j = N0 a j) → (jB P M_108) → (jH P M_108) → (jK P M_108) → (jL P M_108) → (jO P M_108) → (jR P M_108) → (jS P M_108) → (jT P M_108) → (0 ≤ Int32.toInt x4_108) → (Int32.toInt x4_108 < Int32.toInt (M_108 P 33)) → ((2147483648 - Int32.toInt x4_108).toNat < u_69 + 1) → (Int32.toInt x4_108 < 2147483647) → ∃ r, D_X8_spoils_108 P (D_X8_spoils_69 P u_69) x2_108 x4_108 y0_108 M_108 N_108 = some r ∧ ((∀ a j, ¬ WM_X8_spoils P a j → r.2.1 a j = M0 a j) ∧ (∀ a j, ¬ WN_X8_spoils P a j → r.2.2 a j = N0 a j) ∧ ((jB P r.2.1) ∧ (jS P r.2.1) ∧ (jR P r.2.1) ∧ (jK P r.2.1) ∧ (jT P r.2.1))) := by
        intro x2_108 x4_108 y0_108 M_108 N_108 k_108 kn_108 p_jB_108 p_jH_108 p_jK_108 p_jL_108 p_jO_108 p_jR_108 p_jS_108 p_jT_108 f0_108 f1_108 f2_108 f3_108
        obtain ⟨u0_jB_108, u1_jB_108, u2_jB_108, u3_jB_108, u4_jB_108, u5_jB_108⟩ := id p_jB_108
        obtain ⟨u0_jS_108, u1_jS_108, u2_jS_108, u3_jS_108, u4_jS_108, u5_jS_108, u6_jS_108, u7_jS_108⟩ := jS.ints p_jS_108
        obtain ⟨u0_jT_108, u1_jT_108, u2_jT_108, u3_jT_108, u4_jT_108, u5_jT_108⟩ := id p_jT_108
        unfold D_X8_spoils_108
        exact T_109 _ _ _ _ _ _ k_108 kn_108 p_jB_108 p_jH_108 p_jK_108 p_jL_108 p_jO_108 p_jR_108 p_jS_108 p_jT_108 (by first | omega | (simp only [Int32.toInt_add, Int32.toInt_sub, Int32.toInt_mul, Int32.toInt_toInt64, Int64.toInt_add, z_m1, Int32.reduceToInt, Int64.reduceToInt, Int32.reduceToNatClampNeg, Int.bmod_def, or_true, true_or, and_true, true_and] <;> omega)) (by first | omega | (simp only [Int32.toInt_add, Int32.toInt_sub, Int32.toInt_mul, Int32.toInt_toInt64, Int64.toInt_add, z_m1, Int32.reduceToInt, Int64.reduceToInt, Int32.reduceToNatClampNeg, Int.bmod_def, or_true, true_or, and_true, true_and] <;> omega)) f2_108 f3_108
      intro x2_69 x3_69 x4_69 M_69 N_69 k_69 kn_69 p_jB_69 p_jH_69 p_jK_69 p_jL_69 p_jO_69 p_jR_69 p_jS_69 p_jT_69 f0_69 f1_69 hm_69
      obtain ⟨u0_jB_69, u1_jB_69, u2_jB_69, u3_jB_69, u4_jB_69, u5_jB_69⟩ := id p_jB_69
      obtain ⟨u0_jS_69, u1_jS_69, u2_jS_69, u3_jS_69, u4_jS_69, u5_jS_69, u6_jS_69, u7_jS_69⟩ := jS.ints p_jS_69
      obtain ⟨u0_jT_69, u1_jT_69, u2_jT_69, u3_jT_69, u4_jT_69, u5_jT_69⟩ := id p_jT_69
      rw [D_X8_spoils_69]
      refine vIf (fun h_75 => ?_) (fun h_75 => ?_)
      · have i_75 := Int32.le_iff_toInt_le.mp h_75
        (try simp only [Int32.toInt_add, Int32.toInt_sub, Int32.toInt_mul, Int32.toInt_toInt64, Int64.toInt_add, z_m1, Int32.reduceToInt, Int64.reduceToInt, Int32.reduceToNatClampNeg, Int.bmod_def] at i_75)
        refine vB (v_X8_gives) (fun e_119 f_119 q_119 => ?_)
        have k_119 : ∀ a j, ¬ WM_X8_spoils P a j → e_119.2 a j = M0 a j := fun a j h => (q_119 a j (wz_M_X8_gives_X8_spoils h)).trans (k_69 a j h)
        have c7_119 : Int32.toInt (e_119.2 P 7) = Int32.toInt (M_69 P 7) := congrArg Int32.toInt (q_119 P 7 (wc_X8_gives_7))
        have c8_119 : Int32.toInt (e_119.2 P 8) = Int32.toInt (M_69 P 8) := congrArg Int32.toInt (q_119 P 8 (wc_X8_gives_8))
        have c33_119 : Int32.toInt (e_119.2 P 33) = Int32.toInt (M_69 P 33) := congrArg Int32.toInt (q_119 P 33 (wc_X8_gives_33))
        have n_119 : nA P e_119.2 = nA P M_69 := nA_congr (fun a j h => q_119 a j (wf_nA_X8_gives h))
        have p_jB_119 : jB P e_119.2 := jB.mono p_jB_69 (fun a j h => q_119 a j (wf_jB_X8_gives h))
        obtain ⟨u0_jB_119, u1_jB_119, u2_jB_119, u3_jB_119, u4_jB_119, u5_jB_119⟩ := id p_jB_119
        have p_jH_119 : jH P e_119.2 := jH.mono p_jH_69 (fun a j h => q_119 a j (wf_jH_X8_gives h))
        have p_jK_119 : jK P e_119.2 := jK.mono p_jK_69 (fun a j h => q_119 a j (wf_jK_X8_gives h))
        have p_jL_119 : jL P e_119.2 := jL.mono p_jL_69 (fun a j h => q_119 a j (wf_jL_X8_gives h))
        have p_jO_119 : jO P e_119.2 := jO.mono p_jO_69 (fun a j h => q_119 a j (wf_jO_X8_gives h))
        have p_jR_119 : jR P e_119.2 := jR.mono p_jR_69 (fun a j h => q_119 a j (wf_jR_X8_gives h))
        have p_jS_119 : jS P e_119.2 := jS.mono p_jS_69 (fun a j h => q_119 a j (wf_jS_X8_gives h))
        obtain ⟨u0_jS_119, u1_jS_119, u2_jS_119, u3_jS_119, u4_jS_119, u5_jS_119, u6_jS_119, u7_jS_119⟩ := jS.ints p_jS_119
        have p_jT_119 : jT P e_119.2 := jT.mono p_jT_69 (fun a j h => q_119 a j (wf_jT_X8_gives h))
        obtain ⟨u0_jT_119, u1_jT_119, u2_jT_119, u3_jT_119, u4_jT_119, u5_jT_119⟩ := id p_jT_119
        exact ⟨_, rfl, k_119, kn_69, ⟨p_jB_119, p_jS_119, p_jR_119, p_jK_119, p_jT_119⟩⟩
      · have i_75 := Int32.lt_iff_toInt_lt.mp (Int32.not_le.mp h_75)
        (try simp only [Int32.toInt_add, Int32.toInt_sub, Int32.toInt_mul, Int32.toInt_toInt64, Int64.toInt_add, z_m1, Int32.reduceToInt, Int64.reduceToInt, Int32.reduceToNatClampNeg, Int.bmod_def] at i_75)
        refine vIf (fun h_82 => ?_) (fun h_82 => ?_)
        · have i_82 := congrArg Int32.toInt h_82
          (try simp only [Int32.toInt_add, Int32.toInt_sub, Int32.toInt_mul, Int32.toInt_toInt64, Int64.toInt_add, z_m1, Int32.reduceToInt, Int64.reduceToInt, Int32.reduceToNatClampNeg, Int.bmod_def] at i_82)
          exact T_108 _ _ _ _ _ k_69 kn_69 p_jB_69 p_jH_69 p_jK_69 p_jL_69 p_jO_69 p_jR_69 p_jS_69 p_jT_69 (by first | omega | (simp only [Int32.toInt_add, Int32.toInt_sub, Int32.toInt_mul, Int32.toInt_toInt64, Int64.toInt_add, z_m1, Int32.reduceToInt, Int64.reduceToInt, Int32.reduceToNatClampNeg, Int.bmod_def, or_true, true_or, and_true, true_and] <;> omega)) (by first | omega | (simp only [Int32.toInt_add, Int32.toInt_sub, Int32.toInt_mul, Int32.toInt_toInt64, Int64.toInt_add, z_m1, Int32.reduceToInt, Int64.reduceToInt, Int32.reduceToNatClampNeg, Int.bmod_def, or_true, true_or, and_true, true_and] <;> omega)) hm_69 (by first | assumption | exact z_lt (by assumption) | exact z_lt2 (by assumption) | exact z_lt3 (by assumption) (by first | assumption | decide))
        · have i_82 : ¬ Int32.toInt x4_69 = Int32.toInt x2_69 := fun q => h_82 (Int32.toInt_inj.mp q)
          (try simp only [Int32.toInt_add, Int32.toInt_sub, Int32.toInt_mul, Int32.toInt_toInt64, Int64.toInt_add, z_m1, Int32.reduceToInt, Int64.reduceToInt, Int32.reduceToNatClampNeg, Int.bmod_def] at i_82)
          refine vB (v_X8_placeNow p_jB_69 p_jS_69 p_jL_69 p_jR_69 (by first | omega | (simp only [Int32.toInt_add, Int32.toInt_sub, Int32.toInt_mul, Int32.toInt_toInt64, Int64.toInt_add, z_m1, Int32.reduceToInt, Int64.reduceToInt, Int32.reduceToNatClampNeg, Int.bmod_def, or_true, true_or, and_true, true_and] <;> omega)) (by first | omega | (simp only [Int32.toInt_add, Int32.toInt_sub, Int32.toInt_mul, Int32.toInt_toInt64, Int64.toInt_add, z_m1, Int32.reduceToInt, Int64.reduceToInt, Int32.reduceToNatClampNeg, Int.bmod_def, or_true, true_or, and_true, true_and] <;> omega))) (fun e_88 f_88 q_88 => ?_)
          obtain ⟨x0_88, x1_88⟩ := q_88
          (try simp only [Int32.toInt_add, Int32.toInt_sub, Int32.toInt_mul, Int32.toInt_toInt64, Int64.toInt_add, z_m1, Int32.reduceToInt, Int64.reduceToInt, Int32.reduceToNatClampNeg, Int.bmod_def] at x0_88)
          (try simp only [Int32.toInt_add, Int32.toInt_sub, Int32.toInt_mul, Int32.toInt_toInt64, Int64.toInt_add, z_m1, Int32.reduceToInt, Int64.reduceToInt, Int32.reduceToNatClampNeg, Int.bmod_def] at x1_88)
          refine vI (vp_of (by first | omega | (simp only [Int32.toInt_add, Int32.toInt_sub, Int32.toInt_mul, Int32.toInt_toInt64, Int64.toInt_add, z_m1, Int32.reduceToInt, Int64.reduceToInt, Int32.reduceToNatClampNeg, Int.bmod_def, or_true, true_or, and_true, true_and] <;> omega)) (by first | omega | (simp only [Int32.toInt_add, Int32.toInt_sub, Int32.toInt_mul, Int32.toInt_toInt64, Int64.toInt_add, z_m1, Int32.reduceToInt, Int64.reduceToInt, Int32.reduceToNatClampNeg, Int.bmod_def, or_true, true_or, and_true, true_and] <;> omega))) ?_
          refine vIf (fun h_98 => ?_) (fun h_98 => ?_)
          · have i_98 := Int32.le_iff_toInt_le.mp h_98
            (try simp only [Int32.toInt_add, Int32.toInt_sub, Int32.toInt_mul, Int32.toInt_toInt64, Int64.toInt_add, z_m1, Int32.reduceToInt, Int64.reduceToInt, Int32.reduceToNatClampNeg, Int.bmod_def] at i_98)
            exact T_108 _ _ _ _ _ k_69 kn_69 p_jB_69 p_jH_69 p_jK_69 p_jL_69 p_jO_69 p_jR_69 p_jS_69 p_jT_69 (by first | omega | (simp only [Int32.toInt_add, Int32.toInt_sub, Int32.toInt_mul, Int32.toInt_toInt64, Int64.toInt_add, z_m1, Int32.reduceToInt, Int64.reduceToInt, Int32.reduceToNatClampNeg, Int.bmod_def, or_true, true_or, and_true, true_and] <;> omega)) (by first | omega | (simp only [Int32.toInt_add, Int32.toInt_sub, Int32.toInt_mul, Int32.toInt_toInt64, Int64.toInt_add, z_m1, Int32.reduceToInt, Int64.reduceToInt, Int32.reduceToNatClampNeg, Int.bmod_def, or_true, true_or, and_true, true_and] <;> omega)) hm_69 (by first | assumption | exact z_lt (by assumption) | exact z_lt2 (by assumption) | exact z_lt3 (by assumption) (by first | assumption | decide))
          · have i_98 := Int32.lt_iff_toInt_lt.mp (Int32.not_le.mp h_98)
            (try simp only [Int32.toInt_add, Int32.toInt_sub, Int32.toInt_mul, Int32.toInt_toInt64, Int64.toInt_add, z_m1, Int32.reduceToInt, Int64.reduceToInt, Int32.reduceToNatClampNeg, Int.bmod_def] at i_98)
            exact T_109 _ _ _ _ _ _ k_69 kn_69 p_jB_69 p_jH_69 p_jK_69 p_jL_69 p_jO_69 p_jR_69 p_jS_69 p_jT_69 (by first | omega | (simp only [Int32.toInt_add, Int32.toInt_sub, Int32.toInt_mul, Int32.toInt_toInt64, Int64.toInt_add, z_m1, Int32.reduceToInt, Int64.reduceToInt, Int32.reduceToNatClampNeg, Int.bmod_def, or_true, true_or, and_true, true_and] <;> omega)) (by first | omega | (simp only [Int32.toInt_add, Int32.toInt_sub, Int32.toInt_mul, Int32.toInt_toInt64, Int64.toInt_add, z_m1, Int32.reduceToInt, Int64.reduceToInt, Int32.reduceToNatClampNeg, Int.bmod_def, or_true, true_or, and_true, true_and] <;> omega)) hm_69 (by first | assumption | exact z_lt (by assumption) | exact z_lt2 (by assumption) | exact z_lt3 (by assumption) (by first | assumption | decide))
  have T_69 : ∀ (x2_69 : Int32) (x3_69 : Int32) (x4_69 : Int32) (M_69 : zMt) (N_69 : zNt), (∀ a j, ¬ WM_X8_spoils P a j → M_69 a j = M0 a j) → (∀ a j, ¬ WN_X8_spoils P a j → N_69 a j = N0 a j) → (jB P M_69) → (jH P M_69) → (jK P M_69) → (jL P M_69) → (jO P M_69) → (jR P M_69) → (jS P M_69) → (jT P M_69) → (0 ≤ Int32.toInt x4_69) → (Int32.toInt x4_69 ≤ 10) → ∃ r, D_X8_spoils_69 P zFu x2_69 x3_69 x4_69 M_69 N_69 = some r ∧ ((∀ a j, ¬ WM_X8_spoils P a j → r.2.1 a j = M0 a j) ∧ (∀ a j, ¬ WN_X8_spoils P a j → r.2.2 a j = N0 a j) ∧ ((jB P r.2.1) ∧ (jS P r.2.1) ∧ (jR P r.2.1) ∧ (jK P r.2.1) ∧ (jT P r.2.1))) := fun x2_69 x3_69 x4_69 M_69 N_69 k_69 kn_69 p_jB_69 p_jH_69 p_jK_69 p_jL_69 p_jO_69 p_jR_69 p_jS_69 p_jT_69 f0_69 f1_69 => TL_69 zFu x2_69 x3_69 x4_69 M_69 N_69 k_69 kn_69 p_jB_69 p_jH_69 p_jK_69 p_jL_69 p_jO_69 p_jR_69 p_jS_69 p_jT_69 f0_69 f1_69 (zFu_up _)
  have TL_34 : ∀ u : Nat, ∀ (x2_34 : Int32) (x3_34 : Int32) (M_34 : zMt) (N_34 : zNt), (∀ a j, ¬ WM_X8_spoils P a j → M_34 a j = M0 a j) → (∀ a j, ¬ WN_X8_spoils P a j → N_34 a j = N0 a j) → (jB P M_34) → (jH P M_34) → (jK P M_34) → (jL P M_34) → (jO P M_34) → (jR P M_34) → (jS P M_34) → (jT P M_34) → (0 ≤ Int32.toInt x3_34) → (Int32.toInt x3_34 ≤ 10) → (2147483648 - Int32.toInt x3_34).toNat < u → ∃ r, D_X8_spoils_34 P u x2_34 x3_34 M_34 N_34 = some r ∧ ((∀ a j, ¬ WM_X8_spoils P a j → r.2.1 a j = M0 a j) ∧ (∀ a j, ¬ WN_X8_spoils P a j → r.2.2 a j = N0 a j) ∧ ((jB P r.2.1) ∧ (jS P r.2.1) ∧ (jR P r.2.1) ∧ (jK P r.2.1) ∧ (jT P r.2.1))) := by
    intro u
    induction u with
    | zero => intro x2_34 x3_34 M_34 N_34 k_34 kn_34 p_jB_34 p_jH_34 p_jK_34 p_jL_34 p_jO_34 p_jR_34 p_jS_34 p_jT_34 f0_34 f1_34 hm_34; exact absurd hm_34 (Nat.not_lt_zero _)
    | succ u_34 ih_34 =>
      intro x2_34 x3_34 M_34 N_34 k_34 kn_34 p_jB_34 p_jH_34 p_jK_34 p_jL_34 p_jO_34 p_jR_34 p_jS_34 p_jT_34 f0_34 f1_34 hm_34
      obtain ⟨u0_jB_34, u1_jB_34, u2_jB_34, u3_jB_34, u4_jB_34, u5_jB_34⟩ := id p_jB_34
      obtain ⟨u0_jS_34, u1_jS_34, u2_jS_34, u3_jS_34, u4_jS_34, u5_jS_34, u6_jS_34, u7_jS_34⟩ := jS.ints p_jS_34
      obtain ⟨u0_jT_34, u1_jT_34, u2_jT_34, u3_jT_34, u4_jT_34, u5_jT_34⟩ := id p_jT_34
      rw [D_X8_spoils_34]
      refine vIf (fun h_39 => ?_) (fun h_39 => ?_)
      · have i_39 := Int32.le_iff_toInt_le.mp h_39
        (try simp only [Int32.toInt_add, Int32.toInt_sub, Int32.toInt_mul, Int32.toInt_toInt64, Int64.toInt_add, z_m1, Int32.reduceToInt, Int64.reduceToInt, Int32.reduceToNatClampNeg, Int.bmod_def] at i_39)
        refine vB (v_X8_results p_jB_34 p_jS_34 p_jL_34 p_jO_34 p_jR_34) (fun e_61 f_61 q_61 => ?_)
        have k_61 : ∀ a j, ¬ WM_X8_spoils P a j → e_61 a j = M0 a j := fun a j h => (q_61.1 a j (wz_M_X8_results_X8_spoils h)).trans (k_34 a j h)
        have c7_61 : Int32.toInt (e_61 P 7) = Int32.toInt (M_34 P 7) := congrArg Int32.toInt (q_61.1 P 7 (wc_X8_results_7))
        have c8_61 : Int32.toInt (e_61 P 8) = Int32.toInt (M_34 P 8) := congrArg Int32.toInt (q_61.1 P 8 (wc_X8_results_8))
        have c33_61 : Int32.toInt (e_61 P 33) = Int32.toInt (M_34 P 33) := congrArg Int32.toInt (q_61.1 P 33 (wc_X8_results_33))
        have n_61 : nA P e_61 = nA P M_34 := nA_congr (fun a j h => q_61.1 a j (wf_nA_X8_results h))
        have p_jB_61 : jB P e_61 := jB.mono p_jB_34 (fun a j h => q_61.1 a j (wf_jB_X8_results h))
        obtain ⟨u0_jB_61, u1_jB_61, u2_jB_61, u3_jB_61, u4_jB_61, u5_jB_61⟩ := id p_jB_61
        have p_jH_61 : jH P e_61 := jH.mono p_jH_34 (fun a j h => q_61.1 a j (wf_jH_X8_results h))
        have p_jK_61 : jK P e_61 := jK.mono p_jK_34 (fun a j h => q_61.1 a j (wf_jK_X8_results h))
        have p_jL_61 : jL P e_61 := jL.mono p_jL_34 (fun a j h => q_61.1 a j (wf_jL_X8_results h))
        have p_jO_61 : jO P e_61 := jO.mono p_jO_34 (fun a j h => q_61.1 a j (wf_jO_X8_results h))
        have p_jS_61 : jS P e_61 := jS.mono p_jS_34 (fun a j h => q_61.1 a j (wf_jS_X8_results h))
        obtain ⟨u0_jS_61, u1_jS_61, u2_jS_61, u3_jS_61, u4_jS_61, u5_jS_61, u6_jS_61, u7_jS_61⟩ := jS.ints p_jS_61
        have p_jT_61 : jT P e_61 := jT.mono p_jT_34 (fun a j h => q_61.1 a j (wf_jT_X8_results h))
        obtain ⟨u0_jT_61, u1_jT_61, u2_jT_61, u3_jT_61, u4_jT_61, u5_jT_61⟩ := id p_jT_61
        have x0_61 := q_61.2
        exact T_69 _ _ _ _ _ k_61 kn_34 p_jB_61 p_jH_61 p_jK_61 p_jL_61 p_jO_61 x0_61 p_jS_61 p_jT_61 (by first | omega | (simp only [Int32.toInt_add, Int32.toInt_sub, Int32.toInt_mul, Int32.toInt_toInt64, Int64.toInt_add, z_m1, Int32.reduceToInt, Int64.reduceToInt, Int32.reduceToNatClampNeg, Int.bmod_def, or_true, true_or, and_true, true_and] <;> omega)) (by first | omega | (simp only [Int32.toInt_add, Int32.toInt_sub, Int32.toInt_mul, Int32.toInt_toInt64, Int64.toInt_add, z_m1, Int32.reduceToInt, Int64.reduceToInt, Int32.reduceToNatClampNeg, Int.bmod_def, or_true, true_or, and_true, true_and] <;> omega))
      · have i_39 := Int32.lt_iff_toInt_lt.mp (Int32.not_le.mp h_39)
        (try simp only [Int32.toInt_add, Int32.toInt_sub, Int32.toInt_mul, Int32.toInt_toInt64, Int64.toInt_add, z_m1, Int32.reduceToInt, Int64.reduceToInt, Int32.reduceToNatClampNeg, Int.bmod_def] at i_39)
        refine vB (v_X8_placeNow p_jB_34 p_jS_34 p_jL_34 p_jR_34 (by first | omega | (simp only [Int32.toInt_add, Int32.toInt_sub, Int32.toInt_mul, Int32.toInt_toInt64, Int64.toInt_add, z_m1, Int32.reduceToInt, Int64.reduceToInt, Int32.reduceToNatClampNeg, Int.bmod_def, or_true, true_or, and_true, true_and] <;> omega)) (by first | omega | (simp only [Int32.toInt_add, Int32.toInt_sub, Int32.toInt_mul, Int32.toInt_toInt64, Int64.toInt_add, z_m1, Int32.reduceToInt, Int64.reduceToInt, Int32.reduceToNatClampNeg, Int.bmod_def, or_true, true_or, and_true, true_and] <;> omega))) (fun e_49 f_49 q_49 => ?_)
        obtain ⟨x0_49, x1_49⟩ := q_49
        (try simp only [Int32.toInt_add, Int32.toInt_sub, Int32.toInt_mul, Int32.toInt_toInt64, Int64.toInt_add, z_m1, Int32.reduceToInt, Int64.reduceToInt, Int32.reduceToNatClampNeg, Int.bmod_def] at x0_49)
        (try simp only [Int32.toInt_add, Int32.toInt_sub, Int32.toInt_mul, Int32.toInt_toInt64, Int64.toInt_add, z_m1, Int32.reduceToInt, Int64.reduceToInt, Int32.reduceToNatClampNeg, Int.bmod_def] at x1_49)
        refine vI (vp_of (by first | omega | (simp only [Int32.toInt_add, Int32.toInt_sub, Int32.toInt_mul, Int32.toInt_toInt64, Int64.toInt_add, z_m1, Int32.reduceToInt, Int64.reduceToInt, Int32.reduceToNatClampNeg, Int.bmod_def, or_true, true_or, and_true, true_and] <;> omega)) (by first | omega | (simp only [Int32.toInt_add, Int32.toInt_sub, Int32.toInt_mul, Int32.toInt_toInt64, Int64.toInt_add, z_m1, Int32.reduceToInt, Int64.reduceToInt, Int32.reduceToNatClampNeg, Int.bmod_def, or_true, true_or, and_true, true_and] <;> omega))) ?_
        refine vLm (W := WM_X8_spoils P) (fun a j h => (zu_ne (fun z => wq_X8_spoils_M23_r h z.1)).trans (k_34 a j h)) (fun M_52 f_52 k_52 => ?_)
        have c7_52 : Int32.toInt (M_52 P 7) = Int32.toInt (M_34 P 7) := congrArg Int32.toInt ((congrFun (congrFun f_52.symm P) 7).trans (zu_ne (fun z => wq_pne0 (by decide) z.1)))
        have c8_52 : Int32.toInt (M_52 P 8) = Int32.toInt (M_34 P 8) := congrArg Int32.toInt ((congrFun (congrFun f_52.symm P) 8).trans (zu_ne (fun z => wq_pne0 (by decide) z.1)))
        have c33_52 : Int32.toInt (M_52 P 33) = Int32.toInt (M_34 P 33) := congrArg Int32.toInt ((congrFun (congrFun f_52.symm P) 33).trans (zu_ne (fun z => wq_pne0 (by decide) z.1)))
        have n_52 : nA P M_52 = nA P M_34 := nA_congr (fun a j h => (congrFun (congrFun f_52.symm a) j).trans (zu_ne (fun z => wf_nA_M23_r h z.1)))
        have p_jB_52 : jB P M_52 := jB.mono p_jB_34 (fun a j h => (congrFun (congrFun f_52.symm a) j).trans (zu_ne (fun z => wf_jB_M23_r h z.1)))
        obtain ⟨u0_jB_52, u1_jB_52, u2_jB_52, u3_jB_52, u4_jB_52, u5_jB_52⟩ := id p_jB_52
        have p_jH_52 : jH P M_52 := jH.mono p_jH_34 (fun a j h => (congrFun (congrFun f_52.symm a) j).trans (zu_ne (fun z => wf_jH_M23_r h z.1)))
        have p_jK_52 : jK P M_52 := jK.mono p_jK_34 (fun a j h => (congrFun (congrFun f_52.symm a) j).trans (zu_ne (fun z => wf_jK_M23_r h z.1)))
        have p_jL_52 : jL P M_52 := jL.mono p_jL_34 (fun a j h => (congrFun (congrFun f_52.symm a) j).trans (zu_ne (fun z => wf_jL_M23_r h z.1)))
        have p_jO_52 : jO P M_52 := jO.mono p_jO_34 (fun a j h => (congrFun (congrFun f_52.symm a) j).trans (zu_ne (fun z => wf_jO_M23_r h z.1)))
        have p_jR_52 : jR P M_52 := jR.mono p_jR_34 (fun a j h => (congrFun (congrFun f_52.symm a) j).trans (zu_ne (fun z => wf_jR_M23_r h z.1)))
        have p_jS_52 : jS P M_52 := jS.mono p_jS_34 (fun a j h => (congrFun (congrFun f_52.symm a) j).trans (zu_ne (fun z => wf_jS_M23_r h z.1)))
        obtain ⟨u0_jS_52, u1_jS_52, u2_jS_52, u3_jS_52, u4_jS_52, u5_jS_52, u6_jS_52, u7_jS_52⟩ := jS.ints p_jS_52
        have p_jT_52 : jT P M_52 := jT.mono p_jT_34 (fun a j h => (congrFun (congrFun f_52.symm a) j).trans (zu_ne (fun z => wf_jT_M23_r h z.1)))
        obtain ⟨u0_jT_52, u1_jT_52, u2_jT_52, u3_jT_52, u4_jT_52, u5_jT_52⟩ := id p_jT_52
        exact ih_34 _ _ _ _ k_52 kn_34 p_jB_52 p_jH_52 p_jK_52 p_jL_52 p_jO_52 p_jR_52 p_jS_52 p_jT_52 (by first | omega | (simp only [Int32.toInt_add, Int32.toInt_sub, Int32.toInt_mul, Int32.toInt_toInt64, Int64.toInt_add, z_m1, Int32.reduceToInt, Int64.reduceToInt, Int32.reduceToNatClampNeg, Int.bmod_def, or_true, true_or, and_true, true_and] <;> omega)) (by first | omega | (simp only [Int32.toInt_add, Int32.toInt_sub, Int32.toInt_mul, Int32.toInt_toInt64, Int64.toInt_add, z_m1, Int32.reduceToInt, Int64.reduceToInt, Int32.reduceToNatClampNeg, Int.bmod_def, or_true, true_or, and_true, true_and] <;> omega)) (z_up1 (by first | assumption | exact z_lt (by assumption) | exact z_lt2 (by assumption) | exact z_lt3 (by assumption) (by first | assumption | decide)) hm_34)
  have T_34 : ∀ (x2_34 : Int32) (x3_34 : Int32) (M_34 : zMt) (N_34 : zNt), (∀ a j, ¬ WM_X8_spoils P a j → M_34 a j = M0 a j) → (∀ a j, ¬ WN_X8_spoils P a j → N_34 a j = N0 a j) → (jB P M_34) → (jH P M_34) → (jK P M_34) → (jL P M_34) → (jO P M_34) → (jR P M_34) → (jS P M_34) → (jT P M_34) → (0 ≤ Int32.toInt x3_34) → (Int32.toInt x3_34 ≤ 10) → ∃ r, D_X8_spoils_34 P zFu x2_34 x3_34 M_34 N_34 = some r ∧ ((∀ a j, ¬ WM_X8_spoils P a j → r.2.1 a j = M0 a j) ∧ (∀ a j, ¬ WN_X8_spoils P a j → r.2.2 a j = N0 a j) ∧ ((jB P r.2.1) ∧ (jS P r.2.1) ∧ (jR P r.2.1) ∧ (jK P r.2.1) ∧ (jT P r.2.1))) := fun x2_34 x3_34 M_34 N_34 k_34 kn_34 p_jB_34 p_jH_34 p_jK_34 p_jL_34 p_jO_34 p_jR_34 p_jS_34 p_jT_34 f0_34 f1_34 => TL_34 zFu x2_34 x3_34 M_34 N_34 k_34 kn_34 p_jB_34 p_jH_34 p_jK_34 p_jL_34 p_jO_34 p_jR_34 p_jS_34 p_jT_34 f0_34 f1_34 (zFu_up _)
  unfold D_X8_spoils
  refine vB (v_X8_isSeed) (fun e_1 f_1 q_1 => ?_)
  have b_1 := q_1.1
  have x0_1 := q_1.2
  (try simp only [Int32.toInt_add, Int32.toInt_sub, Int32.toInt_mul, Int32.toInt_toInt64, Int64.toInt_add, z_m1, Int32.reduceToInt, Int64.reduceToInt, Int32.reduceToNatClampNeg, Int.bmod_def] at x0_1)
  refine vIf (fun h_4 => ?_) (fun h_4 => ?_)
  · have i_4 := congrArg Int32.toInt h_4
    (try simp only [Int32.toInt_add, Int32.toInt_sub, Int32.toInt_mul, Int32.toInt_toInt64, Int64.toInt_add, z_m1, Int32.reduceToInt, Int64.reduceToInt, Int32.reduceToNatClampNeg, Int.bmod_def] at i_4)
    refine vB (v_X8_refuse) (fun e_9 f_9 q_9 => ?_)
    have k_9 : ∀ a j, ¬ WM_X8_spoils P a j → e_9.2 a j = M0 a j := fun a j h => (q_9 a j (wz_M_X8_refuse_X8_spoils h))
    have c7_9 : Int32.toInt (e_9.2 P 7) = Int32.toInt (M0 P 7) := congrArg Int32.toInt (q_9 P 7 (wc_X8_refuse_7))
    have c8_9 : Int32.toInt (e_9.2 P 8) = Int32.toInt (M0 P 8) := congrArg Int32.toInt (q_9 P 8 (wc_X8_refuse_8))
    have c33_9 : Int32.toInt (e_9.2 P 33) = Int32.toInt (M0 P 33) := congrArg Int32.toInt (q_9 P 33 (wc_X8_refuse_33))
    have n_9 : nA P e_9.2 = nA P M0 := nA_congr (fun a j h => q_9 a j (wf_nA_X8_refuse h))
    have p_jB_9 : jB P e_9.2 := jB.mono p_jB (fun a j h => q_9 a j (wf_jB_X8_refuse h))
    obtain ⟨u0_jB_9, u1_jB_9, u2_jB_9, u3_jB_9, u4_jB_9, u5_jB_9⟩ := id p_jB_9
    have p_jS_9 : jS P e_9.2 := jS.mono p_jS (fun a j h => q_9 a j (wf_jS_X8_refuse h))
    obtain ⟨u0_jS_9, u1_jS_9, u2_jS_9, u3_jS_9, u4_jS_9, u5_jS_9, u6_jS_9, u7_jS_9⟩ := jS.ints p_jS_9
    have p_jR_9 : jR P e_9.2 := jR.mono p_jR (fun a j h => q_9 a j (wf_jR_X8_refuse h))
    have p_jK_9 : jK P e_9.2 := jK.mono p_jK (fun a j h => q_9 a j (wf_jK_X8_refuse h))
    have p_jT_9 : jT P e_9.2 := jT.mono p_jT (fun a j h => q_9 a j (wf_jT_X8_refuse h))
    obtain ⟨u0_jT_9, u1_jT_9, u2_jT_9, u3_jT_9, u4_jT_9, u5_jT_9⟩ := id p_jT_9
    exact ⟨_, rfl, k_9, (fun _ _ _ => rfl), ⟨p_jB_9, p_jS_9, p_jR_9, p_jK_9, p_jT_9⟩⟩
  · have i_4 : ¬ Int32.toInt e_1 = Int32.toInt (0 : Int32) := fun q => h_4 (Int32.toInt_inj.mp q)
    (try simp only [Int32.toInt_add, Int32.toInt_sub, Int32.toInt_mul, Int32.toInt_toInt64, Int64.toInt_add, z_m1, Int32.reduceToInt, Int64.reduceToInt, Int32.reduceToNatClampNeg, Int.bmod_def] at i_4)
    refine vB (v_X8_isApplicant p_jB p_jS) (fun e_15 f_15 q_15 => ?_)
    have k_15 : ∀ a j, ¬ WM_X8_spoils P a j → e_15.2 a j = M0 a j := fun a j h => (q_15.1 a j (wz_M_X8_isApplicant_X8_spoils h))
    have b_15 := q_15.2.1
    have c7_15 : Int32.toInt (e_15.2 P 7) = Int32.toInt (M0 P 7) := congrArg Int32.toInt (q_15.1 P 7 (wc_X8_isApplicant_7))
    have c8_15 : Int32.toInt (e_15.2 P 8) = Int32.toInt (M0 P 8) := congrArg Int32.toInt (q_15.1 P 8 (wc_X8_isApplicant_8))
    have n_15 : nA P e_15.2 = nA P M0 := nA_congr (fun a j h => q_15.1 a j (wf_nA_X8_isApplicant h))
    have p_jS_15 : jS P e_15.2 := jS.mono p_jS (fun a j h => q_15.1 a j (wf_jS_X8_isApplicant h))
    obtain ⟨u0_jS_15, u1_jS_15, u2_jS_15, u3_jS_15, u4_jS_15, u5_jS_15, u6_jS_15, u7_jS_15⟩ := jS.ints p_jS_15
    have p_jR_15 : jR P e_15.2 := jR.mono p_jR (fun a j h => q_15.1 a j (wf_jR_X8_isApplicant h))
    have p_jK_15 : jK P e_15.2 := jK.mono p_jK (fun a j h => q_15.1 a j (wf_jK_X8_isApplicant h))
    have p_jT_15 : jT P e_15.2 := jT.mono p_jT (fun a j h => q_15.1 a j (wf_jT_X8_isApplicant h))
    obtain ⟨u0_jT_15, u1_jT_15, u2_jT_15, u3_jT_15, u4_jT_15, u5_jT_15⟩ := id p_jT_15
    obtain ⟨x0_15, x1_15, x2_15, x3_15, x4_15⟩ := q_15.2.2
    obtain ⟨u0_jB_15, u1_jB_15, u2_jB_15, u3_jB_15, u4_jB_15, u5_jB_15⟩ := id x0_15
    (try simp only [Int32.toInt_add, Int32.toInt_sub, Int32.toInt_mul, Int32.toInt_toInt64, Int64.toInt_add, z_m1, Int32.reduceToInt, Int64.reduceToInt, Int32.reduceToNatClampNeg, Int.bmod_def] at x3_15)
    (try simp only [Int32.toInt_add, Int32.toInt_sub, Int32.toInt_mul, Int32.toInt_toInt64, Int64.toInt_add, z_m1, Int32.reduceToInt, Int64.reduceToInt, Int32.reduceToNatClampNeg, Int.bmod_def] at x4_15)
    refine vIf (fun h_18 => ?_) (fun h_18 => ?_)
    · have i_18 := congrArg Int32.toInt h_18
      (try simp only [Int32.toInt_add, Int32.toInt_sub, Int32.toInt_mul, Int32.toInt_toInt64, Int64.toInt_add, z_m1, Int32.reduceToInt, Int64.reduceToInt, Int32.reduceToNatClampNeg, Int.bmod_def] at i_18)
      refine vB (v_X8_refuse) (fun e_23 f_23 q_23 => ?_)
      have k_23 : ∀ a j, ¬ WM_X8_spoils P a j → e_23.2 a j = M0 a j := fun a j h => (q_23 a j (wz_M_X8_refuse_X8_spoils h)).trans (k_15 a j h)
      have c7_23 : Int32.toInt (e_23.2 P 7) = Int32.toInt (e_15.2 P 7) := congrArg Int32.toInt (q_23 P 7 (wc_X8_refuse_7))
      have c8_23 : Int32.toInt (e_23.2 P 8) = Int32.toInt (e_15.2 P 8) := congrArg Int32.toInt (q_23 P 8 (wc_X8_refuse_8))
      have c33_23 : Int32.toInt (e_23.2 P 33) = Int32.toInt (e_15.2 P 33) := congrArg Int32.toInt (q_23 P 33 (wc_X8_refuse_33))
      have n_23 : nA P e_23.2 = nA P e_15.2 := nA_congr (fun a j h => q_23 a j (wf_nA_X8_refuse h))
      have p_jS_23 : jS P e_23.2 := jS.mono p_jS_15 (fun a j h => q_23 a j (wf_jS_X8_refuse h))
      obtain ⟨u0_jS_23, u1_jS_23, u2_jS_23, u3_jS_23, u4_jS_23, u5_jS_23, u6_jS_23, u7_jS_23⟩ := jS.ints p_jS_23
      have p_jR_23 : jR P e_23.2 := jR.mono p_jR_15 (fun a j h => q_23 a j (wf_jR_X8_refuse h))
      have p_jK_23 : jK P e_23.2 := jK.mono p_jK_15 (fun a j h => q_23 a j (wf_jK_X8_refuse h))
      have p_jT_23 : jT P e_23.2 := jT.mono p_jT_15 (fun a j h => q_23 a j (wf_jT_X8_refuse h))
      obtain ⟨u0_jT_23, u1_jT_23, u2_jT_23, u3_jT_23, u4_jT_23, u5_jT_23⟩ := id p_jT_23
      have p_jB_23 : jB P e_23.2 := jB.mono x0_15 (fun a j h => q_23 a j (wf_jB_X8_refuse h))
      obtain ⟨u0_jB_23, u1_jB_23, u2_jB_23, u3_jB_23, u4_jB_23, u5_jB_23⟩ := id p_jB_23
      have p_jL_23 : jL P e_23.2 := jL.mono x1_15 (fun a j h => q_23 a j (wf_jL_X8_refuse h))
      have p_jH_23 : jH P e_23.2 := jH.mono x2_15 (fun a j h => q_23 a j (wf_jH_X8_refuse h))
      exact ⟨_, rfl, k_23, (fun _ _ _ => rfl), ⟨p_jB_23, p_jS_23, p_jR_23, p_jK_23, p_jT_23⟩⟩
    · have i_18 : ¬ Int32.toInt e_15.1 = Int32.toInt (0 : Int32) := fun q => h_18 (Int32.toInt_inj.mp q)
      (try simp only [Int32.toInt_add, Int32.toInt_sub, Int32.toInt_mul, Int32.toInt_toInt64, Int64.toInt_add, z_m1, Int32.reduceToInt, Int64.reduceToInt, Int32.reduceToNatClampNeg, Int.bmod_def] at i_18)
      refine vB (v_X8_laysResult x0_15 p_jS_15 p_jR_15 (by first | omega | (simp only [Int32.toInt_add, Int32.toInt_sub, Int32.toInt_mul, Int32.toInt_toInt64, Int64.toInt_add, z_m1, Int32.reduceToInt, Int64.reduceToInt, Int32.reduceToNatClampNeg, Int.bmod_def, or_true, true_or, and_true, true_and] <;> omega))) (fun e_29 f_29 q_29 => ?_)
      have k_29 : ∀ a j, ¬ WM_X8_spoils P a j → e_29.1 a j = M0 a j := fun a j h => (q_29.1 a j (wz_M_X8_laysResult_X8_spoils h)).trans (k_15 a j h)
      have kn_29 : ∀ a j, ¬ WN_X8_spoils P a j → e_29.2 a j = N0 a j := fun a j h => (q_29.2.1 a j (wz_N_X8_laysResult_X8_spoils h))
      have c7_29 : Int32.toInt (e_29.1 P 7) = Int32.toInt (e_15.2 P 7) := congrArg Int32.toInt (q_29.1 P 7 (wc_X8_laysResult_7))
      have c8_29 : Int32.toInt (e_29.1 P 8) = Int32.toInt (e_15.2 P 8) := congrArg Int32.toInt (q_29.1 P 8 (wc_X8_laysResult_8))
      have n_29 : nA P e_29.1 = nA P e_15.2 := nA_congr (fun a j h => q_29.1 a j (wf_nA_X8_laysResult h))
      have p_jS_29 : jS P e_29.1 := jS.mono p_jS_15 (fun a j h => q_29.1 a j (wf_jS_X8_laysResult h))
      obtain ⟨u0_jS_29, u1_jS_29, u2_jS_29, u3_jS_29, u4_jS_29, u5_jS_29, u6_jS_29, u7_jS_29⟩ := jS.ints p_jS_29
      have p_jK_29 : jK P e_29.1 := jK.mono p_jK_15 (fun a j h => q_29.1 a j (wf_jK_X8_laysResult h))
      have p_jT_29 : jT P e_29.1 := jT.mono p_jT_15 (fun a j h => q_29.1 a j (wf_jT_X8_laysResult h))
      obtain ⟨u0_jT_29, u1_jT_29, u2_jT_29, u3_jT_29, u4_jT_29, u5_jT_29⟩ := id p_jT_29
      obtain ⟨x0_29, x1_29, x2_29, x3_29, x4_29, x5_29⟩ := q_29.2.2
      obtain ⟨u0_jB_29, u1_jB_29, u2_jB_29, u3_jB_29, u4_jB_29, u5_jB_29⟩ := id x0_29
      (try simp only [Int32.toInt_add, Int32.toInt_sub, Int32.toInt_mul, Int32.toInt_toInt64, Int64.toInt_add, z_m1, Int32.reduceToInt, Int64.reduceToInt, Int32.reduceToNatClampNeg, Int.bmod_def] at x5_29)
      exact T_34 _ _ _ _ k_29 kn_29 x0_29 x2_29 p_jK_29 x1_29 x3_29 x4_29 p_jS_29 p_jT_29 (by first | omega | (simp only [Int32.toInt_add, Int32.toInt_sub, Int32.toInt_mul, Int32.toInt_toInt64, Int64.toInt_add, z_m1, Int32.reduceToInt, Int64.reduceToInt, Int32.reduceToNatClampNeg, Int.bmod_def, or_true, true_or, and_true, true_and] <;> omega)) (by first | omega | (simp only [Int32.toInt_add, Int32.toInt_sub, Int32.toInt_mul, Int32.toInt_toInt64, Int64.toInt_add, z_m1, Int32.reduceToInt, Int64.reduceToInt, Int32.reduceToNatClampNeg, Int.bmod_def, or_true, true_or, and_true, true_and] <;> omega))
