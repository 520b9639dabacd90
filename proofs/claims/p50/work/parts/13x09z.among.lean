/-! the laws' names: which of three -/
def sp (i : Nat) : Nat := ((List.range i).filter (fun j => zCh 12 j = 32)).length
theorem sp_s : ∀ i, i < 18 → sp (i + 1) = sp i + (if zCh 12 i = 32 then 1 else 0) := by decide +kernel
theorem sp_2 : ∀ i, i < 18 → sp i ≤ 2 := by decide +kernel
theorem w_X8_among {P : Nat} {N : zNt} : ∃ r, D_X8_among P 12 N = some r ∧ (-1 ≤ Int32.toInt r ∧ Int32.toInt r ≤ 2) := by
  have L : ∀ (u i : Nat) (y : Int64), i ≤ 18 → 18 - i < u → ∃ r, D_X8_among_7 P 12 N u (nI (sp i)) y (nI i) = some r ∧ (-1 ≤ Int32.toInt r ∧ Int32.toInt r ≤ 2) := by
    intro u
    induction u with
    | zero => intro i y _ h; omega
    | succ u ih =>
      intro i y hi hu
      rw [D_X8_among_7]
      refine vIf (fun _ => ⟨_, rfl, by decide, by decide⟩) (fun hc => ?_)
      have hlt : i < 18 := Nat.lt_of_not_le (fun q => hc ((nI_leI (a := 18) (b := i) (by decide) (by omega)).mpr q))
      refine vI (vp_in_nI hlt (by decide)) ?_
      rw [nI_clamp (by omega)]
      have hs := sp_s i hlt
      refine vIf (fun h1 => ?_) (fun h1 => ?_)
      · refine vIf (fun _ => ⟨_, rfl, ?_⟩) (fun _ => ?_)
        · have := sp_2 i hlt
          rw [nI_toInt (by omega)]
          omega
        · unfold D_X8_among_62
          rw [nI_1, nI_1]
          have t := ih (i + 1) 0 (by omega) (by omega)
          rw [hs, if_pos h1] at t
          exact t
      · unfold D_X8_among_62
        rw [if_neg h1, Nat.add_zero] at hs
        rw [nI_1]
        have t := ih (i + 1) ((y <<< (Int32.toInt64 (5 : Int32) &&& 63)) ||| ((Int32.toInt64 (zCh 12 i)) - (96 : Int64))) (by omega) (by omega)
        rw [hs] at t
        exact t
  unfold D_X8_among
  have t := L zFu 0 0 (by omega) (by unfold zFu; omega)
  have e0 : nI (sp 0) = 0 := by decide
  have e1 : nI 0 = 0 := by decide
  rw [e0, e1] at t
  exact t
