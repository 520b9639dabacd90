theorem lgc_lt {x y : Int64} : lg_cmp x y < 0 ↔ x.toInt < y.toInt := by
  rw [← Int64.lt_iff_toInt_lt]
  unfold lg_cmp
  by_cases h1 : x > y
  · rw [if_pos h1]
    exact ⟨fun q => absurd q (by decide), fun q => absurd (Int64.lt_trans q h1) Int64.lt_irrefl⟩
  · rw [if_neg h1]
    by_cases h2 : x = y
    · rw [if_pos h2]
      subst h2
      exact ⟨fun q => absurd q (by decide), fun q => absurd q Int64.lt_irrefl⟩
    · rw [if_neg h2]
      refine ⟨fun _ => ?_, fun _ => by decide⟩
      have h3 := Int64.not_lt.mp h1
      rw [Int64.lt_iff_toInt_lt]
      rw [Int64.le_iff_toInt_le] at h3
      have : x.toInt ≠ y.toInt := fun q => h2 (Int64.toInt_inj.mp q)
      omega
theorem lgc_gt {x y : Int64} : 0 < lg_cmp x y ↔ y.toInt < x.toInt := by
  rw [← Int64.lt_iff_toInt_lt]
  unfold lg_cmp
  by_cases h1 : x > y
  · rw [if_pos h1]
    exact ⟨fun _ => h1, fun _ => by decide⟩
  · rw [if_neg h1]
    by_cases h2 : x = y
    · rw [if_pos h2]
      exact ⟨fun q => absurd q (by decide), fun q => absurd q h1⟩
    · rw [if_neg h2]
      exact ⟨fun q => absurd q (by decide), fun q => absurd q h1⟩
theorem v_X8_isFrom {v0 v1 v2 : Int64} : ∃ r, D_X8_isFrom v0 v1 v2 = some r ∧ ((r = 0 ∨ r = 1) ∧ ((Int32.toInt r = 1 ∧ v1.toInt ≤ v0.toInt ∧ v0.toInt ≤ v2.toInt) ∨ (Int32.toInt r = 0 ∧ (v0.toInt < v1.toInt ∨ v2.toInt < v0.toInt)))) := by
  unfold D_X8_isFrom
  refine vIf (fun h => ⟨0, rfl, Or.inl rfl, Or.inr ⟨by decide, Or.inl (lgc_lt.mp h)⟩⟩) (fun h => ?_)
  refine vIf (fun h2 => ⟨0, rfl, Or.inl rfl, Or.inr ⟨by decide, Or.inr (lgc_gt.mp h2)⟩⟩) (fun h2 => ?_)
  rw [lgc_lt] at h
  rw [lgc_gt] at h2
  exact ⟨1, rfl, Or.inr rfl, Or.inl ⟨by decide, by omega, by omega⟩⟩
theorem v_X8_has {v0 v1 : Int32} : ∃ r, D_X8_has v0 v1 = some r ∧ ((r = 0 ∨ r = 1) ∧ ((r = 1 ∧ ((v0 >>> (v1 &&& 31)) &&& 1) = 1) ∨ (r = 0 ∧ ¬ ((v0 >>> (v1 &&& 31)) &&& 1) = 1))) := by
  unfold D_X8_has
  exact vIf (fun h => ⟨1, rfl, Or.inr rfl, Or.inl ⟨rfl, h⟩⟩) (fun h => ⟨0, rfl, Or.inl rfl, Or.inr ⟨rfl, h⟩⟩)
theorem z_div {x y : Int32} {c : Int} (hx : 0 ≤ x.toInt) (hy : 1 ≤ y.toInt) (hxy : x.toInt ≤ c * y.toInt) (hc : c < 2147483648) : 0 ≤ (x / y).toInt ∧ (x / y).toInt ≤ c := by
  have h1 : 0 ≤ x.toInt / y.toInt := Int.ediv_nonneg hx (by omega)
  have h2 : x.toInt / y.toInt ≤ c := Int.ediv_le_of_le_mul (by omega) hxy
  have e : (x / y).toInt = x.toInt / y.toInt := by
    rw [Int32.toInt_div, Int.tdiv_eq_ediv_of_nonneg hx, Int.bmod_def]
    omega
  rw [e]
  exact ⟨h1, h2⟩
theorem z_add {x y : Int32} (h1 : -2147483648 ≤ x.toInt + y.toInt) (h2 : x.toInt + y.toInt < 2147483648) : (x + y).toInt = x.toInt + y.toInt := by
  rw [Int32.toInt_add, Int.bmod_def]; omega
theorem z_sub {x y : Int32} (h1 : -2147483648 ≤ x.toInt - y.toInt) (h2 : x.toInt - y.toInt < 2147483648) : (x - y).toInt = x.toInt - y.toInt := by
  rw [Int32.toInt_sub, Int.bmod_def]; omega
theorem z_mul {x y : Int32} (h1 : -2147483648 ≤ x.toInt * y.toInt) (h2 : x.toInt * y.toInt < 2147483648) : (x * y).toInt = x.toInt * y.toInt := by
  rw [Int32.toInt_mul, Int.bmod_def]; omega
