theorem lgc_lt {x y : Int64} : lg_cmp x y < 0 ↔ x.toInt < y.toInt := by
  rw [← Int64.lt_iff_toInt_lt]
  unfold lg_cmp
  by_cases h1 : x > y
  · rw [if_pos h1]
    exact ⟨fun q => absurd q (by decide), fun q => absurd (Int64.lt_trans q h1) Int64.lt_irrefl⟩
  · rw [if_neg h1]
    by_cases h2 : x = y
    · rw [if_pos h2]
      subst h2
      exact ⟨fun q => absurd q (by decide), fun q => absurd q Int64.lt_irrefl⟩
    · rw [if_neg h2]
      refine ⟨fun _ => ?_, fun _ => by decide⟩
      have h3 := Int64.not_lt.mp h1
      rw [Int64.lt_iff_toInt_lt]
      rw [Int64.le_iff_toInt_le] at h3
      have : x.toInt ≠ y.toInt := fun q => h2 (Int64.toInt_inj.mp q)
      omega
theorem lgc_gt {x y : Int64} : 0 < lg_cmp x y ↔ y.toInt < x.toInt := by
  rw [← Int64.lt_iff_toInt_lt]
  unfold lg_cmp
  by_cases h1 : x > y
  · rw [if_pos h1]
    exact ⟨fun _ => h1, fun _ => by decide⟩
  · rw [if_neg h1]
    by_cases h2 : x = y
    · rw [if_pos h2]
      exact ⟨fun q => absurd q (by decide), fun q => absurd q h1⟩
    · rw [if_neg h2]
      exact ⟨fun q => absurd q (by decide), fun q => absurd q h1⟩
theorem v_X8_isFrom {v0 v1 v2 : Int64} : ∃ r, D_X8_isFrom v0 v1 v2 = some r ∧ ((r = 0 ∨ r = 1) ∧ ((Int32.toInt r = 1 ∧ v1.toInt ≤ v0.toInt ∧ v0.toInt ≤ v2.toInt) ∨ (Int32.toInt r = 0 ∧ (v0.toInt < v1.toInt ∨ v2.toInt < v0.toInt)))) := by
  unfold D_X8_isFrom
  refine vIf (fun h => ⟨0, rfl, Or.inl rfl, Or.inr ⟨by decide, Or.inl (lgc_lt.mp h)⟩⟩) (fun h => ?_)
  refine vIf (fun h2 => ⟨0, rfl, Or.inl rfl, Or.inr ⟨by decide, Or.inr (lgc_gt.mp h2)⟩⟩) (fun h2 => ?_)
  rw [lgc_lt] at h
  rw [lgc_gt] at h2
  exact ⟨1, rfl, Or.inr rfl, Or.inl ⟨by decide, by omega, by omega⟩⟩
theorem v_X8_has {v0 v1 : Int32} : ∃ r, D_X8_has v0 v1 = some r ∧ ((r = 0 ∨ r = 1) ∧ ((r = 1 ∧ ((v0 >>> (v1 &&& 31)) &&& 1) = 1) ∨ (r = 0 ∧ ¬ ((v0 >>> (v1 &&& 31)) &&& 1) = 1))) := by
  unfold D_X8_has
  exact vIf (fun h => ⟨1, rfl, Or.inr rfl, Or.inl ⟨rfl, h⟩⟩) (fun h => ⟨0, rfl, Or.inl rfl, Or.inr ⟨rfl, h⟩⟩)
theorem z_div {x y : Int32} {c : Int} (hx : 0 ≤ x.toInt) (hy : 1 ≤ y.toInt) (hxy : x.toInt ≤ c * y.toInt) (hc : c < 2147483648) : 0 ≤ (x / y).toInt ∧ (x / y).toInt ≤ c := by
  have h1 : 0 ≤ x.toInt / y.toInt := Int.ediv_nonneg hx (by omega)
  have h2 : x.toInt / y.toInt ≤ c := Int.ediv_le_of_le_mul (by omega) hxy
  have e : (x / y).toInt = x.toInt / y.toInt := by
    rw [Int32.toInt_div, Int.tdiv_eq_ediv_of_nonneg hx, Int.bmod_def]
    omega
  rw [e]
  exact ⟨h1, h2⟩
theorem z_add {x y : Int32} (h1 : -2147483648 ≤ x.toInt + y.toInt) (h2 : x.toInt + y.toInt < 2147483648) : (x + y).toInt = x.toInt + y.toInt := by
  rw [Int32.toInt_add, Int.bmod_def]; omega
theorem z_sub {x y : Int32} (h1 : -2147483648 ≤ x.toInt - y.toInt) (h2 : x.toInt - y.toInt < 2147483648) : (x - y).toInt = x.toInt - y.toInt := by
  rw [Int32.toInt_sub, Int.bmod_def]; omega
theorem z_mul {x y : Int32} (h1 : -2147483648 ≤ x.toInt * y.toInt) (h2 : x.toInt * y.toInt < 2147483648) : (x * y).toInt = x.toInt * y.toInt := by
  rw [Int32.toInt_mul, Int.bmod_def]; omega
/-- laysOne writes its own place of four rows -/
def WL1 (P a x j : Nat) : Prop := (P + 14 ≤ x ∧ x < P + 18) ∧ j = a
theorem v_X8_laysOne {P a : Nat} {M0 : zMt} (hB : jB P M0) (hS : jS P M0) (ha : a < 10) (hm : ∃ h : Nat, (h : Int) < (M0 P 8).toInt ∧ bitAt (M0 (P + 11) a) h) : ∃ r, D_X8_laysOne P (nI a) M0 = some r ∧ ((∀ x j, ¬ WL1 P a x j → r x j = M0 x j) ∧ 1 ≤ (r (P + 14) a).toInt ∧ (r (P + 14) a).toInt ≤ 10 ∧ 1 ≤ (r (P + 17) a).toInt ∧ (r (P + 17) a).toInt ≤ 401) := by
  obtain ⟨b1, b2, b3, b4, b5, b6⟩ := id hB
  have hi := hS.ints
  obtain ⟨s1, s2, s3, s4, s5, s6⟩ := id hS
  have hca : (nI a).toNatClampNeg = a := nI_clamp (by omega)
  have hin : vp_in (nI a) 10 := vp_in_nI ha (by decide)
  have h67 : (67 : Int32).toNatClampNeg = 67 := by decide
  have v67 : vp_in (67 : Int32) 82 := by unfold vp_in; decide
  have E : ∀ (y : Int32) (M : zMt), (∀ x j, ¬ WL1 P a x j → M x j = M0 x j) → 1 ≤ (M (P + 14) a).toInt → (M (P + 14) a).toInt ≤ 10 → 1 ≤ y.toInt → y.toInt ≤ 401 → ∃ r, D_X8_laysOne_162 P (nI a) y M = some r ∧ ((∀ x j, ¬ WL1 P a x j → r x j = M0 x j) ∧ 1 ≤ (r (P + 14) a).toInt ∧ (r (P + 14) a).toInt ≤ 10 ∧ 1 ≤ (r (P + 17) a).toInt ∧ (r (P + 17) a).toInt ≤ 401) := by
    intro y M k h1 h2 h3 h4
    unfold D_X8_laysOne_162
    refine vI hin ?_
    rw [hca]
    refine ⟨_, rfl, fun x j h => (zu_ne (by unfold WL1 at h; omega)).trans (k x j h), ?_⟩
    rw [zu_ne (by omega), zu_eq]
    exact ⟨h1, h2, h3, h4⟩
  have L : ∀ (u i : Nat) (sum : Int32) (M : zMt), (i : Int) ≤ (M0 P 8).toInt → (M0 P 8).toInt - i < u → (∀ x j, ¬ WL1 P a x j → M x j = M0 x j) → 0 ≤ (M (P + 14) a).toInt → (M (P + 14) a).toInt ≤ i → 0 ≤ sum.toInt → sum.toInt ≤ 20 * (M (P + 14) a).toInt → ((∃ h : Nat, h < i ∧ bitAt (M0 (P + 11) a) h) → 1 ≤ (M (P + 14) a).toInt) → ∃ r, D_X8_laysOne_18 P u (nI a) sum (nI i) M = some r ∧ ((∀ x j, ¬ WL1 P a x j → r x j = M0 x j) ∧ 1 ≤ (r (P + 14) a).toInt ∧ (r (P + 14) a).toInt ≤ 10 ∧ 1 ≤ (r (P + 17) a).toInt ∧ (r (P + 17) a).toInt ≤ 401) := by
    intro u
    induction u with
    | zero => intro i sum M h1 h2; omega
    | succ u ih =>
      intro i sum M hi1 hu k hz1 hz2 hs1 hs2 hx
      have hH : M P 8 = M0 P 8 := k P 8 (by unfold WL1; omega)
      have hB11 : M (P + 11) a = M0 (P + 11) a := k (P + 11) a (by unfold WL1; omega)
      have hit : (nI i).toInt = i := nI_toInt (by omega)
      rw [D_X8_laysOne_18, hH]
      refine vIf (fun hc => ?_) (fun hc => ?_)
      · have hge := Int32.le_iff_toInt_le.mp hc
        rw [hit] at hge
        have hsz : 1 ≤ (M (P + 14) a).toInt := hx (by obtain ⟨h, hh, hb⟩ := hm; exact ⟨h, by omega, hb⟩)
        refine vI hin ?_
        rw [hca]
        refine vZ (z_ne0 (by omega)) ?_
        refine vI hin ?_
        have hq := z_div (c := 20) hs1 hsz hs2 (by omega)
        refine vLm (W := WL1 P a) (fun x j h => (zu_ne (by unfold WL1 at h; omega)).trans (k x j h)) (fun M1 f1 k1 => ?_)
        have e14 : M1 (P + 14) a = M (P + 14) a := by rw [← f1, zu_ne (by omega)]
        have e16 : M1 (P + 16) a = sum / M (P + 14) a := by rw [← f1, zu_eq]
        have g1 : 1 ≤ (M1 (P + 14) a).toInt := by rw [e14]; exact hsz
        have g2 : (M1 (P + 14) a).toInt ≤ 10 := by rw [e14]; omega
        rw [e16]
        generalize sum / M (P + 14) a = q at hq
        refine vI v67 ?_
        refine vIf (fun _ => E _ M1 k1 g1 g2 (by decide) (by decide)) (fun _ => ?_)
        refine vI v67 ?_
        have o1 : (1 : Int32).toInt = 1 := by decide
        refine vIf (fun _ => ?_) (fun _ => ?_)
        · refine vI hin ?_
          have := z_add (x := 1) (y := q) (by omega) (by omega)
          exact E _ M1 k1 g1 g2 (by omega) (by omega)
        · refine vI hin (vI hin ?_)
          have hqq : 0 ≤ q.toInt * q.toInt ∧ q.toInt * q.toInt ≤ 20 * 20 := ⟨Int.mul_nonneg hq.1 hq.1, Int.mul_le_mul hq.2 hq.2 hq.1 (by decide)⟩
          have m1 := z_mul (x := q) (y := q) (by omega) (by omega)
          have := z_add (x := 1) (y := q * q) (by omega) (by omega)
          exact E _ M1 k1 g1 g2 (by omega) (by omega)
      · have hlt := Int32.lt_iff_toInt_lt.mp (Int32.not_le.mp hc)
        rw [hit] at hlt
        have hci : (nI i).toNatClampNeg = i := nI_clamp (by omega)
        have vi10 : vp_in (nI i) 10 := vp_in_nI (by omega) (by decide)
        refine vI hin ?_
        rw [hca, hci, hB11]
        have T86 : ∀ (sum' : Int32) (M' : zMt), (∀ x j, ¬ WL1 P a x j → M' x j = M0 x j) → 0 ≤ (M' (P + 14) a).toInt → (M' (P + 14) a).toInt ≤ i + 1 → 0 ≤ sum'.toInt → sum'.toInt ≤ 20 * (M' (P + 14) a).toInt → ((∃ h : Nat, h < i + 1 ∧ bitAt (M0 (P + 11) a) h) → 1 ≤ (M' (P + 14) a).toInt) → ∃ r, D_X8_laysOne_86 P (D_X8_laysOne_18 P u) (nI a) sum' (nI i) M' = some r ∧ ((∀ x j, ¬ WL1 P a x j → r x j = M0 x j) ∧ 1 ≤ (r (P + 14) a).toInt ∧ (r (P + 14) a).toInt ≤ 10 ∧ 1 ≤ (r (P + 17) a).toInt ∧ (r (P + 17) a).toInt ≤ 401) := by
          intro sum' M' k' a1 a2 a3 a4 a5
          unfold D_X8_laysOne_86
          rw [nI_1]
          exact ih (i + 1) sum' M' (by omega) (by omega) k' a1 (by omega) a3 a4 a5
        refine vB v_X8_has (fun e1 f1 q1 => ?_)
        refine vIf (fun h0 => ?_) (fun h0 => ?_)
        · refine T86 sum M k hz1 (by omega) hs1 hs2 (fun ⟨h, hh, hb⟩ => ?_)
          by_cases hhi : h = i
          · subst hhi
            rcases q1.2 with ⟨q, _⟩ | ⟨_, q⟩
            · rw [q] at h0; exact absurd h0 (by decide)
            · exact absurd hb q
          · exact hx ⟨h, by omega, hb⟩
        · refine vI hin (vI hin ?_)
          refine vLm (W := WL1 P a) (fun x j h => (zu_ne (by unfold WL1 at h; omega)).trans (k x j h)) (fun M1 f2 k1 => ?_)
          have o1 : (1 : Int32).toInt = 1 := by decide
          have e14 : (M1 (P + 14) a).toInt = (M (P + 14) a).toInt + 1 := by rw [← f2, zu_eq, z_add (by omega) (by omega), o1]
          refine vI hin (vI vi10 ?_)
          have T73 : ∀ y3 : Int32, ∃ r, D_X8_laysOne_73 P (D_X8_laysOne_18 P u) (nI a) sum (nI i) (nI a) (M1 (P + 15) a) y3 M1 = some r ∧ ((∀ x j, ¬ WL1 P a x j → r x j = M0 x j) ∧ 1 ≤ (r (P + 14) a).toInt ∧ (r (P + 14) a).toInt ≤ 10 ∧ 1 ≤ (r (P + 17) a).toInt ∧ (r (P + 17) a).toInt ≤ 401) := by
            intro y3
            unfold D_X8_laysOne_73
            refine vI hin ?_
            rw [hca]
            refine vLm (W := WL1 P a) (fun x j h => (zu_ne (by unfold WL1 at h; omega)).trans (k1 x j h)) (fun M2 f3 k2 => ?_)
            have e142 : M2 (P + 14) a = M1 (P + 14) a := by rw [← f3, zu_ne (by omega)]
            have z0 : (0 : Int32) + nI i = nI i := by rw [show (0 : Int32) = nI 0 from rfl, nI_add, Nat.zero_add]
            rw [z0, hci]
            refine vI (vp_in_nI (by omega) (by decide)) ?_
            have eP : M2 (P + 1) i = M0 (P + 1) i := k2 (P + 1) i (by unfold WL1; omega)
            have hp := s1 i (by omega)
            rw [eP]
            have hsum := z_add (x := sum) (y := M0 (P + 1) i) (by omega) (by omega)
            exact T86 _ M2 k2 (by rw [e142]; omega) (by rw [e142]; omega) (by omega) (by rw [e142]; omega) (fun _ => by rw [e142]; omega)
          exact vIf (fun _ => T73 _) (fun _ => T73 _)
  unfold D_X8_laysOne
  refine vI hin ?_
  rw [hca]
  refine vLm (W := WL1 P a) (fun x j h => zu_ne (by unfold WL1 at h; omega)) (fun M1 f1 k1 => ?_)
  refine vI hin ?_
  refine vLm (W := WL1 P a) (fun x j h => (zu_ne (by unfold WL1 at h; omega)).trans (k1 x j h)) (fun M2 f2 k2 => ?_)
  have e14 : M2 (P + 14) a = 0 := by rw [← f2, zu_ne (by omega), ← f1, zu_eq]
  have o0 : (0 : Int32).toInt = 0 := by decide
  exact L zFu 0 0 M2 (by omega) (by unfold zFu; omega) k2 (by rw [e14]; omega) (by rw [e14]; omega) (by omega) (by rw [e14]; omega) (fun ⟨h, hh, _⟩ => absurd hh (Nat.not_lt_zero h))
