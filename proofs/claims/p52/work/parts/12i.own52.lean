/-! p52: whole numbers laid as letters; StringBuilder's own methods -/
/-- a number up to 100, as it is written -/
def dg (v : Nat) : List Nat := if v < 10 then [48 + v] else if v < 100 then [48 + v / 10, 48 + v % 10] else [49, 48, 48]
theorem dg_lt {v x : Nat} (hv : v ≤ 100) (h : x ∈ dg v) : x < 128 := by
  unfold dg at h
  split at h
  · rw [List.mem_singleton.mp h]; omega
  · split at h
    · rcases List.mem_cons.mp h with h | h
      · omega
      · rw [List.mem_singleton.mp h]; omega
    · rcases List.mem_cons.mp h with h | h
      · omega
      · rcases List.mem_cons.mp h with h | h
        · omega
        · rw [List.mem_singleton.mp h]; omega
theorem dg_1 {v : Nat} (h : v < 10) : dg v = [48 + v] := if_pos h
theorem dg_2 {v : Nat} (h : ¬ v < 10) (h2 : v < 100) : dg v = [48 + v / 10, 48 + v % 10] := by unfold dg; rw [if_neg h, if_pos h2]
theorem dg_3 : dg 100 = [49, 48, 48] := rfl
theorem z_dgs : (∀ v, v ≤ 100 → ¬ nI v < 0 ∧ ¬ (0 ≤ nI v ∧ nI v < 0)) ∧ (∀ v, v < 10 → (-10 : Int32) < -nI v ∧ ¬ -nI v ≤ (-100 : Int32) ∧ ¬ -nI v < (-9 : Int32)) ∧ (∀ v, v < 100 → ¬ v < 10 → ¬ (-10 : Int32) < -nI v ∧ (-100 : Int32) < -nI v ∧ ¬ -nI v ≤ (-100 : Int32) ∧ -nI v < (-9 : Int32)) ∧ (∀ v, v ≤ 100 → - -nI v = nI v) := by decide +kernel
theorem zct_one {M : Nat → Nat → Int32} {P d a : Nat} : zct M P d 1 [a] = zu M P d (nI a) := by
  funext x j
  unfold zct zu
  by_cases h : x = P ∧ j = d
  · rw [if_pos h, if_pos ⟨h.1, by omega, by omega⟩, h.2, Nat.sub_self]
    rfl
  · rw [if_neg h, if_neg (fun q => h ⟨q.1, by omega⟩)]
theorem zct_two {M : Nat → Nat → Int32} {P d a c : Nat} : zct M P d 2 [a, c] = zu (zu M P (d + 1) (nI c)) P d (nI a) := by
  funext x j
  unfold zct zu
  by_cases h : x = P ∧ j = d
  · rw [if_pos h, if_pos ⟨h.1, by omega, by omega⟩, h.2, Nat.sub_self]
    rfl
  · rw [if_neg h]
    by_cases h2 : x = P ∧ j = d + 1
    · rw [if_pos h2, if_pos ⟨h2.1, by omega, by omega⟩, h2.2, Nat.add_sub_cancel_left]
      rfl
    · rw [if_neg h2, if_neg (fun q => by have h3 := q.2; have h4 := q.1; by_cases h5 : j = d; exact h ⟨h4, h5⟩; exact h2 ⟨h4, by omega⟩)]
theorem zct_three {M : Nat → Nat → Int32} {P d a c f : Nat} : zct M P d 3 [a, c, f] = zu (zu (zu M P (d + 2) (nI f)) P (d + 1) (nI c)) P d (nI a) := by
  funext x j
  unfold zct zu
  by_cases h : x = P ∧ j = d
  · rw [if_pos h, if_pos ⟨h.1, by omega, by omega⟩, h.2, Nat.sub_self]
    rfl
  · rw [if_neg h]
    by_cases h2 : x = P ∧ j = d + 1
    · rw [if_pos h2, if_pos ⟨h2.1, by omega, by omega⟩, h2.2, Nat.add_sub_cancel_left]
      rfl
    · rw [if_neg h2]
      by_cases h3 : x = P ∧ j = d + 2
      · rw [if_pos h3, if_pos ⟨h3.1, by omega, by omega⟩, h3.2, Nat.add_sub_cancel_left]
        rfl
      · rw [if_neg h3, if_neg (fun q => by have h5 := q.2; have h4 := q.1; by_cases h6 : j = d; exact h ⟨h4, h6⟩; by_cases h7 : j = d + 1; exact h2 ⟨h4, h7⟩; exact h3 ⟨h4, by omega⟩)]
theorem nI_dn {k : Nat} (h : 1 ≤ k) : nI k + Int32.ofInt (-1) = nI (k - 1) := by
  obtain ⟨m, rfl⟩ : ∃ m, k = m + 1 := ⟨k - 1, by omega⟩
  rw [Nat.add_sub_cancel, ← nI_1]
  rw [show Int32.ofInt (-1) = -(1 : Int32) by decide, Int32.add_assoc]
  rw [show (1 : Int32) + -1 = 0 by decide]
  simp
set_option maxRecDepth 100000 in
theorem k_stringSize {l : Launch} {G : zG} {b : Nat} {S : zS} {v : Nat} (hv : v ≤ 100) : zM l G b yJ6_stringSize_0f7a4 cJ6_stringSize_0f7a4 4 (some .int) 0 0 0 [.int (nI v)] S (fun r z => r = some (.int (nI (dg v).length)) ∧ z = S) := by
  refine zM.of miJ6_stringSize_0f7a4 (Nat.le_of_ble_eq_true rfl) ?_
  intro p0 e s m args below meth c X hr hname
  by_cases h1 : v < 10
  · rw [dg_1 h1]
    refine a_iconst (v := 1) X dJ6_stringSize_0f7a4_0 (by decide) ?_
    refine a_istore_n X dJ6_stringSize_0f7a4_1 (by decide) ?_
    refine a_iload_n X dJ6_stringSize_0f7a4_2 rfl ?_
    refine a_if_lt (tgt := 11) X dJ6_stringSize_0f7a4_3 (by decide) (fun h => absurd h (z_dgs.1 v hv).1) (fun _ => ?_)
    refine a_iconst (v := 0) X dJ6_stringSize_0f7a4_6 (by decide) ?_
    refine a_istore_n X dJ6_stringSize_0f7a4_7 (by decide) ?_
    refine a_iload_n X dJ6_stringSize_0f7a4_8 rfl ?_
    refine a_ineg X dJ6_stringSize_0f7a4_9 ?_
    refine a_istore_n X dJ6_stringSize_0f7a4_10 (by decide) ?_
    refine a_bipush (v := -10) X dJ6_stringSize_0f7a4_11 (by decide) ?_
    refine a_istore_n X dJ6_stringSize_0f7a4_13 (by decide) ?_
    refine a_iconst (v := 1) X dJ6_stringSize_0f7a4_14 (by decide) ?_
    refine a_istore_n X dJ6_stringSize_0f7a4_15 (by decide) ?_
    refine Zw.to2 (ls' := [some (.int (-nI v)), some (.int (0)), some (.int ((-10 : Int32))), some (.int ((1 : Int32)))]) (st' := []) ?_ rfl rfl rfl
    refine a_iload_n X dJ6_stringSize_0f7a4_16 rfl ?_
    refine a_bipush (v := 10) X dJ6_stringSize_0f7a4_17 (by decide) ?_
    refine a_icmp_ge (tgt := 42) X dJ6_stringSize_0f7a4_19 (by decide) (fun h => absurd h (by decide)) (fun _ => ?_)
    refine a_iload_n X dJ6_stringSize_0f7a4_22 rfl ?_
    refine a_iload_n X dJ6_stringSize_0f7a4_23 rfl ?_
    refine a_icmp_le (tgt := 31) X dJ6_stringSize_0f7a4_24 (by decide) (fun h => absurd h (Int32.not_le.mpr (z_dgs.2.1 v h1).1)) (fun _ => ?_)
    refine a_iload_n X dJ6_stringSize_0f7a4_27 rfl ?_
    refine a_iload_n X dJ6_stringSize_0f7a4_28 rfl ?_
    refine a_iadd X dJ6_stringSize_0f7a4_29 ?_
    rw [show (1 : Int32) + 0 = nI 1 by decide]
    exact a_iret X hr dJ6_stringSize_0f7a4_30 ⟨by decide, by decide⟩ ⟨rfl, rfl⟩
  · by_cases h2 : v < 100
    · rw [dg_2 h1 h2]
      refine a_iconst (v := 1) X dJ6_stringSize_0f7a4_0 (by decide) ?_
      refine a_istore_n X dJ6_stringSize_0f7a4_1 (by decide) ?_
      refine a_iload_n X dJ6_stringSize_0f7a4_2 rfl ?_
      refine a_if_lt (tgt := 11) X dJ6_stringSize_0f7a4_3 (by decide) (fun h => absurd h (z_dgs.1 v hv).1) (fun _ => ?_)
      refine a_iconst (v := 0) X dJ6_stringSize_0f7a4_6 (by decide) ?_
      refine a_istore_n X dJ6_stringSize_0f7a4_7 (by decide) ?_
      refine a_iload_n X dJ6_stringSize_0f7a4_8 rfl ?_
      refine a_ineg X dJ6_stringSize_0f7a4_9 ?_
      refine a_istore_n X dJ6_stringSize_0f7a4_10 (by decide) ?_
      refine a_bipush (v := -10) X dJ6_stringSize_0f7a4_11 (by decide) ?_
      refine a_istore_n X dJ6_stringSize_0f7a4_13 (by decide) ?_
      refine a_iconst (v := 1) X dJ6_stringSize_0f7a4_14 (by decide) ?_
      refine a_istore_n X dJ6_stringSize_0f7a4_15 (by decide) ?_
      refine Zw.to2 (ls' := [some (.int (-nI v)), some (.int (0)), some (.int ((-10 : Int32))), some (.int ((1 : Int32)))]) (st' := []) ?_ rfl rfl rfl
      refine a_iload_n X dJ6_stringSize_0f7a4_16 rfl ?_
      refine a_bipush (v := 10) X dJ6_stringSize_0f7a4_17 (by decide) ?_
      refine a_icmp_ge (tgt := 42) X dJ6_stringSize_0f7a4_19 (by decide) (fun h => absurd h (by decide)) (fun _ => ?_)
      refine a_iload_n X dJ6_stringSize_0f7a4_22 rfl ?_
      refine a_iload_n X dJ6_stringSize_0f7a4_23 rfl ?_
      refine a_icmp_le (tgt := 31) X dJ6_stringSize_0f7a4_24 (by decide) (fun _ => ?_) (fun h => absurd (Int32.not_lt.mp (z_dgs.2.2.1 v h2 h1).1) h)
      refine a_bipush (v := 10) X dJ6_stringSize_0f7a4_31 (by decide) ?_
      refine a_iload_n X dJ6_stringSize_0f7a4_33 rfl ?_
      refine a_imul X dJ6_stringSize_0f7a4_34 ?_
      rw [show (10 : Int32) * (-10 : Int32) = (-100 : Int32) by decide]
      refine a_istore_n X dJ6_stringSize_0f7a4_35 (by decide) ?_
      refine a_iinc (v := 2) X dJ6_stringSize_0f7a4_36 (by decide) rfl (by decide) ?_
      refine a_goto (tgt := 16) X dJ6_stringSize_0f7a4_39 (by decide) ?_
      refine Zw.to2 (ls' := [some (.int (-nI v)), some (.int (0)), some (.int ((-100 : Int32))), some (.int ((2 : Int32)))]) (st' := []) ?_ rfl rfl rfl
      refine a_iload_n X dJ6_stringSize_0f7a4_16 rfl ?_
      refine a_bipush (v := 10) X dJ6_stringSize_0f7a4_17 (by decide) ?_
      refine a_icmp_ge (tgt := 42) X dJ6_stringSize_0f7a4_19 (by decide) (fun h => absurd h (by decide)) (fun _ => ?_)
      refine a_iload_n X dJ6_stringSize_0f7a4_22 rfl ?_
      refine a_iload_n X dJ6_stringSize_0f7a4_23 rfl ?_
      refine a_icmp_le (tgt := 31) X dJ6_stringSize_0f7a4_24 (by decide) (fun h => absurd h (Int32.not_le.mpr (z_dgs.2.2.1 v h2 h1).2.1)) (fun _ => ?_)
      refine a_iload_n X dJ6_stringSize_0f7a4_27 rfl ?_
      refine a_iload_n X dJ6_stringSize_0f7a4_28 rfl ?_
      refine a_iadd X dJ6_stringSize_0f7a4_29 ?_
      rw [show (2 : Int32) + 0 = nI 2 by decide]
      exact a_iret X hr dJ6_stringSize_0f7a4_30 ⟨by decide, by decide⟩ ⟨rfl, rfl⟩
    · have e : v = 100 := by omega
      subst e
      rw [dg_3]
      refine a_iconst (v := 1) X dJ6_stringSize_0f7a4_0 (by decide) ?_
      refine a_istore_n X dJ6_stringSize_0f7a4_1 (by decide) ?_
      refine a_iload_n X dJ6_stringSize_0f7a4_2 rfl ?_
      refine a_if_lt (tgt := 11) X dJ6_stringSize_0f7a4_3 (by decide) (fun h => absurd h (z_dgs.1 100 hv).1) (fun _ => ?_)
      refine a_iconst (v := 0) X dJ6_stringSize_0f7a4_6 (by decide) ?_
      refine a_istore_n X dJ6_stringSize_0f7a4_7 (by decide) ?_
      refine a_iload_n X dJ6_stringSize_0f7a4_8 rfl ?_
      refine a_ineg X dJ6_stringSize_0f7a4_9 ?_
      refine a_istore_n X dJ6_stringSize_0f7a4_10 (by decide) ?_
      refine a_bipush (v := -10) X dJ6_stringSize_0f7a4_11 (by decide) ?_
      refine a_istore_n X dJ6_stringSize_0f7a4_13 (by decide) ?_
      refine a_iconst (v := 1) X dJ6_stringSize_0f7a4_14 (by decide) ?_
      refine a_istore_n X dJ6_stringSize_0f7a4_15 (by decide) ?_
      refine Zw.to2 (ls' := [some (.int (-nI 100)), some (.int (0)), some (.int ((-10 : Int32))), some (.int ((1 : Int32)))]) (st' := []) ?_ rfl rfl rfl
      refine a_iload_n X dJ6_stringSize_0f7a4_16 rfl ?_
      refine a_bipush (v := 10) X dJ6_stringSize_0f7a4_17 (by decide) ?_
      refine a_icmp_ge (tgt := 42) X dJ6_stringSize_0f7a4_19 (by decide) (fun h => absurd h (by decide)) (fun _ => ?_)
      refine a_iload_n X dJ6_stringSize_0f7a4_22 rfl ?_
      refine a_iload_n X dJ6_stringSize_0f7a4_23 rfl ?_
      refine a_icmp_le (tgt := 31) X dJ6_stringSize_0f7a4_24 (by decide) (fun _ => ?_) (fun h => absurd (show -nI 100 ≤ (-10 : Int32) by decide) h)
      refine a_bipush (v := 10) X dJ6_stringSize_0f7a4_31 (by decide) ?_
      refine a_iload_n X dJ6_stringSize_0f7a4_33 rfl ?_
      refine a_imul X dJ6_stringSize_0f7a4_34 ?_
      rw [show (10 : Int32) * (-10 : Int32) = (-100 : Int32) by decide]
      refine a_istore_n X dJ6_stringSize_0f7a4_35 (by decide) ?_
      refine a_iinc (v := 2) X dJ6_stringSize_0f7a4_36 (by decide) rfl (by decide) ?_
      refine a_goto (tgt := 16) X dJ6_stringSize_0f7a4_39 (by decide) ?_
      refine Zw.to2 (ls' := [some (.int (-nI 100)), some (.int (0)), some (.int ((-100 : Int32))), some (.int ((2 : Int32)))]) (st' := []) ?_ rfl rfl rfl
      refine a_iload_n X dJ6_stringSize_0f7a4_16 rfl ?_
      refine a_bipush (v := 10) X dJ6_stringSize_0f7a4_17 (by decide) ?_
      refine a_icmp_ge (tgt := 42) X dJ6_stringSize_0f7a4_19 (by decide) (fun h => absurd h (by decide)) (fun _ => ?_)
      refine a_iload_n X dJ6_stringSize_0f7a4_22 rfl ?_
      refine a_iload_n X dJ6_stringSize_0f7a4_23 rfl ?_
      refine a_icmp_le (tgt := 31) X dJ6_stringSize_0f7a4_24 (by decide) (fun _ => ?_) (fun h => absurd (show -nI 100 ≤ (-100 : Int32) by decide) h)
      refine a_bipush (v := 10) X dJ6_stringSize_0f7a4_31 (by decide) ?_
      refine a_iload_n X dJ6_stringSize_0f7a4_33 rfl ?_
      refine a_imul X dJ6_stringSize_0f7a4_34 ?_
      rw [show (10 : Int32) * (-100 : Int32) = (-1000 : Int32) by decide]
      refine a_istore_n X dJ6_stringSize_0f7a4_35 (by decide) ?_
      refine a_iinc (v := 3) X dJ6_stringSize_0f7a4_36 (by decide) rfl (by decide) ?_
      refine a_goto (tgt := 16) X dJ6_stringSize_0f7a4_39 (by decide) ?_
      refine Zw.to2 (ls' := [some (.int (-nI 100)), some (.int (0)), some (.int ((-1000 : Int32))), some (.int ((3 : Int32)))]) (st' := []) ?_ rfl rfl rfl
      refine a_iload_n X dJ6_stringSize_0f7a4_16 rfl ?_
      refine a_bipush (v := 10) X dJ6_stringSize_0f7a4_17 (by decide) ?_
      refine a_icmp_ge (tgt := 42) X dJ6_stringSize_0f7a4_19 (by decide) (fun h => absurd h (by decide)) (fun _ => ?_)
      refine a_iload_n X dJ6_stringSize_0f7a4_22 rfl ?_
      refine a_iload_n X dJ6_stringSize_0f7a4_23 rfl ?_
      refine a_icmp_le (tgt := 31) X dJ6_stringSize_0f7a4_24 (by decide) (fun h => absurd h (Int32.not_le.mpr (show (-1000 : Int32) < -nI 100 by decide))) (fun _ => ?_)
      refine a_iload_n X dJ6_stringSize_0f7a4_27 rfl ?_
      refine a_iload_n X dJ6_stringSize_0f7a4_28 rfl ?_
      refine a_iadd X dJ6_stringSize_0f7a4_29 ?_
      rw [show (3 : Int32) + 0 = nI 3 by decide]
      exact a_iret X hr dJ6_stringSize_0f7a4_30 ⟨by decide, by decide⟩ ⟨rfl, rfl⟩
set_option maxRecDepth 100000 in
theorem k_getChars {l : Launch} {G : zG} {b : Nat} {S : zS} {v P n d9 : Nat} (ha : S.1[P]? = some (2, n, [])) (h9 : v ≤ 100 ∧ d9 + (dg v).length ≤ n ∧ n ≤ 3002) : zM l G b yJ6_getChars_ba4f3 cJ6_getChars_ba4f3 7 (some .int) 0 0 0 [.int (nI v), .int (nI (d9 + (dg v).length)), .ref P] S (fun r z => r = some (.int (nI d9)) ∧ z = (S.1, zct S.2.1 P d9 (dg v).length (dg v), S.2.2)) := by
  refine zM.of miJ6_getChars_ba4f3 (Nat.le_of_ble_eq_true rfl) ?_
  intro p0 e s m args below meth c X hr hname
  obtain ⟨hv, hn⟩ := h9
  by_cases h1 : v < 10
  · rw [dg_1 h1] at hn ⊢
    have hn2 : d9 + 1 ≤ n ∧ n ≤ 3002 := hn
    rw [show ([48 + v] : List Nat).length = 1 from rfl, zct_one]
    refine a_iload_n X dJ6_getChars_ba4f3_0 rfl ?_
    refine a_istore X dJ6_getChars_ba4f3_1 (by decide) ?_
    refine a_iload_n X dJ6_getChars_ba4f3_3 rfl ?_
    refine a_if_ge (tgt := 11) X dJ6_getChars_ba4f3_4 (by decide) (fun _ => ?_) (fun h => absurd (Int32.not_lt.mp (z_dgs.1 v hv).1) h)
    refine a_iconst (v := 0) X dJ6_getChars_ba4f3_11 (by decide) ?_
    refine a_istore X dJ6_getChars_ba4f3_12 (by decide) ?_
    refine a_iload X dJ6_getChars_ba4f3_14 rfl ?_
    refine a_if_ne (tgt := 22) X dJ6_getChars_ba4f3_16 (by decide) (fun h => absurd rfl h) (fun _ => ?_)
    refine a_iload_n X dJ6_getChars_ba4f3_19 rfl ?_
    refine a_ineg X dJ6_getChars_ba4f3_20 ?_
    refine a_istore_n X dJ6_getChars_ba4f3_21 (by decide) ?_
    refine Zw.to2 (ls' := [some (.int (-nI v)), some (.int (nI (d9 + 1))), some (.ref P), none, none, some (.int (nI (d9 + 1))), some (.int (0))]) (st' := []) ?_ rfl rfl rfl
    refine a_iload_n X dJ6_getChars_ba4f3_22 rfl ?_
    refine a_bipush (v := -100) X dJ6_getChars_ba4f3_23 (by decide) ?_
    refine a_icmp_gt (tgt := 72) X dJ6_getChars_ba4f3_25 (by decide) (fun _ => ?_) (fun h => absurd (Int32.not_le.mp (z_dgs.2.1 v h1).2.1) h)
    refine Zw.to2 (ls' := [some (.int (-nI v)), some (.int (nI (d9 + 1))), some (.ref P), none, none, some (.int (nI (d9 + 1))), some (.int (0))]) (st' := []) ?_ rfl rfl rfl
    refine a_aload_n X dJ6_getChars_ba4f3_72 rfl ?_
    refine a_iinc (v := nI (d9)) X dJ6_getChars_ba4f3_73 (by decide) rfl (nI_dn (k := d9 + 1) (by omega)) ?_
    refine a_iload X dJ6_getChars_ba4f3_76 rfl ?_
    refine a_ones X lfJ6_83 dJ6_getChars_ba4f3_78 ?_
    refine a_iload_n X dJ6_getChars_ba4f3_81 rfl ?_
    refine a_ineg X dJ6_getChars_ba4f3_82 ?_
    rw [z_dgs.2.2.2 v hv]
    refine a_onesld (j := v) X (by omega) dJ6_getChars_ba4f3_83 ?_
    refine a_bastore (x := nI (48 + v % 10)) X (z_byn _ (by omega)).1 ha (vp_in_nI (by omega) (by omega)) dJ6_getChars_ba4f3_84 ?_
    rw [nI_clamp (by omega)]
    refine Zw.to2 (ls' := [some (.int (-nI v)), some (.int (nI (d9 + 1))), some (.ref P), none, none, some (.int (nI (d9))), some (.int (0))]) (st' := []) ?_ rfl rfl rfl
    refine a_iload_n X dJ6_getChars_ba4f3_85 rfl ?_
    refine a_bipush (v := -9) X dJ6_getChars_ba4f3_86 (by decide) ?_
    refine a_icmp_ge (tgt := 104) X dJ6_getChars_ba4f3_88 (by decide) (fun _ => ?_) (fun h => absurd (Int32.not_lt.mp (z_dgs.2.1 v h1).2.2) h)
    refine a_iload X dJ6_getChars_ba4f3_104 rfl ?_
    refine a_if_eq (tgt := 118) X dJ6_getChars_ba4f3_106 (by decide) (fun _ => ?_) (fun h => absurd rfl h)
    refine a_iload X dJ6_getChars_ba4f3_118 rfl ?_
    exact a_iret X hr dJ6_getChars_ba4f3_120 ⟨by decide, by decide⟩ ⟨rfl, by rw [show v % 10 = v by omega]⟩
  · by_cases h2 : v < 100
    · rw [dg_2 h1 h2] at hn ⊢
      have hn2 : d9 + 2 ≤ n ∧ n ≤ 3002 := hn
      rw [show ([48 + v / 10, 48 + v % 10] : List Nat).length = 2 from rfl, zct_two]
      refine a_iload_n X dJ6_getChars_ba4f3_0 rfl ?_
      refine a_istore X dJ6_getChars_ba4f3_1 (by decide) ?_
      refine a_iload_n X dJ6_getChars_ba4f3_3 rfl ?_
      refine a_if_ge (tgt := 11) X dJ6_getChars_ba4f3_4 (by decide) (fun _ => ?_) (fun h => absurd (Int32.not_lt.mp (z_dgs.1 v hv).1) h)
      refine a_iconst (v := 0) X dJ6_getChars_ba4f3_11 (by decide) ?_
      refine a_istore X dJ6_getChars_ba4f3_12 (by decide) ?_
      refine a_iload X dJ6_getChars_ba4f3_14 rfl ?_
      refine a_if_ne (tgt := 22) X dJ6_getChars_ba4f3_16 (by decide) (fun h => absurd rfl h) (fun _ => ?_)
      refine a_iload_n X dJ6_getChars_ba4f3_19 rfl ?_
      refine a_ineg X dJ6_getChars_ba4f3_20 ?_
      refine a_istore_n X dJ6_getChars_ba4f3_21 (by decide) ?_
      refine Zw.to2 (ls' := [some (.int (-nI v)), some (.int (nI (d9 + 2))), some (.ref P), none, none, some (.int (nI (d9 + 2))), some (.int (0))]) (st' := []) ?_ rfl rfl rfl
      refine a_iload_n X dJ6_getChars_ba4f3_22 rfl ?_
      refine a_bipush (v := -100) X dJ6_getChars_ba4f3_23 (by decide) ?_
      refine a_icmp_gt (tgt := 72) X dJ6_getChars_ba4f3_25 (by decide) (fun _ => ?_) (fun h => absurd (Int32.not_le.mp (z_dgs.2.2.1 v h2 h1).2.2.1) h)
      refine Zw.to2 (ls' := [some (.int (-nI v)), some (.int (nI (d9 + 2))), some (.ref P), none, none, some (.int (nI (d9 + 2))), some (.int (0))]) (st' := []) ?_ rfl rfl rfl
      refine a_aload_n X dJ6_getChars_ba4f3_72 rfl ?_
      refine a_iinc (v := nI (d9 + 1)) X dJ6_getChars_ba4f3_73 (by decide) rfl (nI_dn (k := d9 + 2) (by omega)) ?_
      refine a_iload X dJ6_getChars_ba4f3_76 rfl ?_
      refine a_ones X lfJ6_83 dJ6_getChars_ba4f3_78 ?_
      refine a_iload_n X dJ6_getChars_ba4f3_81 rfl ?_
      refine a_ineg X dJ6_getChars_ba4f3_82 ?_
      rw [z_dgs.2.2.2 v hv]
      refine a_onesld (j := v) X (by omega) dJ6_getChars_ba4f3_83 ?_
      refine a_bastore (x := nI (48 + v % 10)) X (z_byn _ (by omega)).1 ha (vp_in_nI (by omega) (by omega)) dJ6_getChars_ba4f3_84 ?_
      rw [nI_clamp (by omega)]
      refine Zw.to2 (ls' := [some (.int (-nI v)), some (.int (nI (d9 + 2))), some (.ref P), none, none, some (.int (nI (d9 + 1))), some (.int (0))]) (st' := []) ?_ rfl rfl rfl
      refine a_iload_n X dJ6_getChars_ba4f3_85 rfl ?_
      refine a_bipush (v := -9) X dJ6_getChars_ba4f3_86 (by decide) ?_
      refine a_icmp_ge (tgt := 104) X dJ6_getChars_ba4f3_88 (by decide) (fun h => absurd (Int32.not_le.mpr (z_dgs.2.2.1 v h2 h1).2.2.2) (fun q => q h)) (fun _ => ?_)
      refine a_aload_n X dJ6_getChars_ba4f3_91 rfl ?_
      refine a_iinc (v := nI (d9)) X dJ6_getChars_ba4f3_92 (by decide) rfl (nI_dn (k := d9 + 1) (by omega)) ?_
      refine a_iload X dJ6_getChars_ba4f3_95 rfl ?_
      refine a_tens X lfJ6_87 dJ6_getChars_ba4f3_97 ?_
      refine a_iload_n X dJ6_getChars_ba4f3_100 rfl ?_
      refine a_ineg X dJ6_getChars_ba4f3_101 ?_
      rw [z_dgs.2.2.2 v hv]
      refine a_tensld (j := v) X (by omega) dJ6_getChars_ba4f3_102 ?_
      refine a_bastore (x := nI (48 + v / 10)) X (z_byn _ (by omega)).1 ha (vp_in_nI (by omega) (by omega)) dJ6_getChars_ba4f3_103 ?_
      rw [nI_clamp (by omega)]
      refine a_iload X dJ6_getChars_ba4f3_104 rfl ?_
      refine a_if_eq (tgt := 118) X dJ6_getChars_ba4f3_106 (by decide) (fun _ => ?_) (fun h => absurd rfl h)
      refine a_iload X dJ6_getChars_ba4f3_118 rfl ?_
      exact a_iret X hr dJ6_getChars_ba4f3_120 ⟨by decide, by decide⟩ ⟨rfl, rfl⟩
    · have e : v = 100 := by omega
      subst e
      rw [dg_3] at hn ⊢
      have hn2 : d9 + 3 ≤ n ∧ n ≤ 3002 := hn
      rw [show ([49, 48, 48] : List Nat).length = 3 from rfl, zct_three]
      refine a_iload_n X dJ6_getChars_ba4f3_0 rfl ?_
      refine a_istore X dJ6_getChars_ba4f3_1 (by decide) ?_
      refine a_iload_n X dJ6_getChars_ba4f3_3 rfl ?_
      refine a_if_ge (tgt := 11) X dJ6_getChars_ba4f3_4 (by decide) (fun _ => ?_) (fun h => absurd (Int32.not_lt.mp (z_dgs.1 100 hv).1) h)
      refine a_iconst (v := 0) X dJ6_getChars_ba4f3_11 (by decide) ?_
      refine a_istore X dJ6_getChars_ba4f3_12 (by decide) ?_
      refine a_iload X dJ6_getChars_ba4f3_14 rfl ?_
      refine a_if_ne (tgt := 22) X dJ6_getChars_ba4f3_16 (by decide) (fun h => absurd rfl h) (fun _ => ?_)
      refine a_iload_n X dJ6_getChars_ba4f3_19 rfl ?_
      refine a_ineg X dJ6_getChars_ba4f3_20 ?_
      refine a_istore_n X dJ6_getChars_ba4f3_21 (by decide) ?_
      refine Zw.to2 (ls' := [some (.int (-nI 100)), some (.int (nI (d9 + 3))), some (.ref P), none, none, some (.int (nI (d9 + 3))), some (.int (0))]) (st' := []) ?_ rfl rfl rfl
      refine a_iload_n X dJ6_getChars_ba4f3_22 rfl ?_
      refine a_bipush (v := -100) X dJ6_getChars_ba4f3_23 (by decide) ?_
      refine a_icmp_gt (tgt := 72) X dJ6_getChars_ba4f3_25 (by decide) (fun h => absurd (show -nI 100 ≤ (-100 : Int32) by decide) (Int32.not_le.mpr h)) (fun _ => ?_)
      refine a_iload_n X dJ6_getChars_ba4f3_28 rfl ?_
      refine a_bipush (v := 100) X dJ6_getChars_ba4f3_29 (by decide) ?_
      refine a_idiv X dJ6_getChars_ba4f3_31 (by decide) ?_
      rw [show -nI 100 / (100 : Int32) = (-1 : Int32) by decide]
      refine a_istore_n X dJ6_getChars_ba4f3_32 (by decide) ?_
      refine a_iload_n X dJ6_getChars_ba4f3_33 rfl ?_
      refine a_bipush (v := 100) X dJ6_getChars_ba4f3_34 (by decide) ?_
      refine a_imul X dJ6_getChars_ba4f3_36 ?_
      refine a_iload_n X dJ6_getChars_ba4f3_37 rfl ?_
      refine a_isub X dJ6_getChars_ba4f3_38 ?_
      rw [show (-1 : Int32) * 100 - -nI 100 = nI 0 by decide]
      refine a_istore X dJ6_getChars_ba4f3_39 (by decide) ?_
      refine a_iload_n X dJ6_getChars_ba4f3_41 rfl ?_
      refine a_istore_n X dJ6_getChars_ba4f3_42 (by decide) ?_
      refine Zw.to2 (ls' := [some (.int (-1)), some (.int (nI (d9 + 3))), some (.ref P), some (.int (-1)), some (.int (nI 0)), some (.int (nI (d9 + 3))), some (.int (0))]) (st' := []) ?_ rfl rfl rfl
      refine a_aload_n X dJ6_getChars_ba4f3_43 rfl ?_
      refine a_iinc (v := nI (d9 + 2)) X dJ6_getChars_ba4f3_44 (by decide) rfl (nI_dn (k := d9 + 3) (by omega)) ?_
      refine a_iload X dJ6_getChars_ba4f3_47 rfl ?_
      refine a_ones X lfJ6_83 dJ6_getChars_ba4f3_49 ?_
      refine a_iload X dJ6_getChars_ba4f3_52 rfl ?_
      refine a_onesld (j := 0) X (by omega) dJ6_getChars_ba4f3_54 ?_
      refine a_bastore (x := nI (48)) X (z_byn _ (by omega)).1 ha (vp_in_nI (by omega) (by omega)) dJ6_getChars_ba4f3_55 ?_
      rw [nI_clamp (by omega)]
      refine Zw.to2 (ls' := [some (.int (-1)), some (.int (nI (d9 + 3))), some (.ref P), some (.int (-1)), some (.int (nI 0)), some (.int (nI (d9 + 2))), some (.int (0))]) (st' := []) ?_ rfl rfl rfl
      refine a_aload_n X dJ6_getChars_ba4f3_56 rfl ?_
      refine a_iinc (v := nI (d9 + 1)) X dJ6_getChars_ba4f3_57 (by decide) rfl (nI_dn (k := d9 + 2) (by omega)) ?_
      refine a_iload X dJ6_getChars_ba4f3_60 rfl ?_
      refine a_tens X lfJ6_87 dJ6_getChars_ba4f3_62 ?_
      refine a_iload X dJ6_getChars_ba4f3_65 rfl ?_
      refine a_tensld (j := 0) X (by omega) dJ6_getChars_ba4f3_67 ?_
      refine a_bastore (x := nI (48)) X (z_byn _ (by omega)).1 ha (vp_in_nI (by omega) (by omega)) dJ6_getChars_ba4f3_68 ?_
      rw [nI_clamp (by omega)]
      refine a_goto (tgt := 22) X dJ6_getChars_ba4f3_69 (by decide) ?_
      refine Zw.to2 (ls' := [some (.int (-1)), some (.int (nI (d9 + 3))), some (.ref P), some (.int (-1)), some (.int (nI 0)), some (.int (nI (d9 + 1))), some (.int (0))]) (st' := []) ?_ rfl rfl rfl
      refine a_iload_n X dJ6_getChars_ba4f3_22 rfl ?_
      refine a_bipush (v := -100) X dJ6_getChars_ba4f3_23 (by decide) ?_
      refine a_icmp_gt (tgt := 72) X dJ6_getChars_ba4f3_25 (by decide) (fun _ => ?_) (fun h => absurd (show (-100 : Int32) < -1 by decide) h)
      refine Zw.to2 (ls' := [some (.int (-1)), some (.int (nI (d9 + 3))), some (.ref P), some (.int (-1)), some (.int (nI 0)), some (.int (nI (d9 + 1))), some (.int (0))]) (st' := []) ?_ rfl rfl rfl
      refine a_aload_n X dJ6_getChars_ba4f3_72 rfl ?_
      refine a_iinc (v := nI (d9)) X dJ6_getChars_ba4f3_73 (by decide) rfl (nI_dn (k := d9 + 1) (by omega)) ?_
      refine a_iload X dJ6_getChars_ba4f3_76 rfl ?_
      refine a_ones X lfJ6_83 dJ6_getChars_ba4f3_78 ?_
      refine a_iload_n X dJ6_getChars_ba4f3_81 rfl ?_
      refine a_ineg X dJ6_getChars_ba4f3_82 ?_
      rw [show -(-1 : Int32) = nI 1 by decide]
      refine a_onesld (j := 1) X (by omega) dJ6_getChars_ba4f3_83 ?_
      refine a_bastore (x := nI (48 + 1 % 10)) X (z_byn _ (by omega)).1 ha (vp_in_nI (by omega) (by omega)) dJ6_getChars_ba4f3_84 ?_
      rw [nI_clamp (by omega)]
      refine Zw.to2 (ls' := [some (.int (-1)), some (.int (nI (d9 + 3))), some (.ref P), some (.int (-1)), some (.int (nI 0)), some (.int (nI (d9))), some (.int (0))]) (st' := []) ?_ rfl rfl rfl
      refine a_iload_n X dJ6_getChars_ba4f3_85 rfl ?_
      refine a_bipush (v := -9) X dJ6_getChars_ba4f3_86 (by decide) ?_
      refine a_icmp_ge (tgt := 104) X dJ6_getChars_ba4f3_88 (by decide) (fun _ => ?_) (fun h => absurd (show (-9 : Int32) ≤ -1 by decide) h)
      refine a_iload X dJ6_getChars_ba4f3_104 rfl ?_
      refine a_if_eq (tgt := 118) X dJ6_getChars_ba4f3_106 (by decide) (fun _ => ?_) (fun h => absurd rfl h)
      refine a_iload X dJ6_getChars_ba4f3_118 rfl ?_
      exact a_iret X hr dJ6_getChars_ba4f3_120 ⟨by decide, by decide⟩ ⟨rfl, rfl⟩
set_option maxRecDepth 100000 in
theorem k_appI {l : Launch} {G : zG} {b : Nat} {S : zS} {p j n : Nat} {t : List Nat} (h : zSB S p j n t) {v : Nat} (hv : v ≤ 100) (hu : t.length + 3 ≤ 1500) (hl : S.1.length + 1 < 1000000) : zM l G b yJ5_append_c97b9 cJ5_append_c97b9 4 (some (.object "java/lang/AbstractStringBuilder")) 4 1 3002 [.ref p, .int (nI v)] S (fun r z => r = some (.ref p) ∧ ∃ j' n', zSB z p j' n' (t ++ dg v) ∧ zGr (zE2 p j) 1 S z) := by
  obtain ⟨hq, hj, ha, hn, hcod, hcnt, hby, h128⟩ := id h
  refine zM.of miJ5_append_c97b9 (Nat.le_of_ble_eq_true rfl) ?_
  intro p0 e s m args below meth c X hr hname
  have hdl : (dg v).length ≤ 3 := by unfold dg; split; exact Nat.le_of_ble_eq_true rfl; split <;> exact Nat.le_of_ble_eq_true rfl
  refine a_aload_n X dJ5_append_c97b9_0 rfl ?_
  refine a_getc X lgJ5_79 hq rfl hcnt dJ5_append_c97b9_1 ?_
  refine a_istore_n X dJ5_append_c97b9_4 (by decide) ?_
  refine a_iload_n X dJ5_append_c97b9_5 rfl ?_
  refine a_iload_n X dJ5_append_c97b9_6 rfl ?_
  refine a_callSv X dJ5_append_c97b9_7 miJ6_stringSize_0f7a4 lmJ5_245 (k_stringSize hv) rfl rfl (Nat.le_of_ble_eq_true rfl) ⟨by decide, by decide, by decide, by decide⟩ ?_
  refine a_iadd X dJ5_append_c97b9_10 ?_
  rw [z_nIadd (by omega)]
  refine a_istore_n X dJ5_append_c97b9_11 (by decide) ?_
  refine a_aload_n X dJ5_append_c97b9_12 rfl ?_
  refine a_iload_n X dJ5_append_c97b9_13 rfl ?_
  refine a_invU X miJ5_ensureCapacityInternal_d00df lmJ5_100 hq rfl rfl (Nat.le_of_ble_eq_true rfl) ⟨by decide, by decide, by decide, by decide⟩ dJ5_append_c97b9_14 (k_ensure h (k := t.length + (dg v).length) (by omega) hl) (fun r z q => ?_)
  obtain ⟨rfl, j2, n2, h2, hk2, hg, hj2⟩ := q
  clear hq hj ha hn hcod hcnt hby h128
  obtain ⟨hq, hj, ha, hn, hcod, hcnt, hby, h128⟩ := id h2
  refine a_aload_n X dJ5_append_c97b9_17 rfl ?_
  refine a_invU X miJ5_isLatin1_aae02 lmJ5_83 hq rfl rfl (Nat.le_of_ble_eq_true rfl) ⟨by decide, by decide, by decide, by decide⟩ dJ5_append_c97b9_18 (k_isLatin1 h2) (fun r z2 q => ?_)
  obtain ⟨rfl, rfl⟩ := q
  refine a_if_eq (tgt := 37) X dJ5_append_c97b9_21 (by decide) (fun h => absurd h (by decide)) (fun _ => ?_)
  refine a_iload_n X dJ5_append_c97b9_24 rfl ?_
  refine a_iload_n X dJ5_append_c97b9_25 rfl ?_
  refine a_aload_n X dJ5_append_c97b9_26 rfl ?_
  refine a_getr X lgJ5_15 hq rfl hj.2 dJ5_append_c97b9_27 ?_
  refine a_callSv X dJ5_append_c97b9_30 miJ6_getChars_ba4f3 lmJ5_248 (k_getChars (d9 := t.length) ha ⟨hv, hk2, hn.2⟩) rfl rfl (Nat.le_of_ble_eq_true rfl) ⟨by decide, by decide, by decide, by decide⟩ ?_
  refine a_pop X dJ5_append_c97b9_33 rfl ?_
  refine a_goto (tgt := 48) X dJ5_append_c97b9_34 (by decide) ?_
  refine a_aload_n X dJ5_append_c97b9_48 rfl ?_
  refine a_iload_n X dJ5_append_c97b9_49 rfl ?_
  refine a_puti X lgJ5_79 hq rfl dJ5_append_c97b9_50 ?_
  refine a_aload_n X dJ5_append_c97b9_53 rfl ?_
  have G1 : zSB (z2.1, zu (zct z2.2.1 j2 t.length (dg v).length (dg v)) p 3 (nI (t.length + (dg v).length)), z2.2.2) p j2 n2 (t ++ dg v) ∧ zGr (zE2 p j2) 0 z2 (z2.1, zu (zct z2.2.1 j2 t.length (dg v).length (dg v)) p 3 (nI (t.length + (dg v).length)), z2.2.2) := by
    refine h2.laid (u := dg v) (M := zu (zct z2.2.1 j2 t.length (dg v).length (dg v)) p 3 (nI (t.length + (dg v).length))) hk2 (fun x hx => dg_lt hv hx) (fun k hk => ?_) ?_ zu_eq (fun a h9 h10 => ?_)
    · rw [zu_ne (by omega)]
      unfold zct
      by_cases h9 : t.length ≤ k ∧ k < t.length + (dg v).length
      · rw [if_pos ⟨rfl, h9⟩, if_pos h9]
      · rw [if_neg (fun q => h9 q.2), if_neg h9]
    · rw [zu_ne (by omega)]
      exact congrFun (zct_row (by omega)) 1
    · exact (zu_row h9).trans (zct_row h10)
  obtain ⟨g1, g2⟩ := G1
  exact a_aret X hr (Or.inl ⟨_, rfl⟩) (Or.inr ⟨_, rfl⟩) dJ5_append_c97b9_54 ⟨by decide, by decide⟩ ⟨rfl, j2, n2, g1, (hg.tr g2 (fun a h1 h3 => by rcases h3 with h3 | h3; exact Or.inl h3; rcases hj2 with h4 | h4; exact Or.inr (h3.trans h4); omega)).up (fun _ q => q) (by omega)⟩
set_option maxRecDepth 100000 in
theorem k_init5 {l : Launch} {G : zG} {b : Nat} {S : zS} {p : Nat} (hq : S.1[p]? = some (0, 10, [(3, 0), (0, 0), (0, 0), (0, 0)])) (h3 : S.2.1 p 3 = 0) (hl : S.1.length + 1 < 1000000) : zM l G b yJ5_init_d00df cJ5_init_d00df 2 none 1 1 3002 [.ref p, .int 16] S (fun r z => r = none ∧ zSB z p S.1.length 16 [] ∧ zGr (zE1' p) 1 S z) := by
  refine zM.of miJ5_init_d00df (Nat.le_of_ble_eq_true rfl) ?_
  intro p0 e s m args below meth c X hr hname
  refine a_aload_n X dJ5_init_d00df_0 rfl ?_
  refine a_objinit X lmJ5_3 (by decide) dJ5_init_d00df_1 ?_
  refine a_scmp X lfJ5_18 dJ5_init_d00df_4 ?_
  refine a_if_eq (tgt := 25) X dJ5_init_d00df_7 (by decide) (fun h => absurd h (by decide)) (fun _ => ?_)
  refine a_aload_n X dJ5_init_d00df_10 rfl ?_
  refine a_iload_n X dJ5_init_d00df_11 rfl ?_
  refine a_newarray (at_ := .byte) (kd := 2) (n := 16) X (Or.inr (Or.inl ⟨rfl, rfl⟩)) zarrB ⟨by decide, by decide, by decide⟩ hl ⟨by decide, by decide⟩ dJ5_init_d00df_12 ?_
  have hp := (List.getElem?_eq_some_iff.mp hq).1
  refine a_putR X (by omega) lgJ5_15 (fun _ => ⟨rfl, rfl⟩) (zS1_get hq) (by decide) dJ5_init_d00df_14 ?_
  have hq2 : ((zS1 S (2, 16, [])).1.set p (0, 10, [(2, S.1.length), (0, 0), (0, 0), (0, 0)]))[p]? = some (0, 10, [(2, S.1.length), (0, 0), (0, 0), (0, 0)]) := List.getElem?_set_self (by show p < (S.1 ++ [_]).length; rw [List.length_append]; omega)
  refine a_aload_n X dJ5_init_d00df_17 rfl ?_
  refine a_iconst (v := 0) X dJ5_init_d00df_18 (by decide) ?_
  refine a_putn X ⟨by decide, by decide⟩ lgJ5_22 hq2 rfl dJ5_init_d00df_19 ?_
  refine a_goto (tgt := 38) X dJ5_init_d00df_22 (by decide) ?_
  refine a_vret X hr dJ5_init_d00df_38 ⟨by decide, by decide⟩ ⟨rfl, ⟨hq2, ⟨hp, by omega⟩, ?_, ⟨by decide, by decide⟩, zu_eq, ?_, fun k hk => ?_, fun x hx => absurd hx List.not_mem_nil⟩, ?_, ?_, fun a h9 hn9 => ⟨?_, ?_, ?_⟩⟩
  · show ((S.1 ++ [(2, 16, ([] : List (Nat × Nat)))]).set p _)[S.1.length]? = _
    rw [List.getElem?_set_ne (by omega)]
    simp
  · show zu (zn S.2.1 S.1.length 0) p 1 0 p 3 = _
    rw [zu_ne (by omega)]
    exact (congrFun (zn_row (by omega)) 3).trans h3
  · show zu (zn S.2.1 S.1.length 0) p 1 0 S.1.length k = _
    rw [zu_ne (by omega), zby_out (Nat.zero_le _)]
    exact if_pos rfl
  · show _ ≤ ((S.1 ++ [(2, 16, ([] : List (Nat × Nat)))]).set p _).length
    rw [List.length_set, List.length_append]
    omega
  · show ((S.1 ++ [(2, 16, ([] : List (Nat × Nat)))]).set p _).length ≤ _
    rw [List.length_set, List.length_append]
    exact Nat.le_refl _
  · show ((S.1 ++ [(2, 16, ([] : List (Nat × Nat)))]).set p _)[a]? = _
    rw [List.getElem?_set_ne (fun q => hn9 q.symm), List.getElem?_append_left (by omega)]
  · exact (zu_row hn9).trans (zn_row (by omega))
  · exact zn_row (by omega)
set_option maxRecDepth 100000 in
theorem k_init4 {l : Launch} {G : zG} {b : Nat} {S : zS} {p : Nat} (hq : S.1[p]? = some (0, 10, [(3, 0), (0, 0), (0, 0), (0, 0)])) (h3 : S.2.1 p 3 = 0) (hl : S.1.length + 1 < 1000000) : zM l G b yJ4_init_da8c8 cJ4_init_da8c8 1 none 2 1 3002 [.ref p] S (fun r z => r = none ∧ zSB z p S.1.length 16 [] ∧ zGr (zE1' p) 1 S z) := by
  refine zM.of miJ4_init_da8c8 (Nat.le_of_ble_eq_true rfl) ?_
  intro p0 e s m args below meth c X hr hname
  refine a_aload_n X dJ4_init_da8c8_0 rfl ?_
  refine a_bipush (v := 16) X dJ4_init_da8c8_1 (by decide) ?_
  refine a_invI0 X miJ5_init_d00df lmJ4_1 hq rfl rfl (Nat.le_of_ble_eq_true rfl) ⟨by decide, by decide, by decide, by decide⟩ dJ4_init_da8c8_3 (k_init5 hq h3 hl) (fun r z q => ?_)
  obtain ⟨rfl, g1, g2⟩ := q
  exact a_vret X hr dJ4_init_da8c8_6 ⟨by decide, by decide⟩ ⟨rfl, g1, g2⟩
set_option maxRecDepth 100000 in
theorem k_news {l : Launch} {G : zG} {b : Nat} {S : zS} {p j n : Nat} {t : List Nat} (h : zSB S p j n t) {v : Nat} (hs : S.1[v]? = some (0, 9, [(3, 0), (0, 0), (0, 0), (0, 0)])) (hvp : p < v ∧ j < v) (hl : S.1.length + 1 < 1000000) : zM l G b yJ0_init_db425 cJ0_init_db425 5 none 3 1 3002 [.ref v, .ref p, .null] S (fun r z => r = none ∧ zGr (zE1' v) 1 S z ∧ z.1[v]? = some (0, 9, [(2, S.1.length), (0, 0), (0, 0), (0, 0)]) ∧ zTx G z v t) := by
  obtain ⟨hq, hj, ha, hn, hcod, hcnt, hby, h128⟩ := id h
  refine zM.of miJ0_init_db425 (Nat.le_of_ble_eq_true rfl) ?_
  intro p0 e s m args below meth c X hr hname
  refine a_aload_n X dJ0_init_db425_0 rfl ?_
  refine a_objinit X lmJ0_1 (by decide) dJ0_init_db425_1 ?_
  refine a_aload_n X dJ0_init_db425_4 rfl ?_
  refine a_invU X miJ5_getValue_6d5f1 lmJ0_552 hq rfl rfl (Nat.le_of_ble_eq_true rfl) ⟨by decide, by decide, by decide, by decide⟩ dJ0_init_db425_5 (k_getValue h) (fun r z q => ?_)
  obtain ⟨rfl, rfl⟩ := q
  refine a_astore_n X dJ0_init_db425_8 (by decide) ?_
  refine a_aload_n X dJ0_init_db425_9 rfl ?_
  refine a_invU X miJ4_length_8abf5 lmJ0_549 hq rfl rfl (Nat.le_of_ble_eq_true rfl) ⟨by decide, by decide, by decide, by decide⟩ dJ0_init_db425_10 (k_length4 h) (fun r z2 q => ?_)
  obtain ⟨rfl, rfl⟩ := q
  refine a_istore X dJ0_init_db425_13 (by decide) ?_
  refine a_aload_n X dJ0_init_db425_15 rfl ?_
  refine a_invU X miJ5_isLatin1_aae02 lmJ0_1047 hq rfl rfl (Nat.le_of_ble_eq_true rfl) ⟨by decide, by decide, by decide, by decide⟩ dJ0_init_db425_16 (k_isLatin1 h) (fun r z3 q => ?_)
  obtain ⟨rfl, rfl⟩ := q
  refine a_if_eq (tgt := 41) X dJ0_init_db425_19 (by decide) (fun h => absurd h (by decide)) (fun _ => ?_)
  refine a_aload_n X dJ0_init_db425_22 rfl ?_
  refine a_iconst (v := 0) X dJ0_init_db425_23 (by decide) ?_
  refine a_putnF X hname ⟨by decide, by decide⟩ lgfJ0_15 hs rfl dJ0_init_db425_24 ?_
  refine a_aload_n X dJ0_init_db425_27 rfl ?_
  refine a_aload_n X dJ0_init_db425_28 rfl ?_
  refine a_iconst (v := 0) X dJ0_init_db425_29 (by decide) ?_
  refine a_iload X dJ0_init_db425_30 rfl ?_
  refine a_callSx X dJ0_init_db425_32 miJ7_copyOfRange_39247 lmJ0_54 (k_copyOfRange (S := (z3.1, zu z3.2.1 v 1 0, z3.2.2)) (t := t) (k := t.length) ha hj.2 (fun k hk => (congrFun (zu_row (by omega)) k).trans (hby k hk)) h128 hl hn.2 ⟨rfl, hn.1⟩) rfl rfl (Nat.le_of_ble_eq_true rfl) ⟨by decide, by decide, by decide, by decide⟩ (fun r z q => ?_)
  obtain ⟨rfl, z1, z2, z4⟩ := q
  have hvl := (List.getElem?_eq_some_iff.mp hs).1
  have hs2 : z.1[v]? = some (0, 9, [(3, 0), (0, 0), (0, 0), (0, 0)]) := by rw [z1]; exact (List.getElem?_append_left hvl).trans hs
  refine a_putr X hname (by show z3.1.length < _; omega) lgfJ0_9 (fun _ => ⟨rfl, rfl⟩) hs2 (by decide) dJ0_init_db425_35 ?_
  refine a_goto (tgt := 97) X dJ0_init_db425_38 (by decide) ?_
  have hlen : z.1.length = z3.1.length + 1 := by rw [z1, List.length_append]; rfl
  have hq2 : (z.1.set v (0, 9, [(2, z3.1.length), (0, 0), (0, 0), (0, 0)]))[v]? = some (0, 9, [(2, z3.1.length), (0, 0), (0, 0), (0, 0)]) := List.getElem?_set_self (by rw [hlen]; omega)
  refine a_vret X hr dJ0_init_db425_97 ⟨by decide, by decide⟩ ⟨rfl, ⟨?_, ?_, fun a h9 hn9 => ⟨?_, ?_, ?_⟩⟩, hq2, Or.inr ⟨by omega, z3.1.length, hq2, by omega, ?_, ?_, z2⟩⟩
  · show _ ≤ (z.1.set v _).length
    rw [List.length_set, hlen]
    omega
  · show (z.1.set v _).length ≤ _
    rw [List.length_set, hlen]
    exact Nat.le_refl _
  · show (z.1.set v _)[a]? = _
    rw [List.getElem?_set_ne (fun q => hn9 q.symm), z1]
    exact List.getElem?_append_left (by show a < z3.1.length; omega)
  · exact (z4 a (by show a < z3.1.length; omega)).1.trans (zu_row hn9)
  · exact (z4 a (by show a < z3.1.length; omega)).2
  · show z.2.1 v 1 = 0
    rw [(z4 v hvl).1]
    exact zu_eq
  · show (z.1.set v _)[z3.1.length]? = _
    rw [List.getElem?_set_ne (by omega), z1]
    show (z3.1 ++ [(2, t.length, [])])[z3.1.length]? = _
    simp
set_option maxRecDepth 100000 in
theorem k_news1 {l : Launch} {G : zG} {b : Nat} {S : zS} {p j n : Nat} {t : List Nat} (h : zSB S p j n t) {v : Nat} (hs : S.1[v]? = some (0, 9, [(3, 0), (0, 0), (0, 0), (0, 0)])) (hvp : p < v ∧ j < v) (hl : S.1.length + 1 < 1000000) : zM l G b yJ0_init_81219 cJ0_init_81219 2 none 4 1 3002 [.ref v, .ref p] S (fun r z => r = none ∧ zGr (zE1' v) 1 S z ∧ z.1[v]? = some (0, 9, [(2, S.1.length), (0, 0), (0, 0), (0, 0)]) ∧ zTx G z v t) := by
  refine zM.of miJ0_init_81219 (Nat.le_of_ble_eq_true rfl) ?_
  intro p0 e s m args below meth c X hr hname
  refine a_aload_n X dJ0_init_81219_0 rfl ?_
  refine a_aload_n X dJ0_init_81219_1 rfl ?_
  refine a_null X dJ0_init_81219_2 ?_
  refine a_invI0 X miJ0_init_db425 lmJ0_489 hs rfl rfl (Nat.le_of_ble_eq_true rfl) ⟨by decide, by decide, by decide, by decide⟩ dJ0_init_81219_3 (k_news h hs hvp hl) (fun r z q => ?_)
  obtain ⟨rfl, g1, g2, g3⟩ := q
  exact a_vret X hr dJ0_init_81219_6 ⟨by decide, by decide⟩ ⟨rfl, g1, g2, g3⟩
set_option maxRecDepth 100000 in
theorem k_toString {l : Launch} {G : zG} {b : Nat} {S : zS} {p j n : Nat} {t : List Nat} (h : zSB S p j n t) (hl : S.1.length + 2 < 1000000) : zM l G b yJ4_toString_0e30d cJ4_toString_0e30d 1 (some (.object "java/lang/String")) 5 2 3006 [.ref p] S (fun r z => r = some (.ref S.1.length) ∧ zGr zE0 2 S z ∧ z.1[S.1.length]? = some (0, 9, [(2, S.1.length + 1), (0, 0), (0, 0), (0, 0)]) ∧ z.1.length = S.1.length + 2 ∧ zTx G z S.1.length t) := by
  refine zM.of miJ4_toString_0e30d (Nat.le_of_ble_eq_true rfl) ?_
  intro p0 e s m args below meth c X hr hname
  refine a_new X [(3, 0), (0, 0), (0, 0), (0, 0)] zcJ9 lnJ4_18 zinst9 zini9 ⟨rfl, by decide, by decide⟩ (by omega) ⟨by decide, by decide⟩ dJ4_toString_0e30d_0 ?_
  have hlt := h.lt
  have hl1 : (zS1 S (0, 9, [(3, 0), (0, 0), (0, 0), (0, 0)])).1.length = S.1.length + 1 := by show (S.1 ++ [_]).length = _; rw [List.length_append]; rfl
  have h2 : zSB (zS1 S (0, 9, [(3, 0), (0, 0), (0, 0), (0, 0)])) p j n t := by
    obtain ⟨hq, hj, ha, hn, hcod, hcnt, hby, h128⟩ := id h
    have ep : (zS1 S (0, 9, [(3, 0), (0, 0), (0, 0), (0, 0)])).2.1 p = S.2.1 p := zn_row (by omega)
    have ej : (zS1 S (0, 9, [(3, 0), (0, 0), (0, 0), (0, 0)])).2.1 j = S.2.1 j := zn_row (by omega)
    exact ⟨zS1_get hq, hj, zS1_get ha, hn, by rw [ep]; exact hcod, by rw [ep]; exact hcnt, fun k hk => by rw [ej]; exact hby k hk, h128⟩
  refine a_dup X dJ4_toString_0e30d_3 rfl ?_
  refine a_aload_n X dJ4_toString_0e30d_4 rfl ?_
  refine a_invI0 X miJ0_init_81219 lmJ4_137 zS1_new rfl rfl (Nat.le_of_ble_eq_true rfl) ⟨by decide, by decide, by decide, by decide⟩ dJ4_toString_0e30d_5 (k_news1 h2 zS1_new hlt (by rw [hl1]; omega)) (fun r z q => ?_)
  obtain ⟨rfl, g1, g2, g3⟩ := q
  rw [hl1] at g2
  have hzl := g1.2.1
  have hzl2 := (List.getElem?_eq_some_iff.mp g2).1
  have hz3 : z.1.length = S.1.length + 2 := by
    rcases g3 with ⟨i, hi, e, -⟩ | ⟨-, i, e1, -, -, e2, -⟩
    · have : S.1.length < 1000000 := by omega
      omega
    · rw [g2] at e1
      cases e1
      have := (List.getElem?_eq_some_iff.mp e2).1
      rw [hl1] at hzl
      omega
  refine a_aret X hr (Or.inl ⟨_, rfl⟩) (Or.inr ⟨_, rfl⟩) dJ4_toString_0e30d_8 ⟨by decide, by decide⟩ ⟨rfl, ⟨by omega, by omega, fun a h9 hn9 => ?_⟩, g2, hz3, g3⟩
  obtain ⟨c1, c2, c3⟩ := g1.2.2 a (by rw [hl1]; omega) (by unfold zE1'; omega)
  exact ⟨c1.trans (List.getElem?_append_left (by omega)), c2.trans (zn_row (by omega)), c3.trans (zn_row (by omega))⟩
set_option maxRecDepth 100000 in
theorem k_app4S {l : Launch} {G : zG} {b : Nat} {S : zS} {p j n : Nat} {t : List Nat} (h : zSB S p j n t) {v : Nat} {u : List Nat} (hv : zTx G S v u) (h8 : ∀ x, x ∈ u → x < 128) (hvp : v < 1000000 → ∀ i, S.1[v]? = some (0, 9, [(2, i), (0, 0), (0, 0), (0, 0)]) → ¬ i = j) (hu : t.length + u.length ≤ 1500) (hl : S.1.length + 1 < 1000000) : zM l G b yJ4_append_15ec4 cJ4_append_15ec4 2 (some (.object "java/lang/StringBuilder")) 5 1 3002 [.ref p, .ref v] S (fun r z => r = some (.ref p) ∧ ∃ j' n', zSB z p j' n' (t ++ u) ∧ zGr (zE2 p j) 1 S z) := by
  refine zM.of miJ4_append_15ec4 (Nat.le_of_ble_eq_true rfl) ?_
  intro p0 e s m args below meth c X hr hname
  refine a_aload_n X dJ4_append_15ec4_0 rfl ?_
  refine a_aload_n X dJ4_append_15ec4_1 rfl ?_
  refine a_invSU X miJ5_append_cf1ce lmJ4_29 h.1 rfl rfl (Nat.le_of_ble_eq_true rfl) ⟨by decide, by decide, by decide, by decide⟩ dJ4_append_15ec4_2 (k_appS h hv h8 hvp hu hl) (fun r z q => ?_)
  obtain ⟨rfl, j2, n2, g1, g2⟩ := q
  refine a_pop X dJ4_append_15ec4_5 rfl ?_
  refine a_aload_n X dJ4_append_15ec4_6 rfl ?_
  exact a_aret X hr (Or.inl ⟨_, rfl⟩) (Or.inr ⟨_, rfl⟩) dJ4_append_15ec4_7 ⟨by decide, by decide⟩ ⟨rfl, j2, n2, g1, g2⟩
set_option maxRecDepth 100000 in
theorem k_app4C {l : Launch} {G : zG} {b : Nat} {S : zS} {p j n : Nat} {t : List Nat} (h : zSB S p j n t) {x : Nat} (hx : x < 128) (hu : t.length + 1 ≤ 1500) (hl : S.1.length + 1 < 1000000) : zM l G b yJ4_append_cf468 cJ4_append_cf468 2 (some (.object "java/lang/StringBuilder")) 5 1 3002 [.ref p, .int (nI x)] S (fun r z => r = some (.ref p) ∧ ∃ j' n', zSB z p j' n' (t ++ [x]) ∧ zGr (zE2 p j) 1 S z) := by
  refine zM.of miJ4_append_cf468 (Nat.le_of_ble_eq_true rfl) ?_
  intro p0 e s m args below meth c X hr hname
  refine a_aload_n X dJ4_append_cf468_0 rfl ?_
  refine a_iload_n X dJ4_append_cf468_1 rfl ?_
  refine a_invSU X miJ5_append_3fe6f lmJ4_50 h.1 rfl rfl (Nat.le_of_ble_eq_true rfl) ⟨by decide, by decide, by decide, by decide⟩ dJ4_append_cf468_2 (k_appC h hx hu hl) (fun r z q => ?_)
  obtain ⟨rfl, j2, n2, g1, g2⟩ := q
  refine a_pop X dJ4_append_cf468_5 rfl ?_
  refine a_aload_n X dJ4_append_cf468_6 rfl ?_
  exact a_aret X hr (Or.inl ⟨_, rfl⟩) (Or.inr ⟨_, rfl⟩) dJ4_append_cf468_7 ⟨by decide, by decide⟩ ⟨rfl, j2, n2, g1, g2⟩
set_option maxRecDepth 100000 in
theorem k_app4I {l : Launch} {G : zG} {b : Nat} {S : zS} {p j n : Nat} {t : List Nat} (h : zSB S p j n t) {v : Nat} (hv : v ≤ 100) (hu : t.length + 3 ≤ 1500) (hl : S.1.length + 1 < 1000000) : zM l G b yJ4_append_bf812 cJ4_append_bf812 2 (some (.object "java/lang/StringBuilder")) 5 1 3002 [.ref p, .int (nI v)] S (fun r z => r = some (.ref p) ∧ ∃ j' n', zSB z p j' n' (t ++ dg v) ∧ zGr (zE2 p j) 1 S z) := by
  refine zM.of miJ4_append_bf812 (Nat.le_of_ble_eq_true rfl) ?_
  intro p0 e s m args below meth c X hr hname
  refine a_aload_n X dJ4_append_bf812_0 rfl ?_
  refine a_iload_n X dJ4_append_bf812_1 rfl ?_
  refine a_invSU X miJ5_append_c97b9 lmJ4_53 h.1 rfl rfl (Nat.le_of_ble_eq_true rfl) ⟨by decide, by decide, by decide, by decide⟩ dJ4_append_bf812_2 (k_appI h hv hu hl) (fun r z q => ?_)
  obtain ⟨rfl, j2, n2, g1, g2⟩ := q
  refine a_pop X dJ4_append_bf812_5 rfl ?_
  refine a_aload_n X dJ4_append_bf812_6 rfl ?_
  exact a_aret X hr (Or.inl ⟨_, rfl⟩) (Or.inr ⟨_, rfl⟩) dJ4_append_bf812_7 ⟨by decide, by decide⟩ ⟨rfl, j2, n2, g1, g2⟩
