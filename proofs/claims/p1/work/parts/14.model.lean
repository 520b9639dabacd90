theorem t64_le {a b : Int32} : a.toInt64 ≤ b.toInt64 ↔ a ≤ b := by rw [Int64.le_iff_toInt_le, Int32.le_iff_toInt_le, Int32.toInt_toInt64, Int32.toInt_toInt64]
theorem t64_lt {a b : Int32} : a.toInt64 < b.toInt64 ↔ a < b := by rw [Int64.lt_iff_toInt_lt, Int32.lt_iff_toInt_lt, Int32.toInt_toInt64, Int32.toInt_toInt64]
theorem z_year {sd n : Int32} (h1 : 0 ≤ sd ∧ sd ≤ 999999999) (h2 : 1 ≤ n ∧ n ≤ 30) : ((0 : Int64) ≤ sd.toInt64 + n.toInt64 ∧ sd.toInt64 + n.toInt64 ≤ 999999999) ↔ sd ≤ 999999999 - n := by
  have e0 : (0 : Int32).toInt = 0 := by decide
  have e1 : (1 : Int32).toInt = 1 := by decide
  have e2 : (30 : Int32).toInt = 30 := by decide
  have e3 : (999999999 : Int32).toInt = 999999999 := by decide
  have e4 : (0 : Int64).toInt = 0 := by decide
  have e5 : (999999999 : Int64).toInt = 999999999 := by decide
  simp only [Int32.le_iff_toInt_le, e0, e1, e2, e3] at h1 h2
  rw [Int64.le_iff_toInt_le, Int64.le_iff_toInt_le, Int32.le_iff_toInt_le, Int64.toInt_add, Int32.toInt_sub, Int32.toInt_toInt64, Int32.toInt_toInt64, e3, e4, e5]
  have a1 : (sd.toInt + n.toInt).bmod (2 ^ 64) = sd.toInt + n.toInt := by rw [Int.bmod_def]; omega
  have a2 : (999999999 - n.toInt).bmod (2 ^ 32) = 999999999 - n.toInt := by rw [Int.bmod_def]; omega
  rw [a1, a2]
  omega
theorem zcpy_sx {α : Type} {M : Nat → Nat → α} {P n : Nat} {g : Nat → α} {v : α} (h : v = g n) : zu (zcpy M P n g) P n v = zcpy M P (n + 1) g := by subst h; exact zcpy_s
theorem z_be {c : Prop} [Decidable c] {x v k : Int32} (hc : c) (hx : x = k) : (if x = v then -1 else x) = if c ∧ ¬ v = k then k else -1 := by
  subst hx
  by_cases q : v = x
  · rw [if_pos q.symm, if_neg (fun w => w.2 q)]
  · rw [if_neg (fun w => q w.symm), if_pos ⟨hc, q⟩]
/-- a fresh model at P -/
def zE8 (S : zS) (P : Nat) : Prop := LX8 S.1 P ∧ S.2.1 P 7 = 0 ∧ S.2.1 P 8 = 0 ∧ S.2.1 P 9 = 0 ∧ S.2.1 P 11 = 0 ∧ S.2.1 P 12 = 0 ∧ S.2.1 P 13 = -1 ∧ S.2.1 P 14 = -1 ∧ S.2.1 P 64 = 0 ∧
  S.2.1 (P + 1) 67 = 0 ∧ S.2.1 (P + 1) 68 = 0 ∧ S.2.1 (P + 1) 69 = 100 ∧ S.2.1 (P + 1) 70 = 0 ∧ S.2.1 (P + 1) 71 = 0
set_option maxRecDepth 100000 in
theorem m_refuse {l : Launch} {G : zG} {b : Nat} {S : zS} {P : Nat} {w : Int32} (z_o : S.1[P]? = some (0, 8, [(2, P + 1), (2, P + 2), (2, P + 3), (2, P + 4), (2, P + 5), (2, P + 6), (0, 0), (0, 0), (0, 0), (0, 0), (2, P + 7), (0, 0), (0, 0), (0, 0), (0, 0), (0, 0), (0, 0), (0, 0), (0, 0), (0, 0), (0, 0), (0, 0), (0, 0), (0, 0), (1, 0), (2, P + 8), (2, P + 9), (2, P + 10), (0, 0), (0, 0), (0, 0), (0, 0), (1, 0), (0, 0), (2, P + 11), (2, P + 12), (2, P + 13), (2, P + 14), (2, P + 15), (2, P + 16), (2, P + 17), (2, P + 18), (2, P + 19), (2, P + 20), (2, P + 21), (2, P + 22), (1, 0), (2, P + 23), (2, P + 24), (2, P + 25), (2, P + 26), (2, P + 27), (2, P + 28), (2, P + 29), (0, 0), (0, 0), (0, 0), (0, 0), (0, 0), (1, 0), (1, 0), (2, P + 30), (2, P + 31), (2, P + 32), (0, 0)])) : zM l G b yX8_refuse cX8_refuse 2 (some .int) 0 0 0 [.ref P, .int w] S (fun r z => r = some (.int (-1)) ∧ z = (S.1, zu (zu S.2.1 P 6 0) P 12 w, S.2.2)) := by
  refine zM.of miX8_refuse (Nat.le_of_ble_eq_true rfl) ?_
  intro p e s m args below meth c X hr hname
  generalize hF : ((fun r z => r = some (.int (-1)) ∧ z = (S.1, zu (zu S.2.1 P 6 0) P 12 w, S.2.2)) : Option Value → zS → Prop) = FQ
  change Zw p l e { frames := 0, cells := 0, slots := 0, locals := 80 * 0 } s m args below meth c G b 2 (MQ below (zQ G b FQ) args s 0 0 (fun q : Nat => b ≤ q)) 0 0 0 [some (.ref P), some (.int w)] [] S
  refine a_aload_n X dX8_refuse_0 rfl ?_
  refine a_iconst (v := 0) X dX8_refuse_1 (by decide) ?_
  refine a_puti X lf8_119 (by assumption) rfl dX8_refuse_2 ?_
  refine a_aload_n X dX8_refuse_5 rfl ?_
  refine a_iload_n X dX8_refuse_6 rfl ?_
  refine a_puti X lf8_122 (by assumption) rfl dX8_refuse_7 ?_
  refine a_iconst (v := -1) X dX8_refuse_10 (by decide) ?_
  refine a_iret X hr dX8_refuse_11 ⟨by decide, by decide⟩ ?_
  subst hF
  exact ⟨rfl, rfl⟩
set_option maxRecDepth 100000 in
theorem m_gives {l : Launch} {G : zG} {b : Nat} {S : zS} {P : Nat} {w : Int32} (z_o : S.1[P]? = some (0, 8, [(2, P + 1), (2, P + 2), (2, P + 3), (2, P + 4), (2, P + 5), (2, P + 6), (0, 0), (0, 0), (0, 0), (0, 0), (2, P + 7), (0, 0), (0, 0), (0, 0), (0, 0), (0, 0), (0, 0), (0, 0), (0, 0), (0, 0), (0, 0), (0, 0), (0, 0), (0, 0), (1, 0), (2, P + 8), (2, P + 9), (2, P + 10), (0, 0), (0, 0), (0, 0), (0, 0), (1, 0), (0, 0), (2, P + 11), (2, P + 12), (2, P + 13), (2, P + 14), (2, P + 15), (2, P + 16), (2, P + 17), (2, P + 18), (2, P + 19), (2, P + 20), (2, P + 21), (2, P + 22), (1, 0), (2, P + 23), (2, P + 24), (2, P + 25), (2, P + 26), (2, P + 27), (2, P + 28), (2, P + 29), (0, 0), (0, 0), (0, 0), (0, 0), (0, 0), (1, 0), (1, 0), (2, P + 30), (2, P + 31), (2, P + 32), (0, 0)])) : zM l G b yX8_gives cX8_gives 2 (some .int) 0 0 0 [.ref P, .int w] S (fun r z => r = some (.int w) ∧ z = (S.1, zu (zu S.2.1 P 6 0) P 12 0, S.2.2)) := by
  refine zM.of miX8_gives (Nat.le_of_ble_eq_true rfl) ?_
  intro p e s m args below meth c X hr hname
  generalize hF : ((fun r z => r = some (.int w) ∧ z = (S.1, zu (zu S.2.1 P 6 0) P 12 0, S.2.2)) : Option Value → zS → Prop) = FQ
  change Zw p l e { frames := 0, cells := 0, slots := 0, locals := 80 * 0 } s m args below meth c G b 2 (MQ below (zQ G b FQ) args s 0 0 (fun q : Nat => b ≤ q)) 0 0 0 [some (.ref P), some (.int w)] [] S
  refine a_aload_n X dX8_gives_0 rfl ?_
  refine a_iconst (v := 0) X dX8_gives_1 (by decide) ?_
  refine a_puti X lf8_119 (by assumption) rfl dX8_gives_2 ?_
  refine a_aload_n X dX8_gives_5 rfl ?_
  refine a_iconst (v := 0) X dX8_gives_6 (by decide) ?_
  refine a_puti X lf8_122 (by assumption) rfl dX8_gives_7 ?_
  refine a_iload_n X dX8_gives_10 rfl ?_
  refine a_iret X hr dX8_gives_11 ⟨by decide, by decide⟩ ?_
  subst hF
  exact ⟨rfl, rfl⟩
set_option maxRecDepth 100000 in
theorem m_givesLong {l : Launch} {G : zG} {b : Nat} {S : zS} {P : Nat} {w : Int64} (z_o : S.1[P]? = some (0, 8, [(2, P + 1), (2, P + 2), (2, P + 3), (2, P + 4), (2, P + 5), (2, P + 6), (0, 0), (0, 0), (0, 0), (0, 0), (2, P + 7), (0, 0), (0, 0), (0, 0), (0, 0), (0, 0), (0, 0), (0, 0), (0, 0), (0, 0), (0, 0), (0, 0), (0, 0), (0, 0), (1, 0), (2, P + 8), (2, P + 9), (2, P + 10), (0, 0), (0, 0), (0, 0), (0, 0), (1, 0), (0, 0), (2, P + 11), (2, P + 12), (2, P + 13), (2, P + 14), (2, P + 15), (2, P + 16), (2, P + 17), (2, P + 18), (2, P + 19), (2, P + 20), (2, P + 21), (2, P + 22), (1, 0), (2, P + 23), (2, P + 24), (2, P + 25), (2, P + 26), (2, P + 27), (2, P + 28), (2, P + 29), (0, 0), (0, 0), (0, 0), (0, 0), (0, 0), (1, 0), (1, 0), (2, P + 30), (2, P + 31), (2, P + 32), (0, 0)])) : zM l G b yX8_givesLong cX8_givesLong 3 (some .long) 0 0 0 [.ref P, .long w] S (fun r z => r = some (.long w) ∧ z = (S.1, zu (zu S.2.1 P 6 0) P 12 0, S.2.2)) := by
  refine zM.of miX8_givesLong (Nat.le_of_ble_eq_true rfl) ?_
  intro p e s m args below meth c X hr hname
  generalize hF : ((fun r z => r = some (.long w) ∧ z = (S.1, zu (zu S.2.1 P 6 0) P 12 0, S.2.2)) : Option Value → zS → Prop) = FQ
  change Zw p l e { frames := 0, cells := 0, slots := 0, locals := 80 * 0 } s m args below meth c G b 3 (MQ below (zQ G b FQ) args s 0 0 (fun q : Nat => b ≤ q)) 0 0 0 [some (.ref P), some (.long w), none] [] S
  refine a_aload_n X dX8_givesLong_0 rfl ?_
  refine a_iconst (v := 0) X dX8_givesLong_1 (by decide) ?_
  refine a_puti X lf8_119 (by assumption) rfl dX8_givesLong_2 ?_
  refine a_aload_n X dX8_givesLong_5 rfl ?_
  refine a_iconst (v := 0) X dX8_givesLong_6 (by decide) ?_
  refine a_puti X lf8_122 (by assumption) rfl dX8_givesLong_7 ?_
  refine a_lload_n X dX8_givesLong_10 rfl ?_
  refine a_lret X hr dX8_givesLong_11 ⟨by decide, by decide⟩ ?_
  subst hF
  exact ⟨rfl, rfl⟩
set_option maxRecDepth 100000 in
theorem m_isFromL {l : Launch} {G : zG} {b : Nat} {S : zS} {v lo hi : Int64} : zM l G b yX8_isFrom cX8_isFrom 6 (some .boolean) 0 0 0 [.long v, .long lo, .long hi] S (fun r z => r = some (.int (zB (lo ≤ v ∧ v ≤ hi))) ∧ z = S) := by
  refine zM.of miX8_isFrom (Nat.le_of_ble_eq_true rfl) ?_
  intro p e s m args below meth c X hr hname
  generalize hF : ((fun r z => r = some (.int (zB (lo ≤ v ∧ v ≤ hi))) ∧ z = S) : Option Value → zS → Prop) = FQ
  change Zw p l e { frames := 0, cells := 0, slots := 0, locals := 80 * 0 } s m args below meth c G b 6 (MQ below (zQ G b FQ) args s 0 0 (fun q : Nat => b ≤ q)) 0 0 0 [some (.long v), none, some (.long lo), none, some (.long hi), none] [] S
  refine a_lload_n X dX8_isFrom_0 rfl ?_
  refine a_lload_n X dX8_isFrom_1 rfl ?_
  refine a_lcmp X dX8_isFrom_2 ?_
  refine a_if_lt (tgt := 17) X dX8_isFrom_3 (by decide) (fun h_3 => ?_) (fun h_3 => ?_)
  · refine a_iconst (v := 0) X dX8_isFrom_17 (by decide) ?_
    refine a_zret X (by first | exact Or.inl rfl | exact Or.inr rfl | assumption) hr dX8_isFrom_18 ⟨by decide, by decide⟩ ?_
    subst hF
    refine ⟨congrArg (fun x => some (Value.int x)) ?_, rfl⟩
    first | exact zB_f (fun q => Int64.not_le.mpr ((lg_cmp_lt _ _).mp h_3) q.1) | exact zB_f (fun q => Int64.not_le.mpr ((lg_cmp_gt _ _).mp h_10) q.2) | exact zB_t ⟨Int64.not_lt.mp (fun q => h_3 ((lg_cmp_lt _ _).mpr q)), Int64.not_lt.mp (fun q => h_10 ((lg_cmp_gt _ _).mpr q))⟩
  · refine a_lload_n X dX8_isFrom_6 rfl ?_
    refine a_lload X dX8_isFrom_7 rfl ?_
    refine a_lcmp X dX8_isFrom_9 ?_
    refine a_if_gt (tgt := 17) X dX8_isFrom_10 (by decide) (fun h_10 => ?_) (fun h_10 => ?_)
    · refine a_iconst (v := 0) X dX8_isFrom_17 (by decide) ?_
      refine a_zret X (by first | exact Or.inl rfl | exact Or.inr rfl | assumption) hr dX8_isFrom_18 ⟨by decide, by decide⟩ ?_
      subst hF
      refine ⟨congrArg (fun x => some (Value.int x)) ?_, rfl⟩
      first | exact zB_f (fun q => Int64.not_le.mpr ((lg_cmp_lt _ _).mp h_3) q.1) | exact zB_f (fun q => Int64.not_le.mpr ((lg_cmp_gt _ _).mp h_10) q.2) | exact zB_t ⟨Int64.not_lt.mp (fun q => h_3 ((lg_cmp_lt _ _).mpr q)), Int64.not_lt.mp (fun q => h_10 ((lg_cmp_gt _ _).mpr q))⟩
    · refine a_iconst (v := 1) X dX8_isFrom_13 (by decide) ?_
      refine a_goto (tgt := 18) X dX8_isFrom_14 (by decide) ?_
      refine a_zret X (by first | exact Or.inl rfl | exact Or.inr rfl | assumption) hr dX8_isFrom_18 ⟨by decide, by decide⟩ ?_
      subst hF
      refine ⟨congrArg (fun x => some (Value.int x)) ?_, rfl⟩
      first | exact zB_f (fun q => Int64.not_le.mpr ((lg_cmp_lt _ _).mp h_3) q.1) | exact zB_f (fun q => Int64.not_le.mpr ((lg_cmp_gt _ _).mp h_10) q.2) | exact zB_t ⟨Int64.not_lt.mp (fun q => h_3 ((lg_cmp_lt _ _).mpr q)), Int64.not_lt.mp (fun q => h_10 ((lg_cmp_gt _ _).mpr q))⟩
set_option maxRecDepth 100000 in
theorem m_isFrom {l : Launch} {G : zG} {b : Nat} {S : zS} {v lo hi : Int32} {l1 h1 : Int64} (hl : lo.toInt64 = l1) (hh : hi.toInt64 = h1) : zM l G b yX8_isFrom cX8_isFrom 6 (some .boolean) 0 0 0 [.long v.toInt64, .long l1, .long h1] S (fun r z => r = some (.int (zB (lo ≤ v ∧ v ≤ hi))) ∧ z = S) := by
  refine zM.of miX8_isFrom (Nat.le_of_ble_eq_true rfl) ?_
  intro p e s m args below meth c X hr hname
  generalize hF : ((fun r z => r = some (.int (zB (lo ≤ v ∧ v ≤ hi))) ∧ z = S) : Option Value → zS → Prop) = FQ
  change Zw p l e { frames := 0, cells := 0, slots := 0, locals := 80 * 0 } s m args below meth c G b 6 (MQ below (zQ G b FQ) args s 0 0 (fun q : Nat => b ≤ q)) 0 0 0 [some (.long v.toInt64), none, some (.long l1), none, some (.long h1), none] [] S
  subst hl hh
  refine a_lload_n X dX8_isFrom_0 rfl ?_
  refine a_lload_n X dX8_isFrom_1 rfl ?_
  refine a_lcmp X dX8_isFrom_2 ?_
  refine a_if_lt (tgt := 17) X dX8_isFrom_3 (by decide) (fun h_3 => ?_) (fun h_3 => ?_)
  · refine a_iconst (v := 0) X dX8_isFrom_17 (by decide) ?_
    refine a_zret X (by first | exact Or.inl rfl | exact Or.inr rfl | assumption) hr dX8_isFrom_18 ⟨by decide, by decide⟩ ?_
    subst hF
    refine ⟨congrArg (fun x => some (Value.int x)) ?_, rfl⟩
    first | exact zB_f (fun q => Int64.not_le.mpr ((lg_cmp_lt _ _).mp h_3) (t64_le.mpr q.1)) | exact zB_f (fun q => Int64.not_le.mpr ((lg_cmp_gt _ _).mp h_10) (t64_le.mpr q.2)) | exact zB_t ⟨t64_le.mp (Int64.not_lt.mp (fun q => h_3 ((lg_cmp_lt _ _).mpr q))), t64_le.mp (Int64.not_lt.mp (fun q => h_10 ((lg_cmp_gt _ _).mpr q)))⟩
  · refine a_lload_n X dX8_isFrom_6 rfl ?_
    refine a_lload X dX8_isFrom_7 rfl ?_
    refine a_lcmp X dX8_isFrom_9 ?_
    refine a_if_gt (tgt := 17) X dX8_isFrom_10 (by decide) (fun h_10 => ?_) (fun h_10 => ?_)
    · refine a_iconst (v := 0) X dX8_isFrom_17 (by decide) ?_
      refine a_zret X (by first | exact Or.inl rfl | exact Or.inr rfl | assumption) hr dX8_isFrom_18 ⟨by decide, by decide⟩ ?_
      subst hF
      refine ⟨congrArg (fun x => some (Value.int x)) ?_, rfl⟩
      first | exact zB_f (fun q => Int64.not_le.mpr ((lg_cmp_lt _ _).mp h_3) (t64_le.mpr q.1)) | exact zB_f (fun q => Int64.not_le.mpr ((lg_cmp_gt _ _).mp h_10) (t64_le.mpr q.2)) | exact zB_t ⟨t64_le.mp (Int64.not_lt.mp (fun q => h_3 ((lg_cmp_lt _ _).mpr q))), t64_le.mp (Int64.not_lt.mp (fun q => h_10 ((lg_cmp_gt _ _).mpr q)))⟩
    · refine a_iconst (v := 1) X dX8_isFrom_13 (by decide) ?_
      refine a_goto (tgt := 18) X dX8_isFrom_14 (by decide) ?_
      refine a_zret X (by first | exact Or.inl rfl | exact Or.inr rfl | assumption) hr dX8_isFrom_18 ⟨by decide, by decide⟩ ?_
      subst hF
      refine ⟨congrArg (fun x => some (Value.int x)) ?_, rfl⟩
      first | exact zB_f (fun q => Int64.not_le.mpr ((lg_cmp_lt _ _).mp h_3) (t64_le.mpr q.1)) | exact zB_f (fun q => Int64.not_le.mpr ((lg_cmp_gt _ _).mp h_10) (t64_le.mpr q.2)) | exact zB_t ⟨t64_le.mp (Int64.not_lt.mp (fun q => h_3 ((lg_cmp_lt _ _).mpr q))), t64_le.mp (Int64.not_lt.mp (fun q => h_10 ((lg_cmp_gt _ _).mpr q)))⟩
set_option maxRecDepth 100000 in
theorem m_isUnit0 {l : Launch} {G : zG} {b : Nat} {S : zS} {P : Nat} {h : Int32} (z_o : S.1[P]? = some (0, 8, [(2, P + 1), (2, P + 2), (2, P + 3), (2, P + 4), (2, P + 5), (2, P + 6), (0, 0), (0, 0), (0, 0), (0, 0), (2, P + 7), (0, 0), (0, 0), (0, 0), (0, 0), (0, 0), (0, 0), (0, 0), (0, 0), (0, 0), (0, 0), (0, 0), (0, 0), (0, 0), (1, 0), (2, P + 8), (2, P + 9), (2, P + 10), (0, 0), (0, 0), (0, 0), (0, 0), (1, 0), (0, 0), (2, P + 11), (2, P + 12), (2, P + 13), (2, P + 14), (2, P + 15), (2, P + 16), (2, P + 17), (2, P + 18), (2, P + 19), (2, P + 20), (2, P + 21), (2, P + 22), (1, 0), (2, P + 23), (2, P + 24), (2, P + 25), (2, P + 26), (2, P + 27), (2, P + 28), (2, P + 29), (0, 0), (0, 0), (0, 0), (0, 0), (0, 0), (1, 0), (1, 0), (2, P + 30), (2, P + 31), (2, P + 32), (0, 0)])) (h0 : S.2.1 P 7 = 0) : zM l G b yX8_isUnit cX8_isUnit 2 (some .boolean) 1 0 0 [.ref P, .int h] S (fun r z => r = some (.int 0) ∧ z = S) := by
  refine zM.of miX8_isUnit (Nat.le_of_ble_eq_true rfl) ?_
  intro p e s m args below meth c X hr hname
  generalize hF : ((fun r z => r = some (.int 0) ∧ z = S) : Option Value → zS → Prop) = FQ
  change Zw p l e { frames := 1, cells := 0, slots := 0, locals := 80 * 1 } s m args below meth c G b 2 (MQ below (zQ G b FQ) args s 0 0 (fun q : Nat => b ≤ q)) 0 0 0 [some (.ref P), some (.int h)] [] S
  refine a_iload_n X dX8_isUnit_0 rfl ?_
  refine a_i2l X dX8_isUnit_1 ?_
  refine a_lconst (v := 0) X dX8_isUnit_2 (by decide) ?_
  refine a_aload_n X dX8_isUnit_3 rfl ?_
  refine a_geti X lf8_125 (by assumption) rfl dX8_isUnit_4 ?_
  refine a_iconst (v := 1) X dX8_isUnit_7 (by decide) ?_
  refine a_isub X dX8_isUnit_8 ?_
  refine a_i2l X dX8_isUnit_9 ?_
  refine a_callSv X dX8_isUnit_10 miX8_isFrom lm8_128 (m_isFrom (lo := 0) (hi := S.2.1 P 7 - 1) (by decide) rfl) rfl rfl (Nat.le_of_ble_eq_true rfl) ⟨by decide, by decide, by decide, by decide⟩ ?_
  refine a_zret X (zB_01 _) hr dX8_isUnit_13 ⟨by decide, by decide⟩ ?_
  subst hF
  refine ⟨congrArg (fun x => some (Value.int x)) ?_, rfl⟩
  unfold zB
  rw [if_neg]
  exact fun q => absurd (Int32.le_trans q.1 q.2) (by rw [h0]; decide)
set_option maxRecDepth 100000 in
theorem m_isHunter0 {l : Launch} {G : zG} {b : Nat} {S : zS} {P : Nat} {h : Int32} (z_o : S.1[P]? = some (0, 8, [(2, P + 1), (2, P + 2), (2, P + 3), (2, P + 4), (2, P + 5), (2, P + 6), (0, 0), (0, 0), (0, 0), (0, 0), (2, P + 7), (0, 0), (0, 0), (0, 0), (0, 0), (0, 0), (0, 0), (0, 0), (0, 0), (0, 0), (0, 0), (0, 0), (0, 0), (0, 0), (1, 0), (2, P + 8), (2, P + 9), (2, P + 10), (0, 0), (0, 0), (0, 0), (0, 0), (1, 0), (0, 0), (2, P + 11), (2, P + 12), (2, P + 13), (2, P + 14), (2, P + 15), (2, P + 16), (2, P + 17), (2, P + 18), (2, P + 19), (2, P + 20), (2, P + 21), (2, P + 22), (1, 0), (2, P + 23), (2, P + 24), (2, P + 25), (2, P + 26), (2, P + 27), (2, P + 28), (2, P + 29), (0, 0), (0, 0), (0, 0), (0, 0), (0, 0), (1, 0), (1, 0), (2, P + 30), (2, P + 31), (2, P + 32), (0, 0)])) (h0 : S.2.1 P 8 = 0) : zM l G b yX8_isHunter cX8_isHunter 2 (some .boolean) 1 0 0 [.ref P, .int h] S (fun r z => r = some (.int 0) ∧ z = S) := by
  refine zM.of miX8_isHunter (Nat.le_of_ble_eq_true rfl) ?_
  intro p e s m args below meth c X hr hname
  generalize hF : ((fun r z => r = some (.int 0) ∧ z = S) : Option Value → zS → Prop) = FQ
  change Zw p l e { frames := 1, cells := 0, slots := 0, locals := 80 * 1 } s m args below meth c G b 2 (MQ below (zQ G b FQ) args s 0 0 (fun q : Nat => b ≤ q)) 0 0 0 [some (.ref P), some (.int h)] [] S
  refine a_iload_n X dX8_isHunter_0 rfl ?_
  refine a_i2l X dX8_isHunter_1 ?_
  refine a_lconst (v := 0) X dX8_isHunter_2 (by decide) ?_
  refine a_aload_n X dX8_isHunter_3 rfl ?_
  refine a_geti X lf8_132 (by assumption) rfl dX8_isHunter_4 ?_
  refine a_iconst (v := 1) X dX8_isHunter_7 (by decide) ?_
  refine a_isub X dX8_isHunter_8 ?_
  refine a_i2l X dX8_isHunter_9 ?_
  refine a_callSv X dX8_isHunter_10 miX8_isFrom lm8_128 (m_isFrom (lo := 0) (hi := S.2.1 P 8 - 1) (by decide) rfl) rfl rfl (Nat.le_of_ble_eq_true rfl) ⟨by decide, by decide, by decide, by decide⟩ ?_
  refine a_zret X (zB_01 _) hr dX8_isHunter_13 ⟨by decide, by decide⟩ ?_
  subst hF
  refine ⟨congrArg (fun x => some (Value.int x)) ?_, rfl⟩
  unfold zB
  rw [if_neg]
  exact fun q => absurd (Int32.le_trans q.1 q.2) (by rw [h0]; decide)
set_option maxRecDepth 100000 in
theorem m_isParty0 {l : Launch} {G : zG} {b : Nat} {S : zS} {P : Nat} {h : Int32} (hT : LX8 S.1 P) (h0 : S.2.1 (P + 1) 70 = 0) : zM l G b yX8_isParty cX8_isParty 2 (some .boolean) 1 0 0 [.ref P, .int h] S (fun r z => r = some (.int 0) ∧ z = S) := by
  refine zM.of miX8_isParty (Nat.le_of_ble_eq_true rfl) ?_
  intro p e s m args below meth c X hr hname
  generalize hF : ((fun r z => r = some (.int 0) ∧ z = S) : Option Value → zS → Prop) = FQ
  change Zw p l e { frames := 1, cells := 0, slots := 0, locals := 80 * 1 } s m args below meth c G b 2 (MQ below (zQ G b FQ) args s 0 0 (fun q : Nat => b ≤ q)) 0 0 0 [some (.ref P), some (.int h)] [] S
  obtain ⟨z_lt, z_o, z_s, z_read, z_aside, z_kept, z_guest, z_readGuest, z_tape, z_unitName, z_hunterName, z_partyName, z_bits, z_partyOf, z_choiceAt, z_sizes, z_guestMany, z_pointsOf, z_ticketsOf, z_ord, z_given, z_roundOf, z_tags, z_guestTags, z_places, z_sumAt, z_sumFirst, z_sumRound, z_sumBoth, z_sumTags, z_isEnd, z_newPoints, z_inRow, z_out⟩ := id hT
  refine a_iload_n X dX8_isParty_0 rfl ?_
  refine a_i2l X dX8_isParty_1 ?_
  refine a_lconst (v := 0) X dX8_isParty_2 (by decide) ?_
  refine a_aload_n X dX8_isParty_3 rfl ?_
  refine a_getr X lf8_7 (by assumption) rfl (by omega) dX8_isParty_4 ?_
  refine a_bipush (v := 70) X dX8_isParty_7 (by decide) ?_
  refine a_iaload X (by assumption) (vp_in_nI (n := 70) (by decide) (by decide)) dX8_isParty_9 ?_
  refine a_iconst (v := 1) X dX8_isParty_10 (by decide) ?_
  refine a_isub X dX8_isParty_11 ?_
  refine a_i2l X dX8_isParty_12 ?_
  refine a_callSv X dX8_isParty_13 miX8_isFrom lm8_128 (m_isFrom (lo := 0) (hi := S.2.1 (P + 1) 70 - 1) (by decide) rfl) rfl rfl (Nat.le_of_ble_eq_true rfl) ⟨by decide, by decide, by decide, by decide⟩ ?_
  refine a_zret X (zB_01 _) hr dX8_isParty_16 ⟨by decide, by decide⟩ ?_
  subst hF
  refine ⟨congrArg (fun x => some (Value.int x)) ?_, rfl⟩
  unfold zB
  rw [if_neg]
  exact fun q => absurd (Int32.le_trans q.1 q.2) (by rw [h0]; decide)
set_option maxRecDepth 100000 in
theorem m_isSeed {l : Launch} {G : zG} {b : Nat} {S : zS} {sd : Int32} : zM l G b yX8_isSeed cX8_isSeed 1 (some .boolean) 1 0 0 [.int sd] S (fun r z => r = some (.int (zB (0 ≤ sd ∧ sd ≤ 999999999))) ∧ z = S) := by
  refine zM.of miX8_isSeed (Nat.le_of_ble_eq_true rfl) ?_
  intro p e s m args below meth c X hr hname
  generalize hF : ((fun r z => r = some (.int (zB (0 ≤ sd ∧ sd ≤ 999999999))) ∧ z = S) : Option Value → zS → Prop) = FQ
  change Zw p l e { frames := 1, cells := 0, slots := 0, locals := 80 * 1 } s m args below meth c G b 1 (MQ below (zQ G b FQ) args s 0 0 (fun q : Nat => b ≤ q)) 0 0 0 [some (.int sd)] [] S
  refine a_iload_n X dX8_isSeed_0 rfl ?_
  refine a_i2l X dX8_isSeed_1 ?_
  refine a_lconst (v := 0) X dX8_isSeed_2 (by decide) ?_
  refine a_ldc2 X dX8_isSeed_3 lk8_135 ?_
  refine a_callSv X dX8_isSeed_6 miX8_isFrom lm8_128 (m_isFrom (lo := 0) (hi := 999999999) (by decide) (by decide)) rfl rfl (Nat.le_of_ble_eq_true rfl) ⟨by decide, by decide, by decide, by decide⟩ ?_
  refine a_zret X (zB_01 _) hr dX8_isSeed_9 ⟨by decide, by decide⟩ ?_
  subst hF
  exact ⟨rfl, rfl⟩
set_option maxRecDepth 100000 in
theorem m_areYears {l : Launch} {G : zG} {b : Nat} {S : zS} {sd n : Int32} : zM l G b yX8_areYears cX8_areYears 2 (some .boolean) 2 0 0 [.int sd, .int n] S (fun r z => r = some (.int (zB ((0 ≤ sd ∧ sd ≤ 999999999) ∧ 1 ≤ n ∧ n ≤ 30 ∧ sd ≤ 999999999 - n))) ∧ z = S) := by
  refine zM.of miX8_areYears (Nat.le_of_ble_eq_true rfl) ?_
  intro p e s m args below meth c X hr hname
  generalize hF : ((fun r z => r = some (.int (zB ((0 ≤ sd ∧ sd ≤ 999999999) ∧ 1 ≤ n ∧ n ≤ 30 ∧ sd ≤ 999999999 - n))) ∧ z = S) : Option Value → zS → Prop) = FQ
  change Zw p l e { frames := 2, cells := 0, slots := 0, locals := 80 * 2 } s m args below meth c G b 2 (MQ below (zQ G b FQ) args s 0 0 (fun q : Nat => b ≤ q)) 0 0 0 [some (.int sd), some (.int n)] [] S
  refine a_iload_n X dX8_areYears_0 rfl ?_
  refine a_callSv X dX8_areYears_1 miX8_isSeed lm8_358 (m_isSeed) rfl rfl (Nat.le_of_ble_eq_true rfl) ⟨by decide, by decide, by decide, by decide⟩ ?_
  refine a_if_eq (tgt := 38) X dX8_areYears_4 (by decide) (fun h_4 => ?_) (fun h_4 => ?_)
  · refine a_iconst (v := 0) X dX8_areYears_38 (by decide) ?_
    refine a_zret X (by first | exact Or.inl rfl | exact Or.inr rfl | assumption) hr dX8_areYears_39 ⟨by decide, by decide⟩ ?_
    subst hF
    refine ⟨congrArg (fun x => some (Value.int x)) ?_, rfl⟩
    first | exact zB_f (fun q => zB_0 h_4 q.1) | exact zB_f (fun q => zB_0 h_16 ⟨q.2.1, q.2.2.1⟩) | exact zB_f (fun q => zB_0 h_31 ((z_year (zB_1 h_4) (zB_1 h_16)).mpr q.2.2.2)) | exact zB_t ⟨zB_1 h_4, (zB_1 h_16).1, (zB_1 h_16).2, (z_year (zB_1 h_4) (zB_1 h_16)).mp (zB_1 h_31)⟩
  · refine a_iload_n X dX8_areYears_7 rfl ?_
    refine a_i2l X dX8_areYears_8 ?_
    refine a_lconst (v := 1) X dX8_areYears_9 (by decide) ?_
    refine a_ldc2 X dX8_areYears_10 lk8_469 ?_
    refine a_callSv X dX8_areYears_13 miX8_isFrom lm8_128 (m_isFrom (lo := 1) (hi := 30) (by decide) (by decide)) rfl rfl (Nat.le_of_ble_eq_true rfl) ⟨by decide, by decide, by decide, by decide⟩ ?_
    refine a_if_eq (tgt := 38) X dX8_areYears_16 (by decide) (fun h_16 => ?_) (fun h_16 => ?_)
    · refine a_iconst (v := 0) X dX8_areYears_38 (by decide) ?_
      refine a_zret X (by first | exact Or.inl rfl | exact Or.inr rfl | assumption) hr dX8_areYears_39 ⟨by decide, by decide⟩ ?_
      subst hF
      refine ⟨congrArg (fun x => some (Value.int x)) ?_, rfl⟩
      first | exact zB_f (fun q => zB_0 h_4 q.1) | exact zB_f (fun q => zB_0 h_16 ⟨q.2.1, q.2.2.1⟩) | exact zB_f (fun q => zB_0 h_31 ((z_year (zB_1 h_4) (zB_1 h_16)).mpr q.2.2.2)) | exact zB_t ⟨zB_1 h_4, (zB_1 h_16).1, (zB_1 h_16).2, (z_year (zB_1 h_4) (zB_1 h_16)).mp (zB_1 h_31)⟩
    · refine a_iload_n X dX8_areYears_19 rfl ?_
      refine a_i2l X dX8_areYears_20 ?_
      refine a_iload_n X dX8_areYears_21 rfl ?_
      refine a_i2l X dX8_areYears_22 ?_
      refine a_ladd X dX8_areYears_23 ?_
      refine a_lconst (v := 0) X dX8_areYears_24 (by decide) ?_
      refine a_ldc2 X dX8_areYears_25 lk8_135 ?_
      refine a_callSv X dX8_areYears_28 miX8_isFrom lm8_128 (m_isFromL) rfl rfl (Nat.le_of_ble_eq_true rfl) ⟨by decide, by decide, by decide, by decide⟩ ?_
      refine a_if_eq (tgt := 38) X dX8_areYears_31 (by decide) (fun h_31 => ?_) (fun h_31 => ?_)
      · refine a_iconst (v := 0) X dX8_areYears_38 (by decide) ?_
        refine a_zret X (by first | exact Or.inl rfl | exact Or.inr rfl | assumption) hr dX8_areYears_39 ⟨by decide, by decide⟩ ?_
        subst hF
        refine ⟨congrArg (fun x => some (Value.int x)) ?_, rfl⟩
        first | exact zB_f (fun q => zB_0 h_4 q.1) | exact zB_f (fun q => zB_0 h_16 ⟨q.2.1, q.2.2.1⟩) | exact zB_f (fun q => zB_0 h_31 ((z_year (zB_1 h_4) (zB_1 h_16)).mpr q.2.2.2)) | exact zB_t ⟨zB_1 h_4, (zB_1 h_16).1, (zB_1 h_16).2, (z_year (zB_1 h_4) (zB_1 h_16)).mp (zB_1 h_31)⟩
      · refine a_iconst (v := 1) X dX8_areYears_34 (by decide) ?_
        refine a_goto (tgt := 39) X dX8_areYears_35 (by decide) ?_
        refine a_zret X (by first | exact Or.inl rfl | exact Or.inr rfl | assumption) hr dX8_areYears_39 ⟨by decide, by decide⟩ ?_
        subst hF
        refine ⟨congrArg (fun x => some (Value.int x)) ?_, rfl⟩
        first | exact zB_f (fun q => zB_0 h_4 q.1) | exact zB_f (fun q => zB_0 h_16 ⟨q.2.1, q.2.2.1⟩) | exact zB_f (fun q => zB_0 h_31 ((z_year (zB_1 h_4) (zB_1 h_16)).mpr q.2.2.2)) | exact zB_t ⟨zB_1 h_4, (zB_1 h_16).1, (zB_1 h_16).2, (z_year (zB_1 h_4) (zB_1 h_16)).mp (zB_1 h_31)⟩
set_option maxRecDepth 100000 in
theorem m_laysApplicants0 {l : Launch} {G : zG} {b : Nat} {S : zS} {P : Nat} (hT : LX8 S.1 P) (h7 : S.2.1 P 7 = 0) (h8 : S.2.1 P 8 = 0) (h70 : S.2.1 (P + 1) 70 = 0) : zM l G b yX8_laysApplicants cX8_laysApplicants 3 none 1 0 0 [.ref P] S (fun r z => r = none ∧ z = (S.1, zu S.2.1 P 33 0, S.2.2)) := by
  refine zM.of miX8_laysApplicants (Nat.le_of_ble_eq_true rfl) ?_
  intro p e s m args below meth c X hr hname
  generalize hF : ((fun r z => r = none ∧ z = (S.1, zu S.2.1 P 33 0, S.2.2)) : Option Value → zS → Prop) = FQ
  change Zw p l e { frames := 1, cells := 0, slots := 0, locals := 80 * 1 } s m args below meth c G b 3 (MQ below (zQ G b FQ) args s 0 0 (fun q : Nat => b ≤ q)) 0 0 0 [some (.ref P), none, none] [] S
  obtain ⟨z_lt, z_o, z_s, z_read, z_aside, z_kept, z_guest, z_readGuest, z_tape, z_unitName, z_hunterName, z_partyName, z_bits, z_partyOf, z_choiceAt, z_sizes, z_guestMany, z_pointsOf, z_ticketsOf, z_ord, z_given, z_roundOf, z_tags, z_guestTags, z_places, z_sumAt, z_sumFirst, z_sumRound, z_sumBoth, z_sumTags, z_isEnd, z_newPoints, z_inRow, z_out⟩ := id hT
  refine a_aload_n X dX8_laysApplicants_0 rfl ?_
  refine a_iconst (v := 0) X dX8_laysApplicants_1 (by decide) ?_
  refine a_puti X lf8_275 (by assumption) rfl dX8_laysApplicants_2 ?_
  refine a_iconst (v := 0) X dX8_laysApplicants_5 (by decide) ?_
  refine a_istore_n X dX8_laysApplicants_6 (by decide) ?_
  refine a_iload_n X dX8_laysApplicants_7 rfl ?_
  refine a_aload_n X dX8_laysApplicants_8 rfl ?_
  refine a_geti X lf8_132 (by assumption) rfl dX8_laysApplicants_9 ?_
  refine a_icmp_ge (tgt := 84) X dX8_laysApplicants_12 (by decide) (fun h_12 => ?_) (fun h_12 => absurd (by show zu S.2.1 P 33 0 P 8 ≤ 0; simp [zu, h8]) h_12)
  refine a_iconst (v := 0) X dX8_laysApplicants_84 (by decide) ?_
  refine a_istore_n X dX8_laysApplicants_85 (by decide) ?_
  refine a_iload_n X dX8_laysApplicants_86 rfl ?_
  refine a_aload_n X dX8_laysApplicants_87 rfl ?_
  refine a_getr X lf8_7 (by assumption) rfl (by omega) dX8_laysApplicants_88 ?_
  refine a_bipush (v := 70) X dX8_laysApplicants_91 (by decide) ?_
  refine a_iaload X (by assumption) (vp_in_nI (n := 70) (by decide) (by decide)) dX8_laysApplicants_93 ?_
  refine a_icmp_ge (tgt := 196) X dX8_laysApplicants_94 (by decide) (fun h_94 => ?_) (fun h_94 => absurd (by show zu S.2.1 P 33 0 (P + 1) 70 ≤ 0; simp [zu, h70]) h_94)
  refine a_iconst (v := 0) X dX8_laysApplicants_196 (by decide) ?_
  refine a_istore_n X dX8_laysApplicants_197 (by decide) ?_
  refine a_iload_n X dX8_laysApplicants_198 rfl ?_
  refine a_aload_n X dX8_laysApplicants_199 rfl ?_
  refine a_geti X lf8_275 (by assumption) rfl dX8_laysApplicants_200 ?_
  refine a_icmp_ge (tgt := 217) X dX8_laysApplicants_203 (by decide) (fun h_203 => ?_) (fun h_203 => absurd (by show zu S.2.1 P 33 0 P 33 ≤ 0; simp [zu, h8]) h_203)
  refine a_vret X hr dX8_laysApplicants_217 ⟨by decide, by decide⟩ ?_
  subst hF
  exact ⟨rfl, rfl⟩
set_option maxRecDepth 100000 in
theorem m_isApplicant0 {l : Launch} {G : zG} {b : Nat} {S : zS} {P : Nat} {h : Int32} (hT : LX8 S.1 P) (h7 : S.2.1 P 7 = 0) (h8 : S.2.1 P 8 = 0) (h70 : S.2.1 (P + 1) 70 = 0) : zM l G b yX8_isApplicant cX8_isApplicant 2 (some .boolean) 2 0 0 [.ref P, .int h] S (fun r z => r = some (.int 0) ∧ z = (S.1, zu S.2.1 P 33 0, S.2.2)) := by
  refine zM.of miX8_isApplicant (Nat.le_of_ble_eq_true rfl) ?_
  intro p e s m args below meth c X hr hname
  generalize hF : ((fun r z => r = some (.int 0) ∧ z = (S.1, zu S.2.1 P 33 0, S.2.2)) : Option Value → zS → Prop) = FQ
  change Zw p l e { frames := 2, cells := 0, slots := 0, locals := 80 * 2 } s m args below meth c G b 2 (MQ below (zQ G b FQ) args s 0 0 (fun q : Nat => b ≤ q)) 0 0 0 [some (.ref P), some (.int h)] [] S
  obtain ⟨z_lt, z_o, z_s, z_read, z_aside, z_kept, z_guest, z_readGuest, z_tape, z_unitName, z_hunterName, z_partyName, z_bits, z_partyOf, z_choiceAt, z_sizes, z_guestMany, z_pointsOf, z_ticketsOf, z_ord, z_given, z_roundOf, z_tags, z_guestTags, z_places, z_sumAt, z_sumFirst, z_sumRound, z_sumBoth, z_sumTags, z_isEnd, z_newPoints, z_inRow, z_out⟩ := id hT
  refine a_aload_n X dX8_isApplicant_0 rfl ?_
  refine a_callVu X dX8_isApplicant_1 miX8_laysApplicants lm8_281 (m_laysApplicants0 (by assumption) (by first | assumption | simp [zu, *]) (by first | assumption | simp [zu, *]) (by first | assumption | simp [zu, *])) (by assumption) rfl rfl rfl (Nat.le_of_ble_eq_true rfl) ⟨by decide, by decide, by decide, by decide⟩ ?_
  refine a_iload_n X dX8_isApplicant_4 rfl ?_
  refine a_i2l X dX8_isApplicant_5 ?_
  refine a_lconst (v := 0) X dX8_isApplicant_6 (by decide) ?_
  refine a_aload_n X dX8_isApplicant_7 rfl ?_
  refine a_geti X lf8_275 (by assumption) rfl dX8_isApplicant_8 ?_
  refine a_iconst (v := 1) X dX8_isApplicant_11 (by decide) ?_
  refine a_isub X dX8_isApplicant_12 ?_
  refine a_i2l X dX8_isApplicant_13 ?_
  refine a_callSv X dX8_isApplicant_14 miX8_isFrom lm8_128 (m_isFrom (lo := 0) (hi := zu S.2.1 P 33 0 P 33 - 1) (by decide) rfl) rfl rfl (Nat.le_of_ble_eq_true rfl) ⟨by decide, by decide, by decide, by decide⟩ ?_
  refine a_zret X (zB_01 _) hr dX8_isApplicant_17 ⟨by decide, by decide⟩ ?_
  subst hF
  refine ⟨congrArg (fun x => some (Value.int x)) ?_, rfl⟩
  unfold zB
  rw [if_neg]
  exact fun q => absurd (Int32.le_trans q.1 q.2) (by rw [zu_eq]; decide)
set_option maxRecDepth 100000 in
theorem m_areMany0 {l : Launch} {G : zG} {b : Nat} {S : zS} {P : Nat} (hT : LX8 S.1 P) (h7 : S.2.1 P 7 = 0) (h8 : S.2.1 P 8 = 0) (h70 : S.2.1 (P + 1) 70 = 0) : zM l G b yX8_areMany cX8_areMany 1 (some .boolean) 2 0 0 [.ref P] S (fun r z => r = some (.int 0) ∧ z = (S.1, zu S.2.1 P 33 0, S.2.2)) := by
  refine zM.of miX8_areMany (Nat.le_of_ble_eq_true rfl) ?_
  intro p e s m args below meth c X hr hname
  generalize hF : ((fun r z => r = some (.int 0) ∧ z = (S.1, zu S.2.1 P 33 0, S.2.2)) : Option Value → zS → Prop) = FQ
  change Zw p l e { frames := 2, cells := 0, slots := 0, locals := 80 * 2 } s m args below meth c G b 1 (MQ below (zQ G b FQ) args s 0 0 (fun q : Nat => b ≤ q)) 0 0 0 [some (.ref P)] [] S
  obtain ⟨z_lt, z_o, z_s, z_read, z_aside, z_kept, z_guest, z_readGuest, z_tape, z_unitName, z_hunterName, z_partyName, z_bits, z_partyOf, z_choiceAt, z_sizes, z_guestMany, z_pointsOf, z_ticketsOf, z_ord, z_given, z_roundOf, z_tags, z_guestTags, z_places, z_sumAt, z_sumFirst, z_sumRound, z_sumBoth, z_sumTags, z_isEnd, z_newPoints, z_inRow, z_out⟩ := id hT
  refine a_aload_n X dX8_areMany_0 rfl ?_
  refine a_callVu X dX8_areMany_1 miX8_laysApplicants lm8_281 (m_laysApplicants0 (by assumption) (by first | assumption | simp [zu, *]) (by first | assumption | simp [zu, *]) (by first | assumption | simp [zu, *])) (by assumption) rfl rfl rfl (Nat.le_of_ble_eq_true rfl) ⟨by decide, by decide, by decide, by decide⟩ ?_
  refine a_aload_n X dX8_areMany_4 rfl ?_
  refine a_geti X lf8_275 (by assumption) rfl dX8_areMany_5 ?_
  refine a_bipush (v := 7) X dX8_areMany_8 (by decide) ?_
  refine a_icmp_le (tgt := 17) X dX8_areMany_10 (by decide) (fun h_10 => ?_) (fun h_10 => absurd (by show zu S.2.1 P 33 0 P 33 ≤ 7; rw [zu_eq]; decide) h_10)
  refine a_iconst (v := 0) X dX8_areMany_17 (by decide) ?_
  refine a_zret X (by first | exact Or.inl rfl | exact Or.inr rfl | assumption) hr dX8_areMany_18 ⟨by decide, by decide⟩ ?_
  subst hF
  exact ⟨rfl, rfl⟩
set_option maxRecDepth 100000 in
theorem m_results0 {l : Launch} {G : zG} {b : Nat} {S : zS} {P : Nat} {w : Int32} (hT : LX8 S.1 P) (h7 : S.2.1 P 7 = 0) (h33 : S.2.1 P 33 = 0) : zM l G b yX8_results cX8_results 5 none 1 0 0 [.ref P, .int w] S (fun r z => r = none ∧ z = S) := by
  refine zM.of miX8_results (Nat.le_of_ble_eq_true rfl) ?_
  intro p e s m args below meth c X hr hname
  generalize hF : ((fun r z => r = none ∧ z = S) : Option Value → zS → Prop) = FQ
  change Zw p l e { frames := 1, cells := 0, slots := 0, locals := 80 * 1 } s m args below meth c G b 5 (MQ below (zQ G b FQ) args s 0 0 (fun q : Nat => b ≤ q)) 0 0 0 [some (.ref P), some (.int w), none, none, none] [] S
  obtain ⟨z_lt, z_o, z_s, z_read, z_aside, z_kept, z_guest, z_readGuest, z_tape, z_unitName, z_hunterName, z_partyName, z_bits, z_partyOf, z_choiceAt, z_sizes, z_guestMany, z_pointsOf, z_ticketsOf, z_ord, z_given, z_roundOf, z_tags, z_guestTags, z_places, z_sumAt, z_sumFirst, z_sumRound, z_sumBoth, z_sumTags, z_isEnd, z_newPoints, z_inRow, z_out⟩ := id hT
  refine a_iconst (v := 0) X dX8_results_0 (by decide) ?_
  refine a_istore_n X dX8_results_1 (by decide) ?_
  refine a_iload_n X dX8_results_2 rfl ?_
  refine a_aload_n X dX8_results_3 rfl ?_
  refine a_geti X lf8_275 (by assumption) rfl dX8_results_4 ?_
  refine a_icmp_ge (tgt := 30) X dX8_results_7 (by decide) (fun h_7 => ?_) (fun h_7 => absurd (by show S.2.1 P 33 ≤ 0; simp [zu, h33]) h_7)
  refine a_iconst (v := 0) X dX8_results_30 (by decide) ?_
  refine a_istore_n X dX8_results_31 (by decide) ?_
  refine a_iload_n X dX8_results_32 rfl ?_
  refine a_aload_n X dX8_results_33 rfl ?_
  refine a_geti X lf8_125 (by assumption) rfl dX8_results_34 ?_
  refine a_icmp_ge (tgt := 72) X dX8_results_37 (by decide) (fun h_37 => ?_) (fun h_37 => absurd (by show S.2.1 P 7 ≤ 0; simp [zu, h7]) h_37)
  refine a_iconst (v := 0) X dX8_results_72 (by decide) ?_
  refine a_istore_n X dX8_results_73 (by decide) ?_
  refine a_iload_n X dX8_results_74 rfl ?_
  refine a_aload_n X dX8_results_75 rfl ?_
  refine a_geti X lf8_125 (by assumption) rfl dX8_results_76 ?_
  refine a_icmp_ge (tgt := 94) X dX8_results_79 (by decide) (fun h_79 => ?_) (fun h_79 => absurd (by show S.2.1 P 7 ≤ 0; simp [zu, h7]) h_79)
  refine a_iconst (v := 0) X dX8_results_94 (by decide) ?_
  refine a_istore_n X dX8_results_95 (by decide) ?_
  refine a_iload_n X dX8_results_96 rfl ?_
  refine a_aload_n X dX8_results_97 rfl ?_
  refine a_geti X lf8_275 (by assumption) rfl dX8_results_98 ?_
  refine a_icmp_ge (tgt := 191) X dX8_results_101 (by decide) (fun h_101 => ?_) (fun h_101 => absurd (by show S.2.1 P 33 ≤ 0; simp [zu, h33]) h_101)
  refine a_vret X hr dX8_results_191 ⟨by decide, by decide⟩ ?_
  subst hF
  exact ⟨rfl, rfl⟩
set_option maxRecDepth 100000 in
theorem m_givenTags0 {l : Launch} {G : zG} {b : Nat} {S : zS} {P : Nat} (hT : LX8 S.1 P) (h33 : S.2.1 P 33 = 0) : zM l G b yX8_givenTags cX8_givenTags 3 (some .int) 0 0 0 [.ref P] S (fun r z => r = some (.int 0) ∧ z = S) := by
  refine zM.of miX8_givenTags (Nat.le_of_ble_eq_true rfl) ?_
  intro p e s m args below meth c X hr hname
  generalize hF : ((fun r z => r = some (.int 0) ∧ z = S) : Option Value → zS → Prop) = FQ
  change Zw p l e { frames := 0, cells := 0, slots := 0, locals := 80 * 0 } s m args below meth c G b 3 (MQ below (zQ G b FQ) args s 0 0 (fun q : Nat => b ≤ q)) 0 0 0 [some (.ref P), none, none] [] S
  obtain ⟨z_lt, z_o, z_s, z_read, z_aside, z_kept, z_guest, z_readGuest, z_tape, z_unitName, z_hunterName, z_partyName, z_bits, z_partyOf, z_choiceAt, z_sizes, z_guestMany, z_pointsOf, z_ticketsOf, z_ord, z_given, z_roundOf, z_tags, z_guestTags, z_places, z_sumAt, z_sumFirst, z_sumRound, z_sumBoth, z_sumTags, z_isEnd, z_newPoints, z_inRow, z_out⟩ := id hT
  refine a_iconst (v := 0) X dX8_givenTags_0 (by decide) ?_
  refine a_istore_n X dX8_givenTags_1 (by decide) ?_
  refine a_iconst (v := 0) X dX8_givenTags_2 (by decide) ?_
  refine a_istore_n X dX8_givenTags_3 (by decide) ?_
  refine a_iload_n X dX8_givenTags_4 rfl ?_
  refine a_aload_n X dX8_givenTags_5 rfl ?_
  refine a_geti X lf8_275 (by assumption) rfl dX8_givenTags_6 ?_
  refine a_icmp_ge (tgt := 41) X dX8_givenTags_9 (by decide) (fun h_9 => ?_) (fun h_9 => absurd (by show S.2.1 P 33 ≤ 0; simp [zu, h33]) h_9)
  refine a_iload_n X dX8_givenTags_41 rfl ?_
  refine a_iret X hr dX8_givenTags_42 ⟨by decide, by decide⟩ ?_
  subst hF
  exact ⟨rfl, rfl⟩
set_option maxRecDepth 100000 in
theorem m_winnersNow0 {l : Launch} {G : zG} {b : Nat} {S : zS} {P : Nat} (hT : LX8 S.1 P) (h33 : S.2.1 P 33 = 0) : zM l G b yX8_winnersNow cX8_winnersNow 3 (some .int) 0 0 0 [.ref P] S (fun r z => r = some (.int 0) ∧ z = S) := by
  refine zM.of miX8_winnersNow (Nat.le_of_ble_eq_true rfl) ?_
  intro p e s m args below meth c X hr hname
  generalize hF : ((fun r z => r = some (.int 0) ∧ z = S) : Option Value → zS → Prop) = FQ
  change Zw p l e { frames := 0, cells := 0, slots := 0, locals := 80 * 0 } s m args below meth c G b 3 (MQ below (zQ G b FQ) args s 0 0 (fun q : Nat => b ≤ q)) 0 0 0 [some (.ref P), none, none] [] S
  obtain ⟨z_lt, z_o, z_s, z_read, z_aside, z_kept, z_guest, z_readGuest, z_tape, z_unitName, z_hunterName, z_partyName, z_bits, z_partyOf, z_choiceAt, z_sizes, z_guestMany, z_pointsOf, z_ticketsOf, z_ord, z_given, z_roundOf, z_tags, z_guestTags, z_places, z_sumAt, z_sumFirst, z_sumRound, z_sumBoth, z_sumTags, z_isEnd, z_newPoints, z_inRow, z_out⟩ := id hT
  refine a_iconst (v := 0) X dX8_winnersNow_0 (by decide) ?_
  refine a_istore_n X dX8_winnersNow_1 (by decide) ?_
  refine a_iconst (v := 0) X dX8_winnersNow_2 (by decide) ?_
  refine a_istore_n X dX8_winnersNow_3 (by decide) ?_
  refine a_iload_n X dX8_winnersNow_4 rfl ?_
  refine a_aload_n X dX8_winnersNow_5 rfl ?_
  refine a_geti X lf8_275 (by assumption) rfl dX8_winnersNow_6 ?_
  refine a_icmp_ge (tgt := 41) X dX8_winnersNow_9 (by decide) (fun h_9 => ?_) (fun h_9 => absurd (by show S.2.1 P 33 ≤ 0; simp [zu, h33]) h_9)
  refine a_iload_n X dX8_winnersNow_41 rfl ?_
  refine a_iret X hr dX8_winnersNow_42 ⟨by decide, by decide⟩ ?_
  subst hF
  exact ⟨rfl, rfl⟩
set_option maxRecDepth 100000 in
theorem m_laysOrder0 {l : Launch} {G : zG} {b : Nat} {S : zS} {P : Nat} {sd : Int32} (hT : LX8 S.1 P) (h7 : S.2.1 P 7 = 0) (h8 : S.2.1 P 8 = 0) (h70 : S.2.1 (P + 1) 70 = 0) : zM l G b yX8_laysOrder cX8_laysOrder 10 none 2 0 0 [.ref P, .int sd] S (fun r z => r = none ∧ z = (S.1, zu S.2.1 P 33 0, zu S.2.2 P 46 sd.toInt64)) := by
  refine zM.of miX8_laysOrder (Nat.le_of_ble_eq_true rfl) ?_
  intro p e s m args below meth c X hr hname
  generalize hF : ((fun r z => r = none ∧ z = (S.1, zu S.2.1 P 33 0, zu S.2.2 P 46 sd.toInt64)) : Option Value → zS → Prop) = FQ
  change Zw p l e { frames := 2, cells := 0, slots := 0, locals := 80 * 2 } s m args below meth c G b 10 (MQ below (zQ G b FQ) args s 0 0 (fun q : Nat => b ≤ q)) 0 0 0 [some (.ref P), some (.int sd), none, none, none, none, none, none, none, none] [] S
  obtain ⟨z_lt, z_o, z_s, z_read, z_aside, z_kept, z_guest, z_readGuest, z_tape, z_unitName, z_hunterName, z_partyName, z_bits, z_partyOf, z_choiceAt, z_sizes, z_guestMany, z_pointsOf, z_ticketsOf, z_ord, z_given, z_roundOf, z_tags, z_guestTags, z_places, z_sumAt, z_sumFirst, z_sumRound, z_sumBoth, z_sumTags, z_isEnd, z_newPoints, z_inRow, z_out⟩ := id hT
  refine a_aload_n X dX8_laysOrder_0 rfl ?_
  refine a_callVu X dX8_laysOrder_1 miX8_laysApplicants lm8_281 (m_laysApplicants0 (by assumption) (by first | assumption | simp [zu, *]) (by first | assumption | simp [zu, *]) (by first | assumption | simp [zu, *])) (by assumption) rfl rfl rfl (Nat.le_of_ble_eq_true rfl) ⟨by decide, by decide, by decide, by decide⟩ ?_
  refine a_aload_n X dX8_laysOrder_4 rfl ?_
  refine a_iload_n X dX8_laysOrder_5 rfl ?_
  refine a_i2l X dX8_laysOrder_6 ?_
  refine a_putl X lf8_339 (by assumption) rfl dX8_laysOrder_7 ?_
  refine a_iconst (v := 0) X dX8_laysOrder_10 (by decide) ?_
  refine a_istore_n X dX8_laysOrder_11 (by decide) ?_
  refine a_iconst (v := 0) X dX8_laysOrder_12 (by decide) ?_
  refine a_istore_n X dX8_laysOrder_13 (by decide) ?_
  refine a_iconst (v := 0) X dX8_laysOrder_14 (by decide) ?_
  refine a_istore X dX8_laysOrder_15 (by decide) ?_
  refine a_iload X dX8_laysOrder_17 rfl ?_
  refine a_aload_n X dX8_laysOrder_19 rfl ?_
  refine a_geti X lf8_275 (by assumption) rfl dX8_laysOrder_20 ?_
  refine a_icmp_ge (tgt := 42) X dX8_laysOrder_23 (by decide) (fun h_23 => ?_) (fun h_23 => absurd (by show zu S.2.1 P 33 0 P 33 ≤ 0; simp [zu, h8]) h_23)
  refine a_iconst (v := 0) X dX8_laysOrder_42 (by decide) ?_
  refine a_istore X dX8_laysOrder_43 (by decide) ?_
  refine a_iload X dX8_laysOrder_45 rfl ?_
  refine a_aload_n X dX8_laysOrder_47 rfl ?_
  refine a_geti X lf8_275 (by assumption) rfl dX8_laysOrder_48 ?_
  refine a_icmp_ge (tgt := 139) X dX8_laysOrder_51 (by decide) (fun h_51 => ?_) (fun h_51 => absurd (by show zu S.2.1 P 33 0 P 33 ≤ 0; simp [zu, h8]) h_51)
  refine a_vret X hr dX8_laysOrder_139 ⟨by decide, by decide⟩ ?_
  subst hF
  exact ⟨rfl, rfl⟩
set_option maxRecDepth 100000 in
theorem m_laysResult0 {l : Launch} {G : zG} {b : Nat} {S : zS} {P : Nat} {sd : Int32} (hT : LX8 S.1 P) (h7 : S.2.1 P 7 = 0) (h8 : S.2.1 P 8 = 0) (h70 : S.2.1 (P + 1) 70 = 0) : zM l G b yX8_laysResult cX8_laysResult 2 none 3 0 0 [.ref P, .int sd] S (fun r z => r = none ∧ z = (S.1, zu S.2.1 P 33 0, zu S.2.2 P 46 sd.toInt64)) := by
  refine zM.of miX8_laysResult (Nat.le_of_ble_eq_true rfl) ?_
  intro p e s m args below meth c X hr hname
  generalize hF : ((fun r z => r = none ∧ z = (S.1, zu S.2.1 P 33 0, zu S.2.2 P 46 sd.toInt64)) : Option Value → zS → Prop) = FQ
  change Zw p l e { frames := 3, cells := 0, slots := 0, locals := 80 * 3 } s m args below meth c G b 2 (MQ below (zQ G b FQ) args s 0 0 (fun q : Nat => b ≤ q)) 0 0 0 [some (.ref P), some (.int sd)] [] S
  obtain ⟨z_lt, z_o, z_s, z_read, z_aside, z_kept, z_guest, z_readGuest, z_tape, z_unitName, z_hunterName, z_partyName, z_bits, z_partyOf, z_choiceAt, z_sizes, z_guestMany, z_pointsOf, z_ticketsOf, z_ord, z_given, z_roundOf, z_tags, z_guestTags, z_places, z_sumAt, z_sumFirst, z_sumRound, z_sumBoth, z_sumTags, z_isEnd, z_newPoints, z_inRow, z_out⟩ := id hT
  refine a_aload_n X dX8_laysResult_0 rfl ?_
  refine a_iload_n X dX8_laysResult_1 rfl ?_
  refine a_callVu X dX8_laysResult_2 miX8_laysOrder lm8_352 (m_laysOrder0 (by assumption) (by first | assumption | simp [zu, *]) (by first | assumption | simp [zu, *]) (by first | assumption | simp [zu, *])) (by assumption) rfl rfl rfl (Nat.le_of_ble_eq_true rfl) ⟨by decide, by decide, by decide, by decide⟩ ?_
  refine a_aload_n X dX8_laysResult_5 rfl ?_
  refine a_iconst (v := -1) X dX8_laysResult_6 (by decide) ?_
  refine a_callVu X dX8_laysResult_7 miX8_results lm8_355 (m_results0 (by assumption) (by first | assumption | simp [zu, *]) (by first | assumption | simp [zu, *])) (by assumption) rfl rfl rfl (Nat.le_of_ble_eq_true rfl) ⟨by decide, by decide, by decide, by decide⟩ ?_
  refine a_vret X hr dX8_laysResult_10 ⟨by decide, by decide⟩ ?_
  subst hF
  exact ⟨rfl, rfl⟩
set_option maxRecDepth 100000 in
theorem m_goesYear0 {l : Launch} {G : zG} {b : Nat} {S : zS} {P : Nat} {sd : Int32} (hT : LX8 S.1 P) (h7 : S.2.1 P 7 = 0) (h8 : S.2.1 P 8 = 0) (h70 : S.2.1 (P + 1) 70 = 0) : zM l G b yX8_goesYear cX8_goesYear 3 none 4 0 0 [.ref P, .int sd] S (fun r z => r = none ∧ z = (S.1, zu S.2.1 P 33 0, zu S.2.2 P 46 sd.toInt64)) := by
  refine zM.of miX8_goesYear (Nat.le_of_ble_eq_true rfl) ?_
  intro p e s m args below meth c X hr hname
  generalize hF : ((fun r z => r = none ∧ z = (S.1, zu S.2.1 P 33 0, zu S.2.2 P 46 sd.toInt64)) : Option Value → zS → Prop) = FQ
  change Zw p l e { frames := 4, cells := 0, slots := 0, locals := 80 * 4 } s m args below meth c G b 3 (MQ below (zQ G b FQ) args s 0 0 (fun q : Nat => b ≤ q)) 0 0 0 [some (.ref P), some (.int sd), none] [] S
  obtain ⟨z_lt, z_o, z_s, z_read, z_aside, z_kept, z_guest, z_readGuest, z_tape, z_unitName, z_hunterName, z_partyName, z_bits, z_partyOf, z_choiceAt, z_sizes, z_guestMany, z_pointsOf, z_ticketsOf, z_ord, z_given, z_roundOf, z_tags, z_guestTags, z_places, z_sumAt, z_sumFirst, z_sumRound, z_sumBoth, z_sumTags, z_isEnd, z_newPoints, z_inRow, z_out⟩ := id hT
  refine a_aload_n X dX8_goesYear_0 rfl ?_
  refine a_iload_n X dX8_goesYear_1 rfl ?_
  refine a_callVu X dX8_goesYear_2 miX8_laysResult lm8_361 (m_laysResult0 (by assumption) (by first | assumption | simp [zu, *]) (by first | assumption | simp [zu, *]) (by first | assumption | simp [zu, *])) (by assumption) rfl rfl rfl (Nat.le_of_ble_eq_true rfl) ⟨by decide, by decide, by decide, by decide⟩ ?_
  refine a_iconst (v := 0) X dX8_goesYear_5 (by decide) ?_
  refine a_istore_n X dX8_goesYear_6 (by decide) ?_
  refine a_iload_n X dX8_goesYear_7 rfl ?_
  refine a_aload_n X dX8_goesYear_8 rfl ?_
  refine a_geti X lf8_132 (by assumption) rfl dX8_goesYear_9 ?_
  refine a_icmp_ge (tgt := 32) X dX8_goesYear_12 (by decide) (fun h_12 => ?_) (fun h_12 => absurd (by show zu S.2.1 P 33 0 P 8 ≤ 0; simp [zu, h8]) h_12)
  refine a_iconst (v := 0) X dX8_goesYear_32 (by decide) ?_
  refine a_istore_n X dX8_goesYear_33 (by decide) ?_
  refine a_iload_n X dX8_goesYear_34 rfl ?_
  refine a_aload_n X dX8_goesYear_35 rfl ?_
  refine a_geti X lf8_132 (by assumption) rfl dX8_goesYear_36 ?_
  refine a_icmp_ge (tgt := 62) X dX8_goesYear_39 (by decide) (fun h_39 => ?_) (fun h_39 => absurd (by show zu S.2.1 P 33 0 P 8 ≤ 0; simp [zu, h8]) h_39)
  refine a_vret X hr dX8_goesYear_62 ⟨by decide, by decide⟩ ?_
  subst hF
  exact ⟨rfl, rfl⟩
set_option maxRecDepth 100000 in
theorem m_putsAside {l : Launch} {G : zG} {b : Nat} {S : zS} {P : Nat} (hT : LX8 S.1 P) : zM l G b yX8_putsAside cX8_putsAside 2 none 0 0 0 [.ref P] S (fun r z => r = none ∧ z = (S.1, zcpy S.2.1 (P + 3) 82 (fun j => S.2.1 (P + 1) j), S.2.2)) := by
  refine zM.of miX8_putsAside (Nat.le_of_ble_eq_true rfl) ?_
  intro p e s m args below meth c X hr hname
  generalize hF : ((fun r z => r = none ∧ z = (S.1, zcpy S.2.1 (P + 3) 82 (fun j => S.2.1 (P + 1) j), S.2.2)) : Option Value → zS → Prop) = FQ
  change Zw p l e { frames := 0, cells := 0, slots := 0, locals := 80 * 0 } s m args below meth c G b 2 (MQ below (zQ G b FQ) args s 0 0 (fun q : Nat => b ≤ q)) 0 0 0 [some (.ref P), none] [] S
  obtain ⟨z_lt, z_o, z_s, z_read, z_aside, z_kept, z_guest, z_readGuest, z_tape, z_unitName, z_hunterName, z_partyName, z_bits, z_partyOf, z_choiceAt, z_sizes, z_guestMany, z_pointsOf, z_ticketsOf, z_ord, z_given, z_roundOf, z_tags, z_guestTags, z_places, z_sumAt, z_sumFirst, z_sumRound, z_sumBoth, z_sumTags, z_isEnd, z_newPoints, z_inRow, z_out⟩ := id hT
  have L : ∀ (u j : Nat), 82 < j + u → j ≤ 82 → Zw p l e { frames := 0, cells := 0, slots := 0, locals := 80 * 0 } s m args below meth c G b 2 (MQ below (zQ G b FQ) args s 0 0 (fun q : Nat => b ≤ q)) 0 0 2 [some (.ref P), some (.int (nI j))] [] (S.1, zcpy S.2.1 (P + 3) j (fun j => S.2.1 (P + 1) j), S.2.2) := by
    intro u
    induction u with
    | zero => intro j h1 h2; exact absurd h1 (by omega)
    | succ u ih =>
      intro j h1 h2
      refine a_iload_n X dX8_putsAside_2 rfl ?_
      refine a_bipush (v := 82) X dX8_putsAside_3 (by decide) ?_
      refine a_icmp_ge (tgt := 26) X dX8_putsAside_5 (by decide) (fun h_5 => ?_) (fun h_5 => ?_)
      · refine a_vret X hr dX8_putsAside_26 ⟨by decide, by decide⟩ ?_
        have hj : j = 82 := by have := (nI_leI (a := 82) (by decide) (by omega)).mp h_5; omega
        subst hj
        subst hF
        exact ⟨rfl, rfl⟩
      · have hj : j < 82 := Nat.not_le.mp (fun q => h_5 ((nI_leI (by decide) (by omega)).mpr q))
        refine a_aload_n X dX8_putsAside_8 rfl ?_
        refine a_getr X lf8_16 (by assumption) rfl (by omega) dX8_putsAside_9 ?_
        refine a_iload_n X dX8_putsAside_12 rfl ?_
        refine a_aload_n X dX8_putsAside_13 rfl ?_
        refine a_getr X lf8_7 (by assumption) rfl (by omega) dX8_putsAside_14 ?_
        refine a_iload_n X dX8_putsAside_17 rfl ?_
        refine a_iaload X (by assumption) (vp_in_nI hj (by decide)) dX8_putsAside_18 ?_
        refine a_iastore X (by assumption) (vp_in_nI hj (by decide)) dX8_putsAside_19 ?_
        refine a_iinc (v := nI (j + 1)) X dX8_putsAside_20 (by decide) rfl (nI_1 j) ?_
        refine a_goto (tgt := 2) X dX8_putsAside_23 (by decide) ?_
        exact Zw.to (ih (j + 1) (by omega) (by omega)) rfl (by show (S.1, zcpy S.2.1 (P + 3) (j + 1) (fun j => S.2.1 (P + 1) j), S.2.2) = (S.1, zu (zcpy S.2.1 (P + 3) j (fun j => S.2.1 (P + 1) j)) (P + 3) (nI j).toNatClampNeg (zcpy S.2.1 (P + 3) j (fun j => S.2.1 (P + 1) j) (P + 1) (nI j).toNatClampNeg), S.2.2); rw [nI_clamp (by omega), zcpy_row (show P + 1 ≠ P + 3 by omega), zcpy_sx rfl])
  refine a_iconst (v := 0) X dX8_putsAside_0 (by decide) ?_
  refine a_istore_n X dX8_putsAside_1 (by decide) ?_
  exact Zw.to (L 83 0 (by omega) (by omega)) rfl (by rw [zcpy_0])
set_option maxRecDepth 100000 in
theorem m_takesBack {l : Launch} {G : zG} {b : Nat} {S : zS} {P : Nat} (hT : LX8 S.1 P) : zM l G b yX8_takesBack cX8_takesBack 2 none 0 0 0 [.ref P] S (fun r z => r = none ∧ z = (S.1, zcpy S.2.1 (P + 1) 82 (fun j => S.2.1 (P + 3) j), S.2.2)) := by
  refine zM.of miX8_takesBack (Nat.le_of_ble_eq_true rfl) ?_
  intro p e s m args below meth c X hr hname
  generalize hF : ((fun r z => r = none ∧ z = (S.1, zcpy S.2.1 (P + 1) 82 (fun j => S.2.1 (P + 3) j), S.2.2)) : Option Value → zS → Prop) = FQ
  change Zw p l e { frames := 0, cells := 0, slots := 0, locals := 80 * 0 } s m args below meth c G b 2 (MQ below (zQ G b FQ) args s 0 0 (fun q : Nat => b ≤ q)) 0 0 0 [some (.ref P), none] [] S
  obtain ⟨z_lt, z_o, z_s, z_read, z_aside, z_kept, z_guest, z_readGuest, z_tape, z_unitName, z_hunterName, z_partyName, z_bits, z_partyOf, z_choiceAt, z_sizes, z_guestMany, z_pointsOf, z_ticketsOf, z_ord, z_given, z_roundOf, z_tags, z_guestTags, z_places, z_sumAt, z_sumFirst, z_sumRound, z_sumBoth, z_sumTags, z_isEnd, z_newPoints, z_inRow, z_out⟩ := id hT
  have L : ∀ (u j : Nat), 82 < j + u → j ≤ 82 → Zw p l e { frames := 0, cells := 0, slots := 0, locals := 80 * 0 } s m args below meth c G b 2 (MQ below (zQ G b FQ) args s 0 0 (fun q : Nat => b ≤ q)) 0 0 2 [some (.ref P), some (.int (nI j))] [] (S.1, zcpy S.2.1 (P + 1) j (fun j => S.2.1 (P + 3) j), S.2.2) := by
    intro u
    induction u with
    | zero => intro j h1 h2; exact absurd h1 (by omega)
    | succ u ih =>
      intro j h1 h2
      refine a_iload_n X dX8_takesBack_2 rfl ?_
      refine a_bipush (v := 82) X dX8_takesBack_3 (by decide) ?_
      refine a_icmp_ge (tgt := 26) X dX8_takesBack_5 (by decide) (fun h_5 => ?_) (fun h_5 => ?_)
      · refine a_vret X hr dX8_takesBack_26 ⟨by decide, by decide⟩ ?_
        have hj : j = 82 := by have := (nI_leI (a := 82) (by decide) (by omega)).mp h_5; omega
        subst hj
        subst hF
        exact ⟨rfl, rfl⟩
      · have hj : j < 82 := Nat.not_le.mp (fun q => h_5 ((nI_leI (by decide) (by omega)).mpr q))
        refine a_aload_n X dX8_takesBack_8 rfl ?_
        refine a_getr X lf8_7 (by assumption) rfl (by omega) dX8_takesBack_9 ?_
        refine a_iload_n X dX8_takesBack_12 rfl ?_
        refine a_aload_n X dX8_takesBack_13 rfl ?_
        refine a_getr X lf8_16 (by assumption) rfl (by omega) dX8_takesBack_14 ?_
        refine a_iload_n X dX8_takesBack_17 rfl ?_
        refine a_iaload X (by assumption) (vp_in_nI hj (by decide)) dX8_takesBack_18 ?_
        refine a_iastore X (by assumption) (vp_in_nI hj (by decide)) dX8_takesBack_19 ?_
        refine a_iinc (v := nI (j + 1)) X dX8_takesBack_20 (by decide) rfl (nI_1 j) ?_
        refine a_goto (tgt := 2) X dX8_takesBack_23 (by decide) ?_
        exact Zw.to (ih (j + 1) (by omega) (by omega)) rfl (by show (S.1, zcpy S.2.1 (P + 1) (j + 1) (fun j => S.2.1 (P + 3) j), S.2.2) = (S.1, zu (zcpy S.2.1 (P + 1) j (fun j => S.2.1 (P + 3) j)) (P + 1) (nI j).toNatClampNeg (zcpy S.2.1 (P + 1) j (fun j => S.2.1 (P + 3) j) (P + 3) (nI j).toNatClampNeg), S.2.2); rw [nI_clamp (by omega), zcpy_row (show P + 3 ≠ P + 1 by omega), zcpy_sx rfl])
  refine a_iconst (v := 0) X dX8_takesBack_0 (by decide) ?_
  refine a_istore_n X dX8_takesBack_1 (by decide) ?_
  exact Zw.to (L 83 0 (by omega) (by omega)) rfl (by rw [zcpy_0])
set_option maxRecDepth 100000 in
theorem m_keeps0 {l : Launch} {G : zG} {b : Nat} {S : zS} {P : Nat} (hT : LX8 S.1 P) (h9 : S.2.1 P 9 = 0) : zM l G b yX8_keeps cX8_keeps 2 none 0 0 0 [.ref P] S (fun r z => ∃ M', r = none ∧ z = (S.1, M', S.2.2) ∧ (∀ a, a ≠ P → a ≠ P + 4 → M' a = S.2.1 a) ∧ (∀ j, j ≠ 9 → M' P j = S.2.1 P j)) := by
  refine zM.of miX8_keeps (Nat.le_of_ble_eq_true rfl) ?_
  intro p e s m args below meth c X hr hname
  generalize hF : ((fun r z => ∃ M', r = none ∧ z = (S.1, M', S.2.2) ∧ (∀ a, a ≠ P → a ≠ P + 4 → M' a = S.2.1 a) ∧ (∀ j, j ≠ 9 → M' P j = S.2.1 P j)) : Option Value → zS → Prop) = FQ
  change Zw p l e { frames := 0, cells := 0, slots := 0, locals := 80 * 0 } s m args below meth c G b 2 (MQ below (zQ G b FQ) args s 0 0 (fun q : Nat => b ≤ q)) 0 0 0 [some (.ref P), none] [] S
  obtain ⟨z_lt, z_o, z_s, z_read, z_aside, z_kept, z_guest, z_readGuest, z_tape, z_unitName, z_hunterName, z_partyName, z_bits, z_partyOf, z_choiceAt, z_sizes, z_guestMany, z_pointsOf, z_ticketsOf, z_ord, z_given, z_roundOf, z_tags, z_guestTags, z_places, z_sumAt, z_sumFirst, z_sumRound, z_sumBoth, z_sumTags, z_isEnd, z_newPoints, z_inRow, z_out⟩ := id hT
  have L : ∀ (u j : Nat), 82 < j + u → j ≤ 82 → ∀ M2 : Nat → Nat → Int32, M2 P 9 = 0 → (∀ a, a ≠ P + 4 → M2 a = S.2.1 a) → Zw p l e { frames := 0, cells := 0, slots := 0, locals := 80 * 0 } s m args below meth c G b 2 (MQ below (zQ G b FQ) args s 0 0 (fun q : Nat => b ≤ q)) 0 0 52 [some (.ref P), some (.int (nI j))] [] (S.1, M2, S.2.2) := by
    intro u
    induction u with
    | zero => intro j h1 h2; exact absurd h1 (by omega)
    | succ u ih =>
      intro j h1 h2 M2 i1 i2
      refine a_iload_n X dX8_keeps_52 rfl ?_
      refine a_bipush (v := 82) X dX8_keeps_53 (by decide) ?_
      refine a_icmp_ge (tgt := 84) X dX8_keeps_55 (by decide) (fun h_55 => ?_) (fun h_55 => ?_)
      · refine a_aload_n X dX8_keeps_84 rfl ?_
        refine a_dup X dX8_keeps_85 rfl ?_
        refine a_geti X lf8_269 (by assumption) rfl dX8_keeps_86 ?_
        refine a_iconst (v := 1) X dX8_keeps_89 (by decide) ?_
        refine a_iadd X dX8_keeps_90 ?_
        refine a_puti X lf8_269 (by assumption) rfl dX8_keeps_91 ?_
        refine a_vret X hr dX8_keeps_94 ⟨by decide, by decide⟩ ?_
        subst hF
        exact ⟨_, rfl, rfl, fun a q1 q2 => by rw [zu_row q1]; exact i2 a q2, fun j q1 => by rw [zu_ne (fun q => q1 q.2)]; exact congrFun (i2 P (by omega)) j⟩
      · have hj : j < 82 := Nat.not_le.mp (fun q => h_55 ((nI_leI (by decide) (by omega)).mpr q))
        refine a_aload_n X dX8_keeps_58 rfl ?_
        refine a_getr X lf8_19 (by assumption) rfl (by omega) dX8_keeps_59 ?_
        refine a_bipush (v := 82) X dX8_keeps_62 (by decide) ?_
        refine a_aload_n X dX8_keeps_64 rfl ?_
        refine a_geti X lf8_269 (by assumption) rfl dX8_keeps_65 ?_
        refine a_imul X dX8_keeps_68 ?_
        refine a_iload_n X dX8_keeps_69 rfl ?_
        refine a_iadd X dX8_keeps_70 ?_
        refine a_aload_n X dX8_keeps_71 rfl ?_
        refine a_getr X lf8_7 (by assumption) rfl (by omega) dX8_keeps_72 ?_
        refine a_iload_n X dX8_keeps_75 rfl ?_
        refine a_iaload X (by assumption) (vp_in_nI hj (by decide)) dX8_keeps_76 ?_
        refine a_iastore X (by assumption) (by show vp_in (82 * M2 P 9 + nI j) 656; rw [i1, show (82 : Int32) * 0 = 0 by decide, Int32.zero_add]; exact vp_in_nI (by omega) (by decide)) dX8_keeps_77 ?_
        refine a_iinc (v := nI (j + 1)) X dX8_keeps_78 (by decide) rfl (nI_1 j) ?_
        refine a_goto (tgt := 52) X dX8_keeps_81 (by decide) ?_
        exact Zw.to (ih (j + 1) (by omega) (by omega) _ (by rw [zu_row (by omega)]; exact i1) (fun a ha => by rw [zu_row ha]; exact i2 a ha)) rfl rfl
  refine a_aload_n X dX8_keeps_0 rfl ?_
  refine a_geti X lf8_269 (by assumption) rfl dX8_keeps_1 ?_
  refine a_bipush (v := 8) X dX8_keeps_4 (by decide) ?_
  refine a_icmp_ne (tgt := 50) X dX8_keeps_6 (by decide) (fun h_6 => ?_) (fun h_6 => absurd h_6 (by show ¬ S.2.1 P 9 = 8; rw [h9]; decide))
  refine a_iconst (v := 0) X dX8_keeps_50 (by decide) ?_
  refine a_istore_n X dX8_keeps_51 (by decide) ?_
  exact Zw.to (L 83 0 (by omega) (by omega) _ h9 (fun _ _ => rfl)) rfl rfl
set_option maxRecDepth 100000 in
theorem m_begins {l : Launch} {G : zG} {b : Nat} {S : zS} {P : Nat} (hP : S.1[P]? = some (1, 82, [])) : zM l G b yX8_begins cX8_begins 2 none 0 0 0 [.ref P] S (fun r z => ∃ M', r = none ∧ z = (S.1, M', S.2.2) ∧ zout S.2.1 M' P (P + 1) ∧ ∀ i, i < 82 → M' P i = if i = 69 then 100 else (if (10 ≤ i ∧ i < 62) ∨ (72 ≤ i ∧ i < 72 + 10) then -1 else 0)) := by
  refine zM.of miX8_begins (Nat.le_of_ble_eq_true rfl) ?_
  intro p e s m args below meth c X hr hname
  generalize hF : ((fun r z => ∃ M', r = none ∧ z = (S.1, M', S.2.2) ∧ zout S.2.1 M' P (P + 1) ∧ ∀ i, i < 82 → M' P i = if i = 69 then 100 else (if (10 ≤ i ∧ i < 62) ∨ (72 ≤ i ∧ i < 72 + 10) then -1 else 0)) : Option Value → zS → Prop) = FQ
  change Zw p l e { frames := 0, cells := 0, slots := 0, locals := 80 * 0 } s m args below meth c G b 2 (MQ below (zQ G b FQ) args s 0 0 (fun q : Nat => b ≤ q)) 0 0 0 [some (.ref P), none] [] S
  have L3 : ∀ (u j : Nat), 10 < j + u → j ≤ 10 → ∀ M2 : Nat → Nat → Int32, zout S.2.1 M2 P (P + 1) → (∀ i, i < 82 → M2 P i = (if (10 ≤ i ∧ i < 62) ∨ (72 ≤ i ∧ i < 72 + j) then -1 else 0)) → Zw p l e { frames := 0, cells := 0, slots := 0, locals := 80 * 0 } s m args below meth c G b 2 (MQ below (zQ G b FQ) args s 0 0 (fun q : Nat => b ≤ q)) 0 0 39 [some (.ref P), some (.int (nI j))] [] (S.1, M2, S.2.2) := by
    intro u
    induction u with
    | zero => intro j h1 h2; exact absurd h1 (by omega)
    | succ u ih =>
      intro j h1 h2 M2 i1 i2
      refine a_iload_n X dX8_begins_39 rfl ?_
      refine a_bipush (v := 10) X dX8_begins_40 (by decide) ?_
      refine a_icmp_ge (tgt := 58) X dX8_begins_42 (by decide) (fun h_42 => ?_) (fun h_42 => ?_)
      · refine a_aload_n X dX8_begins_58 rfl ?_
        refine a_bipush (v := 69) X dX8_begins_59 (by decide) ?_
        refine a_bipush (v := 100) X dX8_begins_61 (by decide) ?_
        refine a_iastore X (by assumption) (vp_in_nI (n := 69) (by decide) (by decide)) dX8_begins_63 ?_
        refine a_vret X hr dX8_begins_64 ⟨by decide, by decide⟩ ?_
        have hj : j = 10 := by have := (nI_leI (a := 10) (by decide) (by omega)).mp h_42; omega
        subst hj
        subst hF
        refine ⟨_, rfl, rfl, i1.zu (by omega) (by omega), fun i hi => ?_⟩
        by_cases q : i = 69
        · subst q; exact zu_eq
        · rw [if_neg q]; show zu M2 P 69 100 P i = _; rw [zu_ne (fun w => q w.2)]; exact i2 i hi
      · have hj : j < 10 := Nat.not_le.mp (fun q => h_42 ((nI_leI (by decide) (by omega)).mpr q))
        refine a_aload_n X dX8_begins_45 rfl ?_
        refine a_bipush (v := 72) X dX8_begins_46 (by decide) ?_
        refine a_iload_n X dX8_begins_48 rfl ?_
        refine a_iadd X dX8_begins_49 ?_
        refine a_iconst (v := -1) X dX8_begins_50 (by decide) ?_
        refine a_iastore X (by assumption) (by show vp_in (nI 72 + nI j) 82; rw [nI_add]; exact vp_in_nI (by omega) (by decide)) dX8_begins_51 ?_
        refine a_iinc (v := nI (j + 1)) X dX8_begins_52 (by decide) rfl (nI_1 j) ?_
        refine a_goto (tgt := 39) X dX8_begins_55 (by decide) ?_
        refine Zw.to (ih (j + 1) (by omega) (by omega) (zu M2 P (72 + j) (-1)) (i1.zu (by omega) (by omega)) (fun i hi => ?_)) rfl (by show (S.1, zu M2 P (72 + j) (-1), S.2.2) = (S.1, zu M2 P (nI 72 + nI j).toNatClampNeg (-1), S.2.2); rw [nI_add, nI_clamp (by omega)])
        by_cases q : i = 72 + j
        · subst q; rw [zu_eq, if_pos (by omega)]
        · rw [zu_ne (fun w => q w.2), i2 i (by omega)]
          by_cases w : (10 ≤ i ∧ i < 62) ∨ (72 ≤ i ∧ i < 72 + j)
          · rw [if_pos w, if_pos (by omega)]
          · rw [if_neg w, if_neg (by omega)]
  have L2 : ∀ (u j : Nat), 62 < j + u → j ≤ 62 → ∀ M2 : Nat → Nat → Int32, zout S.2.1 M2 P (P + 1) → (10 ≤ j ∧ ∀ i, i < 82 → M2 P i = (if 10 ≤ i ∧ i < j then -1 else 0)) → Zw p l e { frames := 0, cells := 0, slots := 0, locals := 80 * 0 } s m args below meth c G b 2 (MQ below (zQ G b FQ) args s 0 0 (fun q : Nat => b ≤ q)) 0 0 21 [some (.ref P), some (.int (nI j))] [] (S.1, M2, S.2.2) := by
    intro u
    induction u with
    | zero => intro j h1 h2; exact absurd h1 (by omega)
    | succ u ih =>
      intro j h1 h2 M2 i1 i2w
      obtain ⟨i3, i2⟩ := i2w
      refine a_iload_n X dX8_begins_21 rfl ?_
      refine a_bipush (v := 62) X dX8_begins_22 (by decide) ?_
      refine a_icmp_ge (tgt := 37) X dX8_begins_24 (by decide) (fun h_24 => ?_) (fun h_24 => ?_)
      · refine a_iconst (v := 0) X dX8_begins_37 (by decide) ?_
        refine a_istore_n X dX8_begins_38 (by decide) ?_
        have hj : j = 62 := by have := (nI_leI (a := 62) (by decide) (by omega)).mp h_24; omega
        subst hj
        refine Zw.to (L3 11 0 (by omega) (by omega) M2 i1 (fun i hi => ?_)) rfl rfl
        rw [i2 i hi]
        by_cases w : 10 ≤ i ∧ i < 62
        · rw [if_pos w, if_pos (by omega)]
        · rw [if_neg w, if_neg (by omega)]
      · have hj : j < 62 := Nat.not_le.mp (fun q => h_24 ((nI_leI (by decide) (by omega)).mpr q))
        refine a_aload_n X dX8_begins_27 rfl ?_
        refine a_iload_n X dX8_begins_28 rfl ?_
        refine a_iconst (v := -1) X dX8_begins_29 (by decide) ?_
        refine a_iastore X (by assumption) (vp_in_nI (by omega) (by decide)) dX8_begins_30 ?_
        refine a_iinc (v := nI (j + 1)) X dX8_begins_31 (by decide) rfl (nI_1 j) ?_
        refine a_goto (tgt := 21) X dX8_begins_34 (by decide) ?_
        refine Zw.to (ih (j + 1) (by omega) (by omega) (zu M2 P j (-1)) (i1.zu (by omega) (by omega)) ⟨by omega, fun i hi => ?_⟩) rfl (by rw [nI_clamp (by omega)])
        by_cases q : i = j
        · subst q; rw [zu_eq, if_pos (by omega)]
        · rw [zu_ne (fun w => q w.2), i2 i (by omega)]
          by_cases w : 10 ≤ i ∧ i < j
          · rw [if_pos w, if_pos (by omega)]
          · rw [if_neg w, if_neg (by omega)]
  have L1 : ∀ (u j : Nat), 82 < j + u → j ≤ 82 → ∀ M2 : Nat → Nat → Int32, zout S.2.1 M2 P (P + 1) → (∀ i, i < j → M2 P i = 0) → Zw p l e { frames := 0, cells := 0, slots := 0, locals := 80 * 0 } s m args below meth c G b 2 (MQ below (zQ G b FQ) args s 0 0 (fun q : Nat => b ≤ q)) 0 0 2 [some (.ref P), some (.int (nI j))] [] (S.1, M2, S.2.2) := by
    intro u
    induction u with
    | zero => intro j h1 h2; exact absurd h1 (by omega)
    | succ u ih =>
      intro j h1 h2 M2 i1 i2
      refine a_iload_n X dX8_begins_2 rfl ?_
      refine a_bipush (v := 82) X dX8_begins_3 (by decide) ?_
      refine a_icmp_ge (tgt := 18) X dX8_begins_5 (by decide) (fun h_5 => ?_) (fun h_5 => ?_)
      · have hj : j = 82 := by have := (nI_leI (a := 82) (by decide) (by omega)).mp h_5; omega
        subst hj
        refine a_bipush (v := 10) X dX8_begins_18 (by decide) ?_
        refine a_istore_n X dX8_begins_20 (by decide) ?_
        exact Zw.to (L2 63 10 (by omega) (by omega) M2 i1 ⟨by omega, fun i hi => by rw [i2 i hi, if_neg (by omega)]⟩) rfl rfl
      · have hj : j < 82 := Nat.not_le.mp (fun q => h_5 ((nI_leI (by decide) (by omega)).mpr q))
        refine a_aload_n X dX8_begins_8 rfl ?_
        refine a_iload_n X dX8_begins_9 rfl ?_
        refine a_iconst (v := 0) X dX8_begins_10 (by decide) ?_
        refine a_iastore X (by assumption) (vp_in_nI hj (by decide)) dX8_begins_11 ?_
        refine a_iinc (v := nI (j + 1)) X dX8_begins_12 (by decide) rfl (nI_1 j) ?_
        refine a_goto (tgt := 2) X dX8_begins_15 (by decide) ?_
        refine Zw.to (ih (j + 1) (by omega) (by omega) (zu M2 P j 0) (i1.zu (by omega) (by omega)) (fun i hi => ?_)) rfl (by rw [nI_clamp (by omega)])
        by_cases q : i = j
        · subst q; rw [zu_eq]
        · rw [zu_ne (fun w => q w.2)]; exact i2 i (by omega)
  refine a_iconst (v := 0) X dX8_begins_0 (by decide) ?_
  refine a_istore_n X dX8_begins_1 (by decide) ?_
  exact Zw.to (L1 83 0 (by omega) (by omega) _ zout.rf (fun i hi => absurd hi (by omega))) rfl rfl
set_option maxRecDepth 100000 in
theorem m_come {l : Launch} {G : zG} {b : Nat} {S : zS} {P t : Nat} {w : Int32} (hT : LX8 S.1 P) (ht : t + 4 ≤ 700) (h0 : S.2.1 P 11 = nI t) : zM l G b yX8_come cX8_come 3 none 0 0 0 [.ref P, .int w] S (fun r z => ∃ M', r = none ∧ z = (S.1, M', S.2.2) ∧ M' P 11 = nI (t + 4)) := by
  refine zM.of miX8_come (Nat.le_of_ble_eq_true rfl) ?_
  intro p e s m args below meth c X hr hname
  generalize hF : ((fun r z => ∃ M', r = none ∧ z = (S.1, M', S.2.2) ∧ M' P 11 = nI (t + 4)) : Option Value → zS → Prop) = FQ
  change Zw p l e { frames := 0, cells := 0, slots := 0, locals := 80 * 0 } s m args below meth c G b 3 (MQ below (zQ G b FQ) args s 0 0 (fun q : Nat => b ≤ q)) 0 0 0 [some (.ref P), some (.int w), none] [] S
  obtain ⟨z_lt, z_o, z_s, z_read, z_aside, z_kept, z_guest, z_readGuest, z_tape, z_unitName, z_hunterName, z_partyName, z_bits, z_partyOf, z_choiceAt, z_sizes, z_guestMany, z_pointsOf, z_ticketsOf, z_ord, z_given, z_roundOf, z_tags, z_guestTags, z_places, z_sumAt, z_sumFirst, z_sumRound, z_sumBoth, z_sumTags, z_isEnd, z_newPoints, z_inRow, z_out⟩ := id hT
  have L4 : ∀ M2 : Nat → Nat → Int32, M2 P 11 = nI (t + 4) → Zw p l e { frames := 0, cells := 0, slots := 0, locals := 80 * 0 } s m args below meth c G b 3 (MQ below (zQ G b FQ) args s 0 0 (fun q : Nat => b ≤ q)) 0 0 3 [some (.ref P), some (.int w), some (.int (-8))] [] (S.1, M2, S.2.2) := by
    intro M2 i1
    refine a_iload_n X dX8_come_3 rfl ?_
    refine a_if_lt (tgt := 39) X dX8_come_4 (by decide) (fun h_4 => ?_) (fun h_4 => absurd (by decide) h_4)
    refine a_vret X hr dX8_come_39 ⟨by decide, by decide⟩ ?_
    subst hF
    exact ⟨M2, rfl, rfl, i1⟩
  have L3 : ∀ M2 : Nat → Nat → Int32, M2 P 11 = nI (t + 3) → Zw p l e { frames := 0, cells := 0, slots := 0, locals := 80 * 0 } s m args below meth c G b 3 (MQ below (zQ G b FQ) args s 0 0 (fun q : Nat => b ≤ q)) 0 0 3 [some (.ref P), some (.int w), some (.int (0))] [] (S.1, M2, S.2.2) := by
    intro M2 i1
    refine a_iload_n X dX8_come_3 rfl ?_
    refine a_if_lt (tgt := 39) X dX8_come_4 (by decide) (fun h_4 => absurd h_4 (by decide)) (fun h_4 => ?_)
    refine a_aload_n X dX8_come_7 rfl ?_
    refine a_getr X lf8_29 (by assumption) rfl (by omega) dX8_come_8 ?_
    refine a_aload_n X dX8_come_11 rfl ?_
    refine a_geti X lf8_137 (by assumption) rfl dX8_come_12 ?_
    refine a_iload_n X dX8_come_15 rfl ?_
    refine a_iload_n X dX8_come_16 rfl ?_
    refine a_iushr X dX8_come_17 ?_
    refine a_sipush (v := 255) X dX8_come_18 (by decide) ?_
    refine a_iand X dX8_come_21 ?_
    refine a_iastore X (by assumption) (by show vp_in (M2 P 11) 700; rw [i1]; exact vp_in_nI (by omega) (by decide)) dX8_come_22 ?_
    refine a_aload_n X dX8_come_23 rfl ?_
    refine a_dup X dX8_come_24 rfl ?_
    refine a_geti X lf8_137 (by assumption) rfl dX8_come_25 ?_
    refine a_iconst (v := 1) X dX8_come_28 (by decide) ?_
    refine a_iadd X dX8_come_29 ?_
    refine a_puti X lf8_137 (by assumption) rfl dX8_come_30 ?_
    refine a_iinc (v := -8) X dX8_come_33 (by decide) rfl (by decide) ?_
    refine a_goto (tgt := 3) X dX8_come_36 (by decide) ?_
    exact Zw.to (L4 _ (by rw [zu_eq]; show zu M2 (P + 7) _ _ P 11 + 1 = _; rw [zu_row (by omega), i1]; exact nI_1 _)) rfl rfl
  have L2 : ∀ M2 : Nat → Nat → Int32, M2 P 11 = nI (t + 2) → Zw p l e { frames := 0, cells := 0, slots := 0, locals := 80 * 0 } s m args below meth c G b 3 (MQ below (zQ G b FQ) args s 0 0 (fun q : Nat => b ≤ q)) 0 0 3 [some (.ref P), some (.int w), some (.int (8))] [] (S.1, M2, S.2.2) := by
    intro M2 i1
    refine a_iload_n X dX8_come_3 rfl ?_
    refine a_if_lt (tgt := 39) X dX8_come_4 (by decide) (fun h_4 => absurd h_4 (by decide)) (fun h_4 => ?_)
    refine a_aload_n X dX8_come_7 rfl ?_
    refine a_getr X lf8_29 (by assumption) rfl (by omega) dX8_come_8 ?_
    refine a_aload_n X dX8_come_11 rfl ?_
    refine a_geti X lf8_137 (by assumption) rfl dX8_come_12 ?_
    refine a_iload_n X dX8_come_15 rfl ?_
    refine a_iload_n X dX8_come_16 rfl ?_
    refine a_iushr X dX8_come_17 ?_
    refine a_sipush (v := 255) X dX8_come_18 (by decide) ?_
    refine a_iand X dX8_come_21 ?_
    refine a_iastore X (by assumption) (by show vp_in (M2 P 11) 700; rw [i1]; exact vp_in_nI (by omega) (by decide)) dX8_come_22 ?_
    refine a_aload_n X dX8_come_23 rfl ?_
    refine a_dup X dX8_come_24 rfl ?_
    refine a_geti X lf8_137 (by assumption) rfl dX8_come_25 ?_
    refine a_iconst (v := 1) X dX8_come_28 (by decide) ?_
    refine a_iadd X dX8_come_29 ?_
    refine a_puti X lf8_137 (by assumption) rfl dX8_come_30 ?_
    refine a_iinc (v := 0) X dX8_come_33 (by decide) rfl (by decide) ?_
    refine a_goto (tgt := 3) X dX8_come_36 (by decide) ?_
    exact Zw.to (L3 _ (by rw [zu_eq]; show zu M2 (P + 7) _ _ P 11 + 1 = _; rw [zu_row (by omega), i1]; exact nI_1 _)) rfl rfl
  have L1 : ∀ M2 : Nat → Nat → Int32, M2 P 11 = nI (t + 1) → Zw p l e { frames := 0, cells := 0, slots := 0, locals := 80 * 0 } s m args below meth c G b 3 (MQ below (zQ G b FQ) args s 0 0 (fun q : Nat => b ≤ q)) 0 0 3 [some (.ref P), some (.int w), some (.int (16))] [] (S.1, M2, S.2.2) := by
    intro M2 i1
    refine a_iload_n X dX8_come_3 rfl ?_
    refine a_if_lt (tgt := 39) X dX8_come_4 (by decide) (fun h_4 => absurd h_4 (by decide)) (fun h_4 => ?_)
    refine a_aload_n X dX8_come_7 rfl ?_
    refine a_getr X lf8_29 (by assumption) rfl (by omega) dX8_come_8 ?_
    refine a_aload_n X dX8_come_11 rfl ?_
    refine a_geti X lf8_137 (by assumption) rfl dX8_come_12 ?_
    refine a_iload_n X dX8_come_15 rfl ?_
    refine a_iload_n X dX8_come_16 rfl ?_
    refine a_iushr X dX8_come_17 ?_
    refine a_sipush (v := 255) X dX8_come_18 (by decide) ?_
    refine a_iand X dX8_come_21 ?_
    refine a_iastore X (by assumption) (by show vp_in (M2 P 11) 700; rw [i1]; exact vp_in_nI (by omega) (by decide)) dX8_come_22 ?_
    refine a_aload_n X dX8_come_23 rfl ?_
    refine a_dup X dX8_come_24 rfl ?_
    refine a_geti X lf8_137 (by assumption) rfl dX8_come_25 ?_
    refine a_iconst (v := 1) X dX8_come_28 (by decide) ?_
    refine a_iadd X dX8_come_29 ?_
    refine a_puti X lf8_137 (by assumption) rfl dX8_come_30 ?_
    refine a_iinc (v := 8) X dX8_come_33 (by decide) rfl (by decide) ?_
    refine a_goto (tgt := 3) X dX8_come_36 (by decide) ?_
    exact Zw.to (L2 _ (by rw [zu_eq]; show zu M2 (P + 7) _ _ P 11 + 1 = _; rw [zu_row (by omega), i1]; exact nI_1 _)) rfl rfl
  have L0 : ∀ M2 : Nat → Nat → Int32, M2 P 11 = nI (t + 0) → Zw p l e { frames := 0, cells := 0, slots := 0, locals := 80 * 0 } s m args below meth c G b 3 (MQ below (zQ G b FQ) args s 0 0 (fun q : Nat => b ≤ q)) 0 0 3 [some (.ref P), some (.int w), some (.int (24))] [] (S.1, M2, S.2.2) := by
    intro M2 i1
    refine a_iload_n X dX8_come_3 rfl ?_
    refine a_if_lt (tgt := 39) X dX8_come_4 (by decide) (fun h_4 => absurd h_4 (by decide)) (fun h_4 => ?_)
    refine a_aload_n X dX8_come_7 rfl ?_
    refine a_getr X lf8_29 (by assumption) rfl (by omega) dX8_come_8 ?_
    refine a_aload_n X dX8_come_11 rfl ?_
    refine a_geti X lf8_137 (by assumption) rfl dX8_come_12 ?_
    refine a_iload_n X dX8_come_15 rfl ?_
    refine a_iload_n X dX8_come_16 rfl ?_
    refine a_iushr X dX8_come_17 ?_
    refine a_sipush (v := 255) X dX8_come_18 (by decide) ?_
    refine a_iand X dX8_come_21 ?_
    refine a_iastore X (by assumption) (by show vp_in (M2 P 11) 700; rw [i1]; exact vp_in_nI (by omega) (by decide)) dX8_come_22 ?_
    refine a_aload_n X dX8_come_23 rfl ?_
    refine a_dup X dX8_come_24 rfl ?_
    refine a_geti X lf8_137 (by assumption) rfl dX8_come_25 ?_
    refine a_iconst (v := 1) X dX8_come_28 (by decide) ?_
    refine a_iadd X dX8_come_29 ?_
    refine a_puti X lf8_137 (by assumption) rfl dX8_come_30 ?_
    refine a_iinc (v := 16) X dX8_come_33 (by decide) rfl (by decide) ?_
    refine a_goto (tgt := 3) X dX8_come_36 (by decide) ?_
    exact Zw.to (L1 _ (by rw [zu_eq]; show zu M2 (P + 7) _ _ P 11 + 1 = _; rw [zu_row (by omega), i1]; exact nI_1 _)) rfl rfl
  refine a_bipush (v := 24) X dX8_come_0 (by decide) ?_
  refine a_istore_n X dX8_come_2 (by decide) ?_
  exact Zw.to (L0 S.2.1 h0) rfl rfl
set_option maxRecDepth 100000 in
theorem m_byteAt0 {l : Launch} {G : zG} {b : Nat} {S : zS} {P : Nat} {k : Int32} (hT : LX8 S.1 P) (h15 : S.2.1 P 15 = 0) (hk : k = 0) : zM l G b yX8_byteAt cX8_byteAt 2 (some .int) 0 0 0 [.ref P, .int k] S (fun r z => r = some (.int (-1)) ∧ z = S) := by
  refine zM.of miX8_byteAt (Nat.le_of_ble_eq_true rfl) ?_
  intro p e s m args below meth c X hr hname
  generalize hF : ((fun r z => r = some (.int (-1)) ∧ z = S) : Option Value → zS → Prop) = FQ
  change Zw p l e { frames := 0, cells := 0, slots := 0, locals := 80 * 0 } s m args below meth c G b 2 (MQ below (zQ G b FQ) args s 0 0 (fun q : Nat => b ≤ q)) 0 0 0 [some (.ref P), some (.int k)] [] S
  obtain ⟨z_lt, z_o, z_s, z_read, z_aside, z_kept, z_guest, z_readGuest, z_tape, z_unitName, z_hunterName, z_partyName, z_bits, z_partyOf, z_choiceAt, z_sizes, z_guestMany, z_pointsOf, z_ticketsOf, z_ord, z_given, z_roundOf, z_tags, z_guestTags, z_places, z_sumAt, z_sumFirst, z_sumRound, z_sumBoth, z_sumTags, z_isEnd, z_newPoints, z_inRow, z_out⟩ := id hT
  refine a_iload_n X dX8_byteAt_0 rfl ?_
  refine a_aload_n X dX8_byteAt_1 rfl ?_
  refine a_geti X lf8_144 (by assumption) rfl dX8_byteAt_2 ?_
  refine a_icmp_ge (tgt := 17) X dX8_byteAt_5 (by decide) (fun h_5 => ?_) (fun h_5 => absurd (by show S.2.1 P 15 ≤ k; rw [h15, hk]; decide) h_5)
  refine a_iconst (v := -1) X dX8_byteAt_17 (by decide) ?_
  refine a_iret X hr dX8_byteAt_18 ⟨by decide, by decide⟩ ?_
  subst hF
  exact ⟨rfl, rfl⟩
set_option maxRecDepth 100000 in
theorem m_next0 {l : Launch} {G : zG} {b : Nat} {S : zS} {P : Nat} (hT : LX8 S.1 P) (h15 : S.2.1 P 15 = 0) (h17 : S.2.1 P 17 = 0) : zM l G b yX8_next cX8_next 2 (some .boolean) 1 0 0 [.ref P] S (fun r z => r = some (.int 1) ∧ z = (S.1, zu (zu (zu S.2.1 P 16 0) P 19 (-1)) P 18 0, S.2.2)) := by
  refine zM.of miX8_next (Nat.le_of_ble_eq_true rfl) ?_
  intro p e s m args below meth c X hr hname
  generalize hF : ((fun r z => r = some (.int 1) ∧ z = (S.1, zu (zu (zu S.2.1 P 16 0) P 19 (-1)) P 18 0, S.2.2)) : Option Value → zS → Prop) = FQ
  change Zw p l e { frames := 1, cells := 0, slots := 0, locals := 80 * 1 } s m args below meth c G b 2 (MQ below (zQ G b FQ) args s 0 0 (fun q : Nat => b ≤ q)) 0 0 0 [some (.ref P), none] [] S
  obtain ⟨z_lt, z_o, z_s, z_read, z_aside, z_kept, z_guest, z_readGuest, z_tape, z_unitName, z_hunterName, z_partyName, z_bits, z_partyOf, z_choiceAt, z_sizes, z_guestMany, z_pointsOf, z_ticketsOf, z_ord, z_given, z_roundOf, z_tags, z_guestTags, z_places, z_sumAt, z_sumFirst, z_sumRound, z_sumBoth, z_sumTags, z_isEnd, z_newPoints, z_inRow, z_out⟩ := id hT
  refine a_aload_n X dX8_next_0 rfl ?_
  refine a_aload_n X dX8_next_1 rfl ?_
  refine a_geti X lf8_147 (by assumption) rfl dX8_next_2 ?_
  refine a_callVv X dX8_next_5 miX8_byteAt lm8_150 (m_byteAt0 (by assumption) (by first | assumption | simp [zu, *]) (by first | assumption | simp [zu, *])) (by assumption) rfl rfl rfl (Nat.le_of_ble_eq_true rfl) ⟨by decide, by decide, by decide, by decide⟩ ?_
  refine a_bipush (v := 32) X dX8_next_8 (by decide) ?_
  refine a_icmp_eq (tgt := 26) X dX8_next_10 (by decide) (fun h_10 => absurd h_10 (by decide)) (fun h_10 => ?_)
  refine a_aload_n X dX8_next_13 rfl ?_
  refine a_aload_n X dX8_next_14 rfl ?_
  refine a_geti X lf8_147 (by assumption) rfl dX8_next_15 ?_
  refine a_callVv X dX8_next_18 miX8_byteAt lm8_150 (m_byteAt0 (by assumption) (by first | assumption | simp [zu, *]) (by first | assumption | simp [zu, *])) (by assumption) rfl rfl rfl (Nat.le_of_ble_eq_true rfl) ⟨by decide, by decide, by decide, by decide⟩ ?_
  refine a_bipush (v := 10) X dX8_next_21 (by decide) ?_
  refine a_icmp_ne (tgt := 39) X dX8_next_23 (by decide) (fun h_23 => ?_) (fun h_23 => absurd h_23 (by decide))
  refine a_aload_n X dX8_next_39 rfl ?_
  refine a_aload_n X dX8_next_40 rfl ?_
  refine a_geti X lf8_147 (by assumption) rfl dX8_next_41 ?_
  refine a_puti X lf8_154 (by assumption) rfl dX8_next_44 ?_
  refine a_aload_n X dX8_next_47 rfl ?_
  refine a_iconst (v := -1) X dX8_next_48 (by decide) ?_
  refine a_puti X lf8_157 (by assumption) rfl dX8_next_49 ?_
  refine a_aload_n X dX8_next_52 rfl ?_
  refine a_aload_n X dX8_next_53 rfl ?_
  refine a_geti X lf8_147 (by assumption) rfl dX8_next_54 ?_
  refine a_callVv X dX8_next_57 miX8_byteAt lm8_150 (m_byteAt0 (by assumption) (by first | assumption | simp [zu, *]) (by first | assumption | simp [zu, *])) (by assumption) rfl rfl rfl (Nat.le_of_ble_eq_true rfl) ⟨by decide, by decide, by decide, by decide⟩ ?_
  refine a_istore_n X dX8_next_60 (by decide) ?_
  refine a_iload_n X dX8_next_61 rfl ?_
  refine a_iconst (v := -1) X dX8_next_62 (by decide) ?_
  refine a_icmp_ne (tgt := 74) X dX8_next_63 (by decide) (fun h_63 => absurd rfl h_63) (fun h_63 => ?_)
  refine a_aload_n X dX8_next_66 rfl ?_
  refine a_iconst (v := 0) X dX8_next_67 (by decide) ?_
  refine a_puti X lf8_160 (by assumption) rfl dX8_next_68 ?_
  refine a_goto (tgt := 320) X dX8_next_71 (by decide) ?_
  refine a_iconst (v := 1) X dX8_next_320 (by decide) ?_
  refine a_zret X (by first | exact Or.inl rfl | exact Or.inr rfl | assumption) hr dX8_next_321 ⟨by decide, by decide⟩ ?_
  subst hF
  exact ⟨rfl, by rw [← h17]⟩
set_option maxRecDepth 100000 in
theorem m_adds0 {l : Launch} {G : zG} {b : Nat} {S : zS} {P : Nat} {pa : Int64} (hT : LX8 S.1 P) (h33 : S.2.1 P 33 = 0) (h55 : S.2.1 P 55 = 0) (h56 : S.2.1 P 56 = 1000) (h57 : S.2.1 P 57 = 0) (hz : ∀ j, j < 128 → S.2.1 (P + 29) j = 0) : zM l G b yX8_adds cX8_adds 6 none 1 0 0 [.ref P, .long pa] S (fun r z => ∃ M' N', r = none ∧ z = (S.1, M', N') ∧ M' P 54 = 0 ∧ M' P 55 = 0 ∧ M' P 56 = 0 ∧ M' P 57 = 0 ∧ M' P 33 = 0 ∧ z10 (M' (P + 29))) := by
  refine zM.of miX8_adds (Nat.le_of_ble_eq_true rfl) ?_
  intro p e s m args below meth c X hr hname
  generalize hF : ((fun r z => ∃ M' N', r = none ∧ z = (S.1, M', N') ∧ M' P 54 = 0 ∧ M' P 55 = 0 ∧ M' P 56 = 0 ∧ M' P 57 = 0 ∧ M' P 33 = 0 ∧ z10 (M' (P + 29))) : Option Value → zS → Prop) = FQ
  change Zw p l e { frames := 1, cells := 0, slots := 0, locals := 80 * 1 } s m args below meth c G b 6 (MQ below (zQ G b FQ) args s 0 0 (fun q : Nat => b ≤ q)) 0 0 0 [some (.ref P), some (.long pa), none, none, none, none] [] S
  obtain ⟨z_lt, z_o, z_s, z_read, z_aside, z_kept, z_guest, z_readGuest, z_tape, z_unitName, z_hunterName, z_partyName, z_bits, z_partyOf, z_choiceAt, z_sizes, z_guestMany, z_pointsOf, z_ticketsOf, z_ord, z_given, z_roundOf, z_tags, z_guestTags, z_places, z_sumAt, z_sumFirst, z_sumRound, z_sumBoth, z_sumTags, z_isEnd, z_newPoints, z_inRow, z_out⟩ := id hT
  refine a_iconst (v := 0) X dX8_adds_0 (by decide) ?_
  refine a_istore_n X dX8_adds_1 (by decide) ?_
  refine a_iconst (v := 0) X dX8_adds_2 (by decide) ?_
  refine a_istore X dX8_adds_3 (by decide) ?_
  refine a_iload X dX8_adds_5 rfl ?_
  refine a_aload_n X dX8_adds_7 rfl ?_
  refine a_geti X lf8_275 (by assumption) rfl dX8_adds_8 ?_
  refine a_icmp_ge (tgt := 187) X dX8_adds_11 (by decide) (fun h_11 => ?_) (fun h_11 => absurd (by show S.2.1 P 33 ≤ 0; simp [zu, h33]) h_11)
  refine a_aload_n X dX8_adds_187 rfl ?_
  refine a_dup X dX8_adds_188 rfl ?_
  refine a_getl X lf8_393 (by assumption) rfl dX8_adds_189 ?_
  refine a_aload_n X dX8_adds_192 rfl ?_
  refine a_geti X lf8_418 (by assumption) rfl dX8_adds_193 ?_
  refine a_iload_n X dX8_adds_196 rfl ?_
  refine a_iconst (v := -1) X dX8_adds_197 (by decide) ?_
  refine a_ixor X dX8_adds_198 ?_
  refine a_iand X dX8_adds_199 ?_
  refine a_if_ne (tgt := 207) X dX8_adds_200 (by decide) (fun h_200 => ?_) (fun h_200 => ?_)
  · refine a_lconst (v := 0) X dX8_adds_207 (by decide) ?_
    refine a_ladd X dX8_adds_208 ?_
    refine a_putl X lf8_393 (by assumption) rfl dX8_adds_209 ?_
    refine a_aload_n X dX8_adds_212 rfl ?_
    refine a_dup X dX8_adds_213 rfl ?_
    refine a_geti X lf8_396 (by assumption) rfl dX8_adds_214 ?_
    refine a_iload_n X dX8_adds_217 rfl ?_
    refine a_iand X dX8_adds_218 ?_
    refine a_puti X lf8_396 (by assumption) rfl dX8_adds_219 ?_
    refine a_aload_n X dX8_adds_222 rfl ?_
    refine a_dup X dX8_adds_223 rfl ?_
    refine a_geti X lf8_399 (by assumption) rfl dX8_adds_224 ?_
    refine a_iload_n X dX8_adds_227 rfl ?_
    refine a_ior X dX8_adds_228 ?_
    refine a_puti X lf8_399 (by assumption) rfl dX8_adds_229 ?_
    refine a_aload_n X dX8_adds_232 rfl ?_
    refine a_getr X lf8_103 (by assumption) rfl (by omega) dX8_adds_233 ?_
    refine a_iload_n X dX8_adds_236 rfl ?_
    refine a_iconst (v := 1) X dX8_adds_237 (by decide) ?_
    refine a_bastore X (Or.inr rfl) (by assumption) (vp_in_nI (n := 0) (by decide) (by decide)) dX8_adds_238 ?_
    refine a_aload_n X dX8_adds_239 rfl ?_
    refine a_aload_n X dX8_adds_240 rfl ?_
    refine a_geti X lf8_402 (by assumption) rfl dX8_adds_241 ?_
    refine a_aload_n X dX8_adds_244 rfl ?_
    refine a_callVv X dX8_adds_245 miX8_givenTags lm8_421 (m_givenTags0 (by assumption) (by simp [zu, h33])) (by assumption) rfl rfl rfl (Nat.le_of_ble_eq_true rfl) ⟨by decide, by decide, by decide, by decide⟩ ?_
    refine a_mmin X lm8_366 zmath2 zmath0 zmathc2 ⟨by decide, Nat.le_of_ble_eq_true rfl, by decide, by decide⟩ dX8_adds_248 ?_
    refine a_puti X lf8_402 (by assumption) rfl dX8_adds_251 ?_
    refine a_aload_n X dX8_adds_254 rfl ?_
    refine a_aload_n X dX8_adds_255 rfl ?_
    refine a_geti X lf8_405 (by assumption) rfl dX8_adds_256 ?_
    refine a_aload_n X dX8_adds_259 rfl ?_
    refine a_callVv X dX8_adds_260 miX8_givenTags lm8_421 (m_givenTags0 (by assumption) (by simp [zu, h33])) (by assumption) rfl rfl rfl (Nat.le_of_ble_eq_true rfl) ⟨by decide, by decide, by decide, by decide⟩ ?_
    refine a_mmax X lm8_424 zmath1 zmath0 zmathc1 ⟨by decide, Nat.le_of_ble_eq_true rfl, by decide, by decide⟩ dX8_adds_263 ?_
    refine a_puti X lf8_405 (by assumption) rfl dX8_adds_266 ?_
    refine a_vret X hr dX8_adds_269 ⟨by decide, by decide⟩ ?_
    subst hF
    refine ⟨_, _, rfl, rfl, ?_, ?_, ?_, ?_, ?_, ?_, ?_⟩
    · simp [zu]
    · simp [zu, h55]
    · simp [zu, h56]
    · simp [zu, h57]
    · simp [zu, h33]
    · simp [zu, show (0 : Int32).toNatClampNeg = 0 from rfl]
    · intro j q1 q2; simp [zu, show (0 : Int32).toNatClampNeg = 0 from rfl, hz j q2]; omega
  · refine a_lload_n X dX8_adds_203 rfl ?_
    refine a_goto (tgt := 208) X dX8_adds_204 (by decide) ?_
    refine a_ladd X dX8_adds_208 ?_
    refine a_putl X lf8_393 (by assumption) rfl dX8_adds_209 ?_
    refine a_aload_n X dX8_adds_212 rfl ?_
    refine a_dup X dX8_adds_213 rfl ?_
    refine a_geti X lf8_396 (by assumption) rfl dX8_adds_214 ?_
    refine a_iload_n X dX8_adds_217 rfl ?_
    refine a_iand X dX8_adds_218 ?_
    refine a_puti X lf8_396 (by assumption) rfl dX8_adds_219 ?_
    refine a_aload_n X dX8_adds_222 rfl ?_
    refine a_dup X dX8_adds_223 rfl ?_
    refine a_geti X lf8_399 (by assumption) rfl dX8_adds_224 ?_
    refine a_iload_n X dX8_adds_227 rfl ?_
    refine a_ior X dX8_adds_228 ?_
    refine a_puti X lf8_399 (by assumption) rfl dX8_adds_229 ?_
    refine a_aload_n X dX8_adds_232 rfl ?_
    refine a_getr X lf8_103 (by assumption) rfl (by omega) dX8_adds_233 ?_
    refine a_iload_n X dX8_adds_236 rfl ?_
    refine a_iconst (v := 1) X dX8_adds_237 (by decide) ?_
    refine a_bastore X (Or.inr rfl) (by assumption) (vp_in_nI (n := 0) (by decide) (by decide)) dX8_adds_238 ?_
    refine a_aload_n X dX8_adds_239 rfl ?_
    refine a_aload_n X dX8_adds_240 rfl ?_
    refine a_geti X lf8_402 (by assumption) rfl dX8_adds_241 ?_
    refine a_aload_n X dX8_adds_244 rfl ?_
    refine a_callVv X dX8_adds_245 miX8_givenTags lm8_421 (m_givenTags0 (by assumption) (by simp [zu, h33])) (by assumption) rfl rfl rfl (Nat.le_of_ble_eq_true rfl) ⟨by decide, by decide, by decide, by decide⟩ ?_
    refine a_mmin X lm8_366 zmath2 zmath0 zmathc2 ⟨by decide, Nat.le_of_ble_eq_true rfl, by decide, by decide⟩ dX8_adds_248 ?_
    refine a_puti X lf8_402 (by assumption) rfl dX8_adds_251 ?_
    refine a_aload_n X dX8_adds_254 rfl ?_
    refine a_aload_n X dX8_adds_255 rfl ?_
    refine a_geti X lf8_405 (by assumption) rfl dX8_adds_256 ?_
    refine a_aload_n X dX8_adds_259 rfl ?_
    refine a_callVv X dX8_adds_260 miX8_givenTags lm8_421 (m_givenTags0 (by assumption) (by simp [zu, h33])) (by assumption) rfl rfl rfl (Nat.le_of_ble_eq_true rfl) ⟨by decide, by decide, by decide, by decide⟩ ?_
    refine a_mmax X lm8_424 zmath1 zmath0 zmathc1 ⟨by decide, Nat.le_of_ble_eq_true rfl, by decide, by decide⟩ dX8_adds_263 ?_
    refine a_puti X lf8_405 (by assumption) rfl dX8_adds_266 ?_
    refine a_vret X hr dX8_adds_269 ⟨by decide, by decide⟩ ?_
    subst hF
    refine ⟨_, _, rfl, rfl, ?_, ?_, ?_, ?_, ?_, ?_, ?_⟩
    · simp [zu]
    · simp [zu, h55]
    · simp [zu, h56]
    · simp [zu, h57]
    · simp [zu, h33]
    · simp [zu, show (0 : Int32).toNatClampNeg = 0 from rfl]
    · intro j q1 q2; simp [zu, show (0 : Int32).toNatClampNeg = 0 from rfl, hz j q2]; omega
set_option maxRecDepth 100000 in
theorem m_goesOn0 {l : Launch} {G : zG} {b : Nat} {S : zS} {P : Nat} {n k : Int32} {pa : Int64} (hT : LX8 S.1 P) (hn : n = 0) (h7 : S.2.1 P 7 = 0) (h33 : S.2.1 P 33 = 0) (h55 : S.2.1 P 55 = 0) (h56 : S.2.1 P 56 = 1000) (h57 : S.2.1 P 57 = 0) (hz : ∀ j, j < 128 → S.2.1 (P + 29) j = 0) : zM l G b yX8_goesOn cX8_goesOn 8 none 2 0 0 [.ref P, .int n, .int k, .long pa] S (fun r z => ∃ M' N', r = none ∧ z = (S.1, M', N') ∧ M' P 54 = 0 ∧ M' P 55 = 0 ∧ M' P 56 = 0 ∧ M' P 57 = 0 ∧ M' P 33 = 0 ∧ z10 (M' (P + 29))) := by
  refine zM.of miX8_goesOn (Nat.le_of_ble_eq_true rfl) ?_
  intro p e s m args below meth c X hr hname
  generalize hF : ((fun r z => ∃ M' N', r = none ∧ z = (S.1, M', N') ∧ M' P 54 = 0 ∧ M' P 55 = 0 ∧ M' P 56 = 0 ∧ M' P 57 = 0 ∧ M' P 33 = 0 ∧ z10 (M' (P + 29))) : Option Value → zS → Prop) = FQ
  change Zw p l e { frames := 2, cells := 0, slots := 0, locals := 80 * 2 } s m args below meth c G b 8 (MQ below (zQ G b FQ) args s 0 0 (fun q : Nat => b ≤ q)) 0 0 0 [some (.ref P), some (.int n), some (.int k), some (.long pa), none, none, none, none] [] S
  obtain ⟨z_lt, z_o, z_s, z_read, z_aside, z_kept, z_guest, z_readGuest, z_tape, z_unitName, z_hunterName, z_partyName, z_bits, z_partyOf, z_choiceAt, z_sizes, z_guestMany, z_pointsOf, z_ticketsOf, z_ord, z_given, z_roundOf, z_tags, z_guestTags, z_places, z_sumAt, z_sumFirst, z_sumRound, z_sumBoth, z_sumTags, z_isEnd, z_newPoints, z_inRow, z_out⟩ := id hT
  refine a_iload_n X dX8_goesOn_0 rfl ?_
  refine a_aload_n X dX8_goesOn_1 rfl ?_
  refine a_geti X lf8_275 (by assumption) rfl dX8_goesOn_2 ?_
  refine a_icmp_ne (tgt := 19) X dX8_goesOn_5 (by decide) (fun h_5 => absurd (by show n = S.2.1 P 33; rw [hn, h33]) h_5) (fun h_5 => ?_)
  refine a_aload_n X dX8_goesOn_8 rfl ?_
  refine a_iconst (v := -1) X dX8_goesOn_9 (by decide) ?_
  refine a_callVu X dX8_goesOn_10 miX8_results lm8_355 (m_results0 (by assumption) (by first | assumption | simp [zu, *]) (by first | assumption | simp [zu, *])) (by assumption) rfl rfl rfl (Nat.le_of_ble_eq_true rfl) ⟨by decide, by decide, by decide, by decide⟩ ?_
  refine a_aload_n X dX8_goesOn_13 rfl ?_
  refine a_lload_n X dX8_goesOn_14 rfl ?_
  refine a_callVx X dX8_goesOn_15 miX8_adds lm8_414 (m_adds0 (by assumption) (by first | assumption | simp [zu, *]) (by first | assumption | simp [zu, *]) (by first | assumption | simp [zu, *]) (by first | assumption | simp [zu, *]) (by assumption)) (by assumption) rfl rfl rfl (Nat.le_of_ble_eq_true rfl) ⟨by decide, by decide, by decide, by decide⟩ (fun r_15 S_15 q_15 => ?_)
  obtain ⟨M_15, N_15, rfl, rfl, a54_15, a55_15, a56_15, a57_15, a33_15, a0_15⟩ := q_15
  refine a_vret X hr dX8_goesOn_18 ⟨by decide, by decide⟩ ?_
  subst hF
  exact ⟨_, _, rfl, rfl, a54_15, a55_15, a56_15, a57_15, a33_15, a0_15⟩
set_option maxRecDepth 100000 in
theorem m_allOrders0 {l : Launch} {G : zG} {b : Nat} {S : zS} {P : Nat} (hT : LX8 S.1 P) (h7 : S.2.1 P 7 = 0) (h33 : S.2.1 P 33 = 0) : zM l G b yX8_allOrders cX8_allOrders 2 none 3 0 0 [.ref P] S (fun r z => ∃ M' N', r = none ∧ z = (S.1, M', N') ∧ M' P 54 = 0 ∧ M' P 55 = 0 ∧ M' P 56 = 0 ∧ M' P 57 = 0 ∧ M' P 33 = 0 ∧ z10 (M' (P + 29))) := by
  refine zM.of miX8_allOrders (Nat.le_of_ble_eq_true rfl) ?_
  intro p e s m args below meth c X hr hname
  generalize hF : ((fun r z => ∃ M' N', r = none ∧ z = (S.1, M', N') ∧ M' P 54 = 0 ∧ M' P 55 = 0 ∧ M' P 56 = 0 ∧ M' P 57 = 0 ∧ M' P 33 = 0 ∧ z10 (M' (P + 29))) : Option Value → zS → Prop) = FQ
  change Zw p l e { frames := 3, cells := 0, slots := 0, locals := 80 * 3 } s m args below meth c G b 2 (MQ below (zQ G b FQ) args s 0 0 (fun q : Nat => b ≤ q)) 0 0 0 [some (.ref P), none] [] S
  obtain ⟨z_lt, z_o, z_s, z_read, z_aside, z_kept, z_guest, z_readGuest, z_tape, z_unitName, z_hunterName, z_partyName, z_bits, z_partyOf, z_choiceAt, z_sizes, z_guestMany, z_pointsOf, z_ticketsOf, z_ord, z_given, z_roundOf, z_tags, z_guestTags, z_places, z_sumAt, z_sumFirst, z_sumRound, z_sumBoth, z_sumTags, z_isEnd, z_newPoints, z_inRow, z_out⟩ := id hT
  have L5 : ∀ (u j : Nat), 128 < j + u → j ≤ 128 → ∀ (M2 : Nat → Nat → Int32) (N2 : Nat → Nat → Int64), M2 P = S.2.1 P → (∀ i, i < j → M2 (P + 29) i = 0) → Zw p l e { frames := 3, cells := 0, slots := 0, locals := 80 * 3 } s m args below meth c G b 2 (MQ below (zQ G b FQ) args s 0 0 (fun q : Nat => b ≤ q)) 0 0 92 [some (.ref P), some (.int (nI j))] [] (S.1, M2, N2) := by
    intro u
    induction u with
    | zero => intro j h1 h2; exact absurd h1 (by omega)
    | succ u ih =>
      intro j h1 h2 M2 N2 i1 i2
      refine a_iload_n X dX8_allOrders_92 rfl ?_
      refine a_sipush (v := 128) X dX8_allOrders_93 (by decide) ?_
      refine a_icmp_ge (tgt := 112) X dX8_allOrders_96 (by decide) (fun h_96 => ?_) (fun h_96 => ?_)
      · have hj : j = 128 := by have := (nI_leI (a := 128) (by decide) (by omega)).mp h_96; omega
        subst hj
        have e7 : M2 P 7 = 0 := (congrFun i1 7).trans h7
        have e33 : M2 P 33 = 0 := (congrFun i1 33).trans h33
        refine a_aload_n X dX8_allOrders_112 rfl ?_
        refine a_lconst (v := 0) X dX8_allOrders_113 (by decide) ?_
        refine a_putl X lf8_393 (by assumption) rfl dX8_allOrders_114 ?_
        refine a_aload_n X dX8_allOrders_117 rfl ?_
        refine a_iconst (v := 1) X dX8_allOrders_118 (by decide) ?_
        refine a_aload_n X dX8_allOrders_119 rfl ?_
        refine a_geti X lf8_275 (by assumption) rfl dX8_allOrders_120 ?_
        refine a_ishl X dX8_allOrders_123 ?_
        refine a_iconst (v := 1) X dX8_allOrders_124 (by decide) ?_
        refine a_isub X dX8_allOrders_125 ?_
        refine a_puti X lf8_396 (by assumption) rfl dX8_allOrders_126 ?_
        refine a_aload_n X dX8_allOrders_129 rfl ?_
        refine a_iconst (v := 0) X dX8_allOrders_130 (by decide) ?_
        refine a_puti X lf8_399 (by assumption) rfl dX8_allOrders_131 ?_
        refine a_aload_n X dX8_allOrders_134 rfl ?_
        refine a_sipush (v := 1000) X dX8_allOrders_135 (by decide) ?_
        refine a_puti X lf8_402 (by assumption) rfl dX8_allOrders_138 ?_
        refine a_aload_n X dX8_allOrders_141 rfl ?_
        refine a_iconst (v := 0) X dX8_allOrders_142 (by decide) ?_
        refine a_puti X lf8_405 (by assumption) rfl dX8_allOrders_143 ?_
        refine a_aload_n X dX8_allOrders_146 rfl ?_
        refine a_iconst (v := 0) X dX8_allOrders_147 (by decide) ?_
        refine a_iconst (v := 0) X dX8_allOrders_148 (by decide) ?_
        refine a_ldc2 X dX8_allOrders_149 lk8_408 ?_
        refine a_callVx X dX8_allOrders_152 miX8_goesOn lm8_410 (m_goesOn0 (by assumption) rfl (by simp [zu, e7]) (by simp [zu, e33]) (by simp [zu]) (by simp [zu]) (by simp [zu]) (fun j hj => by simp [zu]; exact i2 j hj)) (by assumption) rfl rfl rfl (Nat.le_of_ble_eq_true rfl) ⟨by decide, by decide, by decide, by decide⟩ (fun r_152 S_152 q_152 => ?_)
        obtain ⟨M_152, N_152, rfl, rfl, a54_152, a55_152, a56_152, a57_152, a33_152, a0_152⟩ := q_152
        refine a_vret X hr dX8_allOrders_155 ⟨by decide, by decide⟩ ?_
        subst hF
        exact ⟨_, _, rfl, rfl, a54_152, a55_152, a56_152, a57_152, a33_152, a0_152⟩
      · have hj : j < 128 := Nat.not_le.mp (fun q => h_96 ((nI_leI (by decide) (by omega)).mpr q))
        refine a_aload_n X dX8_allOrders_99 rfl ?_
        refine a_getr X lf8_103 (by assumption) rfl (by omega) dX8_allOrders_100 ?_
        refine a_iload_n X dX8_allOrders_103 rfl ?_
        refine a_iconst (v := 0) X dX8_allOrders_104 (by decide) ?_
        refine a_bastore X (Or.inl rfl) (by assumption) (vp_in_nI hj (by decide)) dX8_allOrders_105 ?_
        refine a_iinc (v := nI (j + 1)) X dX8_allOrders_106 (by decide) rfl (nI_1 j) ?_
        refine a_goto (tgt := 92) X dX8_allOrders_109 (by decide) ?_
        refine Zw.to (ih (j + 1) (by omega) (by omega) (zu M2 (P + 29) j 0) N2 (by rw [zu_row (by omega)]; exact i1) (fun i hi => ?_)) rfl (by rw [nI_clamp (by omega)])
        by_cases q : i = j
        · subst q; rw [zu_eq]
        · rw [zu_ne (fun w => q w.2)]; exact i2 i (by omega)
  have L4 : ∀ (u j : Nat), 5 < j + u → j ≤ 5 → ∀ (M2 : Nat → Nat → Int32) (N2 : Nat → Nat → Int64), M2 P = S.2.1 P → Zw p l e { frames := 3, cells := 0, slots := 0, locals := 80 * 3 } s m args below meth c G b 2 (MQ below (zQ G b FQ) args s 0 0 (fun q : Nat => b ≤ q)) 0 0 72 [some (.ref P), some (.int (nI j))] [] (S.1, M2, N2) := by
    intro u
    induction u with
    | zero => intro j h1 h2; exact absurd h1 (by omega)
    | succ u ih =>
      intro j h1 h2 M2 N2 i1
      refine a_iload_n X dX8_allOrders_72 rfl ?_
      refine a_iconst (v := 5) X dX8_allOrders_73 (by decide) ?_
      refine a_icmp_ge (tgt := 90) X dX8_allOrders_74 (by decide) (fun h_74 => ?_) (fun h_74 => ?_)
      · refine a_iconst (v := 0) X dX8_allOrders_90 (by decide) ?_
        refine a_istore_n X dX8_allOrders_91 (by decide) ?_
        exact Zw.to (L5 129 0 (by omega) (by omega) _ _ i1 (fun i hi => absurd hi (by omega))) rfl rfl
      · have hj : j < 5 := Nat.not_le.mp (fun q => h_74 ((nI_leI (by decide) (by omega)).mpr q))
        refine a_aload_n X dX8_allOrders_77 rfl ?_
        refine a_getr X lf8_100 (by assumption) rfl (by omega) dX8_allOrders_78 ?_
        refine a_iload_n X dX8_allOrders_81 rfl ?_
        refine a_lconst (v := 0) X dX8_allOrders_82 (by decide) ?_
        refine a_lastore X (by assumption) (vp_in_nI hj (by decide)) dX8_allOrders_83 ?_
        refine a_iinc (v := nI (j + 1)) X dX8_allOrders_84 (by decide) rfl (nI_1 j) ?_
        refine a_goto (tgt := 72) X dX8_allOrders_87 (by decide) ?_
        exact Zw.to (ih (j + 1) (by omega) (by omega) _ _ i1) rfl rfl
  have L3 : ∀ (u j : Nat), 7 < j + u → j ≤ 7 → ∀ (M2 : Nat → Nat → Int32) (N2 : Nat → Nat → Int64), M2 P = S.2.1 P → Zw p l e { frames := 3, cells := 0, slots := 0, locals := 80 * 3 } s m args below meth c G b 2 (MQ below (zQ G b FQ) args s 0 0 (fun q : Nat => b ≤ q)) 0 0 44 [some (.ref P), some (.int (nI j))] [] (S.1, M2, N2) := by
    intro u
    induction u with
    | zero => intro j h1 h2; exact absurd h1 (by omega)
    | succ u ih =>
      intro j h1 h2 M2 N2 i1
      refine a_iload_n X dX8_allOrders_44 rfl ?_
      refine a_bipush (v := 7) X dX8_allOrders_45 (by decide) ?_
      refine a_icmp_ge (tgt := 70) X dX8_allOrders_47 (by decide) (fun h_47 => ?_) (fun h_47 => ?_)
      · refine a_iconst (v := 0) X dX8_allOrders_70 (by decide) ?_
        refine a_istore_n X dX8_allOrders_71 (by decide) ?_
        exact Zw.to (L4 6 0 (by omega) (by omega) _ _ i1) rfl rfl
      · have hj : j < 7 := Nat.not_le.mp (fun q => h_47 ((nI_leI (by decide) (by omega)).mpr q))
        refine a_aload_n X dX8_allOrders_50 rfl ?_
        refine a_getr X lf8_91 (by assumption) rfl (by omega) dX8_allOrders_51 ?_
        refine a_iload_n X dX8_allOrders_54 rfl ?_
        refine a_lconst (v := 0) X dX8_allOrders_55 (by decide) ?_
        refine a_lastore X (by assumption) (vp_in_nI hj (by decide)) dX8_allOrders_56 ?_
        refine a_aload_n X dX8_allOrders_57 rfl ?_
        refine a_getr X lf8_94 (by assumption) rfl (by omega) dX8_allOrders_58 ?_
        refine a_iload_n X dX8_allOrders_61 rfl ?_
        refine a_lconst (v := 0) X dX8_allOrders_62 (by decide) ?_
        refine a_lastore X (by assumption) (vp_in_nI hj (by decide)) dX8_allOrders_63 ?_
        refine a_iinc (v := nI (j + 1)) X dX8_allOrders_64 (by decide) rfl (nI_1 j) ?_
        refine a_goto (tgt := 44) X dX8_allOrders_67 (by decide) ?_
        exact Zw.to (ih (j + 1) (by omega) (by omega) _ _ i1) rfl rfl
  have L2 : ∀ (u j : Nat), 49 < j + u → j ≤ 49 → ∀ (M2 : Nat → Nat → Int32) (N2 : Nat → Nat → Int64), M2 P = S.2.1 P → Zw p l e { frames := 3, cells := 0, slots := 0, locals := 80 * 3 } s m args below meth c G b 2 (MQ below (zQ G b FQ) args s 0 0 (fun q : Nat => b ≤ q)) 0 0 23 [some (.ref P), some (.int (nI j))] [] (S.1, M2, N2) := by
    intro u
    induction u with
    | zero => intro j h1 h2; exact absurd h1 (by omega)
    | succ u ih =>
      intro j h1 h2 M2 N2 i1
      refine a_iload_n X dX8_allOrders_23 rfl ?_
      refine a_bipush (v := 49) X dX8_allOrders_24 (by decide) ?_
      refine a_icmp_ge (tgt := 42) X dX8_allOrders_26 (by decide) (fun h_26 => ?_) (fun h_26 => ?_)
      · refine a_iconst (v := 0) X dX8_allOrders_42 (by decide) ?_
        refine a_istore_n X dX8_allOrders_43 (by decide) ?_
        exact Zw.to (L3 8 0 (by omega) (by omega) _ _ i1) rfl rfl
      · have hj : j < 49 := Nat.not_le.mp (fun q => h_26 ((nI_leI (by decide) (by omega)).mpr q))
        refine a_aload_n X dX8_allOrders_29 rfl ?_
        refine a_getr X lf8_97 (by assumption) rfl (by omega) dX8_allOrders_30 ?_
        refine a_iload_n X dX8_allOrders_33 rfl ?_
        refine a_lconst (v := 0) X dX8_allOrders_34 (by decide) ?_
        refine a_lastore X (by assumption) (vp_in_nI hj (by decide)) dX8_allOrders_35 ?_
        refine a_iinc (v := nI (j + 1)) X dX8_allOrders_36 (by decide) rfl (nI_1 j) ?_
        refine a_goto (tgt := 23) X dX8_allOrders_39 (by decide) ?_
        exact Zw.to (ih (j + 1) (by omega) (by omega) _ _ i1) rfl rfl
  have L1 : ∀ (u j : Nat), 35 < j + u → j ≤ 35 → ∀ (M2 : Nat → Nat → Int32) (N2 : Nat → Nat → Int64), M2 P = S.2.1 P → Zw p l e { frames := 3, cells := 0, slots := 0, locals := 80 * 3 } s m args below meth c G b 2 (MQ below (zQ G b FQ) args s 0 0 (fun q : Nat => b ≤ q)) 0 0 2 [some (.ref P), some (.int (nI j))] [] (S.1, M2, N2) := by
    intro u
    induction u with
    | zero => intro j h1 h2; exact absurd h1 (by omega)
    | succ u ih =>
      intro j h1 h2 M2 N2 i1
      refine a_iload_n X dX8_allOrders_2 rfl ?_
      refine a_bipush (v := 35) X dX8_allOrders_3 (by decide) ?_
      refine a_icmp_ge (tgt := 21) X dX8_allOrders_5 (by decide) (fun h_5 => ?_) (fun h_5 => ?_)
      · refine a_iconst (v := 0) X dX8_allOrders_21 (by decide) ?_
        refine a_istore_n X dX8_allOrders_22 (by decide) ?_
        exact Zw.to (L2 50 0 (by omega) (by omega) _ _ i1) rfl rfl
      · have hj : j < 35 := Nat.not_le.mp (fun q => h_5 ((nI_leI (by decide) (by omega)).mpr q))
        refine a_aload_n X dX8_allOrders_8 rfl ?_
        refine a_getr X lf8_88 (by assumption) rfl (by omega) dX8_allOrders_9 ?_
        refine a_iload_n X dX8_allOrders_12 rfl ?_
        refine a_lconst (v := 0) X dX8_allOrders_13 (by decide) ?_
        refine a_lastore X (by assumption) (vp_in_nI hj (by decide)) dX8_allOrders_14 ?_
        refine a_iinc (v := nI (j + 1)) X dX8_allOrders_15 (by decide) rfl (nI_1 j) ?_
        refine a_goto (tgt := 2) X dX8_allOrders_18 (by decide) ?_
        exact Zw.to (ih (j + 1) (by omega) (by omega) _ _ i1) rfl rfl
  refine a_iconst (v := 0) X dX8_allOrders_0 (by decide) ?_
  refine a_istore_n X dX8_allOrders_1 (by decide) ?_
  exact Zw.to (L1 36 0 (by omega) (by omega) _ _ rfl) rfl rfl
set_option maxRecDepth 100000 in
theorem m_laysAll0 {l : Launch} {G : zG} {b : Nat} {S : zS} {P : Nat} (hT : LX8 S.1 P) (h7 : S.2.1 P 7 = 0) (h8 : S.2.1 P 8 = 0) (h70 : S.2.1 (P + 1) 70 = 0) : zM l G b yX8_laysAll cX8_laysAll 1 none 4 0 0 [.ref P] S (fun r z => ∃ M' N', r = none ∧ z = (S.1, M', N') ∧ M' P 54 = 0 ∧ M' P 55 = 0 ∧ M' P 56 = 0 ∧ M' P 57 = 0 ∧ M' P 33 = 0 ∧ z10 (M' (P + 29))) := by
  refine zM.of miX8_laysAll (Nat.le_of_ble_eq_true rfl) ?_
  intro p e s m args below meth c X hr hname
  generalize hF : ((fun r z => ∃ M' N', r = none ∧ z = (S.1, M', N') ∧ M' P 54 = 0 ∧ M' P 55 = 0 ∧ M' P 56 = 0 ∧ M' P 57 = 0 ∧ M' P 33 = 0 ∧ z10 (M' (P + 29))) : Option Value → zS → Prop) = FQ
  change Zw p l e { frames := 4, cells := 0, slots := 0, locals := 80 * 4 } s m args below meth c G b 1 (MQ below (zQ G b FQ) args s 0 0 (fun q : Nat => b ≤ q)) 0 0 0 [some (.ref P)] [] S
  obtain ⟨z_lt, z_o, z_s, z_read, z_aside, z_kept, z_guest, z_readGuest, z_tape, z_unitName, z_hunterName, z_partyName, z_bits, z_partyOf, z_choiceAt, z_sizes, z_guestMany, z_pointsOf, z_ticketsOf, z_ord, z_given, z_roundOf, z_tags, z_guestTags, z_places, z_sumAt, z_sumFirst, z_sumRound, z_sumBoth, z_sumTags, z_isEnd, z_newPoints, z_inRow, z_out⟩ := id hT
  refine a_aload_n X dX8_laysAll_0 rfl ?_
  refine a_callVu X dX8_laysAll_1 miX8_laysApplicants lm8_281 (m_laysApplicants0 (by assumption) (by first | assumption | simp [zu, *]) (by first | assumption | simp [zu, *]) (by first | assumption | simp [zu, *])) (by assumption) rfl rfl rfl (Nat.le_of_ble_eq_true rfl) ⟨by decide, by decide, by decide, by decide⟩ ?_
  refine a_aload_n X dX8_laysAll_4 rfl ?_
  refine a_callVx X dX8_laysAll_5 miX8_allOrders lm8_390 (m_allOrders0 (by assumption) (by first | assumption | simp [zu, *]) (by first | assumption | simp [zu, *])) (by assumption) rfl rfl rfl (Nat.le_of_ble_eq_true rfl) ⟨by decide, by decide, by decide, by decide⟩ (fun r_5 S_5 q_5 => ?_)
  obtain ⟨M_5, N_5, rfl, rfl, a54_5, a55_5, a56_5, a57_5, a33_5, a0_5⟩ := q_5
  refine a_vret X hr dX8_laysAll_8 ⟨by decide, by decide⟩ ?_
  subst hF
  exact ⟨_, _, rfl, rfl, a54_5, a55_5, a56_5, a57_5, a33_5, a0_5⟩
set_option maxRecDepth 100000 in
theorem m_becomes {l : Launch} {G : zG} {b : Nat} {S : zS} {P k : Nat} {v : Int32} (hT : LX8 S.1 P) (h9 : S.2.1 P 9 = 0) (hk : k < 82) : zM l G b yX8_becomes cX8_becomes 4 (some .int) 1 0 0 [.ref P, .int (nI k), .int v] S (fun r _ => r = some (.int (if S.2.1 (P + 1) k = v then -1 else S.2.1 (P + 1) k))) := by
  refine zM.of miX8_becomes (Nat.le_of_ble_eq_true rfl) ?_
  intro p e s m args below meth c X hr hname
  generalize hF : ((fun r _ => r = some (.int (if S.2.1 (P + 1) k = v then -1 else S.2.1 (P + 1) k))) : Option Value → zS → Prop) = FQ
  change Zw p l e { frames := 1, cells := 0, slots := 0, locals := 80 * 1 } s m args below meth c G b 4 (MQ below (zQ G b FQ) args s 0 0 (fun q : Nat => b ≤ q)) 0 0 0 [some (.ref P), some (.int (nI k)), some (.int v), none] [] S
  obtain ⟨z_lt, z_o, z_s, z_read, z_aside, z_kept, z_guest, z_readGuest, z_tape, z_unitName, z_hunterName, z_partyName, z_bits, z_partyOf, z_choiceAt, z_sizes, z_guestMany, z_pointsOf, z_ticketsOf, z_ord, z_given, z_roundOf, z_tags, z_guestTags, z_places, z_sumAt, z_sumFirst, z_sumRound, z_sumBoth, z_sumTags, z_isEnd, z_newPoints, z_inRow, z_out⟩ := id hT
  have hin : vp_in (nI k) 82 := vp_in_nI hk (by decide)
  have hc : (nI k).toNatClampNeg = k := nI_clamp (by omega)
  refine a_aload_n X dX8_becomes_0 rfl ?_
  refine a_getr X lf8_7 (by assumption) rfl (by omega) dX8_becomes_1 ?_
  refine a_iload_n X dX8_becomes_4 rfl ?_
  refine a_iaload X (by assumption) (hin) dX8_becomes_5 ?_
  refine a_iload_n X dX8_becomes_6 rfl ?_
  refine a_icmp_ne (tgt := 16) X dX8_becomes_7 (by decide) (fun h_7 => ?_) (fun h_7 => ?_)
  · refine a_aload_n X dX8_becomes_16 rfl ?_
    refine a_callVx X dX8_becomes_17 miX8_keeps lm8_480 (m_keeps0 (by assumption) (by first | assumption | simp [zu, *])) (by assumption) rfl rfl rfl (Nat.le_of_ble_eq_true rfl) ⟨by decide, by decide, by decide, by decide⟩ (fun r_17 S_17 q_17 => ?_)
    obtain ⟨M_17, rfl, rfl, k0_17, k1_17⟩ := q_17
    refine a_aload_n X dX8_becomes_20 rfl ?_
    refine a_getr X lf8_7 (by assumption) rfl (by omega) dX8_becomes_21 ?_
    refine a_iload_n X dX8_becomes_24 rfl ?_
    refine a_iaload X (by assumption) (hin) dX8_becomes_25 ?_
    refine a_istore_n X dX8_becomes_26 (by decide) ?_
    refine a_aload_n X dX8_becomes_27 rfl ?_
    refine a_getr X lf8_7 (by assumption) rfl (by omega) dX8_becomes_28 ?_
    refine a_iload_n X dX8_becomes_31 rfl ?_
    refine a_iload_n X dX8_becomes_32 rfl ?_
    refine a_iastore X (by assumption) (hin) dX8_becomes_33 ?_
    refine a_aload_n X dX8_becomes_34 rfl ?_
    refine a_iload_n X dX8_becomes_35 rfl ?_
    refine a_callVv X dX8_becomes_36 miX8_gives lm8_272 (m_gives (by assumption)) (by assumption) rfl rfl rfl (Nat.le_of_ble_eq_true rfl) ⟨by decide, by decide, by decide, by decide⟩ ?_
    refine a_iret X hr dX8_becomes_39 ⟨by decide, by decide⟩ ?_
    subst hF
    first | (rw [hc] at h_7; show some (Value.int (-1)) = _; rw [if_pos h_7]; done) | (rw [hc] at h_7; show some (Value.int (M_17 (P + 1) (nI k).toNatClampNeg)) = _; rw [hc, k0_17 (P + 1) (by omega) (by omega), if_neg h_7])
  · refine a_aload_n X dX8_becomes_10 rfl ?_
    refine a_iconst (v := 4) X dX8_becomes_11 (by decide) ?_
    refine a_callVv X dX8_becomes_12 miX8_refuse lm8_263 (m_refuse (by assumption)) (by assumption) rfl rfl rfl (Nat.le_of_ble_eq_true rfl) ⟨by decide, by decide, by decide, by decide⟩ ?_
    refine a_iret X hr dX8_becomes_15 ⟨by decide, by decide⟩ ?_
    subst hF
    first | (rw [hc] at h_7; show some (Value.int (-1)) = _; rw [if_pos h_7]; done) | (rw [hc] at h_7; show some (Value.int (M_17 (P + 1) (nI k).toNatClampNeg)) = _; rw [hc, k0_17 (P + 1) (by omega) (by omega), if_neg h_7])
