def zB (c : Prop) [Decidable c] : Int32 := if c then 1 else 0
theorem zB_0 {c : Prop} [Decidable c] (h : zB c = 0) : ¬ c := fun q => by unfold zB at h; rw [if_pos q] at h; exact absurd h (by decide)
theorem zB_1 {c : Prop} [Decidable c] (h : ¬ zB c = 0) : c := Decidable.byContradiction fun q => h (by unfold zB; rw [if_neg q])
theorem zB_t {c : Prop} [Decidable c] (h : c) : 1 = zB c := by unfold zB; rw [if_pos h]
theorem zB_f {c : Prop} [Decidable c] (h : ¬ c) : 0 = zB c := by unfold zB; rw [if_neg h]
theorem zB_01 (c : Prop) [Decidable c] : zB c = 0 ∨ zB c = 1 := by unfold zB; split <;> simp
theorem zsum_0 {f : Nat → Int32} : ∀ {n : Nat}, (∀ j, j < n → f j = 0) → zsum f n = 0
  | 0, _ => rfl
  | n + 1, h => by rw [zsum_s, zsum_0 (fun j hj => h j (by omega)), h n (by omega)]; decide
/-- of a row 1, 0, 0 .. -/
def z10 (f : Nat → Int32) : Prop := f 0 = 1 ∧ ∀ j, 0 < j → j < 128 → f j = 0
theorem z10_sum {f : Nat → Int32} (h : z10 f) : ∀ {n : Nat}, 0 < n → n ≤ 128 → zsum f n = 1
  | 0, h1, _ => absurd h1 (by omega)
  | 1, _, _ => by show (0 : Int32) + f 0 = 1; rw [h.1]; decide
  | n + 2, _, h2 => by rw [zsum_s, z10_sum h (by omega) (by omega), h.2 (n + 1) (by omega) (by omega)]; decide
theorem z10_and {f : Nat → Int32} (h : z10 f) : ∀ {n : Nat}, 0 < n → n ≤ 128 → zand f n = 0
  | 0, h1, _ => absurd h1 (by omega)
  | 1, _, _ => by unfold zand; rw [if_pos h.1]; show (127 : Int32) &&& nI 0 = 0; decide
  | n + 2, _, h2 => by unfold zand; rw [if_neg (by rw [h.2 (n + 1) (by omega) (by omega)]; decide)]; exact z10_and h (by omega) (by omega)
theorem z10_few {f : Nat → Int32} (h : z10 f) : ∀ {n : Nat}, 0 < n → n ≤ 128 → zfew f (fun _ => 0) n = 0
  | 0, h1, _ => absurd h1 (by omega)
  | 1, _, _ => by unfold zfew; rw [if_pos h.1]; show (if (0 : Int32) < 10 then (0 : Int32) else 10) = 0; decide
  | n + 2, _, h2 => by unfold zfew; rw [if_neg (by rw [h.2 (n + 1) (by omega) (by omega)]; decide)]; exact z10_few h (by omega) (by omega)
theorem z10_most {f : Nat → Int32} (h : z10 f) : ∀ {n : Nat}, 0 < n → n ≤ 128 → zmost f (fun _ => 0) n = 0
  | 0, h1, _ => absurd h1 (by omega)
  | 1, _, _ => by unfold zmost; rw [if_pos h.1]; show (if (0 : Int32) < 0 then (0 : Int32) else 0) = 0; decide
  | n + 2, _, h2 => by unfold zmost; rw [if_neg (by rw [h.2 (n + 1) (by omega) (by omega)]; decide)]; exact z10_most h (by omega) (by omega)
/-- a fresh TagDraw at P -/
def zE7 (S : zS) (P : Nat) : Prop := LX7 S.1 P ∧ S.2.1 P 0 = 0 ∧ S.2.1 P 1 = 0 ∧ S.2.1 P 2 = -1 ∧ S.2.1 P 3 = 0 ∧ S.2.1 (P + 3) 1 = -1 ∧ S.2.1 (P + 3) 2 = -1 ∧
  S.2.1 (P + 17) 0 = 0 ∧ S.2.1 (P + 17) 1 = 0 ∧ S.2.1 (P + 17) 2 = 0 ∧ S.2.1 (P + 17) 3 = 0 ∧ S.2.1 (P + 17) 4 = 0 ∧ S.2.1 (P + 17) 5 = 100 ∧ S.2.1 (P + 17) 6 = 0 ∧ (∀ j, j < 5 → S.2.1 (P + 18) j = 0) ∧ (∀ j, j < 10 → S.2.1 (P + 20) j = 0) ∧
  S.2.1 (P + 25) 0 = 0 ∧ S.2.1 (P + 25) 1 = 0 ∧ S.2.1 (P + 91) 0 = 0 ∧ S.2.1 (P + 91) 1 = 0 ∧ S.2.1 (P + 91) 2 = 0 ∧ S.2.1 (P + 91) 3 = 0
/-- answers on a fresh object, that depend on the arguments -/
def fSeed (s : Int32) : Int32 := if 0 ≤ s ∧ s ≤ 999999999 then 0 else -1
def fLoad (n : Int32) : Int32 := if n = 0 then 0 else -1
def fMany (w : Int32) : Int32 := if w.toInt = 6 then 100 else if 0 ≤ w.toInt ∧ w.toInt ≤ 10 then 0 else -1
def fTwo (w : Int32) : Int32 := if 0 ≤ w ∧ w ≤ 1 then 0 else -1
def fYears (s n w : Int32) : Int32 := if ((0 ≤ s ∧ s ≤ 999999999) ∧ 1 ≤ n ∧ n ≤ 30 ∧ s ≤ 999999999 - n) ∧ 0 ≤ w ∧ w ≤ 2 then 0 else -1
def fLaw (v : Int32) : Int32 := if (0 ≤ v ∧ v ≤ 2) ∧ ¬ v = 0 then 0 else -1
def fPrefer (v : Int32) : Int32 := if (0 ≤ v ∧ v ≤ 100) ∧ ¬ v = 0 then 0 else -1
def fGuests (v : Int32) : Int32 := if (0 ≤ v ∧ v ≤ 100) ∧ ¬ v = 100 then 100 else -1
theorem zi_k {n : Int32} (h1 : 1 ≤ n) (h2 : n ≤ 30) : ∃ k : Nat, k < 1000 ∧ n = nI k := by
  rw [Int32.le_iff_toInt_le] at h1 h2
  have e1 : (1 : Int32).toInt = 1 := by decide
  have e2 : (30 : Int32).toInt = 30 := by decide
  rw [e1] at h1
  rw [e2] at h2
  exact ⟨n.toInt.toNat, by omega, Int32.toInt_inj.mp (by rw [nI_toInt (by omega)]; omega)⟩
set_option maxRecDepth 100000 in
theorem c_refuse {l : Launch} {G : zG} {b : Nat} {S : zS} {P : Nat} {w : Int32} (o : S.1[P]? = some (0, 7, [(0, 0), (0, 0), (0, 0), (0, 0), (2, P + 1), (2, P + 2), (2, P + 3), (2, P + 17), (2, P + 25), (2, P + 91), (2, P + 104), (2, P + 112), (2, P + 125), (2, P + 158), (2, P + 166), (2, P + 179), (2, P + 187)])) : zM l G b yX7_refuse cX7_refuse 2 (some .int) 0 0 0 [.ref P, .int w] S (fun r z => r = some (.int (-1)) ∧ z = (S.1, zu S.2.1 P 0 w, S.2.2)) := by
  refine zM.of miX7_refuse (Nat.le_of_ble_eq_true rfl) ?_
  intro p e s m args below meth c X hr hname
  generalize hF : ((fun r z => r = some (.int (-1)) ∧ z = (S.1, zu S.2.1 P 0 w, S.2.2)) : Option Value → zS → Prop) = FQ
  change Zw p l e { frames := 0, cells := 0, slots := 0, locals := 80 * 0 } s m args below meth c G b 2 (MQ below (zQ G b FQ) args s 0 0 (fun q : Nat => b ≤ q)) 0 0 0 [some (.ref P), some (.int w)] [] S
  refine a_aload_n X dX7_refuse_0 rfl ?_
  refine a_iload_n X dX7_refuse_1 rfl ?_
  refine a_puti X lf7_88 (by assumption) rfl dX7_refuse_2 ?_
  refine a_iconst (v := -1) X dX7_refuse_5 (by decide) ?_
  refine a_iret X hr dX7_refuse_6 ⟨by decide, by decide⟩ ?_
  subst hF
  exact ⟨rfl, rfl⟩
set_option maxRecDepth 100000 in
theorem c_answer {l : Launch} {G : zG} {b : Nat} {S : zS} {P : Nat} {w : Int32} (o : S.1[P]? = some (0, 7, [(0, 0), (0, 0), (0, 0), (0, 0), (2, P + 1), (2, P + 2), (2, P + 3), (2, P + 17), (2, P + 25), (2, P + 91), (2, P + 104), (2, P + 112), (2, P + 125), (2, P + 158), (2, P + 166), (2, P + 179), (2, P + 187)])) : zM l G b yX7_answer cX7_answer 2 (some .int) 0 0 0 [.ref P, .int w] S (fun r z => r = some (.int w) ∧ z = (S.1, zu S.2.1 P 0 0, S.2.2)) := by
  refine zM.of miX7_answer (Nat.le_of_ble_eq_true rfl) ?_
  intro p e s m args below meth c X hr hname
  generalize hF : ((fun r z => r = some (.int w) ∧ z = (S.1, zu S.2.1 P 0 0, S.2.2)) : Option Value → zS → Prop) = FQ
  change Zw p l e { frames := 0, cells := 0, slots := 0, locals := 80 * 0 } s m args below meth c G b 2 (MQ below (zQ G b FQ) args s 0 0 (fun q : Nat => b ≤ q)) 0 0 0 [some (.ref P), some (.int w)] [] S
  refine a_aload_n X dX7_answer_0 rfl ?_
  refine a_iconst (v := 0) X dX7_answer_1 (by decide) ?_
  refine a_puti X lf7_88 (by assumption) rfl dX7_answer_2 ?_
  refine a_iload_n X dX7_answer_5 rfl ?_
  refine a_iret X hr dX7_answer_6 ⟨by decide, by decide⟩ ?_
  subst hF
  exact ⟨rfl, rfl⟩
set_option maxRecDepth 100000 in
theorem c_answerParts {l : Launch} {G : zG} {b : Nat} {S : zS} {P : Nat} {w : Int64} (o : S.1[P]? = some (0, 7, [(0, 0), (0, 0), (0, 0), (0, 0), (2, P + 1), (2, P + 2), (2, P + 3), (2, P + 17), (2, P + 25), (2, P + 91), (2, P + 104), (2, P + 112), (2, P + 125), (2, P + 158), (2, P + 166), (2, P + 179), (2, P + 187)])) : zM l G b yX7_answerParts cX7_answerParts 3 (some .long) 0 0 0 [.ref P, .long w] S (fun r z => r = some (.long w) ∧ z = (S.1, zu S.2.1 P 0 0, S.2.2)) := by
  refine zM.of miX7_answerParts (Nat.le_of_ble_eq_true rfl) ?_
  intro p e s m args below meth c X hr hname
  generalize hF : ((fun r z => r = some (.long w) ∧ z = (S.1, zu S.2.1 P 0 0, S.2.2)) : Option Value → zS → Prop) = FQ
  change Zw p l e { frames := 0, cells := 0, slots := 0, locals := 80 * 0 } s m args below meth c G b 3 (MQ below (zQ G b FQ) args s 0 0 (fun q : Nat => b ≤ q)) 0 0 0 [some (.ref P), some (.long w), none] [] S
  refine a_aload_n X dX7_answerParts_0 rfl ?_
  refine a_iconst (v := 0) X dX7_answerParts_1 (by decide) ?_
  refine a_puti X lf7_88 (by assumption) rfl dX7_answerParts_2 ?_
  refine a_lload_n X dX7_answerParts_5 rfl ?_
  refine a_lret X hr dX7_answerParts_6 ⟨by decide, by decide⟩ ?_
  subst hF
  exact ⟨rfl, rfl⟩
set_option maxRecDepth 100000 in
theorem c_isSeed {l : Launch} {G : zG} {b : Nat} {S : zS} {sd : Int32} : zM l G b yX7_isSeed cX7_isSeed 1 (some .boolean) 0 0 0 [.int sd] S (fun r z => r = some (.int (zB (0 ≤ sd ∧ sd ≤ 999999999))) ∧ z = S) := by
  refine zM.of miX7_isSeed (Nat.le_of_ble_eq_true rfl) ?_
  intro p e s m args below meth c X hr hname
  generalize hF : ((fun r z => r = some (.int (zB (0 ≤ sd ∧ sd ≤ 999999999))) ∧ z = S) : Option Value → zS → Prop) = FQ
  change Zw p l e { frames := 0, cells := 0, slots := 0, locals := 80 * 0 } s m args below meth c G b 1 (MQ below (zQ G b FQ) args s 0 0 (fun q : Nat => b ≤ q)) 0 0 0 [some (.int sd)] [] S
  refine a_iload_n X dX7_isSeed_0 rfl ?_
  refine a_if_lt (tgt := 15) X dX7_isSeed_1 (by decide) (fun h_1 => ?_) (fun h_1 => ?_)
  · refine a_iconst (v := 0) X dX7_isSeed_15 (by decide) ?_
    refine a_zret X (by first | exact Or.inl rfl | exact Or.inr rfl | assumption) hr dX7_isSeed_16 ⟨by decide, by decide⟩ ?_
    subst hF
    refine ⟨congrArg (fun x => some (Value.int x)) ?_, rfl⟩
    first | exact zB_f (fun q => (Int32.not_le.mpr h_1) q.1) | exact zB_f (fun q => (Int32.not_le.mpr h_8) q.2) | exact zB_t ⟨Int32.not_lt.mp h_1, Int32.not_lt.mp h_8⟩
  · refine a_iload_n X dX7_isSeed_4 rfl ?_
    refine a_ldcw X dX7_isSeed_5 lk7_395 ?_
    refine a_icmp_gt (tgt := 15) X dX7_isSeed_8 (by decide) (fun h_8 => ?_) (fun h_8 => ?_)
    · refine a_iconst (v := 0) X dX7_isSeed_15 (by decide) ?_
      refine a_zret X (by first | exact Or.inl rfl | exact Or.inr rfl | assumption) hr dX7_isSeed_16 ⟨by decide, by decide⟩ ?_
      subst hF
      refine ⟨congrArg (fun x => some (Value.int x)) ?_, rfl⟩
      first | exact zB_f (fun q => (Int32.not_le.mpr h_1) q.1) | exact zB_f (fun q => (Int32.not_le.mpr h_8) q.2) | exact zB_t ⟨Int32.not_lt.mp h_1, Int32.not_lt.mp h_8⟩
    · refine a_iconst (v := 1) X dX7_isSeed_11 (by decide) ?_
      refine a_goto (tgt := 16) X dX7_isSeed_12 (by decide) ?_
      refine a_zret X (by first | exact Or.inl rfl | exact Or.inr rfl | assumption) hr dX7_isSeed_16 ⟨by decide, by decide⟩ ?_
      subst hF
      refine ⟨congrArg (fun x => some (Value.int x)) ?_, rfl⟩
      first | exact zB_f (fun q => (Int32.not_le.mpr h_1) q.1) | exact zB_f (fun q => (Int32.not_le.mpr h_8) q.2) | exact zB_t ⟨Int32.not_lt.mp h_1, Int32.not_lt.mp h_8⟩
set_option maxRecDepth 100000 in
theorem c_areYears {l : Launch} {G : zG} {b : Nat} {S : zS} {sd n : Int32} : zM l G b yX7_areYears cX7_areYears 2 (some .boolean) 1 0 0 [.int sd, .int n] S (fun r z => r = some (.int (zB ((0 ≤ sd ∧ sd ≤ 999999999) ∧ 1 ≤ n ∧ n ≤ 30 ∧ sd ≤ 999999999 - n))) ∧ z = S) := by
  refine zM.of miX7_areYears (Nat.le_of_ble_eq_true rfl) ?_
  intro p e s m args below meth c X hr hname
  generalize hF : ((fun r z => r = some (.int (zB ((0 ≤ sd ∧ sd ≤ 999999999) ∧ 1 ≤ n ∧ n ≤ 30 ∧ sd ≤ 999999999 - n))) ∧ z = S) : Option Value → zS → Prop) = FQ
  change Zw p l e { frames := 1, cells := 0, slots := 0, locals := 80 * 1 } s m args below meth c G b 2 (MQ below (zQ G b FQ) args s 0 0 (fun q : Nat => b ≤ q)) 0 0 0 [some (.int sd), some (.int n)] [] S
  refine a_iload_n X dX7_areYears_0 rfl ?_
  refine a_callSv X dX7_areYears_1 miX7_isSeed lm7_237 (c_isSeed) rfl rfl (Nat.le_of_ble_eq_true rfl) ⟨by decide, by decide, by decide, by decide⟩ ?_
  refine a_if_eq (tgt := 31) X dX7_areYears_4 (by decide) (fun h_4 => ?_) (fun h_4 => ?_)
  · refine a_iconst (v := 0) X dX7_areYears_31 (by decide) ?_
    refine a_zret X (by first | exact Or.inl rfl | exact Or.inr rfl | assumption) hr dX7_areYears_32 ⟨by decide, by decide⟩ ?_
    subst hF
    refine ⟨congrArg (fun x => some (Value.int x)) ?_, rfl⟩
    first | exact zB_f (fun q => zB_0 h_4 q.1) | exact zB_f (fun q => (Int32.not_le.mpr h_9) q.2.1) | exact zB_f (fun q => (Int32.not_le.mpr h_15) q.2.2.1) | exact zB_f (fun q => (Int32.not_le.mpr h_24) q.2.2.2) | exact zB_t ⟨zB_1 h_4, Int32.not_lt.mp h_9, Int32.not_lt.mp h_15, Int32.not_lt.mp h_24⟩
  · refine a_iload_n X dX7_areYears_7 rfl ?_
    refine a_iconst (v := 1) X dX7_areYears_8 (by decide) ?_
    refine a_icmp_lt (tgt := 31) X dX7_areYears_9 (by decide) (fun h_9 => ?_) (fun h_9 => ?_)
    · refine a_iconst (v := 0) X dX7_areYears_31 (by decide) ?_
      refine a_zret X (by first | exact Or.inl rfl | exact Or.inr rfl | assumption) hr dX7_areYears_32 ⟨by decide, by decide⟩ ?_
      subst hF
      refine ⟨congrArg (fun x => some (Value.int x)) ?_, rfl⟩
      first | exact zB_f (fun q => zB_0 h_4 q.1) | exact zB_f (fun q => (Int32.not_le.mpr h_9) q.2.1) | exact zB_f (fun q => (Int32.not_le.mpr h_15) q.2.2.1) | exact zB_f (fun q => (Int32.not_le.mpr h_24) q.2.2.2) | exact zB_t ⟨zB_1 h_4, Int32.not_lt.mp h_9, Int32.not_lt.mp h_15, Int32.not_lt.mp h_24⟩
    · refine a_iload_n X dX7_areYears_12 rfl ?_
      refine a_bipush (v := 30) X dX7_areYears_13 (by decide) ?_
      refine a_icmp_gt (tgt := 31) X dX7_areYears_15 (by decide) (fun h_15 => ?_) (fun h_15 => ?_)
      · refine a_iconst (v := 0) X dX7_areYears_31 (by decide) ?_
        refine a_zret X (by first | exact Or.inl rfl | exact Or.inr rfl | assumption) hr dX7_areYears_32 ⟨by decide, by decide⟩ ?_
        subst hF
        refine ⟨congrArg (fun x => some (Value.int x)) ?_, rfl⟩
        first | exact zB_f (fun q => zB_0 h_4 q.1) | exact zB_f (fun q => (Int32.not_le.mpr h_9) q.2.1) | exact zB_f (fun q => (Int32.not_le.mpr h_15) q.2.2.1) | exact zB_f (fun q => (Int32.not_le.mpr h_24) q.2.2.2) | exact zB_t ⟨zB_1 h_4, Int32.not_lt.mp h_9, Int32.not_lt.mp h_15, Int32.not_lt.mp h_24⟩
      · refine a_iload_n X dX7_areYears_18 rfl ?_
        refine a_ldcw X dX7_areYears_19 lk7_395 ?_
        refine a_iload_n X dX7_areYears_22 rfl ?_
        refine a_isub X dX7_areYears_23 ?_
        refine a_icmp_gt (tgt := 31) X dX7_areYears_24 (by decide) (fun h_24 => ?_) (fun h_24 => ?_)
        · refine a_iconst (v := 0) X dX7_areYears_31 (by decide) ?_
          refine a_zret X (by first | exact Or.inl rfl | exact Or.inr rfl | assumption) hr dX7_areYears_32 ⟨by decide, by decide⟩ ?_
          subst hF
          refine ⟨congrArg (fun x => some (Value.int x)) ?_, rfl⟩
          first | exact zB_f (fun q => zB_0 h_4 q.1) | exact zB_f (fun q => (Int32.not_le.mpr h_9) q.2.1) | exact zB_f (fun q => (Int32.not_le.mpr h_15) q.2.2.1) | exact zB_f (fun q => (Int32.not_le.mpr h_24) q.2.2.2) | exact zB_t ⟨zB_1 h_4, Int32.not_lt.mp h_9, Int32.not_lt.mp h_15, Int32.not_lt.mp h_24⟩
        · refine a_iconst (v := 1) X dX7_areYears_27 (by decide) ?_
          refine a_goto (tgt := 32) X dX7_areYears_28 (by decide) ?_
          refine a_zret X (by first | exact Or.inl rfl | exact Or.inr rfl | assumption) hr dX7_areYears_32 ⟨by decide, by decide⟩ ?_
          subst hF
          refine ⟨congrArg (fun x => some (Value.int x)) ?_, rfl⟩
          first | exact zB_f (fun q => zB_0 h_4 q.1) | exact zB_f (fun q => (Int32.not_le.mpr h_9) q.2.1) | exact zB_f (fun q => (Int32.not_le.mpr h_15) q.2.2.1) | exact zB_f (fun q => (Int32.not_le.mpr h_24) q.2.2.2) | exact zB_t ⟨zB_1 h_4, Int32.not_lt.mp h_9, Int32.not_lt.mp h_15, Int32.not_lt.mp h_24⟩
set_option maxRecDepth 100000 in
theorem c_isHunter0 {l : Launch} {G : zG} {b : Nat} {S : zS} {P : Nat} {h : Int32} (hT : LX7 S.1 P) (h0 : S.2.1 (P + 17) 1 = 0) : zM l G b yX7_isHunter cX7_isHunter 2 (some .boolean) 0 0 0 [.ref P, .int h] S (fun r z => r = some (.int 0) ∧ z = S) := by
  refine zM.of miX7_isHunter (Nat.le_of_ble_eq_true rfl) ?_
  intro p e s m args below meth c X hr hname
  generalize hF : ((fun r z => r = some (.int 0) ∧ z = S) : Option Value → zS → Prop) = FQ
  change Zw p l e { frames := 0, cells := 0, slots := 0, locals := 80 * 0 } s m args below meth c G b 2 (MQ below (zQ G b FQ) args s 0 0 (fun q : Nat => b ≤ q)) 0 0 0 [some (.ref P), some (.int h)] [] S
  obtain ⟨lt, o, tape, out, reader, list, past, pool, result, odds, paper, trial, trialPool, trialResult, trialOdds⟩ := id hT
  have ho := list.2.1
  refine a_iload_n X dX7_isHunter_0 rfl ?_
  refine a_if_lt (tgt := 19) X dX7_isHunter_1 (by decide) (fun h_1 => ?_) (fun h_1 => ?_)
  · refine a_iconst (v := 0) X dX7_isHunter_19 (by decide) ?_
    refine a_zret X (by first | exact Or.inl rfl | exact Or.inr rfl | assumption) hr dX7_isHunter_20 ⟨by decide, by decide⟩ ?_
    subst hF
    exact ⟨rfl, rfl⟩
  · refine a_iload_n X dX7_isHunter_4 rfl ?_
    refine a_aload_n X dX7_isHunter_5 rfl ?_
    refine a_getr X lf7_26 (by assumption) rfl (by omega) dX7_isHunter_6 ?_
    refine a_geti X lf7_119 (by assumption) rfl dX7_isHunter_9 ?_
    refine a_icmp_ge (tgt := 19) X dX7_isHunter_12 (by decide) (fun h_12 => ?_) (fun h_12 => absurd (Int32.not_lt.mp h_1) (by intro q; exact h_12 (by show S.2.1 (P + 17) 1 ≤ h; rw [h0]; exact q)))
    refine a_iconst (v := 0) X dX7_isHunter_19 (by decide) ?_
    refine a_zret X (by first | exact Or.inl rfl | exact Or.inr rfl | assumption) hr dX7_isHunter_20 ⟨by decide, by decide⟩ ?_
    subst hF
    exact ⟨rfl, rfl⟩
set_option maxRecDepth 100000 in
theorem c_isUnit0 {l : Launch} {G : zG} {b : Nat} {S : zS} {P : Nat} {h : Int32} (hT : LX7 S.1 P) (h0 : S.2.1 (P + 17) 0 = 0) : zM l G b yX7_isUnit cX7_isUnit 2 (some .boolean) 0 0 0 [.ref P, .int h] S (fun r z => r = some (.int 0) ∧ z = S) := by
  refine zM.of miX7_isUnit (Nat.le_of_ble_eq_true rfl) ?_
  intro p e s m args below meth c X hr hname
  generalize hF : ((fun r z => r = some (.int 0) ∧ z = S) : Option Value → zS → Prop) = FQ
  change Zw p l e { frames := 0, cells := 0, slots := 0, locals := 80 * 0 } s m args below meth c G b 2 (MQ below (zQ G b FQ) args s 0 0 (fun q : Nat => b ≤ q)) 0 0 0 [some (.ref P), some (.int h)] [] S
  obtain ⟨lt, o, tape, out, reader, list, past, pool, result, odds, paper, trial, trialPool, trialResult, trialOdds⟩ := id hT
  have ho := list.2.1
  refine a_iload_n X dX7_isUnit_0 rfl ?_
  refine a_if_lt (tgt := 19) X dX7_isUnit_1 (by decide) (fun h_1 => ?_) (fun h_1 => ?_)
  · refine a_iconst (v := 0) X dX7_isUnit_19 (by decide) ?_
    refine a_zret X (by first | exact Or.inl rfl | exact Or.inr rfl | assumption) hr dX7_isUnit_20 ⟨by decide, by decide⟩ ?_
    subst hF
    exact ⟨rfl, rfl⟩
  · refine a_iload_n X dX7_isUnit_4 rfl ?_
    refine a_aload_n X dX7_isUnit_5 rfl ?_
    refine a_getr X lf7_26 (by assumption) rfl (by omega) dX7_isUnit_6 ?_
    refine a_geti X lf7_131 (by assumption) rfl dX7_isUnit_9 ?_
    refine a_icmp_ge (tgt := 19) X dX7_isUnit_12 (by decide) (fun h_12 => ?_) (fun h_12 => absurd (Int32.not_lt.mp h_1) (by intro q; exact h_12 (by show S.2.1 (P + 17) 0 ≤ h; rw [h0]; exact q)))
    refine a_iconst (v := 0) X dX7_isUnit_19 (by decide) ?_
    refine a_zret X (by first | exact Or.inl rfl | exact Or.inr rfl | assumption) hr dX7_isUnit_20 ⟨by decide, by decide⟩ ?_
    subst hF
    exact ⟨rfl, rfl⟩
set_option maxRecDepth 100000 in
theorem c_isParty0 {l : Launch} {G : zG} {b : Nat} {S : zS} {P : Nat} {h : Int32} (hT : LX7 S.1 P) (h0 : S.2.1 (P + 17) 2 = 0) : zM l G b yX7_isParty cX7_isParty 2 (some .boolean) 0 0 0 [.ref P, .int h] S (fun r z => r = some (.int 0) ∧ z = S) := by
  refine zM.of miX7_isParty (Nat.le_of_ble_eq_true rfl) ?_
  intro p e s m args below meth c X hr hname
  generalize hF : ((fun r z => r = some (.int 0) ∧ z = S) : Option Value → zS → Prop) = FQ
  change Zw p l e { frames := 0, cells := 0, slots := 0, locals := 80 * 0 } s m args below meth c G b 2 (MQ below (zQ G b FQ) args s 0 0 (fun q : Nat => b ≤ q)) 0 0 0 [some (.ref P), some (.int h)] [] S
  obtain ⟨lt, o, tape, out, reader, list, past, pool, result, odds, paper, trial, trialPool, trialResult, trialOdds⟩ := id hT
  have ho := list.2.1
  refine a_iload_n X dX7_isParty_0 rfl ?_
  refine a_if_lt (tgt := 19) X dX7_isParty_1 (by decide) (fun h_1 => ?_) (fun h_1 => ?_)
  · refine a_iconst (v := 0) X dX7_isParty_19 (by decide) ?_
    refine a_zret X (by first | exact Or.inl rfl | exact Or.inr rfl | assumption) hr dX7_isParty_20 ⟨by decide, by decide⟩ ?_
    subst hF
    exact ⟨rfl, rfl⟩
  · refine a_iload_n X dX7_isParty_4 rfl ?_
    refine a_aload_n X dX7_isParty_5 rfl ?_
    refine a_getr X lf7_26 (by assumption) rfl (by omega) dX7_isParty_6 ?_
    refine a_geti X lf7_137 (by assumption) rfl dX7_isParty_9 ?_
    refine a_icmp_ge (tgt := 19) X dX7_isParty_12 (by decide) (fun h_12 => ?_) (fun h_12 => absurd (Int32.not_lt.mp h_1) (by intro q; exact h_12 (by show S.2.1 (P + 17) 2 ≤ h; rw [h0]; exact q)))
    refine a_iconst (v := 0) X dX7_isParty_19 (by decide) ?_
    refine a_zret X (by first | exact Or.inl rfl | exact Or.inr rfl | assumption) hr dX7_isParty_20 ⟨by decide, by decide⟩ ?_
    subst hF
    exact ⟨rfl, rfl⟩
set_option maxRecDepth 100000 in
theorem c_isApplicant0 {l : Launch} {G : zG} {b : Nat} {S : zS} {P : Nat} {h : Int32} (hT : LX7 S.1 P) (h0 : S.2.1 (P + 91) 1 = 0) : zM l G b yX7_isApplicant cX7_isApplicant 2 (some .boolean) 0 0 0 [.ref P, .int h] S (fun r z => r = some (.int 0) ∧ z = S) := by
  refine zM.of miX7_isApplicant (Nat.le_of_ble_eq_true rfl) ?_
  intro p e s m args below meth c X hr hname
  generalize hF : ((fun r z => r = some (.int 0) ∧ z = S) : Option Value → zS → Prop) = FQ
  change Zw p l e { frames := 0, cells := 0, slots := 0, locals := 80 * 0 } s m args below meth c G b 2 (MQ below (zQ G b FQ) args s 0 0 (fun q : Nat => b ≤ q)) 0 0 0 [some (.ref P), some (.int h)] [] S
  obtain ⟨lt, o, tape, out, reader, list, past, pool, result, odds, paper, trial, trialPool, trialResult, trialOdds⟩ := id hT
  have ho := pool.2.1
  refine a_iload_n X dX7_isApplicant_0 rfl ?_
  refine a_if_lt (tgt := 19) X dX7_isApplicant_1 (by decide) (fun h_1 => ?_) (fun h_1 => ?_)
  · refine a_iconst (v := 0) X dX7_isApplicant_19 (by decide) ?_
    refine a_zret X (by first | exact Or.inl rfl | exact Or.inr rfl | assumption) hr dX7_isApplicant_20 ⟨by decide, by decide⟩ ?_
    subst hF
    exact ⟨rfl, rfl⟩
  · refine a_iload_n X dX7_isApplicant_4 rfl ?_
    refine a_aload_n X dX7_isApplicant_5 rfl ?_
    refine a_getr X lf7_40 (by assumption) rfl (by omega) dX7_isApplicant_6 ?_
    refine a_geti X lf7_140 (by assumption) rfl dX7_isApplicant_9 ?_
    refine a_icmp_ge (tgt := 19) X dX7_isApplicant_12 (by decide) (fun h_12 => ?_) (fun h_12 => absurd (Int32.not_lt.mp h_1) (by intro q; exact h_12 (by show S.2.1 (P + 91) 1 ≤ h; rw [h0]; exact q)))
    refine a_iconst (v := 0) X dX7_isApplicant_19 (by decide) ?_
    refine a_zret X (by first | exact Or.inl rfl | exact Or.inr rfl | assumption) hr dX7_isApplicant_20 ⟨by decide, by decide⟩ ?_
    subst hF
    exact ⟨rfl, rfl⟩
set_option maxRecDepth 100000 in
theorem c_append0 {l : Launch} {G : zG} {b : Nat} {S : zS} {P : Nat} {w : Int32} (hT : LX7 S.1 P) : zM l G b yX7_append cX7_append 3 none 1 0 0 [.ref P, .int w] S (fun r z => ∃ M', r = none ∧ z = (S.1, M', S.2.2) ∧ M' P 1 = S.2.1 P 1 + nI 4 ∧ ∀ a, a ≠ P → a ≠ P + 1 → M' a = S.2.1 a) := by
  refine zM.of miX7_append (Nat.le_of_ble_eq_true rfl) ?_
  intro p e s m args below meth c X hr hname
  generalize hF : ((fun r z => ∃ M', r = none ∧ z = (S.1, M', S.2.2) ∧ M' P 1 = S.2.1 P 1 + nI 4 ∧ ∀ a, a ≠ P → a ≠ P + 1 → M' a = S.2.1 a) : Option Value → zS → Prop) = FQ
  change Zw p l e { frames := 1, cells := 0, slots := 0, locals := 80 * 1 } s m args below meth c G b 3 (MQ below (zQ G b FQ) args s 0 0 (fun q : Nat => b ≤ q)) 0 0 0 [some (.ref P), some (.int w), none] [] S
  obtain ⟨lt, o, tape, out, reader, list, past, pool, result, odds, paper, trial, trialPool, trialResult, trialOdds⟩ := id hT
  have L4 : ∀ M2 : Nat → Nat → Int32, M2 P 1 = S.2.1 P 1 + nI 4 → (∀ a, a ≠ P → a ≠ P + 1 → M2 a = S.2.1 a) → Zw p l e { frames := 1, cells := 0, slots := 0, locals := 80 * 1 } s m args below meth c G b 3 (MQ below (zQ G b FQ) args s 0 0 (fun q : Nat => b ≤ q)) 0 0 3 [some (.ref P), some (.int w), some (.int (-8))] [] (S.1, M2, S.2.2) := by
    intro M2 i1 i2
    refine a_iload_n X dX7_append_3 rfl ?_
    refine a_if_lt (tgt := 41) X dX7_append_4 (by decide) (fun h_4 => ?_) (fun h_4 => absurd (by decide) h_4)
    refine a_vret X hr dX7_append_41 ⟨by decide, by decide⟩ ?_
    subst hF
    exact ⟨M2, rfl, rfl, i1, i2⟩
  have L3 : ∀ M2 : Nat → Nat → Int32, M2 P 1 = S.2.1 P 1 + nI 3 → (∀ a, a ≠ P → a ≠ P + 1 → M2 a = S.2.1 a) → Zw p l e { frames := 1, cells := 0, slots := 0, locals := 80 * 1 } s m args below meth c G b 3 (MQ below (zQ G b FQ) args s 0 0 (fun q : Nat => b ≤ q)) 0 0 3 [some (.ref P), some (.int w), some (.int (0))] [] (S.1, M2, S.2.2) := by
    intro M2 i1 i2
    refine a_iload_n X dX7_append_3 rfl ?_
    refine a_if_lt (tgt := 41) X dX7_append_4 (by decide) (fun h_4 => absurd h_4 (by decide)) (fun h_4 => ?_)
    refine a_aload_n X dX7_append_7 rfl ?_
    refine a_getr X lf7_9 (by assumption) rfl (by omega) dX7_append_8 ?_
    refine a_aload_n X dX7_append_11 rfl ?_
    refine a_geti X lf7_91 (by assumption) rfl dX7_append_12 ?_
    refine a_iload_n X dX7_append_15 rfl ?_
    refine a_iload_n X dX7_append_16 rfl ?_
    refine a_iushr X dX7_append_17 ?_
    refine a_sipush (v := 255) X dX7_append_18 (by decide) ?_
    refine a_iand X dX7_append_21 ?_
    refine a_callSu X dX7_append_22 miX7_put lm7_98 (c_put (by assumption) (by decide)) rfl rfl (Nat.le_of_ble_eq_true rfl) ⟨by decide, by decide, by decide, by decide⟩ ?_
    refine a_aload_n X dX7_append_25 rfl ?_
    refine a_dup X dX7_append_26 rfl ?_
    refine a_geti X lf7_91 (by assumption) rfl dX7_append_27 ?_
    refine a_iconst (v := 1) X dX7_append_30 (by decide) ?_
    refine a_iadd X dX7_append_31 ?_
    refine a_puti X lf7_91 (by assumption) rfl dX7_append_32 ?_
    refine a_iinc (v := -8) X dX7_append_35 (by decide) rfl (by decide) ?_
    refine a_goto (tgt := 3) X dX7_append_38 (by decide) ?_
    exact Zw.to (L4 _ (by rw [zu_eq]; show zwr M2 (P + 1) 700 _ _ P 1 + 1 = _; rw [zwr_row (by omega), i1, Int32.add_assoc, nI_1]) (fun a q1 q2 => by rw [zu_row q1]; show zwr M2 (P + 1) 700 _ _ a = _; rw [zwr_row q2]; exact i2 a q1 q2)) rfl rfl
  have L2 : ∀ M2 : Nat → Nat → Int32, M2 P 1 = S.2.1 P 1 + nI 2 → (∀ a, a ≠ P → a ≠ P + 1 → M2 a = S.2.1 a) → Zw p l e { frames := 1, cells := 0, slots := 0, locals := 80 * 1 } s m args below meth c G b 3 (MQ below (zQ G b FQ) args s 0 0 (fun q : Nat => b ≤ q)) 0 0 3 [some (.ref P), some (.int w), some (.int (8))] [] (S.1, M2, S.2.2) := by
    intro M2 i1 i2
    refine a_iload_n X dX7_append_3 rfl ?_
    refine a_if_lt (tgt := 41) X dX7_append_4 (by decide) (fun h_4 => absurd h_4 (by decide)) (fun h_4 => ?_)
    refine a_aload_n X dX7_append_7 rfl ?_
    refine a_getr X lf7_9 (by assumption) rfl (by omega) dX7_append_8 ?_
    refine a_aload_n X dX7_append_11 rfl ?_
    refine a_geti X lf7_91 (by assumption) rfl dX7_append_12 ?_
    refine a_iload_n X dX7_append_15 rfl ?_
    refine a_iload_n X dX7_append_16 rfl ?_
    refine a_iushr X dX7_append_17 ?_
    refine a_sipush (v := 255) X dX7_append_18 (by decide) ?_
    refine a_iand X dX7_append_21 ?_
    refine a_callSu X dX7_append_22 miX7_put lm7_98 (c_put (by assumption) (by decide)) rfl rfl (Nat.le_of_ble_eq_true rfl) ⟨by decide, by decide, by decide, by decide⟩ ?_
    refine a_aload_n X dX7_append_25 rfl ?_
    refine a_dup X dX7_append_26 rfl ?_
    refine a_geti X lf7_91 (by assumption) rfl dX7_append_27 ?_
    refine a_iconst (v := 1) X dX7_append_30 (by decide) ?_
    refine a_iadd X dX7_append_31 ?_
    refine a_puti X lf7_91 (by assumption) rfl dX7_append_32 ?_
    refine a_iinc (v := 0) X dX7_append_35 (by decide) rfl (by decide) ?_
    refine a_goto (tgt := 3) X dX7_append_38 (by decide) ?_
    exact Zw.to (L3 _ (by rw [zu_eq]; show zwr M2 (P + 1) 700 _ _ P 1 + 1 = _; rw [zwr_row (by omega), i1, Int32.add_assoc, nI_1]) (fun a q1 q2 => by rw [zu_row q1]; show zwr M2 (P + 1) 700 _ _ a = _; rw [zwr_row q2]; exact i2 a q1 q2)) rfl rfl
  have L1 : ∀ M2 : Nat → Nat → Int32, M2 P 1 = S.2.1 P 1 + nI 1 → (∀ a, a ≠ P → a ≠ P + 1 → M2 a = S.2.1 a) → Zw p l e { frames := 1, cells := 0, slots := 0, locals := 80 * 1 } s m args below meth c G b 3 (MQ below (zQ G b FQ) args s 0 0 (fun q : Nat => b ≤ q)) 0 0 3 [some (.ref P), some (.int w), some (.int (16))] [] (S.1, M2, S.2.2) := by
    intro M2 i1 i2
    refine a_iload_n X dX7_append_3 rfl ?_
    refine a_if_lt (tgt := 41) X dX7_append_4 (by decide) (fun h_4 => absurd h_4 (by decide)) (fun h_4 => ?_)
    refine a_aload_n X dX7_append_7 rfl ?_
    refine a_getr X lf7_9 (by assumption) rfl (by omega) dX7_append_8 ?_
    refine a_aload_n X dX7_append_11 rfl ?_
    refine a_geti X lf7_91 (by assumption) rfl dX7_append_12 ?_
    refine a_iload_n X dX7_append_15 rfl ?_
    refine a_iload_n X dX7_append_16 rfl ?_
    refine a_iushr X dX7_append_17 ?_
    refine a_sipush (v := 255) X dX7_append_18 (by decide) ?_
    refine a_iand X dX7_append_21 ?_
    refine a_callSu X dX7_append_22 miX7_put lm7_98 (c_put (by assumption) (by decide)) rfl rfl (Nat.le_of_ble_eq_true rfl) ⟨by decide, by decide, by decide, by decide⟩ ?_
    refine a_aload_n X dX7_append_25 rfl ?_
    refine a_dup X dX7_append_26 rfl ?_
    refine a_geti X lf7_91 (by assumption) rfl dX7_append_27 ?_
    refine a_iconst (v := 1) X dX7_append_30 (by decide) ?_
    refine a_iadd X dX7_append_31 ?_
    refine a_puti X lf7_91 (by assumption) rfl dX7_append_32 ?_
    refine a_iinc (v := 8) X dX7_append_35 (by decide) rfl (by decide) ?_
    refine a_goto (tgt := 3) X dX7_append_38 (by decide) ?_
    exact Zw.to (L2 _ (by rw [zu_eq]; show zwr M2 (P + 1) 700 _ _ P 1 + 1 = _; rw [zwr_row (by omega), i1, Int32.add_assoc, nI_1]) (fun a q1 q2 => by rw [zu_row q1]; show zwr M2 (P + 1) 700 _ _ a = _; rw [zwr_row q2]; exact i2 a q1 q2)) rfl rfl
  have L0 : ∀ M2 : Nat → Nat → Int32, M2 P 1 = S.2.1 P 1 + nI 0 → (∀ a, a ≠ P → a ≠ P + 1 → M2 a = S.2.1 a) → Zw p l e { frames := 1, cells := 0, slots := 0, locals := 80 * 1 } s m args below meth c G b 3 (MQ below (zQ G b FQ) args s 0 0 (fun q : Nat => b ≤ q)) 0 0 3 [some (.ref P), some (.int w), some (.int (24))] [] (S.1, M2, S.2.2) := by
    intro M2 i1 i2
    refine a_iload_n X dX7_append_3 rfl ?_
    refine a_if_lt (tgt := 41) X dX7_append_4 (by decide) (fun h_4 => absurd h_4 (by decide)) (fun h_4 => ?_)
    refine a_aload_n X dX7_append_7 rfl ?_
    refine a_getr X lf7_9 (by assumption) rfl (by omega) dX7_append_8 ?_
    refine a_aload_n X dX7_append_11 rfl ?_
    refine a_geti X lf7_91 (by assumption) rfl dX7_append_12 ?_
    refine a_iload_n X dX7_append_15 rfl ?_
    refine a_iload_n X dX7_append_16 rfl ?_
    refine a_iushr X dX7_append_17 ?_
    refine a_sipush (v := 255) X dX7_append_18 (by decide) ?_
    refine a_iand X dX7_append_21 ?_
    refine a_callSu X dX7_append_22 miX7_put lm7_98 (c_put (by assumption) (by decide)) rfl rfl (Nat.le_of_ble_eq_true rfl) ⟨by decide, by decide, by decide, by decide⟩ ?_
    refine a_aload_n X dX7_append_25 rfl ?_
    refine a_dup X dX7_append_26 rfl ?_
    refine a_geti X lf7_91 (by assumption) rfl dX7_append_27 ?_
    refine a_iconst (v := 1) X dX7_append_30 (by decide) ?_
    refine a_iadd X dX7_append_31 ?_
    refine a_puti X lf7_91 (by assumption) rfl dX7_append_32 ?_
    refine a_iinc (v := 16) X dX7_append_35 (by decide) rfl (by decide) ?_
    refine a_goto (tgt := 3) X dX7_append_38 (by decide) ?_
    exact Zw.to (L1 _ (by rw [zu_eq]; show zwr M2 (P + 1) 700 _ _ P 1 + 1 = _; rw [zwr_row (by omega), i1, Int32.add_assoc, nI_1]) (fun a q1 q2 => by rw [zu_row q1]; show zwr M2 (P + 1) 700 _ _ a = _; rw [zwr_row q2]; exact i2 a q1 q2)) rfl rfl
  refine a_bipush (v := 24) X dX7_append_0 (by decide) ?_
  refine a_istore_n X dX7_append_2 (by decide) ?_
  exact Zw.to (L0 S.2.1 (by show _ = S.2.1 P 1 + 0; rw [Int32.add_zero]) (fun _ _ _ => rfl)) rfl rfl
set_option maxRecDepth 100000 in
theorem c_changed0 {l : Launch} {G : zG} {b : Nat} {S : zS} {P : Nat} {w : Int32} (hT : LX7 S.1 P) (h0 : S.2.1 (P + 17) 0 = 0) (h1 : S.2.1 (P + 17) 1 = 0) (h2 : S.2.1 (P + 17) 2 = 0) : zM l G b yX7_changed cX7_changed 2 (some .int) 3 0 0 [.ref P, .int w] S (fun r z => ∃ M', r = some (.int w) ∧ z = (S.1, M', S.2.2) ∧ ∀ a, P + 200 ≤ a → M' a = S.2.1 a) := by
  refine zM.of miX7_changed (Nat.le_of_ble_eq_true rfl) ?_
  intro p e s m args below meth c X hr hname
  generalize hF : ((fun r z => ∃ M', r = some (.int w) ∧ z = (S.1, M', S.2.2) ∧ ∀ a, P + 200 ≤ a → M' a = S.2.1 a) : Option Value → zS → Prop) = FQ
  change Zw p l e { frames := 3, cells := 0, slots := 0, locals := 80 * 3 } s m args below meth c G b 2 (MQ below (zQ G b FQ) args s 0 0 (fun q : Nat => b ≤ q)) 0 0 0 [some (.ref P), some (.int w)] [] S
  obtain ⟨lt, o, tape, out, reader, list, past, pool, result, odds, paper, trial, trialPool, trialResult, trialOdds⟩ := id hT
  have ho := pool.2.1
  refine a_aload_n X dX7_changed_0 rfl ?_
  refine a_getr X lf7_40 (by assumption) rfl (by omega) dX7_changed_1 ?_
  refine a_aload_n X dX7_changed_4 rfl ?_
  refine a_getr X lf7_26 (by assumption) rfl (by omega) dX7_changed_5 ?_
  refine a_callVu X dX7_changed_8 miX2_gather lm7_80 (c_gather0 (by assumption) (by assumption) (by assumption) (by assumption) (by assumption) (by omega)) (by assumption) rfl rfl rfl (Nat.le_of_ble_eq_true rfl) ⟨by decide, by decide, by decide, by decide⟩ ?_
  refine a_aload_n X dX7_changed_11 rfl ?_
  refine a_iconst (v := 0) X dX7_changed_12 (by decide) ?_
  refine a_putz X (by first | exact Or.inl rfl | exact Or.inr rfl | assumption) lf7_368 (by assumption) rfl dX7_changed_13 ?_
  refine a_aload_n X dX7_changed_16 rfl ?_
  refine a_iload_n X dX7_changed_17 rfl ?_
  refine a_callVv X dX7_changed_18 miX7_answer lm7_134 (c_answer (by assumption)) (by assumption) rfl rfl rfl (Nat.le_of_ble_eq_true rfl) ⟨by decide, by decide, by decide, by decide⟩ ?_
  refine a_iret X hr dX7_changed_21 ⟨by decide, by decide⟩ ?_
  subst hF
  exact ⟨_, rfl, rfl, fun a ha => by dsimp only; repeat rw [zu_row (by omega)]⟩
set_option maxRecDepth 100000 in
theorem c_reckonT0 {l : Launch} {G : zG} {b : Nat} {S : zS} {P : Nat} (hE : zE7 S P) : zM l G b yX7_reckon cX7_reckon 1 none 4 0 0 [.ref P] S (fun r z => ∃ M' N', r = none ∧ z = (S.1, M', N') ∧ z10 (M' (P + 114)) ∧ ∀ a, a ≠ P → a ≠ P + 114 → M' a = S.2.1 a) := by
  refine zM.of miX7_reckon (Nat.le_of_ble_eq_true rfl) ?_
  intro p e s m args below meth c X hr hname
  generalize hF : ((fun r z => ∃ M' N', r = none ∧ z = (S.1, M', N') ∧ z10 (M' (P + 114)) ∧ ∀ a, a ≠ P → a ≠ P + 114 → M' a = S.2.1 a) : Option Value → zS → Prop) = FQ
  change Zw p l e { frames := 4, cells := 0, slots := 0, locals := 80 * 4 } s m args below meth c G b 1 (MQ below (zQ G b FQ) args s 0 0 (fun q : Nat => b ≤ q)) 0 0 0 [some (.ref P)] [] S
  obtain ⟨hT, e_st, e_tl, e_ol, e_rk, e_rf, e_rp, e_l0, e_l1, e_l2, e_l3, e_l4, e_l5, e_l6, e_lq, e_lg, e_a0, e_a1, e_o0, e_o1, e_o2, e_o3⟩ := hE
  obtain ⟨lt, o, tape, out, reader, list, past, pool, result, odds, paper, trial, trialPool, trialResult, trialOdds⟩ := id hT
  have ho := odds.2.1
  have hp := pool.2.1
  refine a_aload_n X dX7_reckon_0 rfl ?_
  refine a_geti X lf7_368 (by assumption) rfl dX7_reckon_1 ?_
  refine a_if_ne (tgt := 23) X dX7_reckon_4 (by decide) (fun h_4 => absurd (by exact e_rk) h_4) (fun h_4 => ?_)
  refine a_aload_n X dX7_reckon_7 rfl ?_
  refine a_getr X lf7_54 (by assumption) rfl (by omega) dX7_reckon_8 ?_
  refine a_aload_n X dX7_reckon_11 rfl ?_
  refine a_getr X lf7_40 (by assumption) rfl (by omega) dX7_reckon_12 ?_
  refine a_callVx X dX7_reckon_15 miX0_reckon lm7_339 (c_reckon0 (by omega) (by assumption) (by assumption) (by assumption) (by assumption) (by assumption)) (by assumption) rfl rfl rfl (Nat.le_of_ble_eq_true rfl) ⟨by decide, by decide, by decide, by decide⟩ (fun r_15 S_15 q_15 => ?_)
  obtain ⟨M_15, N_15, rfl, rfl, h0_15, h1_15, h2_15⟩ := q_15
  refine a_aload_n X dX7_reckon_18 rfl ?_
  refine a_iconst (v := 1) X dX7_reckon_19 (by decide) ?_
  refine a_putz X (by first | exact Or.inl rfl | exact Or.inr rfl | assumption) lf7_368 (by assumption) rfl dX7_reckon_20 ?_
  refine a_vret X hr dX7_reckon_23 ⟨by decide, by decide⟩ ?_
  subst hF
  exact ⟨_, _, rfl, rfl, ⟨by rw [zu_row (by omega)]; exact h1_15, fun j q1 q2 => by rw [zu_row (by omega)]; exact h2_15 j q1 q2⟩, fun a q1 q2 => by rw [zu_row (by omega)]; exact h0_15 a (by omega)⟩
set_option maxRecDepth 100000 in
theorem f_status {l : Launch} {G : zG} {b : Nat} {S : zS} {P : Nat}  (hE : zE7 S P) : zM l G b yX7_status cX7_status 1 (some .int) 0 0 0 [.ref P] S (fun r z => r = some (.int (0)) ∧ z.1 = S.1 ∧ ∀ a, P + 200 ≤ a → z.2.1 a = S.2.1 a) := by
  refine zM.of miX7_status (Nat.le_of_ble_eq_true rfl) ?_
  intro p e s m args below meth c X hr hname
  generalize hF : ((fun r z => r = some (.int (0)) ∧ z.1 = S.1 ∧ ∀ a, P + 200 ≤ a → z.2.1 a = S.2.1 a) : Option Value → zS → Prop) = FQ
  change Zw p l e { frames := 0, cells := 0, slots := 0, locals := 80 * 0 } s m args below meth c G b 1 (MQ below (zQ G b FQ) args s 0 0 (fun q : Nat => b ≤ q)) 0 0 0 [some (.ref P)] [] S
  have hE9 := hE
  obtain ⟨hT, e_st, e_tl, e_ol, e_rk, e_rf, e_rp, e_l0, e_l1, e_l2, e_l3, e_l4, e_l5, e_l6, e_lq, e_lg, e_a0, e_a1, e_o0, e_o1, e_o2, e_o3⟩ := hE
  obtain ⟨lt, o, tape, out, reader, list, past, pool, result, odds, paper, trial, trialPool, trialResult, trialOdds⟩ := id hT
  have o_list := list.2.1
  have o_pool := pool.2.1
  have o_rd := reader.2.1
  have o_res := result.2.1
  have o_odds := odds.2.1
  have o_past := past.2.1
  have o_pap := paper.2.1
  refine a_aload_n X dX7_status_0 rfl ?_
  refine a_geti X lf7_88 (by assumption) rfl dX7_status_1 ?_
  refine a_iret X hr dX7_status_4 ⟨by decide, by decide⟩ ?_
  subst hF
  refine ⟨?_, rfl, fun a ha => ?_⟩
  · show some (Value.int (S.2.1 P 0)) = _
    rw [e_st]
  · dsimp only
    repeat first | rw [zu_row (by omega)] | rw [zfil_row (by omega)] | rw [zcpy_row (by omega)] | rw [zwr_row (by omega)] | dsimp only
set_option maxRecDepth 100000 in
theorem f_feed {l : Launch} {G : zG} {b : Nat} {S : zS} {P : Nat} {va : Int32} {vb : Int32} {vc : Int32} {vd : Int32} {ve : Int32} (hE : zE7 S P) : zM l G b yX7_feed cX7_feed 6 (some .int) 2 0 0 [.ref P, .int va, .int vb, .int vc, .int vd, .int ve] S (fun r z => r = some (.int (20)) ∧ z.1 = S.1 ∧ ∀ a, P + 200 ≤ a → z.2.1 a = S.2.1 a) := by
  refine zM.of miX7_feed (Nat.le_of_ble_eq_true rfl) ?_
  intro p e s m args below meth c X hr hname
  generalize hF : ((fun r z => r = some (.int (20)) ∧ z.1 = S.1 ∧ ∀ a, P + 200 ≤ a → z.2.1 a = S.2.1 a) : Option Value → zS → Prop) = FQ
  change Zw p l e { frames := 2, cells := 0, slots := 0, locals := 80 * 2 } s m args below meth c G b 6 (MQ below (zQ G b FQ) args s 0 0 (fun q : Nat => b ≤ q)) 0 0 0 [some (.ref P), some (.int va), some (.int vb), some (.int vc), some (.int vd), some (.int ve)] [] S
  have hE9 := hE
  obtain ⟨hT, e_st, e_tl, e_ol, e_rk, e_rf, e_rp, e_l0, e_l1, e_l2, e_l3, e_l4, e_l5, e_l6, e_lq, e_lg, e_a0, e_a1, e_o0, e_o1, e_o2, e_o3⟩ := hE
  obtain ⟨lt, o, tape, out, reader, list, past, pool, result, odds, paper, trial, trialPool, trialResult, trialOdds⟩ := id hT
  have o_list := list.2.1
  have o_pool := pool.2.1
  have o_rd := reader.2.1
  have o_res := result.2.1
  have o_odds := odds.2.1
  have o_past := past.2.1
  have o_pap := paper.2.1
  refine a_aload_n X dX7_feed_0 rfl ?_
  refine a_geti X lf7_91 (by assumption) rfl dX7_feed_1 ?_
  refine a_bipush (v := 20) X dX7_feed_4 (by decide) ?_
  refine a_iadd X dX7_feed_6 ?_
  refine a_sipush (v := 700) X dX7_feed_7 (by decide) ?_
  refine a_icmp_le (tgt := 15) X dX7_feed_10 (by decide) (fun h_10 => ?_) (fun h_10 => absurd (by show S.2.1 P 1 + 20 ≤ 700; rw [e_tl]; decide) h_10)
  refine a_aload_n X dX7_feed_15 rfl ?_
  refine a_iload_n X dX7_feed_16 rfl ?_
  refine a_callVx X dX7_feed_17 miX7_append lm7_94 (c_append0 (by assumption)) (by assumption) rfl rfl rfl (Nat.le_of_ble_eq_true rfl) ⟨by decide, by decide, by decide, by decide⟩ (fun r_17 S_17 q_17 => ?_)
  obtain ⟨M_17, rfl, rfl, q_17, f_17⟩ := q_17
  refine a_aload_n X dX7_feed_20 rfl ?_
  refine a_iload_n X dX7_feed_21 rfl ?_
  refine a_callVx X dX7_feed_22 miX7_append lm7_94 (c_append0 (by assumption)) (by assumption) rfl rfl rfl (Nat.le_of_ble_eq_true rfl) ⟨by decide, by decide, by decide, by decide⟩ (fun r_22 S_22 q_22 => ?_)
  obtain ⟨M_22, rfl, rfl, q_22, f_22⟩ := q_22
  refine a_aload_n X dX7_feed_25 rfl ?_
  refine a_iload_n X dX7_feed_26 rfl ?_
  refine a_callVx X dX7_feed_27 miX7_append lm7_94 (c_append0 (by assumption)) (by assumption) rfl rfl rfl (Nat.le_of_ble_eq_true rfl) ⟨by decide, by decide, by decide, by decide⟩ (fun r_27 S_27 q_27 => ?_)
  obtain ⟨M_27, rfl, rfl, q_27, f_27⟩ := q_27
  refine a_aload_n X dX7_feed_30 rfl ?_
  refine a_iload X dX7_feed_31 rfl ?_
  refine a_callVx X dX7_feed_33 miX7_append lm7_94 (c_append0 (by assumption)) (by assumption) rfl rfl rfl (Nat.le_of_ble_eq_true rfl) ⟨by decide, by decide, by decide, by decide⟩ (fun r_33 S_33 q_33 => ?_)
  obtain ⟨M_33, rfl, rfl, q_33, f_33⟩ := q_33
  refine a_aload_n X dX7_feed_36 rfl ?_
  refine a_iload X dX7_feed_37 rfl ?_
  refine a_callVx X dX7_feed_39 miX7_append lm7_94 (c_append0 (by assumption)) (by assumption) rfl rfl rfl (Nat.le_of_ble_eq_true rfl) ⟨by decide, by decide, by decide, by decide⟩ (fun r_39 S_39 q_39 => ?_)
  obtain ⟨M_39, rfl, rfl, q_39, f_39⟩ := q_39
  refine a_aload_n X dX7_feed_42 rfl ?_
  refine a_geti X lf7_91 (by assumption) rfl dX7_feed_43 ?_
  refine a_iret X hr dX7_feed_46 ⟨by decide, by decide⟩ ?_
  subst hF
  refine ⟨?_, rfl, fun a ha => ?_⟩
  · show some (Value.int (M_39 P 1)) = _
    rw [show M_39 P 1 = M_33 P 1 + nI 4 from q_39, show M_33 P 1 = M_27 P 1 + nI 4 from q_33, show M_27 P 1 = M_22 P 1 + nI 4 from q_27, show M_22 P 1 = M_17 P 1 + nI 4 from q_22, show M_17 P 1 = S.2.1 P 1 + nI 4 from q_17, e_tl]
    rfl
  · dsimp only
    repeat first | rw [zu_row (by omega)] | rw [zfil_row (by omega)] | rw [zcpy_row (by omega)] | rw [zwr_row (by omega)] | rw [q_17 a (by omega) (by omega)] | rw [q_17 a (by omega)] | rw [f_17 a (by omega) (by omega)] | rw [f_17 a (by omega)] | rw [q_22 a (by omega) (by omega)] | rw [q_22 a (by omega)] | rw [f_22 a (by omega) (by omega)] | rw [f_22 a (by omega)] | rw [q_27 a (by omega) (by omega)] | rw [q_27 a (by omega)] | rw [f_27 a (by omega) (by omega)] | rw [f_27 a (by omega)] | rw [q_33 a (by omega) (by omega)] | rw [q_33 a (by omega)] | rw [f_33 a (by omega) (by omega)] | rw [f_33 a (by omega)] | rw [q_39 a (by omega) (by omega)] | rw [q_39 a (by omega)] | rw [f_39 a (by omega) (by omega)] | rw [f_39 a (by omega)] | dsimp only
set_option maxRecDepth 100000 in
theorem f_load {l : Launch} {G : zG} {b : Nat} {S : zS} {P : Nat} {n : Int32} (hE : zE7 S P) : zM l G b yX7_load cX7_load 3 (some .int) 5 0 0 [.ref P, .int n] S (fun r z => r = some (.int (fLoad n)) ∧ z.1 = S.1 ∧ ∀ a, P + 200 ≤ a → z.2.1 a = S.2.1 a) := by
  refine zM.of miX7_load (Nat.le_of_ble_eq_true rfl) ?_
  intro p e s m args below meth c X hr hname
  generalize hF : ((fun r z => r = some (.int (fLoad n)) ∧ z.1 = S.1 ∧ ∀ a, P + 200 ≤ a → z.2.1 a = S.2.1 a) : Option Value → zS → Prop) = FQ
  change Zw p l e { frames := 5, cells := 0, slots := 0, locals := 80 * 5 } s m args below meth c G b 3 (MQ below (zQ G b FQ) args s 0 0 (fun q : Nat => b ≤ q)) 0 0 0 [some (.ref P), some (.int n), none] [] S
  have hE9 := hE
  obtain ⟨hT, e_st, e_tl, e_ol, e_rk, e_rf, e_rp, e_l0, e_l1, e_l2, e_l3, e_l4, e_l5, e_l6, e_lq, e_lg, e_a0, e_a1, e_o0, e_o1, e_o2, e_o3⟩ := hE
  obtain ⟨lt, o, tape, out, reader, list, past, pool, result, odds, paper, trial, trialPool, trialResult, trialOdds⟩ := id hT
  have o_list := list.2.1
  have o_pool := pool.2.1
  have o_rd := reader.2.1
  have o_res := result.2.1
  have o_odds := odds.2.1
  have o_past := past.2.1
  have o_pap := paper.2.1
  refine a_iload_n X dX7_load_0 rfl ?_
  refine a_if_lt (tgt := 12) X dX7_load_1 (by decide) (fun h_1 => ?_) (fun h_1 => ?_)
  · refine a_aload_n X dX7_load_12 rfl ?_
    refine a_iconst (v := 1) X dX7_load_13 (by decide) ?_
    refine a_callVv X dX7_load_14 miX7_refuse lm7_102 (c_refuse (by assumption)) (by assumption) rfl rfl rfl (Nat.le_of_ble_eq_true rfl) ⟨by decide, by decide, by decide, by decide⟩ ?_
    refine a_iret X hr dX7_load_17 ⟨by decide, by decide⟩ ?_
    subst hF
    refine ⟨?_, rfl, fun a ha => ?_⟩
    · first | (show some (Value.int _) = some (Value.int (fLoad 0)); simp [zu, u1, fLoad]; done) | (show some (Value.int (-1)) = some (Value.int (fLoad n)); unfold fLoad; rw [if_neg]; intro q; subst q; first | exact absurd h_1 (by decide) | exact absurd (by show (0 : Int32) ≤ S.2.1 P 1; rw [e_tl]; decide) h_9)
    · dsimp only
      repeat first | rw [zu_row (by omega)] | rw [zfil_row (by omega)] | rw [zcpy_row (by omega)] | rw [zwr_row (by omega)] | rw [q0_27 a (by omega) (by omega)] | rw [q0_27 a (by omega)] | rw [q1_27 a (by omega) (by omega)] | rw [q1_27 a (by omega)] | rw [q2_27 a (by omega) (by omega)] | rw [q2_27 a (by omega)] | rw [q3_27 a (by omega) (by omega)] | rw [q3_27 a (by omega)] | rw [q0_58 a (by omega) (by omega)] | rw [q0_58 a (by omega)] | rw [f_76 a (by omega) (by omega)] | rw [f_76 a (by omega)] | dsimp only
  · refine a_iload_n X dX7_load_4 rfl ?_
    refine a_aload_n X dX7_load_5 rfl ?_
    refine a_geti X lf7_91 (by assumption) rfl dX7_load_6 ?_
    refine a_icmp_le (tgt := 18) X dX7_load_9 (by decide) (fun h_9 => ?_) (fun h_9 => ?_)
    · have hn0 : n = 0 := by
        have h9 : n ≤ S.2.1 P 1 := h_9
        rw [e_tl] at h9
        exact Int32.le_antisymm h9 (Int32.not_lt.mp h_1)
      subst hn0
      refine a_aload_n X dX7_load_18 rfl ?_
      refine a_getr X lf7_19 (by assumption) rfl (by omega) dX7_load_19 ?_
      refine a_aload_n X dX7_load_22 rfl ?_
      refine a_getr X lf7_9 (by assumption) rfl (by omega) dX7_load_23 ?_
      refine a_iload_n X dX7_load_26 rfl ?_
      refine a_callVx X dX7_load_27 miX3_read lm7_106 (c_read0 (by assumption) (by assumption) (by omega)) (by assumption) rfl rfl rfl (Nat.le_of_ble_eq_true rfl) ⟨by decide, by decide, by decide, by decide⟩ (fun r_27 S_27 q_27 => ?_)
      obtain ⟨M_27, rfl, rfl, q0_27, q1_27, q2_27, q3_27⟩ := q_27
      refine a_istore_n X dX7_load_30 (by decide) ?_
      refine a_aload_n X dX7_load_31 rfl ?_
      refine a_iconst (v := 0) X dX7_load_32 (by decide) ?_
      refine a_puti X lf7_91 (by assumption) rfl dX7_load_33 ?_
      refine a_iload_n X dX7_load_36 rfl ?_
      refine a_if_ne (tgt := 47) X dX7_load_37 (by decide) (fun h_37 => ?_) (fun h_37 => absurd h_37 (by decide))
      refine a_aload_n X dX7_load_47 rfl ?_
      refine a_getr X lf7_26 (by assumption) rfl (by omega) dX7_load_48 ?_
      refine a_aload_n X dX7_load_51 rfl ?_
      refine a_getr X lf7_19 (by assumption) rfl (by omega) dX7_load_52 ?_
      refine a_getr X lf7_110 (by assumption) rfl (by omega) dX7_load_55 ?_
      refine a_callVx X dX7_load_58 miX4_take lm7_113 (c_take (by assumption) (by exact reader.2.2.1) (by omega)) (by assumption) rfl rfl rfl (Nat.le_of_ble_eq_true rfl) ⟨by decide, by decide, by decide, by decide⟩ (fun r_58 S_58 q_58 => ?_)
      obtain ⟨M_58, rfl, rfl, q0_58, t0_58, t1_58, t2_58, _⟩ := q_58
      have u0 : M_58 (P + 17) 0 = 0 := by rw [t0_58]; show zu M_27 P 1 0 (P + 4) 0 = 0; rw [zu_row (by omega)]; exact q1_27
      have u1 : M_58 (P + 17) 1 = 0 := by rw [t1_58]; show zu M_27 P 1 0 (P + 4) 1 = 0; rw [zu_row (by omega)]; exact q2_27
      have u2 : M_58 (P + 17) 2 = 0 := by rw [t2_58]; show zu M_27 P 1 0 (P + 4) 2 = 0; rw [zu_row (by omega)]; exact q3_27
      refine a_aload_n X dX7_load_61 rfl ?_
      refine a_getr X lf7_33 (by assumption) rfl (by omega) dX7_load_62 ?_
      refine a_callVu X dX7_load_65 miX1_forget lm7_116 (c_forget (by assumption)) (by assumption) rfl rfl rfl (Nat.le_of_ble_eq_true rfl) ⟨by decide, by decide, by decide, by decide⟩ ?_
      refine a_aload_n X dX7_load_68 rfl ?_
      refine a_aload_n X dX7_load_69 rfl ?_
      refine a_getr X lf7_26 (by assumption) rfl (by omega) dX7_load_70 ?_
      refine a_geti X lf7_119 (by assumption) rfl dX7_load_73 ?_
      refine a_callVx X dX7_load_76 miX7_changed lm7_122 (c_changed0 hT (by simp [zu, u0]) (by simp [zu, u1]) (by simp [zu, u2])) (by assumption) rfl rfl rfl (Nat.le_of_ble_eq_true rfl) ⟨by decide, by decide, by decide, by decide⟩ (fun r_76 S_76 q_76 => ?_)
      obtain ⟨M_76, rfl, rfl, f_76⟩ := q_76
      refine a_iret X hr dX7_load_79 ⟨by decide, by decide⟩ ?_
      subst hF
      refine ⟨?_, rfl, fun a ha => ?_⟩
      · first | (show some (Value.int _) = some (Value.int (fLoad 0)); simp [zu, u1, fLoad]; done) | (show some (Value.int (-1)) = some (Value.int (fLoad n)); unfold fLoad; rw [if_neg]; intro q; subst q; first | exact absurd h_1 (by decide) | exact absurd (by show (0 : Int32) ≤ S.2.1 P 1; rw [e_tl]; decide) h_9)
      · dsimp only
        repeat first | rw [zu_row (by omega)] | rw [zfil_row (by omega)] | rw [zcpy_row (by omega)] | rw [zwr_row (by omega)] | rw [q0_27 a (by omega) (by omega)] | rw [q0_27 a (by omega)] | rw [q1_27 a (by omega) (by omega)] | rw [q1_27 a (by omega)] | rw [q2_27 a (by omega) (by omega)] | rw [q2_27 a (by omega)] | rw [q3_27 a (by omega) (by omega)] | rw [q3_27 a (by omega)] | rw [q0_58 a (by omega) (by omega)] | rw [q0_58 a (by omega)] | rw [f_76 a (by omega) (by omega)] | rw [f_76 a (by omega)] | dsimp only
    · refine a_aload_n X dX7_load_12 rfl ?_
      refine a_iconst (v := 1) X dX7_load_13 (by decide) ?_
      refine a_callVv X dX7_load_14 miX7_refuse lm7_102 (c_refuse (by assumption)) (by assumption) rfl rfl rfl (Nat.le_of_ble_eq_true rfl) ⟨by decide, by decide, by decide, by decide⟩ ?_
      refine a_iret X hr dX7_load_17 ⟨by decide, by decide⟩ ?_
      subst hF
      refine ⟨?_, rfl, fun a ha => ?_⟩
      · first | (show some (Value.int _) = some (Value.int (fLoad 0)); simp [zu, u1, fLoad]; done) | (show some (Value.int (-1)) = some (Value.int (fLoad n)); unfold fLoad; rw [if_neg]; intro q; subst q; first | exact absurd h_1 (by decide) | exact absurd (by show (0 : Int32) ≤ S.2.1 P 1; rw [e_tl]; decide) h_9)
      · dsimp only
        repeat first | rw [zu_row (by omega)] | rw [zfil_row (by omega)] | rw [zcpy_row (by omega)] | rw [zwr_row (by omega)] | rw [q0_27 a (by omega) (by omega)] | rw [q0_27 a (by omega)] | rw [q1_27 a (by omega) (by omega)] | rw [q1_27 a (by omega)] | rw [q2_27 a (by omega) (by omega)] | rw [q2_27 a (by omega)] | rw [q3_27 a (by omega) (by omega)] | rw [q3_27 a (by omega)] | rw [q0_58 a (by omega) (by omega)] | rw [q0_58 a (by omega)] | rw [f_76 a (by omega) (by omega)] | rw [f_76 a (by omega)] | dsimp only
set_option maxRecDepth 100000 in
theorem f_fault {l : Launch} {G : zG} {b : Nat} {S : zS} {P : Nat} {w : Int32} (hE : zE7 S P) : zM l G b yX7_fault cX7_fault 2 (some .int) 0 0 0 [.ref P, .int w] S (fun r z => r = some (.int (-1)) ∧ z.1 = S.1 ∧ ∀ a, P + 200 ≤ a → z.2.1 a = S.2.1 a) := by
  refine zM.of miX7_fault (Nat.le_of_ble_eq_true rfl) ?_
  intro p e s m args below meth c X hr hname
  generalize hF : ((fun r z => r = some (.int (-1)) ∧ z.1 = S.1 ∧ ∀ a, P + 200 ≤ a → z.2.1 a = S.2.1 a) : Option Value → zS → Prop) = FQ
  change Zw p l e { frames := 0, cells := 0, slots := 0, locals := 80 * 0 } s m args below meth c G b 2 (MQ below (zQ G b FQ) args s 0 0 (fun q : Nat => b ≤ q)) 0 0 0 [some (.ref P), some (.int w)] [] S
  have hE9 := hE
  obtain ⟨hT, e_st, e_tl, e_ol, e_rk, e_rf, e_rp, e_l0, e_l1, e_l2, e_l3, e_l4, e_l5, e_l6, e_lq, e_lg, e_a0, e_a1, e_o0, e_o1, e_o2, e_o3⟩ := hE
  obtain ⟨lt, o, tape, out, reader, list, past, pool, result, odds, paper, trial, trialPool, trialResult, trialOdds⟩ := id hT
  have o_list := list.2.1
  have o_pool := pool.2.1
  have o_rd := reader.2.1
  have o_res := result.2.1
  have o_odds := odds.2.1
  have o_past := past.2.1
  have o_pap := paper.2.1
  refine a_iload_n X dX7_fault_0 rfl ?_
  refine a_if_ne (tgt := 12) X dX7_fault_1 (by decide) (fun h_1 => ?_) (fun h_1 => ?_)
  · refine a_iload_n X dX7_fault_12 rfl ?_
    refine a_iconst (v := 1) X dX7_fault_13 (by decide) ?_
    refine a_icmp_ne (tgt := 27) X dX7_fault_14 (by decide) (fun h_14 => ?_) (fun h_14 => ?_)
    · refine a_iconst (v := -1) X dX7_fault_27 (by decide) ?_
      refine a_iret X hr dX7_fault_28 ⟨by decide, by decide⟩ ?_
      subst hF
      refine ⟨?_, rfl, fun a ha => ?_⟩
      · first | rfl | (show some (Value.int (S.2.1 (P + 3) 2)) = _; rw [e_rp])
      · dsimp only
        repeat first | rw [zu_row (by omega)] | rw [zfil_row (by omega)] | rw [zcpy_row (by omega)] | rw [zwr_row (by omega)] | dsimp only
    · refine a_aload_n X dX7_fault_17 rfl ?_
      refine a_getr X lf7_19 (by assumption) rfl (by omega) dX7_fault_18 ?_
      refine a_geti X lf7_128 (by assumption) rfl dX7_fault_21 ?_
      refine a_goto (tgt := 28) X dX7_fault_24 (by decide) ?_
      refine a_iret X hr dX7_fault_28 ⟨by decide, by decide⟩ ?_
      subst hF
      refine ⟨?_, rfl, fun a ha => ?_⟩
      · first | rfl | (show some (Value.int (S.2.1 (P + 3) 2)) = _; rw [e_rp])
      · dsimp only
        repeat first | rw [zu_row (by omega)] | rw [zfil_row (by omega)] | rw [zcpy_row (by omega)] | rw [zwr_row (by omega)] | dsimp only
  · refine a_aload_n X dX7_fault_4 rfl ?_
    refine a_getr X lf7_19 (by assumption) rfl (by omega) dX7_fault_5 ?_
    refine a_geti X lf7_125 (by assumption) rfl dX7_fault_8 ?_
    refine a_iret X hr dX7_fault_11 ⟨by decide, by decide⟩ ?_
    subst hF
    refine ⟨?_, rfl, fun a ha => ?_⟩
    · show some (Value.int (S.2.1 (P + 3) 1)) = _
      rw [e_rf]
    · dsimp only
      repeat first | rw [zu_row (by omega)] | rw [zfil_row (by omega)] | rw [zcpy_row (by omega)] | rw [zwr_row (by omega)] | dsimp only
set_option maxRecDepth 100000 in
theorem f_many {l : Launch} {G : zG} {b : Nat} {S : zS} {P : Nat} {w : Int32} (hE : zE7 S P) : zM l G b yX7_many cX7_many 2 (some .int) 2 0 0 [.ref P, .int w] S (fun r z => r = some (.int (fMany w)) ∧ z.1 = S.1 ∧ ∀ a, P + 200 ≤ a → z.2.1 a = S.2.1 a) := by
  refine zM.of miX7_many (Nat.le_of_ble_eq_true rfl) ?_
  intro p e s m args below meth c X hr hname
  generalize hF : ((fun r z => r = some (.int (fMany w)) ∧ z.1 = S.1 ∧ ∀ a, P + 200 ≤ a → z.2.1 a = S.2.1 a) : Option Value → zS → Prop) = FQ
  change Zw p l e { frames := 2, cells := 0, slots := 0, locals := 80 * 2 } s m args below meth c G b 2 (MQ below (zQ G b FQ) args s 0 0 (fun q : Nat => b ≤ q)) 0 0 0 [some (.ref P), some (.int w)] [] S
  have hE9 := hE
  obtain ⟨hT, e_st, e_tl, e_ol, e_rk, e_rf, e_rp, e_l0, e_l1, e_l2, e_l3, e_l4, e_l5, e_l6, e_lq, e_lg, e_a0, e_a1, e_o0, e_o1, e_o2, e_o3⟩ := hE
  obtain ⟨lt, o, tape, out, reader, list, past, pool, result, odds, paper, trial, trialPool, trialResult, trialOdds⟩ := id hT
  have o_list := list.2.1
  have o_pool := pool.2.1
  have o_rd := reader.2.1
  have o_res := result.2.1
  have o_odds := odds.2.1
  have o_past := past.2.1
  have o_pap := paper.2.1
  refine a_iload_n X dX7_many_0 rfl ?_
  refine a_tsw (tg := [60, 72, 84, 96, 108, 120, 132, 144, 156, 168, 183]) (td := 198) X dX7_many_1 (by decide +kernel) (by decide) (by decide) (fun k_1 t_1 ht_1 hx_1 => ?_) (fun h_1 => ?_)
  · match k_1, ht_1, hx_1 with
    | 0, ht_1, hx_1 =>
      cases ht_1
      refine a_aload_n X dX7_many_60 rfl ?_
      refine a_aload_n X dX7_many_61 rfl ?_
      refine a_getr X lf7_26 (by assumption) rfl (by omega) dX7_many_62 ?_
      refine a_geti X lf7_131 (by assumption) rfl dX7_many_65 ?_
      refine a_callVv X dX7_many_68 miX7_answer lm7_134 (c_answer (by assumption)) (by assumption) rfl rfl rfl (Nat.le_of_ble_eq_true rfl) ⟨by decide, by decide, by decide, by decide⟩ ?_
      refine a_iret X hr dX7_many_71 ⟨by decide, by decide⟩ ?_
      subst hF
      refine ⟨?_, rfl, fun a ha => ?_⟩
      · first | (show some (Value.int (-1)) = some (Value.int (fMany w)); unfold fMany; rw [if_neg (by omega), if_neg (by omega)]; done) | (show some (Value.int _) = some (Value.int (fMany w)); unfold fMany; first | (rw [if_neg (by omega), if_pos (by omega)]; first | rw [e_l0] | rw [e_l1] | rw [e_l2] | rw [e_l3] | rw [e_l4] | rw [e_l6] | rw [e_o1] | rw [e_a0] | rw [zsum_0 e_lq] | rw [zsum_0 e_lg]) | (rw [if_pos (by omega), e_l5]))
      · dsimp only
        repeat first | rw [zu_row (by omega)] | rw [zfil_row (by omega)] | rw [zcpy_row (by omega)] | rw [zwr_row (by omega)] | dsimp only
    | 1, ht_1, hx_1 =>
      cases ht_1
      refine a_aload_n X dX7_many_72 rfl ?_
      refine a_aload_n X dX7_many_73 rfl ?_
      refine a_getr X lf7_26 (by assumption) rfl (by omega) dX7_many_74 ?_
      refine a_geti X lf7_119 (by assumption) rfl dX7_many_77 ?_
      refine a_callVv X dX7_many_80 miX7_answer lm7_134 (c_answer (by assumption)) (by assumption) rfl rfl rfl (Nat.le_of_ble_eq_true rfl) ⟨by decide, by decide, by decide, by decide⟩ ?_
      refine a_iret X hr dX7_many_83 ⟨by decide, by decide⟩ ?_
      subst hF
      refine ⟨?_, rfl, fun a ha => ?_⟩
      · first | (show some (Value.int (-1)) = some (Value.int (fMany w)); unfold fMany; rw [if_neg (by omega), if_neg (by omega)]; done) | (show some (Value.int _) = some (Value.int (fMany w)); unfold fMany; first | (rw [if_neg (by omega), if_pos (by omega)]; first | rw [e_l0] | rw [e_l1] | rw [e_l2] | rw [e_l3] | rw [e_l4] | rw [e_l6] | rw [e_o1] | rw [e_a0] | rw [zsum_0 e_lq] | rw [zsum_0 e_lg]) | (rw [if_pos (by omega), e_l5]))
      · dsimp only
        repeat first | rw [zu_row (by omega)] | rw [zfil_row (by omega)] | rw [zcpy_row (by omega)] | rw [zwr_row (by omega)] | dsimp only
    | 2, ht_1, hx_1 =>
      cases ht_1
      refine a_aload_n X dX7_many_84 rfl ?_
      refine a_aload_n X dX7_many_85 rfl ?_
      refine a_getr X lf7_26 (by assumption) rfl (by omega) dX7_many_86 ?_
      refine a_geti X lf7_137 (by assumption) rfl dX7_many_89 ?_
      refine a_callVv X dX7_many_92 miX7_answer lm7_134 (c_answer (by assumption)) (by assumption) rfl rfl rfl (Nat.le_of_ble_eq_true rfl) ⟨by decide, by decide, by decide, by decide⟩ ?_
      refine a_iret X hr dX7_many_95 ⟨by decide, by decide⟩ ?_
      subst hF
      refine ⟨?_, rfl, fun a ha => ?_⟩
      · first | (show some (Value.int (-1)) = some (Value.int (fMany w)); unfold fMany; rw [if_neg (by omega), if_neg (by omega)]; done) | (show some (Value.int _) = some (Value.int (fMany w)); unfold fMany; first | (rw [if_neg (by omega), if_pos (by omega)]; first | rw [e_l0] | rw [e_l1] | rw [e_l2] | rw [e_l3] | rw [e_l4] | rw [e_l6] | rw [e_o1] | rw [e_a0] | rw [zsum_0 e_lq] | rw [zsum_0 e_lg]) | (rw [if_pos (by omega), e_l5]))
      · dsimp only
        repeat first | rw [zu_row (by omega)] | rw [zfil_row (by omega)] | rw [zcpy_row (by omega)] | rw [zwr_row (by omega)] | dsimp only
    | 3, ht_1, hx_1 =>
      cases ht_1
      refine a_aload_n X dX7_many_96 rfl ?_
      refine a_aload_n X dX7_many_97 rfl ?_
      refine a_getr X lf7_40 (by assumption) rfl (by omega) dX7_many_98 ?_
      refine a_geti X lf7_140 (by assumption) rfl dX7_many_101 ?_
      refine a_callVv X dX7_many_104 miX7_answer lm7_134 (c_answer (by assumption)) (by assumption) rfl rfl rfl (Nat.le_of_ble_eq_true rfl) ⟨by decide, by decide, by decide, by decide⟩ ?_
      refine a_iret X hr dX7_many_107 ⟨by decide, by decide⟩ ?_
      subst hF
      refine ⟨?_, rfl, fun a ha => ?_⟩
      · first | (show some (Value.int (-1)) = some (Value.int (fMany w)); unfold fMany; rw [if_neg (by omega), if_neg (by omega)]; done) | (show some (Value.int _) = some (Value.int (fMany w)); unfold fMany; first | (rw [if_neg (by omega), if_pos (by omega)]; first | rw [e_l0] | rw [e_l1] | rw [e_l2] | rw [e_l3] | rw [e_l4] | rw [e_l6] | rw [e_o1] | rw [e_a0] | rw [zsum_0 e_lq] | rw [zsum_0 e_lg]) | (rw [if_pos (by omega), e_l5]))
      · dsimp only
        repeat first | rw [zu_row (by omega)] | rw [zfil_row (by omega)] | rw [zcpy_row (by omega)] | rw [zwr_row (by omega)] | dsimp only
    | 4, ht_1, hx_1 =>
      cases ht_1
      refine a_aload_n X dX7_many_108 rfl ?_
      refine a_aload_n X dX7_many_109 rfl ?_
      refine a_getr X lf7_26 (by assumption) rfl (by omega) dX7_many_110 ?_
      refine a_geti X lf7_143 (by assumption) rfl dX7_many_113 ?_
      refine a_callVv X dX7_many_116 miX7_answer lm7_134 (c_answer (by assumption)) (by assumption) rfl rfl rfl (Nat.le_of_ble_eq_true rfl) ⟨by decide, by decide, by decide, by decide⟩ ?_
      refine a_iret X hr dX7_many_119 ⟨by decide, by decide⟩ ?_
      subst hF
      refine ⟨?_, rfl, fun a ha => ?_⟩
      · first | (show some (Value.int (-1)) = some (Value.int (fMany w)); unfold fMany; rw [if_neg (by omega), if_neg (by omega)]; done) | (show some (Value.int _) = some (Value.int (fMany w)); unfold fMany; first | (rw [if_neg (by omega), if_pos (by omega)]; first | rw [e_l0] | rw [e_l1] | rw [e_l2] | rw [e_l3] | rw [e_l4] | rw [e_l6] | rw [e_o1] | rw [e_a0] | rw [zsum_0 e_lq] | rw [zsum_0 e_lg]) | (rw [if_pos (by omega), e_l5]))
      · dsimp only
        repeat first | rw [zu_row (by omega)] | rw [zfil_row (by omega)] | rw [zcpy_row (by omega)] | rw [zwr_row (by omega)] | dsimp only
    | 5, ht_1, hx_1 =>
      cases ht_1
      refine a_aload_n X dX7_many_120 rfl ?_
      refine a_aload_n X dX7_many_121 rfl ?_
      refine a_getr X lf7_26 (by assumption) rfl (by omega) dX7_many_122 ?_
      refine a_geti X lf7_146 (by assumption) rfl dX7_many_125 ?_
      refine a_callVv X dX7_many_128 miX7_answer lm7_134 (c_answer (by assumption)) (by assumption) rfl rfl rfl (Nat.le_of_ble_eq_true rfl) ⟨by decide, by decide, by decide, by decide⟩ ?_
      refine a_iret X hr dX7_many_131 ⟨by decide, by decide⟩ ?_
      subst hF
      refine ⟨?_, rfl, fun a ha => ?_⟩
      · first | (show some (Value.int (-1)) = some (Value.int (fMany w)); unfold fMany; rw [if_neg (by omega), if_neg (by omega)]; done) | (show some (Value.int _) = some (Value.int (fMany w)); unfold fMany; first | (rw [if_neg (by omega), if_pos (by omega)]; first | rw [e_l0] | rw [e_l1] | rw [e_l2] | rw [e_l3] | rw [e_l4] | rw [e_l6] | rw [e_o1] | rw [e_a0] | rw [zsum_0 e_lq] | rw [zsum_0 e_lg]) | (rw [if_pos (by omega), e_l5]))
      · dsimp only
        repeat first | rw [zu_row (by omega)] | rw [zfil_row (by omega)] | rw [zcpy_row (by omega)] | rw [zwr_row (by omega)] | dsimp only
    | 6, ht_1, hx_1 =>
      cases ht_1
      refine a_aload_n X dX7_many_132 rfl ?_
      refine a_aload_n X dX7_many_133 rfl ?_
      refine a_getr X lf7_26 (by assumption) rfl (by omega) dX7_many_134 ?_
      refine a_geti X lf7_149 (by assumption) rfl dX7_many_137 ?_
      refine a_callVv X dX7_many_140 miX7_answer lm7_134 (c_answer (by assumption)) (by assumption) rfl rfl rfl (Nat.le_of_ble_eq_true rfl) ⟨by decide, by decide, by decide, by decide⟩ ?_
      refine a_iret X hr dX7_many_143 ⟨by decide, by decide⟩ ?_
      subst hF
      refine ⟨?_, rfl, fun a ha => ?_⟩
      · first | (show some (Value.int (-1)) = some (Value.int (fMany w)); unfold fMany; rw [if_neg (by omega), if_neg (by omega)]; done) | (show some (Value.int _) = some (Value.int (fMany w)); unfold fMany; first | (rw [if_neg (by omega), if_pos (by omega)]; first | rw [e_l0] | rw [e_l1] | rw [e_l2] | rw [e_l3] | rw [e_l4] | rw [e_l6] | rw [e_o1] | rw [e_a0] | rw [zsum_0 e_lq] | rw [zsum_0 e_lg]) | (rw [if_pos (by omega), e_l5]))
      · dsimp only
        repeat first | rw [zu_row (by omega)] | rw [zfil_row (by omega)] | rw [zcpy_row (by omega)] | rw [zwr_row (by omega)] | dsimp only
    | 7, ht_1, hx_1 =>
      cases ht_1
      refine a_aload_n X dX7_many_144 rfl ?_
      refine a_aload_n X dX7_many_145 rfl ?_
      refine a_getr X lf7_26 (by assumption) rfl (by omega) dX7_many_146 ?_
      refine a_geti X lf7_152 (by assumption) rfl dX7_many_149 ?_
      refine a_callVv X dX7_many_152 miX7_answer lm7_134 (c_answer (by assumption)) (by assumption) rfl rfl rfl (Nat.le_of_ble_eq_true rfl) ⟨by decide, by decide, by decide, by decide⟩ ?_
      refine a_iret X hr dX7_many_155 ⟨by decide, by decide⟩ ?_
      subst hF
      refine ⟨?_, rfl, fun a ha => ?_⟩
      · first | (show some (Value.int (-1)) = some (Value.int (fMany w)); unfold fMany; rw [if_neg (by omega), if_neg (by omega)]; done) | (show some (Value.int _) = some (Value.int (fMany w)); unfold fMany; first | (rw [if_neg (by omega), if_pos (by omega)]; first | rw [e_l0] | rw [e_l1] | rw [e_l2] | rw [e_l3] | rw [e_l4] | rw [e_l6] | rw [e_o1] | rw [e_a0] | rw [zsum_0 e_lq] | rw [zsum_0 e_lg]) | (rw [if_pos (by omega), e_l5]))
      · dsimp only
        repeat first | rw [zu_row (by omega)] | rw [zfil_row (by omega)] | rw [zcpy_row (by omega)] | rw [zwr_row (by omega)] | dsimp only
    | 8, ht_1, hx_1 =>
      cases ht_1
      refine a_aload_n X dX7_many_156 rfl ?_
      refine a_aload_n X dX7_many_157 rfl ?_
      refine a_getr X lf7_33 (by assumption) rfl (by omega) dX7_many_158 ?_
      refine a_geti X lf7_155 (by assumption) rfl dX7_many_161 ?_
      refine a_callVv X dX7_many_164 miX7_answer lm7_134 (c_answer (by assumption)) (by assumption) rfl rfl rfl (Nat.le_of_ble_eq_true rfl) ⟨by decide, by decide, by decide, by decide⟩ ?_
      refine a_iret X hr dX7_many_167 ⟨by decide, by decide⟩ ?_
      subst hF
      refine ⟨?_, rfl, fun a ha => ?_⟩
      · first | (show some (Value.int (-1)) = some (Value.int (fMany w)); unfold fMany; rw [if_neg (by omega), if_neg (by omega)]; done) | (show some (Value.int _) = some (Value.int (fMany w)); unfold fMany; first | (rw [if_neg (by omega), if_pos (by omega)]; first | rw [e_l0] | rw [e_l1] | rw [e_l2] | rw [e_l3] | rw [e_l4] | rw [e_l6] | rw [e_o1] | rw [e_a0] | rw [zsum_0 e_lq] | rw [zsum_0 e_lg]) | (rw [if_pos (by omega), e_l5]))
      · dsimp only
        repeat first | rw [zu_row (by omega)] | rw [zfil_row (by omega)] | rw [zcpy_row (by omega)] | rw [zwr_row (by omega)] | dsimp only
    | 9, ht_1, hx_1 =>
      cases ht_1
      refine a_aload_n X dX7_many_168 rfl ?_
      refine a_aload_n X dX7_many_169 rfl ?_
      refine a_getr X lf7_26 (by assumption) rfl (by omega) dX7_many_170 ?_
      refine a_getr X lf7_158 (by assumption) rfl (by omega) dX7_many_173 ?_
      refine a_callSv X dX7_many_176 miX7_sum lm7_161 (c_sum (n := 5) (by exact list.2.2.1) (by decide)) rfl rfl (Nat.le_of_ble_eq_true rfl) ⟨by decide, by decide, by decide, by decide⟩ ?_
      refine a_callVv X dX7_many_179 miX7_answer lm7_134 (c_answer (by assumption)) (by assumption) rfl rfl rfl (Nat.le_of_ble_eq_true rfl) ⟨by decide, by decide, by decide, by decide⟩ ?_
      refine a_iret X hr dX7_many_182 ⟨by decide, by decide⟩ ?_
      subst hF
      refine ⟨?_, rfl, fun a ha => ?_⟩
      · first | (show some (Value.int (-1)) = some (Value.int (fMany w)); unfold fMany; rw [if_neg (by omega), if_neg (by omega)]; done) | (show some (Value.int _) = some (Value.int (fMany w)); unfold fMany; first | (rw [if_neg (by omega), if_pos (by omega)]; first | rw [e_l0] | rw [e_l1] | rw [e_l2] | rw [e_l3] | rw [e_l4] | rw [e_l6] | rw [e_o1] | rw [e_a0] | rw [zsum_0 e_lq] | rw [zsum_0 e_lg]) | (rw [if_pos (by omega), e_l5]))
      · dsimp only
        repeat first | rw [zu_row (by omega)] | rw [zfil_row (by omega)] | rw [zcpy_row (by omega)] | rw [zwr_row (by omega)] | dsimp only
    | 10, ht_1, hx_1 =>
      cases ht_1
      refine a_aload_n X dX7_many_183 rfl ?_
      refine a_aload_n X dX7_many_184 rfl ?_
      refine a_getr X lf7_26 (by assumption) rfl (by omega) dX7_many_185 ?_
      refine a_getr X lf7_165 (by assumption) rfl (by omega) dX7_many_188 ?_
      refine a_callSv X dX7_many_191 miX7_sum lm7_161 (c_sum (n := 10) (by exact list.2.2.2.2.1) (by decide)) rfl rfl (Nat.le_of_ble_eq_true rfl) ⟨by decide, by decide, by decide, by decide⟩ ?_
      refine a_callVv X dX7_many_194 miX7_answer lm7_134 (c_answer (by assumption)) (by assumption) rfl rfl rfl (Nat.le_of_ble_eq_true rfl) ⟨by decide, by decide, by decide, by decide⟩ ?_
      refine a_iret X hr dX7_many_197 ⟨by decide, by decide⟩ ?_
      subst hF
      refine ⟨?_, rfl, fun a ha => ?_⟩
      · first | (show some (Value.int (-1)) = some (Value.int (fMany w)); unfold fMany; rw [if_neg (by omega), if_neg (by omega)]; done) | (show some (Value.int _) = some (Value.int (fMany w)); unfold fMany; first | (rw [if_neg (by omega), if_pos (by omega)]; first | rw [e_l0] | rw [e_l1] | rw [e_l2] | rw [e_l3] | rw [e_l4] | rw [e_l6] | rw [e_o1] | rw [e_a0] | rw [zsum_0 e_lq] | rw [zsum_0 e_lg]) | (rw [if_pos (by omega), e_l5]))
      · dsimp only
        repeat first | rw [zu_row (by omega)] | rw [zfil_row (by omega)] | rw [zcpy_row (by omega)] | rw [zwr_row (by omega)] | dsimp only
  · refine a_aload_n X dX7_many_198 rfl ?_
    refine a_iconst (v := 1) X dX7_many_199 (by decide) ?_
    refine a_callVv X dX7_many_200 miX7_refuse lm7_102 (c_refuse (by assumption)) (by assumption) rfl rfl rfl (Nat.le_of_ble_eq_true rfl) ⟨by decide, by decide, by decide, by decide⟩ ?_
    refine a_iret X hr dX7_many_203 ⟨by decide, by decide⟩ ?_
    subst hF
    refine ⟨?_, rfl, fun a ha => ?_⟩
    · first | (show some (Value.int (-1)) = some (Value.int (fMany w)); unfold fMany; rw [if_neg (by omega), if_neg (by omega)]; done) | (show some (Value.int _) = some (Value.int (fMany w)); unfold fMany; first | (rw [if_neg (by omega), if_pos (by omega)]; first | rw [e_l0] | rw [e_l1] | rw [e_l2] | rw [e_l3] | rw [e_l4] | rw [e_l6] | rw [e_o1] | rw [e_a0] | rw [zsum_0 e_lq] | rw [zsum_0 e_lg]) | (rw [if_pos (by omega), e_l5]))
    · dsimp only
      repeat first | rw [zu_row (by omega)] | rw [zfil_row (by omega)] | rw [zcpy_row (by omega)] | rw [zwr_row (by omega)] | dsimp only
set_option maxRecDepth 100000 in
theorem f_hunter {l : Launch} {G : zG} {b : Nat} {S : zS} {P : Nat} {h : Int32} {w : Int32} (hE : zE7 S P) : zM l G b yX7_hunter cX7_hunter 3 (some .int) 2 0 0 [.ref P, .int h, .int w] S (fun r z => r = some (.int (-1)) ∧ z.1 = S.1 ∧ ∀ a, P + 200 ≤ a → z.2.1 a = S.2.1 a) := by
  refine zM.of miX7_hunter (Nat.le_of_ble_eq_true rfl) ?_
  intro p e s m args below meth c X hr hname
  generalize hF : ((fun r z => r = some (.int (-1)) ∧ z.1 = S.1 ∧ ∀ a, P + 200 ≤ a → z.2.1 a = S.2.1 a) : Option Value → zS → Prop) = FQ
  change Zw p l e { frames := 2, cells := 0, slots := 0, locals := 80 * 2 } s m args below meth c G b 3 (MQ below (zQ G b FQ) args s 0 0 (fun q : Nat => b ≤ q)) 0 0 0 [some (.ref P), some (.int h), some (.int w)] [] S
  have hE9 := hE
  obtain ⟨hT, e_st, e_tl, e_ol, e_rk, e_rf, e_rp, e_l0, e_l1, e_l2, e_l3, e_l4, e_l5, e_l6, e_lq, e_lg, e_a0, e_a1, e_o0, e_o1, e_o2, e_o3⟩ := hE
  obtain ⟨lt, o, tape, out, reader, list, past, pool, result, odds, paper, trial, trialPool, trialResult, trialOdds⟩ := id hT
  have o_list := list.2.1
  have o_pool := pool.2.1
  have o_rd := reader.2.1
  have o_res := result.2.1
  have o_odds := odds.2.1
  have o_past := past.2.1
  have o_pap := paper.2.1
  refine a_iload_n X dX7_hunter_0 rfl ?_
  refine a_if_lt (tgt := 9) X dX7_hunter_1 (by decide) (fun h_1 => ?_) (fun h_1 => ?_)
  · refine a_aload_n X dX7_hunter_9 rfl ?_
    refine a_iconst (v := 1) X dX7_hunter_10 (by decide) ?_
    refine a_callVv X dX7_hunter_11 miX7_refuse lm7_102 (c_refuse (by assumption)) (by assumption) rfl rfl rfl (Nat.le_of_ble_eq_true rfl) ⟨by decide, by decide, by decide, by decide⟩ ?_
    refine a_iret X hr dX7_hunter_14 ⟨by decide, by decide⟩ ?_
    subst hF
    refine ⟨?_, rfl, fun a ha => ?_⟩
    · rfl
    · dsimp only
      repeat first | rw [zu_row (by omega)] | rw [zfil_row (by omega)] | rw [zcpy_row (by omega)] | rw [zwr_row (by omega)] | dsimp only
  · refine a_iload_n X dX7_hunter_4 rfl ?_
    refine a_iconst (v := 4) X dX7_hunter_5 (by decide) ?_
    refine a_icmp_le (tgt := 15) X dX7_hunter_6 (by decide) (fun h_6 => ?_) (fun h_6 => ?_)
    · refine a_aload_n X dX7_hunter_15 rfl ?_
      refine a_iload_n X dX7_hunter_16 rfl ?_
      refine a_callVv X dX7_hunter_17 miX7_isHunter lm7_168 (c_isHunter0 (by assumption) (by assumption)) (by assumption) rfl rfl rfl (Nat.le_of_ble_eq_true rfl) ⟨by decide, by decide, by decide, by decide⟩ ?_
      refine a_if_ne (tgt := 29) X dX7_hunter_20 (by decide) (fun h_20 => absurd rfl h_20) (fun h_20 => ?_)
      refine a_aload_n X dX7_hunter_23 rfl ?_
      refine a_iconst (v := 2) X dX7_hunter_24 (by decide) ?_
      refine a_callVv X dX7_hunter_25 miX7_refuse lm7_102 (c_refuse (by assumption)) (by assumption) rfl rfl rfl (Nat.le_of_ble_eq_true rfl) ⟨by decide, by decide, by decide, by decide⟩ ?_
      refine a_iret X hr dX7_hunter_28 ⟨by decide, by decide⟩ ?_
      subst hF
      refine ⟨?_, rfl, fun a ha => ?_⟩
      · rfl
      · dsimp only
        repeat first | rw [zu_row (by omega)] | rw [zfil_row (by omega)] | rw [zcpy_row (by omega)] | rw [zwr_row (by omega)] | dsimp only
    · refine a_aload_n X dX7_hunter_9 rfl ?_
      refine a_iconst (v := 1) X dX7_hunter_10 (by decide) ?_
      refine a_callVv X dX7_hunter_11 miX7_refuse lm7_102 (c_refuse (by assumption)) (by assumption) rfl rfl rfl (Nat.le_of_ble_eq_true rfl) ⟨by decide, by decide, by decide, by decide⟩ ?_
      refine a_iret X hr dX7_hunter_14 ⟨by decide, by decide⟩ ?_
      subst hF
      refine ⟨?_, rfl, fun a ha => ?_⟩
      · rfl
      · dsimp only
        repeat first | rw [zu_row (by omega)] | rw [zfil_row (by omega)] | rw [zcpy_row (by omega)] | rw [zwr_row (by omega)] | dsimp only
set_option maxRecDepth 100000 in
theorem f_unit {l : Launch} {G : zG} {b : Nat} {S : zS} {P : Nat} {u : Int32} {w : Int32} (hE : zE7 S P) : zM l G b yX7_unit cX7_unit 3 (some .int) 2 0 0 [.ref P, .int u, .int w] S (fun r z => r = some (.int (-1)) ∧ z.1 = S.1 ∧ ∀ a, P + 200 ≤ a → z.2.1 a = S.2.1 a) := by
  refine zM.of miX7_unit (Nat.le_of_ble_eq_true rfl) ?_
  intro p e s m args below meth c X hr hname
  generalize hF : ((fun r z => r = some (.int (-1)) ∧ z.1 = S.1 ∧ ∀ a, P + 200 ≤ a → z.2.1 a = S.2.1 a) : Option Value → zS → Prop) = FQ
  change Zw p l e { frames := 2, cells := 0, slots := 0, locals := 80 * 2 } s m args below meth c G b 3 (MQ below (zQ G b FQ) args s 0 0 (fun q : Nat => b ≤ q)) 0 0 0 [some (.ref P), some (.int u), some (.int w)] [] S
  have hE9 := hE
  obtain ⟨hT, e_st, e_tl, e_ol, e_rk, e_rf, e_rp, e_l0, e_l1, e_l2, e_l3, e_l4, e_l5, e_l6, e_lq, e_lg, e_a0, e_a1, e_o0, e_o1, e_o2, e_o3⟩ := hE
  obtain ⟨lt, o, tape, out, reader, list, past, pool, result, odds, paper, trial, trialPool, trialResult, trialOdds⟩ := id hT
  have o_list := list.2.1
  have o_pool := pool.2.1
  have o_rd := reader.2.1
  have o_res := result.2.1
  have o_odds := odds.2.1
  have o_past := past.2.1
  have o_pap := paper.2.1
  refine a_iload_n X dX7_unit_0 rfl ?_
  refine a_if_lt (tgt := 9) X dX7_unit_1 (by decide) (fun h_1 => ?_) (fun h_1 => ?_)
  · refine a_aload_n X dX7_unit_9 rfl ?_
    refine a_iconst (v := 1) X dX7_unit_10 (by decide) ?_
    refine a_callVv X dX7_unit_11 miX7_refuse lm7_102 (c_refuse (by assumption)) (by assumption) rfl rfl rfl (Nat.le_of_ble_eq_true rfl) ⟨by decide, by decide, by decide, by decide⟩ ?_
    refine a_iret X hr dX7_unit_14 ⟨by decide, by decide⟩ ?_
    subst hF
    refine ⟨?_, rfl, fun a ha => ?_⟩
    · rfl
    · dsimp only
      repeat first | rw [zu_row (by omega)] | rw [zfil_row (by omega)] | rw [zcpy_row (by omega)] | rw [zwr_row (by omega)] | dsimp only
  · refine a_iload_n X dX7_unit_4 rfl ?_
    refine a_iconst (v := 5) X dX7_unit_5 (by decide) ?_
    refine a_icmp_le (tgt := 15) X dX7_unit_6 (by decide) (fun h_6 => ?_) (fun h_6 => ?_)
    · refine a_aload_n X dX7_unit_15 rfl ?_
      refine a_iload_n X dX7_unit_16 rfl ?_
      refine a_callVv X dX7_unit_17 miX7_isUnit lm7_188 (c_isUnit0 (by assumption) (by assumption)) (by assumption) rfl rfl rfl (Nat.le_of_ble_eq_true rfl) ⟨by decide, by decide, by decide, by decide⟩ ?_
      refine a_if_ne (tgt := 29) X dX7_unit_20 (by decide) (fun h_20 => absurd rfl h_20) (fun h_20 => ?_)
      refine a_aload_n X dX7_unit_23 rfl ?_
      refine a_iconst (v := 2) X dX7_unit_24 (by decide) ?_
      refine a_callVv X dX7_unit_25 miX7_refuse lm7_102 (c_refuse (by assumption)) (by assumption) rfl rfl rfl (Nat.le_of_ble_eq_true rfl) ⟨by decide, by decide, by decide, by decide⟩ ?_
      refine a_iret X hr dX7_unit_28 ⟨by decide, by decide⟩ ?_
      subst hF
      refine ⟨?_, rfl, fun a ha => ?_⟩
      · rfl
      · dsimp only
        repeat first | rw [zu_row (by omega)] | rw [zfil_row (by omega)] | rw [zcpy_row (by omega)] | rw [zwr_row (by omega)] | dsimp only
    · refine a_aload_n X dX7_unit_9 rfl ?_
      refine a_iconst (v := 1) X dX7_unit_10 (by decide) ?_
      refine a_callVv X dX7_unit_11 miX7_refuse lm7_102 (c_refuse (by assumption)) (by assumption) rfl rfl rfl (Nat.le_of_ble_eq_true rfl) ⟨by decide, by decide, by decide, by decide⟩ ?_
      refine a_iret X hr dX7_unit_14 ⟨by decide, by decide⟩ ?_
      subst hF
      refine ⟨?_, rfl, fun a ha => ?_⟩
      · rfl
      · dsimp only
        repeat first | rw [zu_row (by omega)] | rw [zfil_row (by omega)] | rw [zcpy_row (by omega)] | rw [zwr_row (by omega)] | dsimp only
set_option maxRecDepth 100000 in
theorem f_applicant {l : Launch} {G : zG} {b : Nat} {S : zS} {P : Nat} {a : Int32} {w : Int32} (hE : zE7 S P) : zM l G b yX7_applicant cX7_applicant 3 (some .int) 2 0 0 [.ref P, .int a, .int w] S (fun r z => r = some (.int (-1)) ∧ z.1 = S.1 ∧ ∀ a, P + 200 ≤ a → z.2.1 a = S.2.1 a) := by
  refine zM.of miX7_applicant (Nat.le_of_ble_eq_true rfl) ?_
  intro p e s m args below meth c X hr hname
  generalize hF : ((fun r z => r = some (.int (-1)) ∧ z.1 = S.1 ∧ ∀ a, P + 200 ≤ a → z.2.1 a = S.2.1 a) : Option Value → zS → Prop) = FQ
  change Zw p l e { frames := 2, cells := 0, slots := 0, locals := 80 * 2 } s m args below meth c G b 3 (MQ below (zQ G b FQ) args s 0 0 (fun q : Nat => b ≤ q)) 0 0 0 [some (.ref P), some (.int a), some (.int w)] [] S
  have hE9 := hE
  obtain ⟨hT, e_st, e_tl, e_ol, e_rk, e_rf, e_rp, e_l0, e_l1, e_l2, e_l3, e_l4, e_l5, e_l6, e_lq, e_lg, e_a0, e_a1, e_o0, e_o1, e_o2, e_o3⟩ := hE
  obtain ⟨lt, o, tape, out, reader, list, past, pool, result, odds, paper, trial, trialPool, trialResult, trialOdds⟩ := id hT
  have o_list := list.2.1
  have o_pool := pool.2.1
  have o_rd := reader.2.1
  have o_res := result.2.1
  have o_odds := odds.2.1
  have o_past := past.2.1
  have o_pap := paper.2.1
  refine a_iload_n X dX7_applicant_0 rfl ?_
  refine a_if_lt (tgt := 10) X dX7_applicant_1 (by decide) (fun h_1 => ?_) (fun h_1 => ?_)
  · refine a_aload_n X dX7_applicant_10 rfl ?_
    refine a_iconst (v := 1) X dX7_applicant_11 (by decide) ?_
    refine a_callVv X dX7_applicant_12 miX7_refuse lm7_102 (c_refuse (by assumption)) (by assumption) rfl rfl rfl (Nat.le_of_ble_eq_true rfl) ⟨by decide, by decide, by decide, by decide⟩ ?_
    refine a_iret X hr dX7_applicant_15 ⟨by decide, by decide⟩ ?_
    subst hF
    refine ⟨?_, rfl, fun a ha => ?_⟩
    · rfl
    · dsimp only
      repeat first | rw [zu_row (by omega)] | rw [zfil_row (by omega)] | rw [zcpy_row (by omega)] | rw [zwr_row (by omega)] | dsimp only
  · refine a_iload_n X dX7_applicant_4 rfl ?_
    refine a_bipush (v := 6) X dX7_applicant_5 (by decide) ?_
    refine a_icmp_le (tgt := 16) X dX7_applicant_7 (by decide) (fun h_7 => ?_) (fun h_7 => ?_)
    · refine a_aload_n X dX7_applicant_16 rfl ?_
      refine a_iload_n X dX7_applicant_17 rfl ?_
      refine a_callVv X dX7_applicant_18 miX7_isApplicant lm7_206 (c_isApplicant0 (by assumption) (by assumption)) (by assumption) rfl rfl rfl (Nat.le_of_ble_eq_true rfl) ⟨by decide, by decide, by decide, by decide⟩ ?_
      refine a_if_ne (tgt := 30) X dX7_applicant_21 (by decide) (fun h_21 => absurd rfl h_21) (fun h_21 => ?_)
      refine a_aload_n X dX7_applicant_24 rfl ?_
      refine a_iconst (v := 2) X dX7_applicant_25 (by decide) ?_
      refine a_callVv X dX7_applicant_26 miX7_refuse lm7_102 (c_refuse (by assumption)) (by assumption) rfl rfl rfl (Nat.le_of_ble_eq_true rfl) ⟨by decide, by decide, by decide, by decide⟩ ?_
      refine a_iret X hr dX7_applicant_29 ⟨by decide, by decide⟩ ?_
      subst hF
      refine ⟨?_, rfl, fun a ha => ?_⟩
      · rfl
      · dsimp only
        repeat first | rw [zu_row (by omega)] | rw [zfil_row (by omega)] | rw [zcpy_row (by omega)] | rw [zwr_row (by omega)] | dsimp only
    · refine a_aload_n X dX7_applicant_10 rfl ?_
      refine a_iconst (v := 1) X dX7_applicant_11 (by decide) ?_
      refine a_callVv X dX7_applicant_12 miX7_refuse lm7_102 (c_refuse (by assumption)) (by assumption) rfl rfl rfl (Nat.le_of_ble_eq_true rfl) ⟨by decide, by decide, by decide, by decide⟩ ?_
      refine a_iret X hr dX7_applicant_15 ⟨by decide, by decide⟩ ?_
      subst hF
      refine ⟨?_, rfl, fun a ha => ?_⟩
      · rfl
      · dsimp only
        repeat first | rw [zu_row (by omega)] | rw [zfil_row (by omega)] | rw [zcpy_row (by omega)] | rw [zwr_row (by omega)] | dsimp only
set_option maxRecDepth 100000 in
theorem f_choice {l : Launch} {G : zG} {b : Nat} {S : zS} {P : Nat} {a : Int32} {k : Int32} (hE : zE7 S P) : zM l G b yX7_choice cX7_choice 3 (some .int) 2 0 0 [.ref P, .int a, .int k] S (fun r z => r = some (.int (-1)) ∧ z.1 = S.1 ∧ ∀ a, P + 200 ≤ a → z.2.1 a = S.2.1 a) := by
  refine zM.of miX7_choice (Nat.le_of_ble_eq_true rfl) ?_
  intro p e s m args below meth c X hr hname
  generalize hF : ((fun r z => r = some (.int (-1)) ∧ z.1 = S.1 ∧ ∀ a, P + 200 ≤ a → z.2.1 a = S.2.1 a) : Option Value → zS → Prop) = FQ
  change Zw p l e { frames := 2, cells := 0, slots := 0, locals := 80 * 2 } s m args below meth c G b 3 (MQ below (zQ G b FQ) args s 0 0 (fun q : Nat => b ≤ q)) 0 0 0 [some (.ref P), some (.int a), some (.int k)] [] S
  have hE9 := hE
  obtain ⟨hT, e_st, e_tl, e_ol, e_rk, e_rf, e_rp, e_l0, e_l1, e_l2, e_l3, e_l4, e_l5, e_l6, e_lq, e_lg, e_a0, e_a1, e_o0, e_o1, e_o2, e_o3⟩ := hE
  obtain ⟨lt, o, tape, out, reader, list, past, pool, result, odds, paper, trial, trialPool, trialResult, trialOdds⟩ := id hT
  have o_list := list.2.1
  have o_pool := pool.2.1
  have o_rd := reader.2.1
  have o_res := result.2.1
  have o_odds := odds.2.1
  have o_past := past.2.1
  have o_pap := paper.2.1
  refine a_iload_n X dX7_choice_0 rfl ?_
  refine a_if_ge (tgt := 10) X dX7_choice_1 (by decide) (fun h_1 => ?_) (fun h_1 => ?_)
  · refine a_aload_n X dX7_choice_10 rfl ?_
    refine a_iload_n X dX7_choice_11 rfl ?_
    refine a_callVv X dX7_choice_12 miX7_isApplicant lm7_206 (c_isApplicant0 (by assumption) (by assumption)) (by assumption) rfl rfl rfl (Nat.le_of_ble_eq_true rfl) ⟨by decide, by decide, by decide, by decide⟩ ?_
    refine a_if_ne (tgt := 24) X dX7_choice_15 (by decide) (fun h_15 => absurd rfl h_15) (fun h_15 => ?_)
    refine a_aload_n X dX7_choice_18 rfl ?_
    refine a_iconst (v := 2) X dX7_choice_19 (by decide) ?_
    refine a_callVv X dX7_choice_20 miX7_refuse lm7_102 (c_refuse (by assumption)) (by assumption) rfl rfl rfl (Nat.le_of_ble_eq_true rfl) ⟨by decide, by decide, by decide, by decide⟩ ?_
    refine a_iret X hr dX7_choice_23 ⟨by decide, by decide⟩ ?_
    subst hF
    refine ⟨?_, rfl, fun a ha => ?_⟩
    · rfl
    · dsimp only
      repeat first | rw [zu_row (by omega)] | rw [zfil_row (by omega)] | rw [zcpy_row (by omega)] | rw [zwr_row (by omega)] | dsimp only
  · refine a_aload_n X dX7_choice_4 rfl ?_
    refine a_iconst (v := 1) X dX7_choice_5 (by decide) ?_
    refine a_callVv X dX7_choice_6 miX7_refuse lm7_102 (c_refuse (by assumption)) (by assumption) rfl rfl rfl (Nat.le_of_ble_eq_true rfl) ⟨by decide, by decide, by decide, by decide⟩ ?_
    refine a_iret X hr dX7_choice_9 ⟨by decide, by decide⟩ ?_
    subst hF
    refine ⟨?_, rfl, fun a ha => ?_⟩
    · rfl
    · dsimp only
      repeat first | rw [zu_row (by omega)] | rw [zfil_row (by omega)] | rw [zcpy_row (by omega)] | rw [zwr_row (by omega)] | dsimp only
set_option maxRecDepth 100000 in
theorem f_demand {l : Launch} {G : zG} {b : Nat} {S : zS} {P : Nat} {u : Int32} {w : Int32} (hE : zE7 S P) : zM l G b yX7_demand cX7_demand 3 (some .int) 2 0 0 [.ref P, .int u, .int w] S (fun r z => r = some (.int (-1)) ∧ z.1 = S.1 ∧ ∀ a, P + 200 ≤ a → z.2.1 a = S.2.1 a) := by
  refine zM.of miX7_demand (Nat.le_of_ble_eq_true rfl) ?_
  intro p e s m args below meth c X hr hname
  generalize hF : ((fun r z => r = some (.int (-1)) ∧ z.1 = S.1 ∧ ∀ a, P + 200 ≤ a → z.2.1 a = S.2.1 a) : Option Value → zS → Prop) = FQ
  change Zw p l e { frames := 2, cells := 0, slots := 0, locals := 80 * 2 } s m args below meth c G b 3 (MQ below (zQ G b FQ) args s 0 0 (fun q : Nat => b ≤ q)) 0 0 0 [some (.ref P), some (.int u), some (.int w)] [] S
  have hE9 := hE
  obtain ⟨hT, e_st, e_tl, e_ol, e_rk, e_rf, e_rp, e_l0, e_l1, e_l2, e_l3, e_l4, e_l5, e_l6, e_lq, e_lg, e_a0, e_a1, e_o0, e_o1, e_o2, e_o3⟩ := hE
  obtain ⟨lt, o, tape, out, reader, list, past, pool, result, odds, paper, trial, trialPool, trialResult, trialOdds⟩ := id hT
  have o_list := list.2.1
  have o_pool := pool.2.1
  have o_rd := reader.2.1
  have o_res := result.2.1
  have o_odds := odds.2.1
  have o_past := past.2.1
  have o_pap := paper.2.1
  refine a_iload_n X dX7_demand_0 rfl ?_
  refine a_if_lt (tgt := 9) X dX7_demand_1 (by decide) (fun h_1 => ?_) (fun h_1 => ?_)
  · refine a_aload_n X dX7_demand_9 rfl ?_
    refine a_iconst (v := 1) X dX7_demand_10 (by decide) ?_
    refine a_callVv X dX7_demand_11 miX7_refuse lm7_102 (c_refuse (by assumption)) (by assumption) rfl rfl rfl (Nat.le_of_ble_eq_true rfl) ⟨by decide, by decide, by decide, by decide⟩ ?_
    refine a_iret X hr dX7_demand_14 ⟨by decide, by decide⟩ ?_
    subst hF
    refine ⟨?_, rfl, fun a ha => ?_⟩
    · rfl
    · dsimp only
      repeat first | rw [zu_row (by omega)] | rw [zfil_row (by omega)] | rw [zcpy_row (by omega)] | rw [zwr_row (by omega)] | dsimp only
  · refine a_iload_n X dX7_demand_4 rfl ?_
    refine a_iconst (v := 1) X dX7_demand_5 (by decide) ?_
    refine a_icmp_le (tgt := 15) X dX7_demand_6 (by decide) (fun h_6 => ?_) (fun h_6 => ?_)
    · refine a_aload_n X dX7_demand_15 rfl ?_
      refine a_iload_n X dX7_demand_16 rfl ?_
      refine a_callVv X dX7_demand_17 miX7_isUnit lm7_188 (c_isUnit0 (by assumption) (by assumption)) (by assumption) rfl rfl rfl (Nat.le_of_ble_eq_true rfl) ⟨by decide, by decide, by decide, by decide⟩ ?_
      refine a_if_ne (tgt := 29) X dX7_demand_20 (by decide) (fun h_20 => absurd rfl h_20) (fun h_20 => ?_)
      refine a_aload_n X dX7_demand_23 rfl ?_
      refine a_iconst (v := 2) X dX7_demand_24 (by decide) ?_
      refine a_callVv X dX7_demand_25 miX7_refuse lm7_102 (c_refuse (by assumption)) (by assumption) rfl rfl rfl (Nat.le_of_ble_eq_true rfl) ⟨by decide, by decide, by decide, by decide⟩ ?_
      refine a_iret X hr dX7_demand_28 ⟨by decide, by decide⟩ ?_
      subst hF
      refine ⟨?_, rfl, fun a ha => ?_⟩
      · rfl
      · dsimp only
        repeat first | rw [zu_row (by omega)] | rw [zfil_row (by omega)] | rw [zcpy_row (by omega)] | rw [zwr_row (by omega)] | dsimp only
    · refine a_aload_n X dX7_demand_9 rfl ?_
      refine a_iconst (v := 1) X dX7_demand_10 (by decide) ?_
      refine a_callVv X dX7_demand_11 miX7_refuse lm7_102 (c_refuse (by assumption)) (by assumption) rfl rfl rfl (Nat.le_of_ble_eq_true rfl) ⟨by decide, by decide, by decide, by decide⟩ ?_
      refine a_iret X hr dX7_demand_14 ⟨by decide, by decide⟩ ?_
      subst hF
      refine ⟨?_, rfl, fun a ha => ?_⟩
      · rfl
      · dsimp only
        repeat first | rw [zu_row (by omega)] | rw [zfil_row (by omega)] | rw [zcpy_row (by omega)] | rw [zwr_row (by omega)] | dsimp only
set_option maxRecDepth 100000 in
theorem f_share {l : Launch} {G : zG} {b : Nat} {S : zS} {P : Nat} {a : Int32} {w : Int32} (hE : zE7 S P) : zM l G b yX7_share cX7_share 3 (some .int) 2 0 0 [.ref P, .int a, .int w] S (fun r z => r = some (.int (-1)) ∧ z.1 = S.1 ∧ ∀ a, P + 200 ≤ a → z.2.1 a = S.2.1 a) := by
  refine zM.of miX7_share (Nat.le_of_ble_eq_true rfl) ?_
  intro p e s m args below meth c X hr hname
  generalize hF : ((fun r z => r = some (.int (-1)) ∧ z.1 = S.1 ∧ ∀ a, P + 200 ≤ a → z.2.1 a = S.2.1 a) : Option Value → zS → Prop) = FQ
  change Zw p l e { frames := 2, cells := 0, slots := 0, locals := 80 * 2 } s m args below meth c G b 3 (MQ below (zQ G b FQ) args s 0 0 (fun q : Nat => b ≤ q)) 0 0 0 [some (.ref P), some (.int a), some (.int w)] [] S
  have hE9 := hE
  obtain ⟨hT, e_st, e_tl, e_ol, e_rk, e_rf, e_rp, e_l0, e_l1, e_l2, e_l3, e_l4, e_l5, e_l6, e_lq, e_lg, e_a0, e_a1, e_o0, e_o1, e_o2, e_o3⟩ := hE
  obtain ⟨lt, o, tape, out, reader, list, past, pool, result, odds, paper, trial, trialPool, trialResult, trialOdds⟩ := id hT
  have o_list := list.2.1
  have o_pool := pool.2.1
  have o_rd := reader.2.1
  have o_res := result.2.1
  have o_odds := odds.2.1
  have o_past := past.2.1
  have o_pap := paper.2.1
  refine a_iload_n X dX7_share_0 rfl ?_
  refine a_if_lt (tgt := 9) X dX7_share_1 (by decide) (fun h_1 => ?_) (fun h_1 => ?_)
  · refine a_aload_n X dX7_share_9 rfl ?_
    refine a_iconst (v := 1) X dX7_share_10 (by decide) ?_
    refine a_callVv X dX7_share_11 miX7_refuse lm7_102 (c_refuse (by assumption)) (by assumption) rfl rfl rfl (Nat.le_of_ble_eq_true rfl) ⟨by decide, by decide, by decide, by decide⟩ ?_
    refine a_iret X hr dX7_share_14 ⟨by decide, by decide⟩ ?_
    subst hF
    refine ⟨?_, rfl, fun a ha => ?_⟩
    · rfl
    · dsimp only
      repeat first | rw [zu_row (by omega)] | rw [zfil_row (by omega)] | rw [zcpy_row (by omega)] | rw [zwr_row (by omega)] | dsimp only
  · refine a_iload_n X dX7_share_4 rfl ?_
    refine a_iconst (v := 1) X dX7_share_5 (by decide) ?_
    refine a_icmp_le (tgt := 15) X dX7_share_6 (by decide) (fun h_6 => ?_) (fun h_6 => ?_)
    · refine a_aload_n X dX7_share_15 rfl ?_
      refine a_iload_n X dX7_share_16 rfl ?_
      refine a_callVv X dX7_share_17 miX7_isApplicant lm7_206 (c_isApplicant0 (by assumption) (by assumption)) (by assumption) rfl rfl rfl (Nat.le_of_ble_eq_true rfl) ⟨by decide, by decide, by decide, by decide⟩ ?_
      refine a_if_ne (tgt := 29) X dX7_share_20 (by decide) (fun h_20 => absurd rfl h_20) (fun h_20 => ?_)
      refine a_aload_n X dX7_share_23 rfl ?_
      refine a_iconst (v := 2) X dX7_share_24 (by decide) ?_
      refine a_callVv X dX7_share_25 miX7_refuse lm7_102 (c_refuse (by assumption)) (by assumption) rfl rfl rfl (Nat.le_of_ble_eq_true rfl) ⟨by decide, by decide, by decide, by decide⟩ ?_
      refine a_iret X hr dX7_share_28 ⟨by decide, by decide⟩ ?_
      subst hF
      refine ⟨?_, rfl, fun a ha => ?_⟩
      · rfl
      · dsimp only
        repeat first | rw [zu_row (by omega)] | rw [zfil_row (by omega)] | rw [zcpy_row (by omega)] | rw [zwr_row (by omega)] | dsimp only
    · refine a_aload_n X dX7_share_9 rfl ?_
      refine a_iconst (v := 1) X dX7_share_10 (by decide) ?_
      refine a_callVv X dX7_share_11 miX7_refuse lm7_102 (c_refuse (by assumption)) (by assumption) rfl rfl rfl (Nat.le_of_ble_eq_true rfl) ⟨by decide, by decide, by decide, by decide⟩ ?_
      refine a_iret X hr dX7_share_14 ⟨by decide, by decide⟩ ?_
      subst hF
      refine ⟨?_, rfl, fun a ha => ?_⟩
      · rfl
      · dsimp only
        repeat first | rw [zu_row (by omega)] | rw [zfil_row (by omega)] | rw [zcpy_row (by omega)] | rw [zwr_row (by omega)] | dsimp only
set_option maxRecDepth 100000 in
theorem f_drawn {l : Launch} {G : zG} {b : Nat} {S : zS} {P : Nat} {sd : Int32} {a : Int32} (hE : zE7 S P) : zM l G b yX7_drawn cX7_drawn 4 (some .int) 2 0 0 [.ref P, .int sd, .int a] S (fun r z => r = some (.int (-1)) ∧ z.1 = S.1 ∧ ∀ a, P + 200 ≤ a → z.2.1 a = S.2.1 a) := by
  refine zM.of miX7_drawn (Nat.le_of_ble_eq_true rfl) ?_
  intro p e s m args below meth c X hr hname
  generalize hF : ((fun r z => r = some (.int (-1)) ∧ z.1 = S.1 ∧ ∀ a, P + 200 ≤ a → z.2.1 a = S.2.1 a) : Option Value → zS → Prop) = FQ
  change Zw p l e { frames := 2, cells := 0, slots := 0, locals := 80 * 2 } s m args below meth c G b 4 (MQ below (zQ G b FQ) args s 0 0 (fun q : Nat => b ≤ q)) 0 0 0 [some (.ref P), some (.int sd), some (.int a), none] [] S
  have hE9 := hE
  obtain ⟨hT, e_st, e_tl, e_ol, e_rk, e_rf, e_rp, e_l0, e_l1, e_l2, e_l3, e_l4, e_l5, e_l6, e_lq, e_lg, e_a0, e_a1, e_o0, e_o1, e_o2, e_o3⟩ := hE
  obtain ⟨lt, o, tape, out, reader, list, past, pool, result, odds, paper, trial, trialPool, trialResult, trialOdds⟩ := id hT
  have o_list := list.2.1
  have o_pool := pool.2.1
  have o_rd := reader.2.1
  have o_res := result.2.1
  have o_odds := odds.2.1
  have o_past := past.2.1
  have o_pap := paper.2.1
  refine a_iload_n X dX7_drawn_0 rfl ?_
  refine a_callSv X dX7_drawn_1 miX7_isSeed lm7_237 (c_isSeed) rfl rfl (Nat.le_of_ble_eq_true rfl) ⟨by decide, by decide, by decide, by decide⟩ ?_
  refine a_if_ne (tgt := 13) X dX7_drawn_4 (by decide) (fun h_4 => ?_) (fun h_4 => ?_)
  · refine a_aload_n X dX7_drawn_13 rfl ?_
    refine a_iload_n X dX7_drawn_14 rfl ?_
    refine a_callVv X dX7_drawn_15 miX7_isApplicant lm7_206 (c_isApplicant0 (by assumption) (by assumption)) (by assumption) rfl rfl rfl (Nat.le_of_ble_eq_true rfl) ⟨by decide, by decide, by decide, by decide⟩ ?_
    refine a_if_ne (tgt := 27) X dX7_drawn_18 (by decide) (fun h_18 => absurd rfl h_18) (fun h_18 => ?_)
    refine a_aload_n X dX7_drawn_21 rfl ?_
    refine a_iconst (v := 2) X dX7_drawn_22 (by decide) ?_
    refine a_callVv X dX7_drawn_23 miX7_refuse lm7_102 (c_refuse (by assumption)) (by assumption) rfl rfl rfl (Nat.le_of_ble_eq_true rfl) ⟨by decide, by decide, by decide, by decide⟩ ?_
    refine a_iret X hr dX7_drawn_26 ⟨by decide, by decide⟩ ?_
    subst hF
    refine ⟨?_, rfl, fun a ha => ?_⟩
    · rfl
    · dsimp only
      repeat first | rw [zu_row (by omega)] | rw [zfil_row (by omega)] | rw [zcpy_row (by omega)] | rw [zwr_row (by omega)] | dsimp only
  · refine a_aload_n X dX7_drawn_7 rfl ?_
    refine a_iconst (v := 1) X dX7_drawn_8 (by decide) ?_
    refine a_callVv X dX7_drawn_9 miX7_refuse lm7_102 (c_refuse (by assumption)) (by assumption) rfl rfl rfl (Nat.le_of_ble_eq_true rfl) ⟨by decide, by decide, by decide, by decide⟩ ?_
    refine a_iret X hr dX7_drawn_12 ⟨by decide, by decide⟩ ?_
    subst hF
    refine ⟨?_, rfl, fun a ha => ?_⟩
    · rfl
    · dsimp only
      repeat first | rw [zu_row (by omega)] | rw [zfil_row (by omega)] | rw [zcpy_row (by omega)] | rw [zwr_row (by omega)] | dsimp only
set_option maxRecDepth 100000 in
theorem f_round {l : Launch} {G : zG} {b : Nat} {S : zS} {P : Nat} {sd : Int32} {a : Int32} (hE : zE7 S P) : zM l G b yX7_round cX7_round 3 (some .int) 2 0 0 [.ref P, .int sd, .int a] S (fun r z => r = some (.int (-1)) ∧ z.1 = S.1 ∧ ∀ a, P + 200 ≤ a → z.2.1 a = S.2.1 a) := by
  refine zM.of miX7_round (Nat.le_of_ble_eq_true rfl) ?_
  intro p e s m args below meth c X hr hname
  generalize hF : ((fun r z => r = some (.int (-1)) ∧ z.1 = S.1 ∧ ∀ a, P + 200 ≤ a → z.2.1 a = S.2.1 a) : Option Value → zS → Prop) = FQ
  change Zw p l e { frames := 2, cells := 0, slots := 0, locals := 80 * 2 } s m args below meth c G b 3 (MQ below (zQ G b FQ) args s 0 0 (fun q : Nat => b ≤ q)) 0 0 0 [some (.ref P), some (.int sd), some (.int a)] [] S
  have hE9 := hE
  obtain ⟨hT, e_st, e_tl, e_ol, e_rk, e_rf, e_rp, e_l0, e_l1, e_l2, e_l3, e_l4, e_l5, e_l6, e_lq, e_lg, e_a0, e_a1, e_o0, e_o1, e_o2, e_o3⟩ := hE
  obtain ⟨lt, o, tape, out, reader, list, past, pool, result, odds, paper, trial, trialPool, trialResult, trialOdds⟩ := id hT
  have o_list := list.2.1
  have o_pool := pool.2.1
  have o_rd := reader.2.1
  have o_res := result.2.1
  have o_odds := odds.2.1
  have o_past := past.2.1
  have o_pap := paper.2.1
  refine a_iload_n X dX7_round_0 rfl ?_
  refine a_callSv X dX7_round_1 miX7_isSeed lm7_237 (c_isSeed) rfl rfl (Nat.le_of_ble_eq_true rfl) ⟨by decide, by decide, by decide, by decide⟩ ?_
  refine a_if_ne (tgt := 13) X dX7_round_4 (by decide) (fun h_4 => ?_) (fun h_4 => ?_)
  · refine a_aload_n X dX7_round_13 rfl ?_
    refine a_iload_n X dX7_round_14 rfl ?_
    refine a_callVv X dX7_round_15 miX7_isApplicant lm7_206 (c_isApplicant0 (by assumption) (by assumption)) (by assumption) rfl rfl rfl (Nat.le_of_ble_eq_true rfl) ⟨by decide, by decide, by decide, by decide⟩ ?_
    refine a_if_ne (tgt := 27) X dX7_round_18 (by decide) (fun h_18 => absurd rfl h_18) (fun h_18 => ?_)
    refine a_aload_n X dX7_round_21 rfl ?_
    refine a_iconst (v := 2) X dX7_round_22 (by decide) ?_
    refine a_callVv X dX7_round_23 miX7_refuse lm7_102 (c_refuse (by assumption)) (by assumption) rfl rfl rfl (Nat.le_of_ble_eq_true rfl) ⟨by decide, by decide, by decide, by decide⟩ ?_
    refine a_iret X hr dX7_round_26 ⟨by decide, by decide⟩ ?_
    subst hF
    refine ⟨?_, rfl, fun a ha => ?_⟩
    · rfl
    · dsimp only
      repeat first | rw [zu_row (by omega)] | rw [zfil_row (by omega)] | rw [zcpy_row (by omega)] | rw [zwr_row (by omega)] | dsimp only
  · refine a_aload_n X dX7_round_7 rfl ?_
    refine a_iconst (v := 1) X dX7_round_8 (by decide) ?_
    refine a_callVv X dX7_round_9 miX7_refuse lm7_102 (c_refuse (by assumption)) (by assumption) rfl rfl rfl (Nat.le_of_ble_eq_true rfl) ⟨by decide, by decide, by decide, by decide⟩ ?_
    refine a_iret X hr dX7_round_12 ⟨by decide, by decide⟩ ?_
    subst hF
    refine ⟨?_, rfl, fun a ha => ?_⟩
    · rfl
    · dsimp only
      repeat first | rw [zu_row (by omega)] | rw [zfil_row (by omega)] | rw [zcpy_row (by omega)] | rw [zwr_row (by omega)] | dsimp only
set_option maxRecDepth 100000 in
theorem f_left {l : Launch} {G : zG} {b : Nat} {S : zS} {P : Nat} {sd : Int32} {u : Int32} {w : Int32} (hE : zE7 S P) : zM l G b yX7_left cX7_left 5 (some .int) 2 0 0 [.ref P, .int sd, .int u, .int w] S (fun r z => r = some (.int (-1)) ∧ z.1 = S.1 ∧ ∀ a, P + 200 ≤ a → z.2.1 a = S.2.1 a) := by
  refine zM.of miX7_left (Nat.le_of_ble_eq_true rfl) ?_
  intro p e s m args below meth c X hr hname
  generalize hF : ((fun r z => r = some (.int (-1)) ∧ z.1 = S.1 ∧ ∀ a, P + 200 ≤ a → z.2.1 a = S.2.1 a) : Option Value → zS → Prop) = FQ
  change Zw p l e { frames := 2, cells := 0, slots := 0, locals := 80 * 2 } s m args below meth c G b 5 (MQ below (zQ G b FQ) args s 0 0 (fun q : Nat => b ≤ q)) 0 0 0 [some (.ref P), some (.int sd), some (.int u), some (.int w), none] [] S
  have hE9 := hE
  obtain ⟨hT, e_st, e_tl, e_ol, e_rk, e_rf, e_rp, e_l0, e_l1, e_l2, e_l3, e_l4, e_l5, e_l6, e_lq, e_lg, e_a0, e_a1, e_o0, e_o1, e_o2, e_o3⟩ := hE
  obtain ⟨lt, o, tape, out, reader, list, past, pool, result, odds, paper, trial, trialPool, trialResult, trialOdds⟩ := id hT
  have o_list := list.2.1
  have o_pool := pool.2.1
  have o_rd := reader.2.1
  have o_res := result.2.1
  have o_odds := odds.2.1
  have o_past := past.2.1
  have o_pap := paper.2.1
  refine a_iload_n X dX7_left_0 rfl ?_
  refine a_callSv X dX7_left_1 miX7_isSeed lm7_237 (c_isSeed) rfl rfl (Nat.le_of_ble_eq_true rfl) ⟨by decide, by decide, by decide, by decide⟩ ?_
  refine a_if_eq (tgt := 16) X dX7_left_4 (by decide) (fun h_4 => ?_) (fun h_4 => ?_)
  · refine a_aload_n X dX7_left_16 rfl ?_
    refine a_iconst (v := 1) X dX7_left_17 (by decide) ?_
    refine a_callVv X dX7_left_18 miX7_refuse lm7_102 (c_refuse (by assumption)) (by assumption) rfl rfl rfl (Nat.le_of_ble_eq_true rfl) ⟨by decide, by decide, by decide, by decide⟩ ?_
    refine a_iret X hr dX7_left_21 ⟨by decide, by decide⟩ ?_
    subst hF
    refine ⟨?_, rfl, fun a ha => ?_⟩
    · rfl
    · dsimp only
      repeat first | rw [zu_row (by omega)] | rw [zfil_row (by omega)] | rw [zcpy_row (by omega)] | rw [zwr_row (by omega)] | dsimp only
  · refine a_iload_n X dX7_left_7 rfl ?_
    refine a_if_lt (tgt := 16) X dX7_left_8 (by decide) (fun h_8 => ?_) (fun h_8 => ?_)
    · refine a_aload_n X dX7_left_16 rfl ?_
      refine a_iconst (v := 1) X dX7_left_17 (by decide) ?_
      refine a_callVv X dX7_left_18 miX7_refuse lm7_102 (c_refuse (by assumption)) (by assumption) rfl rfl rfl (Nat.le_of_ble_eq_true rfl) ⟨by decide, by decide, by decide, by decide⟩ ?_
      refine a_iret X hr dX7_left_21 ⟨by decide, by decide⟩ ?_
      subst hF
      refine ⟨?_, rfl, fun a ha => ?_⟩
      · rfl
      · dsimp only
        repeat first | rw [zu_row (by omega)] | rw [zfil_row (by omega)] | rw [zcpy_row (by omega)] | rw [zwr_row (by omega)] | dsimp only
    · refine a_iload_n X dX7_left_11 rfl ?_
      refine a_iconst (v := 3) X dX7_left_12 (by decide) ?_
      refine a_icmp_le (tgt := 22) X dX7_left_13 (by decide) (fun h_13 => ?_) (fun h_13 => ?_)
      · refine a_aload_n X dX7_left_22 rfl ?_
        refine a_iload_n X dX7_left_23 rfl ?_
        refine a_callVv X dX7_left_24 miX7_isUnit lm7_188 (c_isUnit0 (by assumption) (by assumption)) (by assumption) rfl rfl rfl (Nat.le_of_ble_eq_true rfl) ⟨by decide, by decide, by decide, by decide⟩ ?_
        refine a_if_ne (tgt := 36) X dX7_left_27 (by decide) (fun h_27 => absurd rfl h_27) (fun h_27 => ?_)
        refine a_aload_n X dX7_left_30 rfl ?_
        refine a_iconst (v := 2) X dX7_left_31 (by decide) ?_
        refine a_callVv X dX7_left_32 miX7_refuse lm7_102 (c_refuse (by assumption)) (by assumption) rfl rfl rfl (Nat.le_of_ble_eq_true rfl) ⟨by decide, by decide, by decide, by decide⟩ ?_
        refine a_iret X hr dX7_left_35 ⟨by decide, by decide⟩ ?_
        subst hF
        refine ⟨?_, rfl, fun a ha => ?_⟩
        · rfl
        · dsimp only
          repeat first | rw [zu_row (by omega)] | rw [zfil_row (by omega)] | rw [zcpy_row (by omega)] | rw [zwr_row (by omega)] | dsimp only
      · refine a_aload_n X dX7_left_16 rfl ?_
        refine a_iconst (v := 1) X dX7_left_17 (by decide) ?_
        refine a_callVv X dX7_left_18 miX7_refuse lm7_102 (c_refuse (by assumption)) (by assumption) rfl rfl rfl (Nat.le_of_ble_eq_true rfl) ⟨by decide, by decide, by decide, by decide⟩ ?_
        refine a_iret X hr dX7_left_21 ⟨by decide, by decide⟩ ?_
        subst hF
        refine ⟨?_, rfl, fun a ha => ?_⟩
        · rfl
        · dsimp only
          repeat first | rw [zu_row (by omega)] | rw [zfil_row (by omega)] | rw [zcpy_row (by omega)] | rw [zwr_row (by omega)] | dsimp only
set_option maxRecDepth 100000 in
theorem f_waits {l : Launch} {G : zG} {b : Nat} {S : zS} {P : Nat} {sd : Int32} {u : Int32} {k : Int32} (hE : zE7 S P) : zM l G b yX7_waits cX7_waits 7 (some .int) 2 0 0 [.ref P, .int sd, .int u, .int k] S (fun r z => r = some (.int (-1)) ∧ z.1 = S.1 ∧ ∀ a, P + 200 ≤ a → z.2.1 a = S.2.1 a) := by
  refine zM.of miX7_waits (Nat.le_of_ble_eq_true rfl) ?_
  intro p e s m args below meth c X hr hname
  generalize hF : ((fun r z => r = some (.int (-1)) ∧ z.1 = S.1 ∧ ∀ a, P + 200 ≤ a → z.2.1 a = S.2.1 a) : Option Value → zS → Prop) = FQ
  change Zw p l e { frames := 2, cells := 0, slots := 0, locals := 80 * 2 } s m args below meth c G b 7 (MQ below (zQ G b FQ) args s 0 0 (fun q : Nat => b ≤ q)) 0 0 0 [some (.ref P), some (.int sd), some (.int u), some (.int k), none, none, none] [] S
  have hE9 := hE
  obtain ⟨hT, e_st, e_tl, e_ol, e_rk, e_rf, e_rp, e_l0, e_l1, e_l2, e_l3, e_l4, e_l5, e_l6, e_lq, e_lg, e_a0, e_a1, e_o0, e_o1, e_o2, e_o3⟩ := hE
  obtain ⟨lt, o, tape, out, reader, list, past, pool, result, odds, paper, trial, trialPool, trialResult, trialOdds⟩ := id hT
  have o_list := list.2.1
  have o_pool := pool.2.1
  have o_rd := reader.2.1
  have o_res := result.2.1
  have o_odds := odds.2.1
  have o_past := past.2.1
  have o_pap := paper.2.1
  refine a_iload_n X dX7_waits_0 rfl ?_
  refine a_callSv X dX7_waits_1 miX7_isSeed lm7_237 (c_isSeed) rfl rfl (Nat.le_of_ble_eq_true rfl) ⟨by decide, by decide, by decide, by decide⟩ ?_
  refine a_if_eq (tgt := 12) X dX7_waits_4 (by decide) (fun h_4 => ?_) (fun h_4 => ?_)
  · refine a_aload_n X dX7_waits_12 rfl ?_
    refine a_iconst (v := 1) X dX7_waits_13 (by decide) ?_
    refine a_callVv X dX7_waits_14 miX7_refuse lm7_102 (c_refuse (by assumption)) (by assumption) rfl rfl rfl (Nat.le_of_ble_eq_true rfl) ⟨by decide, by decide, by decide, by decide⟩ ?_
    refine a_iret X hr dX7_waits_17 ⟨by decide, by decide⟩ ?_
    subst hF
    refine ⟨?_, rfl, fun a ha => ?_⟩
    · rfl
    · dsimp only
      repeat first | rw [zu_row (by omega)] | rw [zfil_row (by omega)] | rw [zcpy_row (by omega)] | rw [zwr_row (by omega)] | dsimp only
  · refine a_iload_n X dX7_waits_7 rfl ?_
    refine a_iconst (v := -1) X dX7_waits_8 (by decide) ?_
    refine a_icmp_ge (tgt := 18) X dX7_waits_9 (by decide) (fun h_9 => ?_) (fun h_9 => ?_)
    · refine a_aload_n X dX7_waits_18 rfl ?_
      refine a_iload_n X dX7_waits_19 rfl ?_
      refine a_callVv X dX7_waits_20 miX7_isUnit lm7_188 (c_isUnit0 (by assumption) (by assumption)) (by assumption) rfl rfl rfl (Nat.le_of_ble_eq_true rfl) ⟨by decide, by decide, by decide, by decide⟩ ?_
      refine a_if_ne (tgt := 32) X dX7_waits_23 (by decide) (fun h_23 => absurd rfl h_23) (fun h_23 => ?_)
      refine a_aload_n X dX7_waits_26 rfl ?_
      refine a_iconst (v := 2) X dX7_waits_27 (by decide) ?_
      refine a_callVv X dX7_waits_28 miX7_refuse lm7_102 (c_refuse (by assumption)) (by assumption) rfl rfl rfl (Nat.le_of_ble_eq_true rfl) ⟨by decide, by decide, by decide, by decide⟩ ?_
      refine a_iret X hr dX7_waits_31 ⟨by decide, by decide⟩ ?_
      subst hF
      refine ⟨?_, rfl, fun a ha => ?_⟩
      · rfl
      · dsimp only
        repeat first | rw [zu_row (by omega)] | rw [zfil_row (by omega)] | rw [zcpy_row (by omega)] | rw [zwr_row (by omega)] | dsimp only
    · refine a_aload_n X dX7_waits_12 rfl ?_
      refine a_iconst (v := 1) X dX7_waits_13 (by decide) ?_
      refine a_callVv X dX7_waits_14 miX7_refuse lm7_102 (c_refuse (by assumption)) (by assumption) rfl rfl rfl (Nat.le_of_ble_eq_true rfl) ⟨by decide, by decide, by decide, by decide⟩ ?_
      refine a_iret X hr dX7_waits_17 ⟨by decide, by decide⟩ ?_
      subst hF
      refine ⟨?_, rfl, fun a ha => ?_⟩
      · rfl
      · dsimp only
        repeat first | rw [zu_row (by omega)] | rw [zfil_row (by omega)] | rw [zcpy_row (by omega)] | rw [zwr_row (by omega)] | dsimp only
set_option maxRecDepth 100000 in
theorem f_next {l : Launch} {G : zG} {b : Nat} {S : zS} {P : Nat} {sd : Int32} {u : Int32} {k : Int32} (hE : zE7 S P) : zM l G b yX7_next cX7_next 8 (some .int) 2 0 0 [.ref P, .int sd, .int u, .int k] S (fun r z => r = some (.int (-1)) ∧ z.1 = S.1 ∧ ∀ a, P + 200 ≤ a → z.2.1 a = S.2.1 a) := by
  refine zM.of miX7_next (Nat.le_of_ble_eq_true rfl) ?_
  intro p e s m args below meth c X hr hname
  generalize hF : ((fun r z => r = some (.int (-1)) ∧ z.1 = S.1 ∧ ∀ a, P + 200 ≤ a → z.2.1 a = S.2.1 a) : Option Value → zS → Prop) = FQ
  change Zw p l e { frames := 2, cells := 0, slots := 0, locals := 80 * 2 } s m args below meth c G b 8 (MQ below (zQ G b FQ) args s 0 0 (fun q : Nat => b ≤ q)) 0 0 0 [some (.ref P), some (.int sd), some (.int u), some (.int k), none, none, none, none] [] S
  have hE9 := hE
  obtain ⟨hT, e_st, e_tl, e_ol, e_rk, e_rf, e_rp, e_l0, e_l1, e_l2, e_l3, e_l4, e_l5, e_l6, e_lq, e_lg, e_a0, e_a1, e_o0, e_o1, e_o2, e_o3⟩ := hE
  obtain ⟨lt, o, tape, out, reader, list, past, pool, result, odds, paper, trial, trialPool, trialResult, trialOdds⟩ := id hT
  have o_list := list.2.1
  have o_pool := pool.2.1
  have o_rd := reader.2.1
  have o_res := result.2.1
  have o_odds := odds.2.1
  have o_past := past.2.1
  have o_pap := paper.2.1
  refine a_iload_n X dX7_next_0 rfl ?_
  refine a_callSv X dX7_next_1 miX7_isSeed lm7_237 (c_isSeed) rfl rfl (Nat.le_of_ble_eq_true rfl) ⟨by decide, by decide, by decide, by decide⟩ ?_
  refine a_if_eq (tgt := 17) X dX7_next_4 (by decide) (fun h_4 => ?_) (fun h_4 => ?_)
  · refine a_aload_n X dX7_next_17 rfl ?_
    refine a_iconst (v := 1) X dX7_next_18 (by decide) ?_
    refine a_callVv X dX7_next_19 miX7_refuse lm7_102 (c_refuse (by assumption)) (by assumption) rfl rfl rfl (Nat.le_of_ble_eq_true rfl) ⟨by decide, by decide, by decide, by decide⟩ ?_
    refine a_iret X hr dX7_next_22 ⟨by decide, by decide⟩ ?_
    subst hF
    refine ⟨?_, rfl, fun a ha => ?_⟩
    · rfl
    · dsimp only
      repeat first | rw [zu_row (by omega)] | rw [zfil_row (by omega)] | rw [zcpy_row (by omega)] | rw [zwr_row (by omega)] | dsimp only
  · refine a_iload_n X dX7_next_7 rfl ?_
    refine a_if_lt (tgt := 17) X dX7_next_8 (by decide) (fun h_8 => ?_) (fun h_8 => ?_)
    · refine a_aload_n X dX7_next_17 rfl ?_
      refine a_iconst (v := 1) X dX7_next_18 (by decide) ?_
      refine a_callVv X dX7_next_19 miX7_refuse lm7_102 (c_refuse (by assumption)) (by assumption) rfl rfl rfl (Nat.le_of_ble_eq_true rfl) ⟨by decide, by decide, by decide, by decide⟩ ?_
      refine a_iret X hr dX7_next_22 ⟨by decide, by decide⟩ ?_
      subst hF
      refine ⟨?_, rfl, fun a ha => ?_⟩
      · rfl
      · dsimp only
        repeat first | rw [zu_row (by omega)] | rw [zfil_row (by omega)] | rw [zcpy_row (by omega)] | rw [zwr_row (by omega)] | dsimp only
    · refine a_iload_n X dX7_next_11 rfl ?_
      refine a_bipush (v := 20) X dX7_next_12 (by decide) ?_
      refine a_icmp_le (tgt := 23) X dX7_next_14 (by decide) (fun h_14 => ?_) (fun h_14 => ?_)
      · refine a_aload_n X dX7_next_23 rfl ?_
        refine a_iload_n X dX7_next_24 rfl ?_
        refine a_callVv X dX7_next_25 miX7_isUnit lm7_188 (c_isUnit0 (by assumption) (by assumption)) (by assumption) rfl rfl rfl (Nat.le_of_ble_eq_true rfl) ⟨by decide, by decide, by decide, by decide⟩ ?_
        refine a_if_ne (tgt := 37) X dX7_next_28 (by decide) (fun h_28 => absurd rfl h_28) (fun h_28 => ?_)
        refine a_aload_n X dX7_next_31 rfl ?_
        refine a_iconst (v := 2) X dX7_next_32 (by decide) ?_
        refine a_callVv X dX7_next_33 miX7_refuse lm7_102 (c_refuse (by assumption)) (by assumption) rfl rfl rfl (Nat.le_of_ble_eq_true rfl) ⟨by decide, by decide, by decide, by decide⟩ ?_
        refine a_iret X hr dX7_next_36 ⟨by decide, by decide⟩ ?_
        subst hF
        refine ⟨?_, rfl, fun a ha => ?_⟩
        · rfl
        · dsimp only
          repeat first | rw [zu_row (by omega)] | rw [zfil_row (by omega)] | rw [zcpy_row (by omega)] | rw [zwr_row (by omega)] | dsimp only
      · refine a_aload_n X dX7_next_17 rfl ?_
        refine a_iconst (v := 1) X dX7_next_18 (by decide) ?_
        refine a_callVv X dX7_next_19 miX7_refuse lm7_102 (c_refuse (by assumption)) (by assumption) rfl rfl rfl (Nat.le_of_ble_eq_true rfl) ⟨by decide, by decide, by decide, by decide⟩ ?_
        refine a_iret X hr dX7_next_22 ⟨by decide, by decide⟩ ?_
        subst hF
        refine ⟨?_, rfl, fun a ha => ?_⟩
        · rfl
        · dsimp only
          repeat first | rw [zu_row (by omega)] | rw [zfil_row (by omega)] | rw [zcpy_row (by omega)] | rw [zwr_row (by omega)] | dsimp only
set_option maxRecDepth 100000 in
theorem f_envies {l : Launch} {G : zG} {b : Nat} {S : zS} {P : Nat} {sd : Int32} {a : Int32} (hE : zE7 S P) : zM l G b yX7_envies cX7_envies 7 (some .int) 2 0 0 [.ref P, .int sd, .int a] S (fun r z => r = some (.int (-1)) ∧ z.1 = S.1 ∧ ∀ a, P + 200 ≤ a → z.2.1 a = S.2.1 a) := by
  refine zM.of miX7_envies (Nat.le_of_ble_eq_true rfl) ?_
  intro p e s m args below meth c X hr hname
  generalize hF : ((fun r z => r = some (.int (-1)) ∧ z.1 = S.1 ∧ ∀ a, P + 200 ≤ a → z.2.1 a = S.2.1 a) : Option Value → zS → Prop) = FQ
  change Zw p l e { frames := 2, cells := 0, slots := 0, locals := 80 * 2 } s m args below meth c G b 7 (MQ below (zQ G b FQ) args s 0 0 (fun q : Nat => b ≤ q)) 0 0 0 [some (.ref P), some (.int sd), some (.int a), none, none, none, none] [] S
  have hE9 := hE
  obtain ⟨hT, e_st, e_tl, e_ol, e_rk, e_rf, e_rp, e_l0, e_l1, e_l2, e_l3, e_l4, e_l5, e_l6, e_lq, e_lg, e_a0, e_a1, e_o0, e_o1, e_o2, e_o3⟩ := hE
  obtain ⟨lt, o, tape, out, reader, list, past, pool, result, odds, paper, trial, trialPool, trialResult, trialOdds⟩ := id hT
  have o_list := list.2.1
  have o_pool := pool.2.1
  have o_rd := reader.2.1
  have o_res := result.2.1
  have o_odds := odds.2.1
  have o_past := past.2.1
  have o_pap := paper.2.1
  refine a_iload_n X dX7_envies_0 rfl ?_
  refine a_callSv X dX7_envies_1 miX7_isSeed lm7_237 (c_isSeed) rfl rfl (Nat.le_of_ble_eq_true rfl) ⟨by decide, by decide, by decide, by decide⟩ ?_
  refine a_if_ne (tgt := 13) X dX7_envies_4 (by decide) (fun h_4 => ?_) (fun h_4 => ?_)
  · refine a_aload_n X dX7_envies_13 rfl ?_
    refine a_iload_n X dX7_envies_14 rfl ?_
    refine a_callVv X dX7_envies_15 miX7_isApplicant lm7_206 (c_isApplicant0 (by assumption) (by assumption)) (by assumption) rfl rfl rfl (Nat.le_of_ble_eq_true rfl) ⟨by decide, by decide, by decide, by decide⟩ ?_
    refine a_if_ne (tgt := 27) X dX7_envies_18 (by decide) (fun h_18 => absurd rfl h_18) (fun h_18 => ?_)
    refine a_aload_n X dX7_envies_21 rfl ?_
    refine a_iconst (v := 2) X dX7_envies_22 (by decide) ?_
    refine a_callVv X dX7_envies_23 miX7_refuse lm7_102 (c_refuse (by assumption)) (by assumption) rfl rfl rfl (Nat.le_of_ble_eq_true rfl) ⟨by decide, by decide, by decide, by decide⟩ ?_
    refine a_iret X hr dX7_envies_26 ⟨by decide, by decide⟩ ?_
    subst hF
    refine ⟨?_, rfl, fun a ha => ?_⟩
    · rfl
    · dsimp only
      repeat first | rw [zu_row (by omega)] | rw [zfil_row (by omega)] | rw [zcpy_row (by omega)] | rw [zwr_row (by omega)] | dsimp only
  · refine a_aload_n X dX7_envies_7 rfl ?_
    refine a_iconst (v := 1) X dX7_envies_8 (by decide) ?_
    refine a_callVv X dX7_envies_9 miX7_refuse lm7_102 (c_refuse (by assumption)) (by assumption) rfl rfl rfl (Nat.le_of_ble_eq_true rfl) ⟨by decide, by decide, by decide, by decide⟩ ?_
    refine a_iret X hr dX7_envies_12 ⟨by decide, by decide⟩ ?_
    subst hF
    refine ⟨?_, rfl, fun a ha => ?_⟩
    · rfl
    · dsimp only
      repeat first | rw [zu_row (by omega)] | rw [zfil_row (by omega)] | rw [zcpy_row (by omega)] | rw [zwr_row (by omega)] | dsimp only
set_option maxRecDepth 100000 in
theorem f_spoils {l : Launch} {G : zG} {b : Nat} {S : zS} {P : Nat} {sd : Int32} {a : Int32} (hE : zE7 S P) : zM l G b yX7_spoils cX7_spoils 5 (some .int) 2 0 0 [.ref P, .int sd, .int a] S (fun r z => r = some (.int (-1)) ∧ z.1 = S.1 ∧ ∀ a, P + 200 ≤ a → z.2.1 a = S.2.1 a) := by
  refine zM.of miX7_spoils (Nat.le_of_ble_eq_true rfl) ?_
  intro p e s m args below meth c X hr hname
  generalize hF : ((fun r z => r = some (.int (-1)) ∧ z.1 = S.1 ∧ ∀ a, P + 200 ≤ a → z.2.1 a = S.2.1 a) : Option Value → zS → Prop) = FQ
  change Zw p l e { frames := 2, cells := 0, slots := 0, locals := 80 * 2 } s m args below meth c G b 5 (MQ below (zQ G b FQ) args s 0 0 (fun q : Nat => b ≤ q)) 0 0 0 [some (.ref P), some (.int sd), some (.int a), none, none] [] S
  have hE9 := hE
  obtain ⟨hT, e_st, e_tl, e_ol, e_rk, e_rf, e_rp, e_l0, e_l1, e_l2, e_l3, e_l4, e_l5, e_l6, e_lq, e_lg, e_a0, e_a1, e_o0, e_o1, e_o2, e_o3⟩ := hE
  obtain ⟨lt, o, tape, out, reader, list, past, pool, result, odds, paper, trial, trialPool, trialResult, trialOdds⟩ := id hT
  have o_list := list.2.1
  have o_pool := pool.2.1
  have o_rd := reader.2.1
  have o_res := result.2.1
  have o_odds := odds.2.1
  have o_past := past.2.1
  have o_pap := paper.2.1
  refine a_iload_n X dX7_spoils_0 rfl ?_
  refine a_callSv X dX7_spoils_1 miX7_isSeed lm7_237 (c_isSeed) rfl rfl (Nat.le_of_ble_eq_true rfl) ⟨by decide, by decide, by decide, by decide⟩ ?_
  refine a_if_ne (tgt := 13) X dX7_spoils_4 (by decide) (fun h_4 => ?_) (fun h_4 => ?_)
  · refine a_aload_n X dX7_spoils_13 rfl ?_
    refine a_iload_n X dX7_spoils_14 rfl ?_
    refine a_callVv X dX7_spoils_15 miX7_isApplicant lm7_206 (c_isApplicant0 (by assumption) (by assumption)) (by assumption) rfl rfl rfl (Nat.le_of_ble_eq_true rfl) ⟨by decide, by decide, by decide, by decide⟩ ?_
    refine a_if_ne (tgt := 27) X dX7_spoils_18 (by decide) (fun h_18 => absurd rfl h_18) (fun h_18 => ?_)
    refine a_aload_n X dX7_spoils_21 rfl ?_
    refine a_iconst (v := 2) X dX7_spoils_22 (by decide) ?_
    refine a_callVv X dX7_spoils_23 miX7_refuse lm7_102 (c_refuse (by assumption)) (by assumption) rfl rfl rfl (Nat.le_of_ble_eq_true rfl) ⟨by decide, by decide, by decide, by decide⟩ ?_
    refine a_iret X hr dX7_spoils_26 ⟨by decide, by decide⟩ ?_
    subst hF
    refine ⟨?_, rfl, fun a ha => ?_⟩
    · rfl
    · dsimp only
      repeat first | rw [zu_row (by omega)] | rw [zfil_row (by omega)] | rw [zcpy_row (by omega)] | rw [zwr_row (by omega)] | dsimp only
  · refine a_aload_n X dX7_spoils_7 rfl ?_
    refine a_iconst (v := 1) X dX7_spoils_8 (by decide) ?_
    refine a_callVv X dX7_spoils_9 miX7_refuse lm7_102 (c_refuse (by assumption)) (by assumption) rfl rfl rfl (Nat.le_of_ble_eq_true rfl) ⟨by decide, by decide, by decide, by decide⟩ ?_
    refine a_iret X hr dX7_spoils_12 ⟨by decide, by decide⟩ ?_
    subst hF
    refine ⟨?_, rfl, fun a ha => ?_⟩
    · rfl
    · dsimp only
      repeat first | rw [zu_row (by omega)] | rw [zfil_row (by omega)] | rw [zcpy_row (by omega)] | rw [zwr_row (by omega)] | dsimp only
set_option maxRecDepth 100000 in
theorem f_behind {l : Launch} {G : zG} {b : Nat} {S : zS} {P : Nat} {sd : Int32} {h : Int32} (hE : zE7 S P) : zM l G b yX7_behind cX7_behind 3 (some .int) 2 0 0 [.ref P, .int sd, .int h] S (fun r z => r = some (.int (-1)) ∧ z.1 = S.1 ∧ ∀ a, P + 200 ≤ a → z.2.1 a = S.2.1 a) := by
  refine zM.of miX7_behind (Nat.le_of_ble_eq_true rfl) ?_
  intro p e s m args below meth c X hr hname
  generalize hF : ((fun r z => r = some (.int (-1)) ∧ z.1 = S.1 ∧ ∀ a, P + 200 ≤ a → z.2.1 a = S.2.1 a) : Option Value → zS → Prop) = FQ
  change Zw p l e { frames := 2, cells := 0, slots := 0, locals := 80 * 2 } s m args below meth c G b 3 (MQ below (zQ G b FQ) args s 0 0 (fun q : Nat => b ≤ q)) 0 0 0 [some (.ref P), some (.int sd), some (.int h)] [] S
  have hE9 := hE
  obtain ⟨hT, e_st, e_tl, e_ol, e_rk, e_rf, e_rp, e_l0, e_l1, e_l2, e_l3, e_l4, e_l5, e_l6, e_lq, e_lg, e_a0, e_a1, e_o0, e_o1, e_o2, e_o3⟩ := hE
  obtain ⟨lt, o, tape, out, reader, list, past, pool, result, odds, paper, trial, trialPool, trialResult, trialOdds⟩ := id hT
  have o_list := list.2.1
  have o_pool := pool.2.1
  have o_rd := reader.2.1
  have o_res := result.2.1
  have o_odds := odds.2.1
  have o_past := past.2.1
  have o_pap := paper.2.1
  refine a_iload_n X dX7_behind_0 rfl ?_
  refine a_callSv X dX7_behind_1 miX7_isSeed lm7_237 (c_isSeed) rfl rfl (Nat.le_of_ble_eq_true rfl) ⟨by decide, by decide, by decide, by decide⟩ ?_
  refine a_if_ne (tgt := 13) X dX7_behind_4 (by decide) (fun h_4 => ?_) (fun h_4 => ?_)
  · refine a_aload_n X dX7_behind_13 rfl ?_
    refine a_iload_n X dX7_behind_14 rfl ?_
    refine a_callVv X dX7_behind_15 miX7_isHunter lm7_168 (c_isHunter0 (by assumption) (by assumption)) (by assumption) rfl rfl rfl (Nat.le_of_ble_eq_true rfl) ⟨by decide, by decide, by decide, by decide⟩ ?_
    refine a_if_ne (tgt := 27) X dX7_behind_18 (by decide) (fun h_18 => absurd rfl h_18) (fun h_18 => ?_)
    refine a_aload_n X dX7_behind_21 rfl ?_
    refine a_iconst (v := 2) X dX7_behind_22 (by decide) ?_
    refine a_callVv X dX7_behind_23 miX7_refuse lm7_102 (c_refuse (by assumption)) (by assumption) rfl rfl rfl (Nat.le_of_ble_eq_true rfl) ⟨by decide, by decide, by decide, by decide⟩ ?_
    refine a_iret X hr dX7_behind_26 ⟨by decide, by decide⟩ ?_
    subst hF
    refine ⟨?_, rfl, fun a ha => ?_⟩
    · rfl
    · dsimp only
      repeat first | rw [zu_row (by omega)] | rw [zfil_row (by omega)] | rw [zcpy_row (by omega)] | rw [zwr_row (by omega)] | dsimp only
  · refine a_aload_n X dX7_behind_7 rfl ?_
    refine a_iconst (v := 1) X dX7_behind_8 (by decide) ?_
    refine a_callVv X dX7_behind_9 miX7_refuse lm7_102 (c_refuse (by assumption)) (by assumption) rfl rfl rfl (Nat.le_of_ble_eq_true rfl) ⟨by decide, by decide, by decide, by decide⟩ ?_
    refine a_iret X hr dX7_behind_12 ⟨by decide, by decide⟩ ?_
    subst hF
    refine ⟨?_, rfl, fun a ha => ?_⟩
    · rfl
    · dsimp only
      repeat first | rw [zu_row (by omega)] | rw [zfil_row (by omega)] | rw [zcpy_row (by omega)] | rw [zwr_row (by omega)] | dsimp only
set_option maxRecDepth 100000 in
theorem f_lucky {l : Launch} {G : zG} {b : Nat} {S : zS} {P : Nat} {sd : Int32} {a : Int32} (hE : zE7 S P) : zM l G b yX7_lucky cX7_lucky 4 (some .int) 2 0 0 [.ref P, .int sd, .int a] S (fun r z => r = some (.int (-1)) ∧ z.1 = S.1 ∧ ∀ a, P + 200 ≤ a → z.2.1 a = S.2.1 a) := by
  refine zM.of miX7_lucky (Nat.le_of_ble_eq_true rfl) ?_
  intro p e s m args below meth c X hr hname
  generalize hF : ((fun r z => r = some (.int (-1)) ∧ z.1 = S.1 ∧ ∀ a, P + 200 ≤ a → z.2.1 a = S.2.1 a) : Option Value → zS → Prop) = FQ
  change Zw p l e { frames := 2, cells := 0, slots := 0, locals := 80 * 2 } s m args below meth c G b 4 (MQ below (zQ G b FQ) args s 0 0 (fun q : Nat => b ≤ q)) 0 0 0 [some (.ref P), some (.int sd), some (.int a), none] [] S
  have hE9 := hE
  obtain ⟨hT, e_st, e_tl, e_ol, e_rk, e_rf, e_rp, e_l0, e_l1, e_l2, e_l3, e_l4, e_l5, e_l6, e_lq, e_lg, e_a0, e_a1, e_o0, e_o1, e_o2, e_o3⟩ := hE
  obtain ⟨lt, o, tape, out, reader, list, past, pool, result, odds, paper, trial, trialPool, trialResult, trialOdds⟩ := id hT
  have o_list := list.2.1
  have o_pool := pool.2.1
  have o_rd := reader.2.1
  have o_res := result.2.1
  have o_odds := odds.2.1
  have o_past := past.2.1
  have o_pap := paper.2.1
  refine a_iload_n X dX7_lucky_0 rfl ?_
  refine a_callSv X dX7_lucky_1 miX7_isSeed lm7_237 (c_isSeed) rfl rfl (Nat.le_of_ble_eq_true rfl) ⟨by decide, by decide, by decide, by decide⟩ ?_
  refine a_if_eq (tgt := 14) X dX7_lucky_4 (by decide) (fun h_4 => ?_) (fun h_4 => ?_)
  · refine a_aload_n X dX7_lucky_14 rfl ?_
    refine a_iconst (v := 1) X dX7_lucky_15 (by decide) ?_
    refine a_callVv X dX7_lucky_16 miX7_refuse lm7_102 (c_refuse (by assumption)) (by assumption) rfl rfl rfl (Nat.le_of_ble_eq_true rfl) ⟨by decide, by decide, by decide, by decide⟩ ?_
    refine a_iret X hr dX7_lucky_19 ⟨by decide, by decide⟩ ?_
    subst hF
    refine ⟨?_, rfl, fun a ha => ?_⟩
    · rfl
    · dsimp only
      repeat first | rw [zu_row (by omega)] | rw [zfil_row (by omega)] | rw [zcpy_row (by omega)] | rw [zwr_row (by omega)] | dsimp only
  · refine a_iload_n X dX7_lucky_7 rfl ?_
    refine a_ldcw X dX7_lucky_8 lk7_291 ?_
    refine a_icmp_le (tgt := 20) X dX7_lucky_11 (by decide) (fun h_11 => ?_) (fun h_11 => ?_)
    · refine a_aload_n X dX7_lucky_20 rfl ?_
      refine a_iload_n X dX7_lucky_21 rfl ?_
      refine a_callVv X dX7_lucky_22 miX7_isApplicant lm7_206 (c_isApplicant0 (by assumption) (by assumption)) (by assumption) rfl rfl rfl (Nat.le_of_ble_eq_true rfl) ⟨by decide, by decide, by decide, by decide⟩ ?_
      refine a_if_ne (tgt := 34) X dX7_lucky_25 (by decide) (fun h_25 => absurd rfl h_25) (fun h_25 => ?_)
      refine a_aload_n X dX7_lucky_28 rfl ?_
      refine a_iconst (v := 2) X dX7_lucky_29 (by decide) ?_
      refine a_callVv X dX7_lucky_30 miX7_refuse lm7_102 (c_refuse (by assumption)) (by assumption) rfl rfl rfl (Nat.le_of_ble_eq_true rfl) ⟨by decide, by decide, by decide, by decide⟩ ?_
      refine a_iret X hr dX7_lucky_33 ⟨by decide, by decide⟩ ?_
      subst hF
      refine ⟨?_, rfl, fun a ha => ?_⟩
      · rfl
      · dsimp only
        repeat first | rw [zu_row (by omega)] | rw [zfil_row (by omega)] | rw [zcpy_row (by omega)] | rw [zwr_row (by omega)] | dsimp only
    · refine a_aload_n X dX7_lucky_14 rfl ?_
      refine a_iconst (v := 1) X dX7_lucky_15 (by decide) ?_
      refine a_callVv X dX7_lucky_16 miX7_refuse lm7_102 (c_refuse (by assumption)) (by assumption) rfl rfl rfl (Nat.le_of_ble_eq_true rfl) ⟨by decide, by decide, by decide, by decide⟩ ?_
      refine a_iret X hr dX7_lucky_19 ⟨by decide, by decide⟩ ?_
      subst hF
      refine ⟨?_, rfl, fun a ha => ?_⟩
      · rfl
      · dsimp only
        repeat first | rw [zu_row (by omega)] | rw [zfil_row (by omega)] | rw [zcpy_row (by omega)] | rw [zwr_row (by omega)] | dsimp only
set_option maxRecDepth 100000 in
theorem f_need {l : Launch} {G : zG} {b : Nat} {S : zS} {P : Nat} {h : Int32} {t : Int32} (hE : zE7 S P) : zM l G b yX7_need cX7_need 5 (some .int) 2 0 0 [.ref P, .int h, .int t] S (fun r z => r = some (.int (-1)) ∧ z.1 = S.1 ∧ ∀ a, P + 200 ≤ a → z.2.1 a = S.2.1 a) := by
  refine zM.of miX7_need (Nat.le_of_ble_eq_true rfl) ?_
  intro p e s m args below meth c X hr hname
  generalize hF : ((fun r z => r = some (.int (-1)) ∧ z.1 = S.1 ∧ ∀ a, P + 200 ≤ a → z.2.1 a = S.2.1 a) : Option Value → zS → Prop) = FQ
  change Zw p l e { frames := 2, cells := 0, slots := 0, locals := 80 * 2 } s m args below meth c G b 5 (MQ below (zQ G b FQ) args s 0 0 (fun q : Nat => b ≤ q)) 0 0 0 [some (.ref P), some (.int h), some (.int t), none, none] [] S
  have hE9 := hE
  obtain ⟨hT, e_st, e_tl, e_ol, e_rk, e_rf, e_rp, e_l0, e_l1, e_l2, e_l3, e_l4, e_l5, e_l6, e_lq, e_lg, e_a0, e_a1, e_o0, e_o1, e_o2, e_o3⟩ := hE
  obtain ⟨lt, o, tape, out, reader, list, past, pool, result, odds, paper, trial, trialPool, trialResult, trialOdds⟩ := id hT
  have o_list := list.2.1
  have o_pool := pool.2.1
  have o_rd := reader.2.1
  have o_res := result.2.1
  have o_odds := odds.2.1
  have o_past := past.2.1
  have o_pap := paper.2.1
  refine a_iload_n X dX7_need_0 rfl ?_
  refine a_if_lt (tgt := 11) X dX7_need_1 (by decide) (fun h_1 => ?_) (fun h_1 => ?_)
  · refine a_aload_n X dX7_need_11 rfl ?_
    refine a_iconst (v := 1) X dX7_need_12 (by decide) ?_
    refine a_callVv X dX7_need_13 miX7_refuse lm7_102 (c_refuse (by assumption)) (by assumption) rfl rfl rfl (Nat.le_of_ble_eq_true rfl) ⟨by decide, by decide, by decide, by decide⟩ ?_
    refine a_iret X hr dX7_need_16 ⟨by decide, by decide⟩ ?_
    subst hF
    refine ⟨?_, rfl, fun a ha => ?_⟩
    · rfl
    · dsimp only
      repeat first | rw [zu_row (by omega)] | rw [zfil_row (by omega)] | rw [zcpy_row (by omega)] | rw [zwr_row (by omega)] | rw [h0_136 a (by omega) (by omega)] | rw [h0_136 a (by omega)] | rw [h1_136 a (by omega) (by omega)] | rw [h1_136 a (by omega)] | rw [h2_136 a (by omega) (by omega)] | rw [h2_136 a (by omega)] | dsimp only
  · refine a_iload_n X dX7_need_4 rfl ?_
    refine a_sipush (v := 1000) X dX7_need_5 (by decide) ?_
    refine a_icmp_le (tgt := 17) X dX7_need_8 (by decide) (fun h_8 => ?_) (fun h_8 => ?_)
    · refine a_aload_n X dX7_need_17 rfl ?_
      refine a_iload_n X dX7_need_18 rfl ?_
      refine a_callVv X dX7_need_19 miX7_isHunter lm7_168 (c_isHunter0 (by assumption) (by assumption)) (by assumption) rfl rfl rfl (Nat.le_of_ble_eq_true rfl) ⟨by decide, by decide, by decide, by decide⟩ ?_
      refine a_if_ne (tgt := 31) X dX7_need_22 (by decide) (fun h_22 => absurd rfl h_22) (fun h_22 => ?_)
      refine a_aload_n X dX7_need_25 rfl ?_
      refine a_iconst (v := 2) X dX7_need_26 (by decide) ?_
      refine a_callVv X dX7_need_27 miX7_refuse lm7_102 (c_refuse (by assumption)) (by assumption) rfl rfl rfl (Nat.le_of_ble_eq_true rfl) ⟨by decide, by decide, by decide, by decide⟩ ?_
      refine a_iret X hr dX7_need_30 ⟨by decide, by decide⟩ ?_
      subst hF
      refine ⟨?_, rfl, fun a ha => ?_⟩
      · rfl
      · dsimp only
        repeat first | rw [zu_row (by omega)] | rw [zfil_row (by omega)] | rw [zcpy_row (by omega)] | rw [zwr_row (by omega)] | rw [h0_136 a (by omega) (by omega)] | rw [h0_136 a (by omega)] | rw [h1_136 a (by omega) (by omega)] | rw [h1_136 a (by omega)] | rw [h2_136 a (by omega) (by omega)] | rw [h2_136 a (by omega)] | dsimp only
    · refine a_aload_n X dX7_need_11 rfl ?_
      refine a_iconst (v := 1) X dX7_need_12 (by decide) ?_
      refine a_callVv X dX7_need_13 miX7_refuse lm7_102 (c_refuse (by assumption)) (by assumption) rfl rfl rfl (Nat.le_of_ble_eq_true rfl) ⟨by decide, by decide, by decide, by decide⟩ ?_
      refine a_iret X hr dX7_need_16 ⟨by decide, by decide⟩ ?_
      subst hF
      refine ⟨?_, rfl, fun a ha => ?_⟩
      · rfl
      · dsimp only
        repeat first | rw [zu_row (by omega)] | rw [zfil_row (by omega)] | rw [zcpy_row (by omega)] | rw [zwr_row (by omega)] | rw [h0_136 a (by omega) (by omega)] | rw [h0_136 a (by omega)] | rw [h1_136 a (by omega) (by omega)] | rw [h1_136 a (by omega)] | rw [h2_136 a (by omega) (by omega)] | rw [h2_136 a (by omega)] | dsimp only
set_option maxRecDepth 100000 in
theorem f_often {l : Launch} {G : zG} {b : Nat} {S : zS} {P : Nat} {sd : Int32} {n : Int32} {h : Int32} (hE : zE7 S P) : zM l G b yX7_often cX7_often 4 (some .int) 2 0 0 [.ref P, .int sd, .int n, .int h] S (fun r z => r = some (.int (-1)) ∧ z.1 = S.1 ∧ ∀ a, P + 200 ≤ a → z.2.1 a = S.2.1 a) := by
  refine zM.of miX7_often (Nat.le_of_ble_eq_true rfl) ?_
  intro p e s m args below meth c X hr hname
  generalize hF : ((fun r z => r = some (.int (-1)) ∧ z.1 = S.1 ∧ ∀ a, P + 200 ≤ a → z.2.1 a = S.2.1 a) : Option Value → zS → Prop) = FQ
  change Zw p l e { frames := 2, cells := 0, slots := 0, locals := 80 * 2 } s m args below meth c G b 4 (MQ below (zQ G b FQ) args s 0 0 (fun q : Nat => b ≤ q)) 0 0 0 [some (.ref P), some (.int sd), some (.int n), some (.int h)] [] S
  have hE9 := hE
  obtain ⟨hT, e_st, e_tl, e_ol, e_rk, e_rf, e_rp, e_l0, e_l1, e_l2, e_l3, e_l4, e_l5, e_l6, e_lq, e_lg, e_a0, e_a1, e_o0, e_o1, e_o2, e_o3⟩ := hE
  obtain ⟨lt, o, tape, out, reader, list, past, pool, result, odds, paper, trial, trialPool, trialResult, trialOdds⟩ := id hT
  have o_list := list.2.1
  have o_pool := pool.2.1
  have o_rd := reader.2.1
  have o_res := result.2.1
  have o_odds := odds.2.1
  have o_past := past.2.1
  have o_pap := paper.2.1
  refine a_iload_n X dX7_often_0 rfl ?_
  refine a_iload_n X dX7_often_1 rfl ?_
  refine a_callSv X dX7_often_2 miX7_areYears lm7_372 (c_areYears) rfl rfl (Nat.le_of_ble_eq_true rfl) ⟨by decide, by decide, by decide, by decide⟩ ?_
  refine a_if_ne (tgt := 14) X dX7_often_5 (by decide) (fun h_5 => ?_) (fun h_5 => ?_)
  · refine a_aload_n X dX7_often_14 rfl ?_
    refine a_iload_n X dX7_often_15 rfl ?_
    refine a_callVv X dX7_often_16 miX7_isHunter lm7_168 (c_isHunter0 (by assumption) (by assumption)) (by assumption) rfl rfl rfl (Nat.le_of_ble_eq_true rfl) ⟨by decide, by decide, by decide, by decide⟩ ?_
    refine a_if_ne (tgt := 28) X dX7_often_19 (by decide) (fun h_19 => absurd rfl h_19) (fun h_19 => ?_)
    refine a_aload_n X dX7_often_22 rfl ?_
    refine a_iconst (v := 2) X dX7_often_23 (by decide) ?_
    refine a_callVv X dX7_often_24 miX7_refuse lm7_102 (c_refuse (by assumption)) (by assumption) rfl rfl rfl (Nat.le_of_ble_eq_true rfl) ⟨by decide, by decide, by decide, by decide⟩ ?_
    refine a_iret X hr dX7_often_27 ⟨by decide, by decide⟩ ?_
    subst hF
    refine ⟨?_, rfl, fun a ha => ?_⟩
    · rfl
    · dsimp only
      repeat first | rw [zu_row (by omega)] | rw [zfil_row (by omega)] | rw [zcpy_row (by omega)] | rw [zwr_row (by omega)] | rw [q0_38 a (by omega) (by omega)] | rw [q0_38 a (by omega)] | rw [q1_38 a (by omega) (by omega)] | rw [q1_38 a (by omega)] | rw [q2_38 a (by omega) (by omega)] | rw [q2_38 a (by omega)] | dsimp only
  · refine a_aload_n X dX7_often_8 rfl ?_
    refine a_iconst (v := 1) X dX7_often_9 (by decide) ?_
    refine a_callVv X dX7_often_10 miX7_refuse lm7_102 (c_refuse (by assumption)) (by assumption) rfl rfl rfl (Nat.le_of_ble_eq_true rfl) ⟨by decide, by decide, by decide, by decide⟩ ?_
    refine a_iret X hr dX7_often_13 ⟨by decide, by decide⟩ ?_
    subst hF
    refine ⟨?_, rfl, fun a ha => ?_⟩
    · rfl
    · dsimp only
      repeat first | rw [zu_row (by omega)] | rw [zfil_row (by omega)] | rw [zcpy_row (by omega)] | rw [zwr_row (by omega)] | rw [q0_38 a (by omega) (by omega)] | rw [q0_38 a (by omega)] | rw [q1_38 a (by omega) (by omega)] | rw [q1_38 a (by omega)] | rw [q2_38 a (by omega) (by omega)] | rw [q2_38 a (by omega)] | dsimp only
set_option maxRecDepth 100000 in
theorem f_soonest {l : Launch} {G : zG} {b : Nat} {S : zS} {P : Nat} {sd : Int32} {n : Int32} {h : Int32} (hE : zE7 S P) : zM l G b yX7_soonest cX7_soonest 5 (some .int) 2 0 0 [.ref P, .int sd, .int n, .int h] S (fun r z => r = some (.int (-1)) ∧ z.1 = S.1 ∧ ∀ a, P + 200 ≤ a → z.2.1 a = S.2.1 a) := by
  refine zM.of miX7_soonest (Nat.le_of_ble_eq_true rfl) ?_
  intro p e s m args below meth c X hr hname
  generalize hF : ((fun r z => r = some (.int (-1)) ∧ z.1 = S.1 ∧ ∀ a, P + 200 ≤ a → z.2.1 a = S.2.1 a) : Option Value → zS → Prop) = FQ
  change Zw p l e { frames := 2, cells := 0, slots := 0, locals := 80 * 2 } s m args below meth c G b 5 (MQ below (zQ G b FQ) args s 0 0 (fun q : Nat => b ≤ q)) 0 0 0 [some (.ref P), some (.int sd), some (.int n), some (.int h), none] [] S
  have hE9 := hE
  obtain ⟨hT, e_st, e_tl, e_ol, e_rk, e_rf, e_rp, e_l0, e_l1, e_l2, e_l3, e_l4, e_l5, e_l6, e_lq, e_lg, e_a0, e_a1, e_o0, e_o1, e_o2, e_o3⟩ := hE
  obtain ⟨lt, o, tape, out, reader, list, past, pool, result, odds, paper, trial, trialPool, trialResult, trialOdds⟩ := id hT
  have o_list := list.2.1
  have o_pool := pool.2.1
  have o_rd := reader.2.1
  have o_res := result.2.1
  have o_odds := odds.2.1
  have o_past := past.2.1
  have o_pap := paper.2.1
  refine a_iload_n X dX7_soonest_0 rfl ?_
  refine a_iload_n X dX7_soonest_1 rfl ?_
  refine a_callSv X dX7_soonest_2 miX7_areYears lm7_372 (c_areYears) rfl rfl (Nat.le_of_ble_eq_true rfl) ⟨by decide, by decide, by decide, by decide⟩ ?_
  refine a_if_ne (tgt := 14) X dX7_soonest_5 (by decide) (fun h_5 => ?_) (fun h_5 => ?_)
  · refine a_aload_n X dX7_soonest_14 rfl ?_
    refine a_iload_n X dX7_soonest_15 rfl ?_
    refine a_callVv X dX7_soonest_16 miX7_isHunter lm7_168 (c_isHunter0 (by assumption) (by assumption)) (by assumption) rfl rfl rfl (Nat.le_of_ble_eq_true rfl) ⟨by decide, by decide, by decide, by decide⟩ ?_
    refine a_if_ne (tgt := 28) X dX7_soonest_19 (by decide) (fun h_19 => absurd rfl h_19) (fun h_19 => ?_)
    refine a_aload_n X dX7_soonest_22 rfl ?_
    refine a_iconst (v := 2) X dX7_soonest_23 (by decide) ?_
    refine a_callVv X dX7_soonest_24 miX7_refuse lm7_102 (c_refuse (by assumption)) (by assumption) rfl rfl rfl (Nat.le_of_ble_eq_true rfl) ⟨by decide, by decide, by decide, by decide⟩ ?_
    refine a_iret X hr dX7_soonest_27 ⟨by decide, by decide⟩ ?_
    subst hF
    refine ⟨?_, rfl, fun a ha => ?_⟩
    · rfl
    · dsimp only
      repeat first | rw [zu_row (by omega)] | rw [zfil_row (by omega)] | rw [zcpy_row (by omega)] | rw [zwr_row (by omega)] | rw [q0_38 a (by omega) (by omega)] | rw [q0_38 a (by omega)] | rw [q1_38 a (by omega) (by omega)] | rw [q1_38 a (by omega)] | rw [q2_38 a (by omega) (by omega)] | rw [q2_38 a (by omega)] | dsimp only
  · refine a_aload_n X dX7_soonest_8 rfl ?_
    refine a_iconst (v := 1) X dX7_soonest_9 (by decide) ?_
    refine a_callVv X dX7_soonest_10 miX7_refuse lm7_102 (c_refuse (by assumption)) (by assumption) rfl rfl rfl (Nat.le_of_ble_eq_true rfl) ⟨by decide, by decide, by decide, by decide⟩ ?_
    refine a_iret X hr dX7_soonest_13 ⟨by decide, by decide⟩ ?_
    subst hF
    refine ⟨?_, rfl, fun a ha => ?_⟩
    · rfl
    · dsimp only
      repeat first | rw [zu_row (by omega)] | rw [zfil_row (by omega)] | rw [zcpy_row (by omega)] | rw [zwr_row (by omega)] | rw [q0_38 a (by omega) (by omega)] | rw [q0_38 a (by omega)] | rw [q1_38 a (by omega) (by omega)] | rw [q1_38 a (by omega)] | rw [q2_38 a (by omega) (by omega)] | rw [q2_38 a (by omega)] | dsimp only
set_option maxRecDepth 100000 in
theorem f_points {l : Launch} {G : zG} {b : Nat} {S : zS} {P : Nat} {h : Int32} {v : Int32} (hE : zE7 S P) : zM l G b yX7_points cX7_points 4 (some .int) 2 0 0 [.ref P, .int h, .int v] S (fun r z => r = some (.int (-1)) ∧ z.1 = S.1 ∧ ∀ a, P + 200 ≤ a → z.2.1 a = S.2.1 a) := by
  refine zM.of miX7_points (Nat.le_of_ble_eq_true rfl) ?_
  intro p e s m args below meth c X hr hname
  generalize hF : ((fun r z => r = some (.int (-1)) ∧ z.1 = S.1 ∧ ∀ a, P + 200 ≤ a → z.2.1 a = S.2.1 a) : Option Value → zS → Prop) = FQ
  change Zw p l e { frames := 2, cells := 0, slots := 0, locals := 80 * 2 } s m args below meth c G b 4 (MQ below (zQ G b FQ) args s 0 0 (fun q : Nat => b ≤ q)) 0 0 0 [some (.ref P), some (.int h), some (.int v), none] [] S
  have hE9 := hE
  obtain ⟨hT, e_st, e_tl, e_ol, e_rk, e_rf, e_rp, e_l0, e_l1, e_l2, e_l3, e_l4, e_l5, e_l6, e_lq, e_lg, e_a0, e_a1, e_o0, e_o1, e_o2, e_o3⟩ := hE
  obtain ⟨lt, o, tape, out, reader, list, past, pool, result, odds, paper, trial, trialPool, trialResult, trialOdds⟩ := id hT
  have o_list := list.2.1
  have o_pool := pool.2.1
  have o_rd := reader.2.1
  have o_res := result.2.1
  have o_odds := odds.2.1
  have o_past := past.2.1
  have o_pap := paper.2.1
  refine a_iload_n X dX7_points_0 rfl ?_
  refine a_if_lt (tgt := 10) X dX7_points_1 (by decide) (fun h_1 => ?_) (fun h_1 => ?_)
  · refine a_aload_n X dX7_points_10 rfl ?_
    refine a_iconst (v := 1) X dX7_points_11 (by decide) ?_
    refine a_callVv X dX7_points_12 miX7_refuse lm7_102 (c_refuse (by assumption)) (by assumption) rfl rfl rfl (Nat.le_of_ble_eq_true rfl) ⟨by decide, by decide, by decide, by decide⟩ ?_
    refine a_iret X hr dX7_points_15 ⟨by decide, by decide⟩ ?_
    subst hF
    refine ⟨?_, rfl, fun a ha => ?_⟩
    · rfl
    · dsimp only
      repeat first | rw [zu_row (by omega)] | rw [zfil_row (by omega)] | rw [zcpy_row (by omega)] | rw [zwr_row (by omega)] | rw [q0_61 a (by omega) (by omega)] | rw [q0_61 a (by omega)] | rw [f_78 a (by omega) (by omega)] | rw [f_78 a (by omega)] | dsimp only
  · refine a_iload_n X dX7_points_4 rfl ?_
    refine a_bipush (v := 20) X dX7_points_5 (by decide) ?_
    refine a_icmp_le (tgt := 16) X dX7_points_7 (by decide) (fun h_7 => ?_) (fun h_7 => ?_)
    · refine a_aload_n X dX7_points_16 rfl ?_
      refine a_iload_n X dX7_points_17 rfl ?_
      refine a_callVv X dX7_points_18 miX7_isHunter lm7_168 (c_isHunter0 (by assumption) (by assumption)) (by assumption) rfl rfl rfl (Nat.le_of_ble_eq_true rfl) ⟨by decide, by decide, by decide, by decide⟩ ?_
      refine a_if_ne (tgt := 30) X dX7_points_21 (by decide) (fun h_21 => absurd rfl h_21) (fun h_21 => ?_)
      refine a_aload_n X dX7_points_24 rfl ?_
      refine a_iconst (v := 2) X dX7_points_25 (by decide) ?_
      refine a_callVv X dX7_points_26 miX7_refuse lm7_102 (c_refuse (by assumption)) (by assumption) rfl rfl rfl (Nat.le_of_ble_eq_true rfl) ⟨by decide, by decide, by decide, by decide⟩ ?_
      refine a_iret X hr dX7_points_29 ⟨by decide, by decide⟩ ?_
      subst hF
      refine ⟨?_, rfl, fun a ha => ?_⟩
      · rfl
      · dsimp only
        repeat first | rw [zu_row (by omega)] | rw [zfil_row (by omega)] | rw [zcpy_row (by omega)] | rw [zwr_row (by omega)] | rw [q0_61 a (by omega) (by omega)] | rw [q0_61 a (by omega)] | rw [f_78 a (by omega) (by omega)] | rw [f_78 a (by omega)] | dsimp only
    · refine a_aload_n X dX7_points_10 rfl ?_
      refine a_iconst (v := 1) X dX7_points_11 (by decide) ?_
      refine a_callVv X dX7_points_12 miX7_refuse lm7_102 (c_refuse (by assumption)) (by assumption) rfl rfl rfl (Nat.le_of_ble_eq_true rfl) ⟨by decide, by decide, by decide, by decide⟩ ?_
      refine a_iret X hr dX7_points_15 ⟨by decide, by decide⟩ ?_
      subst hF
      refine ⟨?_, rfl, fun a ha => ?_⟩
      · rfl
      · dsimp only
        repeat first | rw [zu_row (by omega)] | rw [zfil_row (by omega)] | rw [zcpy_row (by omega)] | rw [zwr_row (by omega)] | rw [q0_61 a (by omega) (by omega)] | rw [q0_61 a (by omega)] | rw [f_78 a (by omega) (by omega)] | rw [f_78 a (by omega)] | dsimp only
set_option maxRecDepth 100000 in
theorem f_quota {l : Launch} {G : zG} {b : Nat} {S : zS} {P : Nat} {u : Int32} {v : Int32} (hE : zE7 S P) : zM l G b yX7_quota cX7_quota 4 (some .int) 2 0 0 [.ref P, .int u, .int v] S (fun r z => r = some (.int (-1)) ∧ z.1 = S.1 ∧ ∀ a, P + 200 ≤ a → z.2.1 a = S.2.1 a) := by
  refine zM.of miX7_quota (Nat.le_of_ble_eq_true rfl) ?_
  intro p e s m args below meth c X hr hname
  generalize hF : ((fun r z => r = some (.int (-1)) ∧ z.1 = S.1 ∧ ∀ a, P + 200 ≤ a → z.2.1 a = S.2.1 a) : Option Value → zS → Prop) = FQ
  change Zw p l e { frames := 2, cells := 0, slots := 0, locals := 80 * 2 } s m args below meth c G b 4 (MQ below (zQ G b FQ) args s 0 0 (fun q : Nat => b ≤ q)) 0 0 0 [some (.ref P), some (.int u), some (.int v), none] [] S
  have hE9 := hE
  obtain ⟨hT, e_st, e_tl, e_ol, e_rk, e_rf, e_rp, e_l0, e_l1, e_l2, e_l3, e_l4, e_l5, e_l6, e_lq, e_lg, e_a0, e_a1, e_o0, e_o1, e_o2, e_o3⟩ := hE
  obtain ⟨lt, o, tape, out, reader, list, past, pool, result, odds, paper, trial, trialPool, trialResult, trialOdds⟩ := id hT
  have o_list := list.2.1
  have o_pool := pool.2.1
  have o_rd := reader.2.1
  have o_res := result.2.1
  have o_odds := odds.2.1
  have o_past := past.2.1
  have o_pap := paper.2.1
  refine a_iload_n X dX7_quota_0 rfl ?_
  refine a_if_lt (tgt := 10) X dX7_quota_1 (by decide) (fun h_1 => ?_) (fun h_1 => ?_)
  · refine a_aload_n X dX7_quota_10 rfl ?_
    refine a_iconst (v := 1) X dX7_quota_11 (by decide) ?_
    refine a_callVv X dX7_quota_12 miX7_refuse lm7_102 (c_refuse (by assumption)) (by assumption) rfl rfl rfl (Nat.le_of_ble_eq_true rfl) ⟨by decide, by decide, by decide, by decide⟩ ?_
    refine a_iret X hr dX7_quota_15 ⟨by decide, by decide⟩ ?_
    subst hF
    refine ⟨?_, rfl, fun a ha => ?_⟩
    · rfl
    · dsimp only
      repeat first | rw [zu_row (by omega)] | rw [zfil_row (by omega)] | rw [zcpy_row (by omega)] | rw [zwr_row (by omega)] | rw [q0_61 a (by omega) (by omega)] | rw [q0_61 a (by omega)] | rw [f_78 a (by omega) (by omega)] | rw [f_78 a (by omega)] | dsimp only
  · refine a_iload_n X dX7_quota_4 rfl ?_
    refine a_bipush (v := 20) X dX7_quota_5 (by decide) ?_
    refine a_icmp_le (tgt := 16) X dX7_quota_7 (by decide) (fun h_7 => ?_) (fun h_7 => ?_)
    · refine a_aload_n X dX7_quota_16 rfl ?_
      refine a_iload_n X dX7_quota_17 rfl ?_
      refine a_callVv X dX7_quota_18 miX7_isUnit lm7_188 (c_isUnit0 (by assumption) (by assumption)) (by assumption) rfl rfl rfl (Nat.le_of_ble_eq_true rfl) ⟨by decide, by decide, by decide, by decide⟩ ?_
      refine a_if_ne (tgt := 30) X dX7_quota_21 (by decide) (fun h_21 => absurd rfl h_21) (fun h_21 => ?_)
      refine a_aload_n X dX7_quota_24 rfl ?_
      refine a_iconst (v := 2) X dX7_quota_25 (by decide) ?_
      refine a_callVv X dX7_quota_26 miX7_refuse lm7_102 (c_refuse (by assumption)) (by assumption) rfl rfl rfl (Nat.le_of_ble_eq_true rfl) ⟨by decide, by decide, by decide, by decide⟩ ?_
      refine a_iret X hr dX7_quota_29 ⟨by decide, by decide⟩ ?_
      subst hF
      refine ⟨?_, rfl, fun a ha => ?_⟩
      · rfl
      · dsimp only
        repeat first | rw [zu_row (by omega)] | rw [zfil_row (by omega)] | rw [zcpy_row (by omega)] | rw [zwr_row (by omega)] | rw [q0_61 a (by omega) (by omega)] | rw [q0_61 a (by omega)] | rw [f_78 a (by omega) (by omega)] | rw [f_78 a (by omega)] | dsimp only
    · refine a_aload_n X dX7_quota_10 rfl ?_
      refine a_iconst (v := 1) X dX7_quota_11 (by decide) ?_
      refine a_callVv X dX7_quota_12 miX7_refuse lm7_102 (c_refuse (by assumption)) (by assumption) rfl rfl rfl (Nat.le_of_ble_eq_true rfl) ⟨by decide, by decide, by decide, by decide⟩ ?_
      refine a_iret X hr dX7_quota_15 ⟨by decide, by decide⟩ ?_
      subst hF
      refine ⟨?_, rfl, fun a ha => ?_⟩
      · rfl
      · dsimp only
        repeat first | rw [zu_row (by omega)] | rw [zfil_row (by omega)] | rw [zcpy_row (by omega)] | rw [zwr_row (by omega)] | rw [q0_61 a (by omega) (by omega)] | rw [q0_61 a (by omega)] | rw [f_78 a (by omega) (by omega)] | rw [f_78 a (by omega)] | dsimp only
set_option maxRecDepth 100000 in
theorem f_choose {l : Launch} {G : zG} {b : Nat} {S : zS} {P : Nat} {a : Int32} {u : Int32} {v : Int32} {w : Int32} (hE : zE7 S P) : zM l G b yX7_choose cX7_choose 6 (some .int) 2 0 0 [.ref P, .int a, .int u, .int v, .int w] S (fun r z => r = some (.int (-1)) ∧ z.1 = S.1 ∧ ∀ a, P + 200 ≤ a → z.2.1 a = S.2.1 a) := by
  refine zM.of miX7_choose (Nat.le_of_ble_eq_true rfl) ?_
  intro p e s m args below meth c X hr hname
  generalize hF : ((fun r z => r = some (.int (-1)) ∧ z.1 = S.1 ∧ ∀ a, P + 200 ≤ a → z.2.1 a = S.2.1 a) : Option Value → zS → Prop) = FQ
  change Zw p l e { frames := 2, cells := 0, slots := 0, locals := 80 * 2 } s m args below meth c G b 6 (MQ below (zQ G b FQ) args s 0 0 (fun q : Nat => b ≤ q)) 0 0 0 [some (.ref P), some (.int a), some (.int u), some (.int v), some (.int w), none] [] S
  have hE9 := hE
  obtain ⟨hT, e_st, e_tl, e_ol, e_rk, e_rf, e_rp, e_l0, e_l1, e_l2, e_l3, e_l4, e_l5, e_l6, e_lq, e_lg, e_a0, e_a1, e_o0, e_o1, e_o2, e_o3⟩ := hE
  obtain ⟨lt, o, tape, out, reader, list, past, pool, result, odds, paper, trial, trialPool, trialResult, trialOdds⟩ := id hT
  have o_list := list.2.1
  have o_pool := pool.2.1
  have o_rd := reader.2.1
  have o_res := result.2.1
  have o_odds := odds.2.1
  have o_past := past.2.1
  have o_pap := paper.2.1
  refine a_iload_n X dX7_choose_0 rfl ?_
  refine a_iconst (v := -1) X dX7_choose_1 (by decide) ?_
  refine a_icmp_ne (tgt := 10) X dX7_choose_2 (by decide) (fun h_2 => ?_) (fun h_2 => ?_)
  · refine a_iload_n X dX7_choose_10 rfl ?_
    refine a_iconst (v := -1) X dX7_choose_11 (by decide) ?_
    refine a_icmp_ne (tgt := 27) X dX7_choose_12 (by decide) (fun h_12 => ?_) (fun h_12 => ?_)
    · refine a_iload_n X dX7_choose_27 rfl ?_
      refine a_iconst (v := -1) X dX7_choose_28 (by decide) ?_
      refine a_icmp_eq (tgt := 43) X dX7_choose_29 (by decide) (fun h_29 => ?_) (fun h_29 => ?_)
      · refine a_iload_n X dX7_choose_43 rfl ?_
        refine a_iconst (v := -1) X dX7_choose_44 (by decide) ?_
        refine a_icmp_eq (tgt := 60) X dX7_choose_45 (by decide) (fun h_45 => ?_) (fun h_45 => ?_)
        · refine a_aload_n X dX7_choose_60 rfl ?_
          refine a_iload_n X dX7_choose_61 rfl ?_
          refine a_callVv X dX7_choose_62 miX7_isApplicant lm7_206 (c_isApplicant0 (by assumption) (by assumption)) (by assumption) rfl rfl rfl (Nat.le_of_ble_eq_true rfl) ⟨by decide, by decide, by decide, by decide⟩ ?_
          refine a_if_eq (tgt := 93) X dX7_choose_65 (by decide) (fun h_65 => ?_) (fun h_65 => absurd rfl h_65)
          refine a_aload_n X dX7_choose_93 rfl ?_
          refine a_iconst (v := 2) X dX7_choose_94 (by decide) ?_
          refine a_callVv X dX7_choose_95 miX7_refuse lm7_102 (c_refuse (by assumption)) (by assumption) rfl rfl rfl (Nat.le_of_ble_eq_true rfl) ⟨by decide, by decide, by decide, by decide⟩ ?_
          refine a_iret X hr dX7_choose_98 ⟨by decide, by decide⟩ ?_
          subst hF
          refine ⟨?_, rfl, fun a ha => ?_⟩
          · rfl
          · dsimp only
            repeat first | rw [zu_row (by omega)] | rw [zfil_row (by omega)] | rw [zcpy_row (by omega)] | rw [zwr_row (by omega)] | rw [q0_166 a (by omega) (by omega)] | rw [q0_166 a (by omega)] | rw [f_194 a (by omega) (by omega)] | rw [f_194 a (by omega)] | dsimp only
        · refine a_iload_n X dX7_choose_48 rfl ?_
          refine a_iload X dX7_choose_49 rfl ?_
          refine a_icmp_ne (tgt := 60) X dX7_choose_51 (by decide) (fun h_51 => ?_) (fun h_51 => ?_)
          · refine a_aload_n X dX7_choose_60 rfl ?_
            refine a_iload_n X dX7_choose_61 rfl ?_
            refine a_callVv X dX7_choose_62 miX7_isApplicant lm7_206 (c_isApplicant0 (by assumption) (by assumption)) (by assumption) rfl rfl rfl (Nat.le_of_ble_eq_true rfl) ⟨by decide, by decide, by decide, by decide⟩ ?_
            refine a_if_eq (tgt := 93) X dX7_choose_65 (by decide) (fun h_65 => ?_) (fun h_65 => absurd rfl h_65)
            refine a_aload_n X dX7_choose_93 rfl ?_
            refine a_iconst (v := 2) X dX7_choose_94 (by decide) ?_
            refine a_callVv X dX7_choose_95 miX7_refuse lm7_102 (c_refuse (by assumption)) (by assumption) rfl rfl rfl (Nat.le_of_ble_eq_true rfl) ⟨by decide, by decide, by decide, by decide⟩ ?_
            refine a_iret X hr dX7_choose_98 ⟨by decide, by decide⟩ ?_
            subst hF
            refine ⟨?_, rfl, fun a ha => ?_⟩
            · rfl
            · dsimp only
              repeat first | rw [zu_row (by omega)] | rw [zfil_row (by omega)] | rw [zcpy_row (by omega)] | rw [zwr_row (by omega)] | rw [q0_166 a (by omega) (by omega)] | rw [q0_166 a (by omega)] | rw [f_194 a (by omega) (by omega)] | rw [f_194 a (by omega)] | dsimp only
          · refine a_aload_n X dX7_choose_54 rfl ?_
            refine a_iconst (v := 1) X dX7_choose_55 (by decide) ?_
            refine a_callVv X dX7_choose_56 miX7_refuse lm7_102 (c_refuse (by assumption)) (by assumption) rfl rfl rfl (Nat.le_of_ble_eq_true rfl) ⟨by decide, by decide, by decide, by decide⟩ ?_
            refine a_iret X hr dX7_choose_59 ⟨by decide, by decide⟩ ?_
            subst hF
            refine ⟨?_, rfl, fun a ha => ?_⟩
            · rfl
            · dsimp only
              repeat first | rw [zu_row (by omega)] | rw [zfil_row (by omega)] | rw [zcpy_row (by omega)] | rw [zwr_row (by omega)] | rw [q0_166 a (by omega) (by omega)] | rw [q0_166 a (by omega)] | rw [f_194 a (by omega) (by omega)] | rw [f_194 a (by omega)] | dsimp only
      · refine a_iload_n X dX7_choose_32 rfl ?_
        refine a_iload_n X dX7_choose_33 rfl ?_
        refine a_icmp_eq (tgt := 54) X dX7_choose_34 (by decide) (fun h_34 => ?_) (fun h_34 => ?_)
        · refine a_aload_n X dX7_choose_54 rfl ?_
          refine a_iconst (v := 1) X dX7_choose_55 (by decide) ?_
          refine a_callVv X dX7_choose_56 miX7_refuse lm7_102 (c_refuse (by assumption)) (by assumption) rfl rfl rfl (Nat.le_of_ble_eq_true rfl) ⟨by decide, by decide, by decide, by decide⟩ ?_
          refine a_iret X hr dX7_choose_59 ⟨by decide, by decide⟩ ?_
          subst hF
          refine ⟨?_, rfl, fun a ha => ?_⟩
          · rfl
          · dsimp only
            repeat first | rw [zu_row (by omega)] | rw [zfil_row (by omega)] | rw [zcpy_row (by omega)] | rw [zwr_row (by omega)] | rw [q0_166 a (by omega) (by omega)] | rw [q0_166 a (by omega)] | rw [f_194 a (by omega) (by omega)] | rw [f_194 a (by omega)] | dsimp only
        · refine a_iload_n X dX7_choose_37 rfl ?_
          refine a_iload X dX7_choose_38 rfl ?_
          refine a_icmp_eq (tgt := 54) X dX7_choose_40 (by decide) (fun h_40 => ?_) (fun h_40 => ?_)
          · refine a_aload_n X dX7_choose_54 rfl ?_
            refine a_iconst (v := 1) X dX7_choose_55 (by decide) ?_
            refine a_callVv X dX7_choose_56 miX7_refuse lm7_102 (c_refuse (by assumption)) (by assumption) rfl rfl rfl (Nat.le_of_ble_eq_true rfl) ⟨by decide, by decide, by decide, by decide⟩ ?_
            refine a_iret X hr dX7_choose_59 ⟨by decide, by decide⟩ ?_
            subst hF
            refine ⟨?_, rfl, fun a ha => ?_⟩
            · rfl
            · dsimp only
              repeat first | rw [zu_row (by omega)] | rw [zfil_row (by omega)] | rw [zcpy_row (by omega)] | rw [zwr_row (by omega)] | rw [q0_166 a (by omega) (by omega)] | rw [q0_166 a (by omega)] | rw [f_194 a (by omega) (by omega)] | rw [f_194 a (by omega)] | dsimp only
          · refine a_iload_n X dX7_choose_43 rfl ?_
            refine a_iconst (v := -1) X dX7_choose_44 (by decide) ?_
            refine a_icmp_eq (tgt := 60) X dX7_choose_45 (by decide) (fun h_45 => ?_) (fun h_45 => ?_)
            · refine a_aload_n X dX7_choose_60 rfl ?_
              refine a_iload_n X dX7_choose_61 rfl ?_
              refine a_callVv X dX7_choose_62 miX7_isApplicant lm7_206 (c_isApplicant0 (by assumption) (by assumption)) (by assumption) rfl rfl rfl (Nat.le_of_ble_eq_true rfl) ⟨by decide, by decide, by decide, by decide⟩ ?_
              refine a_if_eq (tgt := 93) X dX7_choose_65 (by decide) (fun h_65 => ?_) (fun h_65 => absurd rfl h_65)
              refine a_aload_n X dX7_choose_93 rfl ?_
              refine a_iconst (v := 2) X dX7_choose_94 (by decide) ?_
              refine a_callVv X dX7_choose_95 miX7_refuse lm7_102 (c_refuse (by assumption)) (by assumption) rfl rfl rfl (Nat.le_of_ble_eq_true rfl) ⟨by decide, by decide, by decide, by decide⟩ ?_
              refine a_iret X hr dX7_choose_98 ⟨by decide, by decide⟩ ?_
              subst hF
              refine ⟨?_, rfl, fun a ha => ?_⟩
              · rfl
              · dsimp only
                repeat first | rw [zu_row (by omega)] | rw [zfil_row (by omega)] | rw [zcpy_row (by omega)] | rw [zwr_row (by omega)] | rw [q0_166 a (by omega) (by omega)] | rw [q0_166 a (by omega)] | rw [f_194 a (by omega) (by omega)] | rw [f_194 a (by omega)] | dsimp only
            · refine a_iload_n X dX7_choose_48 rfl ?_
              refine a_iload X dX7_choose_49 rfl ?_
              refine a_icmp_ne (tgt := 60) X dX7_choose_51 (by decide) (fun h_51 => ?_) (fun h_51 => ?_)
              · refine a_aload_n X dX7_choose_60 rfl ?_
                refine a_iload_n X dX7_choose_61 rfl ?_
                refine a_callVv X dX7_choose_62 miX7_isApplicant lm7_206 (c_isApplicant0 (by assumption) (by assumption)) (by assumption) rfl rfl rfl (Nat.le_of_ble_eq_true rfl) ⟨by decide, by decide, by decide, by decide⟩ ?_
                refine a_if_eq (tgt := 93) X dX7_choose_65 (by decide) (fun h_65 => ?_) (fun h_65 => absurd rfl h_65)
                refine a_aload_n X dX7_choose_93 rfl ?_
                refine a_iconst (v := 2) X dX7_choose_94 (by decide) ?_
                refine a_callVv X dX7_choose_95 miX7_refuse lm7_102 (c_refuse (by assumption)) (by assumption) rfl rfl rfl (Nat.le_of_ble_eq_true rfl) ⟨by decide, by decide, by decide, by decide⟩ ?_
                refine a_iret X hr dX7_choose_98 ⟨by decide, by decide⟩ ?_
                subst hF
                refine ⟨?_, rfl, fun a ha => ?_⟩
                · rfl
                · dsimp only
                  repeat first | rw [zu_row (by omega)] | rw [zfil_row (by omega)] | rw [zcpy_row (by omega)] | rw [zwr_row (by omega)] | rw [q0_166 a (by omega) (by omega)] | rw [q0_166 a (by omega)] | rw [f_194 a (by omega) (by omega)] | rw [f_194 a (by omega)] | dsimp only
              · refine a_aload_n X dX7_choose_54 rfl ?_
                refine a_iconst (v := 1) X dX7_choose_55 (by decide) ?_
                refine a_callVv X dX7_choose_56 miX7_refuse lm7_102 (c_refuse (by assumption)) (by assumption) rfl rfl rfl (Nat.le_of_ble_eq_true rfl) ⟨by decide, by decide, by decide, by decide⟩ ?_
                refine a_iret X hr dX7_choose_59 ⟨by decide, by decide⟩ ?_
                subst hF
                refine ⟨?_, rfl, fun a ha => ?_⟩
                · rfl
                · dsimp only
                  repeat first | rw [zu_row (by omega)] | rw [zfil_row (by omega)] | rw [zcpy_row (by omega)] | rw [zwr_row (by omega)] | rw [q0_166 a (by omega) (by omega)] | rw [q0_166 a (by omega)] | rw [f_194 a (by omega) (by omega)] | rw [f_194 a (by omega)] | dsimp only
    · refine a_iload X dX7_choose_15 rfl ?_
      refine a_iconst (v := -1) X dX7_choose_17 (by decide) ?_
      refine a_icmp_eq (tgt := 27) X dX7_choose_18 (by decide) (fun h_18 => ?_) (fun h_18 => ?_)
      · refine a_iload_n X dX7_choose_27 rfl ?_
        refine a_iconst (v := -1) X dX7_choose_28 (by decide) ?_
        refine a_icmp_eq (tgt := 43) X dX7_choose_29 (by decide) (fun h_29 => ?_) (fun h_29 => ?_)
        · refine a_iload_n X dX7_choose_43 rfl ?_
          refine a_iconst (v := -1) X dX7_choose_44 (by decide) ?_
          refine a_icmp_eq (tgt := 60) X dX7_choose_45 (by decide) (fun h_45 => ?_) (fun h_45 => ?_)
          · refine a_aload_n X dX7_choose_60 rfl ?_
            refine a_iload_n X dX7_choose_61 rfl ?_
            refine a_callVv X dX7_choose_62 miX7_isApplicant lm7_206 (c_isApplicant0 (by assumption) (by assumption)) (by assumption) rfl rfl rfl (Nat.le_of_ble_eq_true rfl) ⟨by decide, by decide, by decide, by decide⟩ ?_
            refine a_if_eq (tgt := 93) X dX7_choose_65 (by decide) (fun h_65 => ?_) (fun h_65 => absurd rfl h_65)
            refine a_aload_n X dX7_choose_93 rfl ?_
            refine a_iconst (v := 2) X dX7_choose_94 (by decide) ?_
            refine a_callVv X dX7_choose_95 miX7_refuse lm7_102 (c_refuse (by assumption)) (by assumption) rfl rfl rfl (Nat.le_of_ble_eq_true rfl) ⟨by decide, by decide, by decide, by decide⟩ ?_
            refine a_iret X hr dX7_choose_98 ⟨by decide, by decide⟩ ?_
            subst hF
            refine ⟨?_, rfl, fun a ha => ?_⟩
            · rfl
            · dsimp only
              repeat first | rw [zu_row (by omega)] | rw [zfil_row (by omega)] | rw [zcpy_row (by omega)] | rw [zwr_row (by omega)] | rw [q0_166 a (by omega) (by omega)] | rw [q0_166 a (by omega)] | rw [f_194 a (by omega) (by omega)] | rw [f_194 a (by omega)] | dsimp only
          · refine a_iload_n X dX7_choose_48 rfl ?_
            refine a_iload X dX7_choose_49 rfl ?_
            refine a_icmp_ne (tgt := 60) X dX7_choose_51 (by decide) (fun h_51 => ?_) (fun h_51 => ?_)
            · refine a_aload_n X dX7_choose_60 rfl ?_
              refine a_iload_n X dX7_choose_61 rfl ?_
              refine a_callVv X dX7_choose_62 miX7_isApplicant lm7_206 (c_isApplicant0 (by assumption) (by assumption)) (by assumption) rfl rfl rfl (Nat.le_of_ble_eq_true rfl) ⟨by decide, by decide, by decide, by decide⟩ ?_
              refine a_if_eq (tgt := 93) X dX7_choose_65 (by decide) (fun h_65 => ?_) (fun h_65 => absurd rfl h_65)
              refine a_aload_n X dX7_choose_93 rfl ?_
              refine a_iconst (v := 2) X dX7_choose_94 (by decide) ?_
              refine a_callVv X dX7_choose_95 miX7_refuse lm7_102 (c_refuse (by assumption)) (by assumption) rfl rfl rfl (Nat.le_of_ble_eq_true rfl) ⟨by decide, by decide, by decide, by decide⟩ ?_
              refine a_iret X hr dX7_choose_98 ⟨by decide, by decide⟩ ?_
              subst hF
              refine ⟨?_, rfl, fun a ha => ?_⟩
              · rfl
              · dsimp only
                repeat first | rw [zu_row (by omega)] | rw [zfil_row (by omega)] | rw [zcpy_row (by omega)] | rw [zwr_row (by omega)] | rw [q0_166 a (by omega) (by omega)] | rw [q0_166 a (by omega)] | rw [f_194 a (by omega) (by omega)] | rw [f_194 a (by omega)] | dsimp only
            · refine a_aload_n X dX7_choose_54 rfl ?_
              refine a_iconst (v := 1) X dX7_choose_55 (by decide) ?_
              refine a_callVv X dX7_choose_56 miX7_refuse lm7_102 (c_refuse (by assumption)) (by assumption) rfl rfl rfl (Nat.le_of_ble_eq_true rfl) ⟨by decide, by decide, by decide, by decide⟩ ?_
              refine a_iret X hr dX7_choose_59 ⟨by decide, by decide⟩ ?_
              subst hF
              refine ⟨?_, rfl, fun a ha => ?_⟩
              · rfl
              · dsimp only
                repeat first | rw [zu_row (by omega)] | rw [zfil_row (by omega)] | rw [zcpy_row (by omega)] | rw [zwr_row (by omega)] | rw [q0_166 a (by omega) (by omega)] | rw [q0_166 a (by omega)] | rw [f_194 a (by omega) (by omega)] | rw [f_194 a (by omega)] | dsimp only
        · refine a_iload_n X dX7_choose_32 rfl ?_
          refine a_iload_n X dX7_choose_33 rfl ?_
          refine a_icmp_eq (tgt := 54) X dX7_choose_34 (by decide) (fun h_34 => ?_) (fun h_34 => ?_)
          · refine a_aload_n X dX7_choose_54 rfl ?_
            refine a_iconst (v := 1) X dX7_choose_55 (by decide) ?_
            refine a_callVv X dX7_choose_56 miX7_refuse lm7_102 (c_refuse (by assumption)) (by assumption) rfl rfl rfl (Nat.le_of_ble_eq_true rfl) ⟨by decide, by decide, by decide, by decide⟩ ?_
            refine a_iret X hr dX7_choose_59 ⟨by decide, by decide⟩ ?_
            subst hF
            refine ⟨?_, rfl, fun a ha => ?_⟩
            · rfl
            · dsimp only
              repeat first | rw [zu_row (by omega)] | rw [zfil_row (by omega)] | rw [zcpy_row (by omega)] | rw [zwr_row (by omega)] | rw [q0_166 a (by omega) (by omega)] | rw [q0_166 a (by omega)] | rw [f_194 a (by omega) (by omega)] | rw [f_194 a (by omega)] | dsimp only
          · refine a_iload_n X dX7_choose_37 rfl ?_
            refine a_iload X dX7_choose_38 rfl ?_
            refine a_icmp_eq (tgt := 54) X dX7_choose_40 (by decide) (fun h_40 => ?_) (fun h_40 => ?_)
            · refine a_aload_n X dX7_choose_54 rfl ?_
              refine a_iconst (v := 1) X dX7_choose_55 (by decide) ?_
              refine a_callVv X dX7_choose_56 miX7_refuse lm7_102 (c_refuse (by assumption)) (by assumption) rfl rfl rfl (Nat.le_of_ble_eq_true rfl) ⟨by decide, by decide, by decide, by decide⟩ ?_
              refine a_iret X hr dX7_choose_59 ⟨by decide, by decide⟩ ?_
              subst hF
              refine ⟨?_, rfl, fun a ha => ?_⟩
              · rfl
              · dsimp only
                repeat first | rw [zu_row (by omega)] | rw [zfil_row (by omega)] | rw [zcpy_row (by omega)] | rw [zwr_row (by omega)] | rw [q0_166 a (by omega) (by omega)] | rw [q0_166 a (by omega)] | rw [f_194 a (by omega) (by omega)] | rw [f_194 a (by omega)] | dsimp only
            · refine a_iload_n X dX7_choose_43 rfl ?_
              refine a_iconst (v := -1) X dX7_choose_44 (by decide) ?_
              refine a_icmp_eq (tgt := 60) X dX7_choose_45 (by decide) (fun h_45 => ?_) (fun h_45 => ?_)
              · refine a_aload_n X dX7_choose_60 rfl ?_
                refine a_iload_n X dX7_choose_61 rfl ?_
                refine a_callVv X dX7_choose_62 miX7_isApplicant lm7_206 (c_isApplicant0 (by assumption) (by assumption)) (by assumption) rfl rfl rfl (Nat.le_of_ble_eq_true rfl) ⟨by decide, by decide, by decide, by decide⟩ ?_
                refine a_if_eq (tgt := 93) X dX7_choose_65 (by decide) (fun h_65 => ?_) (fun h_65 => absurd rfl h_65)
                refine a_aload_n X dX7_choose_93 rfl ?_
                refine a_iconst (v := 2) X dX7_choose_94 (by decide) ?_
                refine a_callVv X dX7_choose_95 miX7_refuse lm7_102 (c_refuse (by assumption)) (by assumption) rfl rfl rfl (Nat.le_of_ble_eq_true rfl) ⟨by decide, by decide, by decide, by decide⟩ ?_
                refine a_iret X hr dX7_choose_98 ⟨by decide, by decide⟩ ?_
                subst hF
                refine ⟨?_, rfl, fun a ha => ?_⟩
                · rfl
                · dsimp only
                  repeat first | rw [zu_row (by omega)] | rw [zfil_row (by omega)] | rw [zcpy_row (by omega)] | rw [zwr_row (by omega)] | rw [q0_166 a (by omega) (by omega)] | rw [q0_166 a (by omega)] | rw [f_194 a (by omega) (by omega)] | rw [f_194 a (by omega)] | dsimp only
              · refine a_iload_n X dX7_choose_48 rfl ?_
                refine a_iload X dX7_choose_49 rfl ?_
                refine a_icmp_ne (tgt := 60) X dX7_choose_51 (by decide) (fun h_51 => ?_) (fun h_51 => ?_)
                · refine a_aload_n X dX7_choose_60 rfl ?_
                  refine a_iload_n X dX7_choose_61 rfl ?_
                  refine a_callVv X dX7_choose_62 miX7_isApplicant lm7_206 (c_isApplicant0 (by assumption) (by assumption)) (by assumption) rfl rfl rfl (Nat.le_of_ble_eq_true rfl) ⟨by decide, by decide, by decide, by decide⟩ ?_
                  refine a_if_eq (tgt := 93) X dX7_choose_65 (by decide) (fun h_65 => ?_) (fun h_65 => absurd rfl h_65)
                  refine a_aload_n X dX7_choose_93 rfl ?_
                  refine a_iconst (v := 2) X dX7_choose_94 (by decide) ?_
                  refine a_callVv X dX7_choose_95 miX7_refuse lm7_102 (c_refuse (by assumption)) (by assumption) rfl rfl rfl (Nat.le_of_ble_eq_true rfl) ⟨by decide, by decide, by decide, by decide⟩ ?_
                  refine a_iret X hr dX7_choose_98 ⟨by decide, by decide⟩ ?_
                  subst hF
                  refine ⟨?_, rfl, fun a ha => ?_⟩
                  · rfl
                  · dsimp only
                    repeat first | rw [zu_row (by omega)] | rw [zfil_row (by omega)] | rw [zcpy_row (by omega)] | rw [zwr_row (by omega)] | rw [q0_166 a (by omega) (by omega)] | rw [q0_166 a (by omega)] | rw [f_194 a (by omega) (by omega)] | rw [f_194 a (by omega)] | dsimp only
                · refine a_aload_n X dX7_choose_54 rfl ?_
                  refine a_iconst (v := 1) X dX7_choose_55 (by decide) ?_
                  refine a_callVv X dX7_choose_56 miX7_refuse lm7_102 (c_refuse (by assumption)) (by assumption) rfl rfl rfl (Nat.le_of_ble_eq_true rfl) ⟨by decide, by decide, by decide, by decide⟩ ?_
                  refine a_iret X hr dX7_choose_59 ⟨by decide, by decide⟩ ?_
                  subst hF
                  refine ⟨?_, rfl, fun a ha => ?_⟩
                  · rfl
                  · dsimp only
                    repeat first | rw [zu_row (by omega)] | rw [zfil_row (by omega)] | rw [zcpy_row (by omega)] | rw [zwr_row (by omega)] | rw [q0_166 a (by omega) (by omega)] | rw [q0_166 a (by omega)] | rw [f_194 a (by omega) (by omega)] | rw [f_194 a (by omega)] | dsimp only
      · refine a_aload_n X dX7_choose_21 rfl ?_
        refine a_iconst (v := 1) X dX7_choose_22 (by decide) ?_
        refine a_callVv X dX7_choose_23 miX7_refuse lm7_102 (c_refuse (by assumption)) (by assumption) rfl rfl rfl (Nat.le_of_ble_eq_true rfl) ⟨by decide, by decide, by decide, by decide⟩ ?_
        refine a_iret X hr dX7_choose_26 ⟨by decide, by decide⟩ ?_
        subst hF
        refine ⟨?_, rfl, fun a ha => ?_⟩
        · rfl
        · dsimp only
          repeat first | rw [zu_row (by omega)] | rw [zfil_row (by omega)] | rw [zcpy_row (by omega)] | rw [zwr_row (by omega)] | rw [q0_166 a (by omega) (by omega)] | rw [q0_166 a (by omega)] | rw [f_194 a (by omega) (by omega)] | rw [f_194 a (by omega)] | dsimp only
  · refine a_iload_n X dX7_choose_5 rfl ?_
    refine a_iconst (v := -1) X dX7_choose_6 (by decide) ?_
    refine a_icmp_ne (tgt := 21) X dX7_choose_7 (by decide) (fun h_7 => ?_) (fun h_7 => ?_)
    · refine a_aload_n X dX7_choose_21 rfl ?_
      refine a_iconst (v := 1) X dX7_choose_22 (by decide) ?_
      refine a_callVv X dX7_choose_23 miX7_refuse lm7_102 (c_refuse (by assumption)) (by assumption) rfl rfl rfl (Nat.le_of_ble_eq_true rfl) ⟨by decide, by decide, by decide, by decide⟩ ?_
      refine a_iret X hr dX7_choose_26 ⟨by decide, by decide⟩ ?_
      subst hF
      refine ⟨?_, rfl, fun a ha => ?_⟩
      · rfl
      · dsimp only
        repeat first | rw [zu_row (by omega)] | rw [zfil_row (by omega)] | rw [zcpy_row (by omega)] | rw [zwr_row (by omega)] | rw [q0_166 a (by omega) (by omega)] | rw [q0_166 a (by omega)] | rw [f_194 a (by omega) (by omega)] | rw [f_194 a (by omega)] | dsimp only
    · refine a_iload_n X dX7_choose_10 rfl ?_
      refine a_iconst (v := -1) X dX7_choose_11 (by decide) ?_
      refine a_icmp_ne (tgt := 27) X dX7_choose_12 (by decide) (fun h_12 => ?_) (fun h_12 => ?_)
      · refine a_iload_n X dX7_choose_27 rfl ?_
        refine a_iconst (v := -1) X dX7_choose_28 (by decide) ?_
        refine a_icmp_eq (tgt := 43) X dX7_choose_29 (by decide) (fun h_29 => ?_) (fun h_29 => ?_)
        · refine a_iload_n X dX7_choose_43 rfl ?_
          refine a_iconst (v := -1) X dX7_choose_44 (by decide) ?_
          refine a_icmp_eq (tgt := 60) X dX7_choose_45 (by decide) (fun h_45 => ?_) (fun h_45 => ?_)
          · refine a_aload_n X dX7_choose_60 rfl ?_
            refine a_iload_n X dX7_choose_61 rfl ?_
            refine a_callVv X dX7_choose_62 miX7_isApplicant lm7_206 (c_isApplicant0 (by assumption) (by assumption)) (by assumption) rfl rfl rfl (Nat.le_of_ble_eq_true rfl) ⟨by decide, by decide, by decide, by decide⟩ ?_
            refine a_if_eq (tgt := 93) X dX7_choose_65 (by decide) (fun h_65 => ?_) (fun h_65 => absurd rfl h_65)
            refine a_aload_n X dX7_choose_93 rfl ?_
            refine a_iconst (v := 2) X dX7_choose_94 (by decide) ?_
            refine a_callVv X dX7_choose_95 miX7_refuse lm7_102 (c_refuse (by assumption)) (by assumption) rfl rfl rfl (Nat.le_of_ble_eq_true rfl) ⟨by decide, by decide, by decide, by decide⟩ ?_
            refine a_iret X hr dX7_choose_98 ⟨by decide, by decide⟩ ?_
            subst hF
            refine ⟨?_, rfl, fun a ha => ?_⟩
            · rfl
            · dsimp only
              repeat first | rw [zu_row (by omega)] | rw [zfil_row (by omega)] | rw [zcpy_row (by omega)] | rw [zwr_row (by omega)] | rw [q0_166 a (by omega) (by omega)] | rw [q0_166 a (by omega)] | rw [f_194 a (by omega) (by omega)] | rw [f_194 a (by omega)] | dsimp only
          · refine a_iload_n X dX7_choose_48 rfl ?_
            refine a_iload X dX7_choose_49 rfl ?_
            refine a_icmp_ne (tgt := 60) X dX7_choose_51 (by decide) (fun h_51 => ?_) (fun h_51 => ?_)
            · refine a_aload_n X dX7_choose_60 rfl ?_
              refine a_iload_n X dX7_choose_61 rfl ?_
              refine a_callVv X dX7_choose_62 miX7_isApplicant lm7_206 (c_isApplicant0 (by assumption) (by assumption)) (by assumption) rfl rfl rfl (Nat.le_of_ble_eq_true rfl) ⟨by decide, by decide, by decide, by decide⟩ ?_
              refine a_if_eq (tgt := 93) X dX7_choose_65 (by decide) (fun h_65 => ?_) (fun h_65 => absurd rfl h_65)
              refine a_aload_n X dX7_choose_93 rfl ?_
              refine a_iconst (v := 2) X dX7_choose_94 (by decide) ?_
              refine a_callVv X dX7_choose_95 miX7_refuse lm7_102 (c_refuse (by assumption)) (by assumption) rfl rfl rfl (Nat.le_of_ble_eq_true rfl) ⟨by decide, by decide, by decide, by decide⟩ ?_
              refine a_iret X hr dX7_choose_98 ⟨by decide, by decide⟩ ?_
              subst hF
              refine ⟨?_, rfl, fun a ha => ?_⟩
              · rfl
              · dsimp only
                repeat first | rw [zu_row (by omega)] | rw [zfil_row (by omega)] | rw [zcpy_row (by omega)] | rw [zwr_row (by omega)] | rw [q0_166 a (by omega) (by omega)] | rw [q0_166 a (by omega)] | rw [f_194 a (by omega) (by omega)] | rw [f_194 a (by omega)] | dsimp only
            · refine a_aload_n X dX7_choose_54 rfl ?_
              refine a_iconst (v := 1) X dX7_choose_55 (by decide) ?_
              refine a_callVv X dX7_choose_56 miX7_refuse lm7_102 (c_refuse (by assumption)) (by assumption) rfl rfl rfl (Nat.le_of_ble_eq_true rfl) ⟨by decide, by decide, by decide, by decide⟩ ?_
              refine a_iret X hr dX7_choose_59 ⟨by decide, by decide⟩ ?_
              subst hF
              refine ⟨?_, rfl, fun a ha => ?_⟩
              · rfl
              · dsimp only
                repeat first | rw [zu_row (by omega)] | rw [zfil_row (by omega)] | rw [zcpy_row (by omega)] | rw [zwr_row (by omega)] | rw [q0_166 a (by omega) (by omega)] | rw [q0_166 a (by omega)] | rw [f_194 a (by omega) (by omega)] | rw [f_194 a (by omega)] | dsimp only
        · refine a_iload_n X dX7_choose_32 rfl ?_
          refine a_iload_n X dX7_choose_33 rfl ?_
          refine a_icmp_eq (tgt := 54) X dX7_choose_34 (by decide) (fun h_34 => ?_) (fun h_34 => ?_)
          · refine a_aload_n X dX7_choose_54 rfl ?_
            refine a_iconst (v := 1) X dX7_choose_55 (by decide) ?_
            refine a_callVv X dX7_choose_56 miX7_refuse lm7_102 (c_refuse (by assumption)) (by assumption) rfl rfl rfl (Nat.le_of_ble_eq_true rfl) ⟨by decide, by decide, by decide, by decide⟩ ?_
            refine a_iret X hr dX7_choose_59 ⟨by decide, by decide⟩ ?_
            subst hF
            refine ⟨?_, rfl, fun a ha => ?_⟩
            · rfl
            · dsimp only
              repeat first | rw [zu_row (by omega)] | rw [zfil_row (by omega)] | rw [zcpy_row (by omega)] | rw [zwr_row (by omega)] | rw [q0_166 a (by omega) (by omega)] | rw [q0_166 a (by omega)] | rw [f_194 a (by omega) (by omega)] | rw [f_194 a (by omega)] | dsimp only
          · refine a_iload_n X dX7_choose_37 rfl ?_
            refine a_iload X dX7_choose_38 rfl ?_
            refine a_icmp_eq (tgt := 54) X dX7_choose_40 (by decide) (fun h_40 => ?_) (fun h_40 => ?_)
            · refine a_aload_n X dX7_choose_54 rfl ?_
              refine a_iconst (v := 1) X dX7_choose_55 (by decide) ?_
              refine a_callVv X dX7_choose_56 miX7_refuse lm7_102 (c_refuse (by assumption)) (by assumption) rfl rfl rfl (Nat.le_of_ble_eq_true rfl) ⟨by decide, by decide, by decide, by decide⟩ ?_
              refine a_iret X hr dX7_choose_59 ⟨by decide, by decide⟩ ?_
              subst hF
              refine ⟨?_, rfl, fun a ha => ?_⟩
              · rfl
              · dsimp only
                repeat first | rw [zu_row (by omega)] | rw [zfil_row (by omega)] | rw [zcpy_row (by omega)] | rw [zwr_row (by omega)] | rw [q0_166 a (by omega) (by omega)] | rw [q0_166 a (by omega)] | rw [f_194 a (by omega) (by omega)] | rw [f_194 a (by omega)] | dsimp only
            · refine a_iload_n X dX7_choose_43 rfl ?_
              refine a_iconst (v := -1) X dX7_choose_44 (by decide) ?_
              refine a_icmp_eq (tgt := 60) X dX7_choose_45 (by decide) (fun h_45 => ?_) (fun h_45 => ?_)
              · refine a_aload_n X dX7_choose_60 rfl ?_
                refine a_iload_n X dX7_choose_61 rfl ?_
                refine a_callVv X dX7_choose_62 miX7_isApplicant lm7_206 (c_isApplicant0 (by assumption) (by assumption)) (by assumption) rfl rfl rfl (Nat.le_of_ble_eq_true rfl) ⟨by decide, by decide, by decide, by decide⟩ ?_
                refine a_if_eq (tgt := 93) X dX7_choose_65 (by decide) (fun h_65 => ?_) (fun h_65 => absurd rfl h_65)
                refine a_aload_n X dX7_choose_93 rfl ?_
                refine a_iconst (v := 2) X dX7_choose_94 (by decide) ?_
                refine a_callVv X dX7_choose_95 miX7_refuse lm7_102 (c_refuse (by assumption)) (by assumption) rfl rfl rfl (Nat.le_of_ble_eq_true rfl) ⟨by decide, by decide, by decide, by decide⟩ ?_
                refine a_iret X hr dX7_choose_98 ⟨by decide, by decide⟩ ?_
                subst hF
                refine ⟨?_, rfl, fun a ha => ?_⟩
                · rfl
                · dsimp only
                  repeat first | rw [zu_row (by omega)] | rw [zfil_row (by omega)] | rw [zcpy_row (by omega)] | rw [zwr_row (by omega)] | rw [q0_166 a (by omega) (by omega)] | rw [q0_166 a (by omega)] | rw [f_194 a (by omega) (by omega)] | rw [f_194 a (by omega)] | dsimp only
              · refine a_iload_n X dX7_choose_48 rfl ?_
                refine a_iload X dX7_choose_49 rfl ?_
                refine a_icmp_ne (tgt := 60) X dX7_choose_51 (by decide) (fun h_51 => ?_) (fun h_51 => ?_)
                · refine a_aload_n X dX7_choose_60 rfl ?_
                  refine a_iload_n X dX7_choose_61 rfl ?_
                  refine a_callVv X dX7_choose_62 miX7_isApplicant lm7_206 (c_isApplicant0 (by assumption) (by assumption)) (by assumption) rfl rfl rfl (Nat.le_of_ble_eq_true rfl) ⟨by decide, by decide, by decide, by decide⟩ ?_
                  refine a_if_eq (tgt := 93) X dX7_choose_65 (by decide) (fun h_65 => ?_) (fun h_65 => absurd rfl h_65)
                  refine a_aload_n X dX7_choose_93 rfl ?_
                  refine a_iconst (v := 2) X dX7_choose_94 (by decide) ?_
                  refine a_callVv X dX7_choose_95 miX7_refuse lm7_102 (c_refuse (by assumption)) (by assumption) rfl rfl rfl (Nat.le_of_ble_eq_true rfl) ⟨by decide, by decide, by decide, by decide⟩ ?_
                  refine a_iret X hr dX7_choose_98 ⟨by decide, by decide⟩ ?_
                  subst hF
                  refine ⟨?_, rfl, fun a ha => ?_⟩
                  · rfl
                  · dsimp only
                    repeat first | rw [zu_row (by omega)] | rw [zfil_row (by omega)] | rw [zcpy_row (by omega)] | rw [zwr_row (by omega)] | rw [q0_166 a (by omega) (by omega)] | rw [q0_166 a (by omega)] | rw [f_194 a (by omega) (by omega)] | rw [f_194 a (by omega)] | dsimp only
                · refine a_aload_n X dX7_choose_54 rfl ?_
                  refine a_iconst (v := 1) X dX7_choose_55 (by decide) ?_
                  refine a_callVv X dX7_choose_56 miX7_refuse lm7_102 (c_refuse (by assumption)) (by assumption) rfl rfl rfl (Nat.le_of_ble_eq_true rfl) ⟨by decide, by decide, by decide, by decide⟩ ?_
                  refine a_iret X hr dX7_choose_59 ⟨by decide, by decide⟩ ?_
                  subst hF
                  refine ⟨?_, rfl, fun a ha => ?_⟩
                  · rfl
                  · dsimp only
                    repeat first | rw [zu_row (by omega)] | rw [zfil_row (by omega)] | rw [zcpy_row (by omega)] | rw [zwr_row (by omega)] | rw [q0_166 a (by omega) (by omega)] | rw [q0_166 a (by omega)] | rw [f_194 a (by omega) (by omega)] | rw [f_194 a (by omega)] | dsimp only
      · refine a_iload X dX7_choose_15 rfl ?_
        refine a_iconst (v := -1) X dX7_choose_17 (by decide) ?_
        refine a_icmp_eq (tgt := 27) X dX7_choose_18 (by decide) (fun h_18 => ?_) (fun h_18 => ?_)
        · refine a_iload_n X dX7_choose_27 rfl ?_
          refine a_iconst (v := -1) X dX7_choose_28 (by decide) ?_
          refine a_icmp_eq (tgt := 43) X dX7_choose_29 (by decide) (fun h_29 => ?_) (fun h_29 => ?_)
          · refine a_iload_n X dX7_choose_43 rfl ?_
            refine a_iconst (v := -1) X dX7_choose_44 (by decide) ?_
            refine a_icmp_eq (tgt := 60) X dX7_choose_45 (by decide) (fun h_45 => ?_) (fun h_45 => ?_)
            · refine a_aload_n X dX7_choose_60 rfl ?_
              refine a_iload_n X dX7_choose_61 rfl ?_
              refine a_callVv X dX7_choose_62 miX7_isApplicant lm7_206 (c_isApplicant0 (by assumption) (by assumption)) (by assumption) rfl rfl rfl (Nat.le_of_ble_eq_true rfl) ⟨by decide, by decide, by decide, by decide⟩ ?_
              refine a_if_eq (tgt := 93) X dX7_choose_65 (by decide) (fun h_65 => ?_) (fun h_65 => absurd rfl h_65)
              refine a_aload_n X dX7_choose_93 rfl ?_
              refine a_iconst (v := 2) X dX7_choose_94 (by decide) ?_
              refine a_callVv X dX7_choose_95 miX7_refuse lm7_102 (c_refuse (by assumption)) (by assumption) rfl rfl rfl (Nat.le_of_ble_eq_true rfl) ⟨by decide, by decide, by decide, by decide⟩ ?_
              refine a_iret X hr dX7_choose_98 ⟨by decide, by decide⟩ ?_
              subst hF
              refine ⟨?_, rfl, fun a ha => ?_⟩
              · rfl
              · dsimp only
                repeat first | rw [zu_row (by omega)] | rw [zfil_row (by omega)] | rw [zcpy_row (by omega)] | rw [zwr_row (by omega)] | rw [q0_166 a (by omega) (by omega)] | rw [q0_166 a (by omega)] | rw [f_194 a (by omega) (by omega)] | rw [f_194 a (by omega)] | dsimp only
            · refine a_iload_n X dX7_choose_48 rfl ?_
              refine a_iload X dX7_choose_49 rfl ?_
              refine a_icmp_ne (tgt := 60) X dX7_choose_51 (by decide) (fun h_51 => ?_) (fun h_51 => ?_)
              · refine a_aload_n X dX7_choose_60 rfl ?_
                refine a_iload_n X dX7_choose_61 rfl ?_
                refine a_callVv X dX7_choose_62 miX7_isApplicant lm7_206 (c_isApplicant0 (by assumption) (by assumption)) (by assumption) rfl rfl rfl (Nat.le_of_ble_eq_true rfl) ⟨by decide, by decide, by decide, by decide⟩ ?_
                refine a_if_eq (tgt := 93) X dX7_choose_65 (by decide) (fun h_65 => ?_) (fun h_65 => absurd rfl h_65)
                refine a_aload_n X dX7_choose_93 rfl ?_
                refine a_iconst (v := 2) X dX7_choose_94 (by decide) ?_
                refine a_callVv X dX7_choose_95 miX7_refuse lm7_102 (c_refuse (by assumption)) (by assumption) rfl rfl rfl (Nat.le_of_ble_eq_true rfl) ⟨by decide, by decide, by decide, by decide⟩ ?_
                refine a_iret X hr dX7_choose_98 ⟨by decide, by decide⟩ ?_
                subst hF
                refine ⟨?_, rfl, fun a ha => ?_⟩
                · rfl
                · dsimp only
                  repeat first | rw [zu_row (by omega)] | rw [zfil_row (by omega)] | rw [zcpy_row (by omega)] | rw [zwr_row (by omega)] | rw [q0_166 a (by omega) (by omega)] | rw [q0_166 a (by omega)] | rw [f_194 a (by omega) (by omega)] | rw [f_194 a (by omega)] | dsimp only
              · refine a_aload_n X dX7_choose_54 rfl ?_
                refine a_iconst (v := 1) X dX7_choose_55 (by decide) ?_
                refine a_callVv X dX7_choose_56 miX7_refuse lm7_102 (c_refuse (by assumption)) (by assumption) rfl rfl rfl (Nat.le_of_ble_eq_true rfl) ⟨by decide, by decide, by decide, by decide⟩ ?_
                refine a_iret X hr dX7_choose_59 ⟨by decide, by decide⟩ ?_
                subst hF
                refine ⟨?_, rfl, fun a ha => ?_⟩
                · rfl
                · dsimp only
                  repeat first | rw [zu_row (by omega)] | rw [zfil_row (by omega)] | rw [zcpy_row (by omega)] | rw [zwr_row (by omega)] | rw [q0_166 a (by omega) (by omega)] | rw [q0_166 a (by omega)] | rw [f_194 a (by omega) (by omega)] | rw [f_194 a (by omega)] | dsimp only
          · refine a_iload_n X dX7_choose_32 rfl ?_
            refine a_iload_n X dX7_choose_33 rfl ?_
            refine a_icmp_eq (tgt := 54) X dX7_choose_34 (by decide) (fun h_34 => ?_) (fun h_34 => ?_)
            · refine a_aload_n X dX7_choose_54 rfl ?_
              refine a_iconst (v := 1) X dX7_choose_55 (by decide) ?_
              refine a_callVv X dX7_choose_56 miX7_refuse lm7_102 (c_refuse (by assumption)) (by assumption) rfl rfl rfl (Nat.le_of_ble_eq_true rfl) ⟨by decide, by decide, by decide, by decide⟩ ?_
              refine a_iret X hr dX7_choose_59 ⟨by decide, by decide⟩ ?_
              subst hF
              refine ⟨?_, rfl, fun a ha => ?_⟩
              · rfl
              · dsimp only
                repeat first | rw [zu_row (by omega)] | rw [zfil_row (by omega)] | rw [zcpy_row (by omega)] | rw [zwr_row (by omega)] | rw [q0_166 a (by omega) (by omega)] | rw [q0_166 a (by omega)] | rw [f_194 a (by omega) (by omega)] | rw [f_194 a (by omega)] | dsimp only
            · refine a_iload_n X dX7_choose_37 rfl ?_
              refine a_iload X dX7_choose_38 rfl ?_
              refine a_icmp_eq (tgt := 54) X dX7_choose_40 (by decide) (fun h_40 => ?_) (fun h_40 => ?_)
              · refine a_aload_n X dX7_choose_54 rfl ?_
                refine a_iconst (v := 1) X dX7_choose_55 (by decide) ?_
                refine a_callVv X dX7_choose_56 miX7_refuse lm7_102 (c_refuse (by assumption)) (by assumption) rfl rfl rfl (Nat.le_of_ble_eq_true rfl) ⟨by decide, by decide, by decide, by decide⟩ ?_
                refine a_iret X hr dX7_choose_59 ⟨by decide, by decide⟩ ?_
                subst hF
                refine ⟨?_, rfl, fun a ha => ?_⟩
                · rfl
                · dsimp only
                  repeat first | rw [zu_row (by omega)] | rw [zfil_row (by omega)] | rw [zcpy_row (by omega)] | rw [zwr_row (by omega)] | rw [q0_166 a (by omega) (by omega)] | rw [q0_166 a (by omega)] | rw [f_194 a (by omega) (by omega)] | rw [f_194 a (by omega)] | dsimp only
              · refine a_iload_n X dX7_choose_43 rfl ?_
                refine a_iconst (v := -1) X dX7_choose_44 (by decide) ?_
                refine a_icmp_eq (tgt := 60) X dX7_choose_45 (by decide) (fun h_45 => ?_) (fun h_45 => ?_)
                · refine a_aload_n X dX7_choose_60 rfl ?_
                  refine a_iload_n X dX7_choose_61 rfl ?_
                  refine a_callVv X dX7_choose_62 miX7_isApplicant lm7_206 (c_isApplicant0 (by assumption) (by assumption)) (by assumption) rfl rfl rfl (Nat.le_of_ble_eq_true rfl) ⟨by decide, by decide, by decide, by decide⟩ ?_
                  refine a_if_eq (tgt := 93) X dX7_choose_65 (by decide) (fun h_65 => ?_) (fun h_65 => absurd rfl h_65)
                  refine a_aload_n X dX7_choose_93 rfl ?_
                  refine a_iconst (v := 2) X dX7_choose_94 (by decide) ?_
                  refine a_callVv X dX7_choose_95 miX7_refuse lm7_102 (c_refuse (by assumption)) (by assumption) rfl rfl rfl (Nat.le_of_ble_eq_true rfl) ⟨by decide, by decide, by decide, by decide⟩ ?_
                  refine a_iret X hr dX7_choose_98 ⟨by decide, by decide⟩ ?_
                  subst hF
                  refine ⟨?_, rfl, fun a ha => ?_⟩
                  · rfl
                  · dsimp only
                    repeat first | rw [zu_row (by omega)] | rw [zfil_row (by omega)] | rw [zcpy_row (by omega)] | rw [zwr_row (by omega)] | rw [q0_166 a (by omega) (by omega)] | rw [q0_166 a (by omega)] | rw [f_194 a (by omega) (by omega)] | rw [f_194 a (by omega)] | dsimp only
                · refine a_iload_n X dX7_choose_48 rfl ?_
                  refine a_iload X dX7_choose_49 rfl ?_
                  refine a_icmp_ne (tgt := 60) X dX7_choose_51 (by decide) (fun h_51 => ?_) (fun h_51 => ?_)
                  · refine a_aload_n X dX7_choose_60 rfl ?_
                    refine a_iload_n X dX7_choose_61 rfl ?_
                    refine a_callVv X dX7_choose_62 miX7_isApplicant lm7_206 (c_isApplicant0 (by assumption) (by assumption)) (by assumption) rfl rfl rfl (Nat.le_of_ble_eq_true rfl) ⟨by decide, by decide, by decide, by decide⟩ ?_
                    refine a_if_eq (tgt := 93) X dX7_choose_65 (by decide) (fun h_65 => ?_) (fun h_65 => absurd rfl h_65)
                    refine a_aload_n X dX7_choose_93 rfl ?_
                    refine a_iconst (v := 2) X dX7_choose_94 (by decide) ?_
                    refine a_callVv X dX7_choose_95 miX7_refuse lm7_102 (c_refuse (by assumption)) (by assumption) rfl rfl rfl (Nat.le_of_ble_eq_true rfl) ⟨by decide, by decide, by decide, by decide⟩ ?_
                    refine a_iret X hr dX7_choose_98 ⟨by decide, by decide⟩ ?_
                    subst hF
                    refine ⟨?_, rfl, fun a ha => ?_⟩
                    · rfl
                    · dsimp only
                      repeat first | rw [zu_row (by omega)] | rw [zfil_row (by omega)] | rw [zcpy_row (by omega)] | rw [zwr_row (by omega)] | rw [q0_166 a (by omega) (by omega)] | rw [q0_166 a (by omega)] | rw [f_194 a (by omega) (by omega)] | rw [f_194 a (by omega)] | dsimp only
                  · refine a_aload_n X dX7_choose_54 rfl ?_
                    refine a_iconst (v := 1) X dX7_choose_55 (by decide) ?_
                    refine a_callVv X dX7_choose_56 miX7_refuse lm7_102 (c_refuse (by assumption)) (by assumption) rfl rfl rfl (Nat.le_of_ble_eq_true rfl) ⟨by decide, by decide, by decide, by decide⟩ ?_
                    refine a_iret X hr dX7_choose_59 ⟨by decide, by decide⟩ ?_
                    subst hF
                    refine ⟨?_, rfl, fun a ha => ?_⟩
                    · rfl
                    · dsimp only
                      repeat first | rw [zu_row (by omega)] | rw [zfil_row (by omega)] | rw [zcpy_row (by omega)] | rw [zwr_row (by omega)] | rw [q0_166 a (by omega) (by omega)] | rw [q0_166 a (by omega)] | rw [f_194 a (by omega) (by omega)] | rw [f_194 a (by omega)] | dsimp only
        · refine a_aload_n X dX7_choose_21 rfl ?_
          refine a_iconst (v := 1) X dX7_choose_22 (by decide) ?_
          refine a_callVv X dX7_choose_23 miX7_refuse lm7_102 (c_refuse (by assumption)) (by assumption) rfl rfl rfl (Nat.le_of_ble_eq_true rfl) ⟨by decide, by decide, by decide, by decide⟩ ?_
          refine a_iret X hr dX7_choose_26 ⟨by decide, by decide⟩ ?_
          subst hF
          refine ⟨?_, rfl, fun a ha => ?_⟩
          · rfl
          · dsimp only
            repeat first | rw [zu_row (by omega)] | rw [zfil_row (by omega)] | rw [zcpy_row (by omega)] | rw [zwr_row (by omega)] | rw [q0_166 a (by omega) (by omega)] | rw [q0_166 a (by omega)] | rw [f_194 a (by omega) (by omega)] | rw [f_194 a (by omega)] | dsimp only
set_option maxRecDepth 100000 in
theorem f_split {l : Launch} {G : zG} {b : Nat} {S : zS} {P : Nat} {pt : Int32} (hE : zE7 S P) : zM l G b yX7_split cX7_split 2 (some .int) 2 0 0 [.ref P, .int pt] S (fun r z => r = some (.int (-1)) ∧ z.1 = S.1 ∧ ∀ a, P + 200 ≤ a → z.2.1 a = S.2.1 a) := by
  refine zM.of miX7_split (Nat.le_of_ble_eq_true rfl) ?_
  intro p e s m args below meth c X hr hname
  generalize hF : ((fun r z => r = some (.int (-1)) ∧ z.1 = S.1 ∧ ∀ a, P + 200 ≤ a → z.2.1 a = S.2.1 a) : Option Value → zS → Prop) = FQ
  change Zw p l e { frames := 2, cells := 0, slots := 0, locals := 80 * 2 } s m args below meth c G b 2 (MQ below (zQ G b FQ) args s 0 0 (fun q : Nat => b ≤ q)) 0 0 0 [some (.ref P), some (.int pt)] [] S
  have hE9 := hE
  obtain ⟨hT, e_st, e_tl, e_ol, e_rk, e_rf, e_rp, e_l0, e_l1, e_l2, e_l3, e_l4, e_l5, e_l6, e_lq, e_lg, e_a0, e_a1, e_o0, e_o1, e_o2, e_o3⟩ := hE
  obtain ⟨lt, o, tape, out, reader, list, past, pool, result, odds, paper, trial, trialPool, trialResult, trialOdds⟩ := id hT
  have o_list := list.2.1
  have o_pool := pool.2.1
  have o_rd := reader.2.1
  have o_res := result.2.1
  have o_odds := odds.2.1
  have o_past := past.2.1
  have o_pap := paper.2.1
  refine a_aload_n X dX7_split_0 rfl ?_
  refine a_iload_n X dX7_split_1 rfl ?_
  refine a_callVv X dX7_split_2 miX7_isParty lm7_362 (c_isParty0 (by assumption) (by assumption)) (by assumption) rfl rfl rfl (Nat.le_of_ble_eq_true rfl) ⟨by decide, by decide, by decide, by decide⟩ ?_
  refine a_if_ne (tgt := 14) X dX7_split_5 (by decide) (fun h_5 => absurd rfl h_5) (fun h_5 => ?_)
  refine a_aload_n X dX7_split_8 rfl ?_
  refine a_iconst (v := 2) X dX7_split_9 (by decide) ?_
  refine a_callVv X dX7_split_10 miX7_refuse lm7_102 (c_refuse (by assumption)) (by assumption) rfl rfl rfl (Nat.le_of_ble_eq_true rfl) ⟨by decide, by decide, by decide, by decide⟩ ?_
  refine a_iret X hr dX7_split_13 ⟨by decide, by decide⟩ ?_
  subst hF
  refine ⟨?_, rfl, fun a ha => ?_⟩
  · rfl
  · dsimp only
    repeat first | rw [zu_row (by omega)] | rw [zfil_row (by omega)] | rw [zcpy_row (by omega)] | rw [zwr_row (by omega)] | rw [q0_22 a (by omega) (by omega)] | rw [q0_22 a (by omega)] | rw [f_35 a (by omega) (by omega)] | rw [f_35 a (by omega)] | dsimp only
set_option maxRecDepth 100000 in
theorem f_likes {l : Launch} {G : zG} {b : Nat} {S : zS} {P : Nat} {a : Int32} (hE : zE7 S P) : zM l G b yX7_likes cX7_likes 8 (some .int) 2 0 0 [.ref P, .int a] S (fun r z => r = some (.int (-1)) ∧ z.1 = S.1 ∧ ∀ a, P + 200 ≤ a → z.2.1 a = S.2.1 a) := by
  refine zM.of miX7_likes (Nat.le_of_ble_eq_true rfl) ?_
  intro p e s m args below meth c X hr hname
  generalize hF : ((fun r z => r = some (.int (-1)) ∧ z.1 = S.1 ∧ ∀ a, P + 200 ≤ a → z.2.1 a = S.2.1 a) : Option Value → zS → Prop) = FQ
  change Zw p l e { frames := 2, cells := 0, slots := 0, locals := 80 * 2 } s m args below meth c G b 8 (MQ below (zQ G b FQ) args s 0 0 (fun q : Nat => b ≤ q)) 0 0 0 [some (.ref P), some (.int a), none, none, none, none, none, none] [] S
  have hE9 := hE
  obtain ⟨hT, e_st, e_tl, e_ol, e_rk, e_rf, e_rp, e_l0, e_l1, e_l2, e_l3, e_l4, e_l5, e_l6, e_lq, e_lg, e_a0, e_a1, e_o0, e_o1, e_o2, e_o3⟩ := hE
  obtain ⟨lt, o, tape, out, reader, list, past, pool, result, odds, paper, trial, trialPool, trialResult, trialOdds⟩ := id hT
  have o_list := list.2.1
  have o_pool := pool.2.1
  have o_rd := reader.2.1
  have o_res := result.2.1
  have o_odds := odds.2.1
  have o_past := past.2.1
  have o_pap := paper.2.1
  refine a_aload_n X dX7_likes_0 rfl ?_
  refine a_iload_n X dX7_likes_1 rfl ?_
  refine a_callVv X dX7_likes_2 miX7_isApplicant lm7_206 (c_isApplicant0 (by assumption) (by assumption)) (by assumption) rfl rfl rfl (Nat.le_of_ble_eq_true rfl) ⟨by decide, by decide, by decide, by decide⟩ ?_
  refine a_if_ne (tgt := 14) X dX7_likes_5 (by decide) (fun h_5 => absurd rfl h_5) (fun h_5 => ?_)
  refine a_aload_n X dX7_likes_8 rfl ?_
  refine a_iconst (v := 2) X dX7_likes_9 (by decide) ?_
  refine a_callVv X dX7_likes_10 miX7_refuse lm7_102 (c_refuse (by assumption)) (by assumption) rfl rfl rfl (Nat.le_of_ble_eq_true rfl) ⟨by decide, by decide, by decide, by decide⟩ ?_
  refine a_iret X hr dX7_likes_13 ⟨by decide, by decide⟩ ?_
  subst hF
  refine ⟨?_, rfl, fun a ha => ?_⟩
  · rfl
  · dsimp only
    repeat first | rw [zu_row (by omega)] | rw [zfil_row (by omega)] | rw [zcpy_row (by omega)] | rw [zwr_row (by omega)] | rw [h0_86 a (by omega) (by omega)] | rw [h0_86 a (by omega)] | rw [h1_86 a (by omega) (by omega)] | rw [h1_86 a (by omega)] | rw [h2_86 a (by omega) (by omega)] | rw [h2_86 a (by omega)] | dsimp only
set_option maxRecDepth 100000 in
theorem f_order {l : Launch} {G : zG} {b : Nat} {S : zS} {P : Nat} {sd : Int32} {k : Int32} (hE : zE7 S P) : zM l G b yX7_order cX7_order 3 (some .int) 2 0 0 [.ref P, .int sd, .int k] S (fun r z => r = some (.int (-1)) ∧ z.1 = S.1 ∧ ∀ a, P + 200 ≤ a → z.2.1 a = S.2.1 a) := by
  refine zM.of miX7_order (Nat.le_of_ble_eq_true rfl) ?_
  intro p e s m args below meth c X hr hname
  generalize hF : ((fun r z => r = some (.int (-1)) ∧ z.1 = S.1 ∧ ∀ a, P + 200 ≤ a → z.2.1 a = S.2.1 a) : Option Value → zS → Prop) = FQ
  change Zw p l e { frames := 2, cells := 0, slots := 0, locals := 80 * 2 } s m args below meth c G b 3 (MQ below (zQ G b FQ) args s 0 0 (fun q : Nat => b ≤ q)) 0 0 0 [some (.ref P), some (.int sd), some (.int k)] [] S
  have hE9 := hE
  obtain ⟨hT, e_st, e_tl, e_ol, e_rk, e_rf, e_rp, e_l0, e_l1, e_l2, e_l3, e_l4, e_l5, e_l6, e_lq, e_lg, e_a0, e_a1, e_o0, e_o1, e_o2, e_o3⟩ := hE
  obtain ⟨lt, o, tape, out, reader, list, past, pool, result, odds, paper, trial, trialPool, trialResult, trialOdds⟩ := id hT
  have o_list := list.2.1
  have o_pool := pool.2.1
  have o_rd := reader.2.1
  have o_res := result.2.1
  have o_odds := odds.2.1
  have o_past := past.2.1
  have o_pap := paper.2.1
  refine a_iload_n X dX7_order_0 rfl ?_
  refine a_callSv X dX7_order_1 miX7_isSeed lm7_237 (c_isSeed) rfl rfl (Nat.le_of_ble_eq_true rfl) ⟨by decide, by decide, by decide, by decide⟩ ?_
  refine a_if_eq (tgt := 11) X dX7_order_4 (by decide) (fun h_4 => ?_) (fun h_4 => ?_)
  · refine a_aload_n X dX7_order_11 rfl ?_
    refine a_iconst (v := 1) X dX7_order_12 (by decide) ?_
    refine a_callVv X dX7_order_13 miX7_refuse lm7_102 (c_refuse (by assumption)) (by assumption) rfl rfl rfl (Nat.le_of_ble_eq_true rfl) ⟨by decide, by decide, by decide, by decide⟩ ?_
    refine a_iret X hr dX7_order_16 ⟨by decide, by decide⟩ ?_
    subst hF
    refine ⟨?_, rfl, fun a ha => ?_⟩
    · rfl
    · dsimp only
      repeat first | rw [zu_row (by omega)] | rw [zfil_row (by omega)] | rw [zcpy_row (by omega)] | rw [zwr_row (by omega)] | dsimp only
  · refine a_iload_n X dX7_order_7 rfl ?_
    refine a_if_ge (tgt := 17) X dX7_order_8 (by decide) (fun h_8 => ?_) (fun h_8 => ?_)
    · refine a_iload_n X dX7_order_17 rfl ?_
      refine a_aload_n X dX7_order_18 rfl ?_
      refine a_getr X lf7_40 (by assumption) rfl (by omega) dX7_order_19 ?_
      refine a_geti X lf7_140 (by assumption) rfl dX7_order_22 ?_
      refine a_icmp_lt (tgt := 34) X dX7_order_25 (by decide) (fun h_25 => absurd h_25 (by show ¬ k < S.2.1 (P + 91) 1; rw [e_o1]; exact Int32.not_lt.mpr h_8)) (fun h_25 => ?_)
      refine a_aload_n X dX7_order_28 rfl ?_
      refine a_iconst (v := 5) X dX7_order_29 (by decide) ?_
      refine a_callVv X dX7_order_30 miX7_refuse lm7_102 (c_refuse (by assumption)) (by assumption) rfl rfl rfl (Nat.le_of_ble_eq_true rfl) ⟨by decide, by decide, by decide, by decide⟩ ?_
      refine a_iret X hr dX7_order_33 ⟨by decide, by decide⟩ ?_
      subst hF
      refine ⟨?_, rfl, fun a ha => ?_⟩
      · rfl
      · dsimp only
        repeat first | rw [zu_row (by omega)] | rw [zfil_row (by omega)] | rw [zcpy_row (by omega)] | rw [zwr_row (by omega)] | dsimp only
    · refine a_aload_n X dX7_order_11 rfl ?_
      refine a_iconst (v := 1) X dX7_order_12 (by decide) ?_
      refine a_callVv X dX7_order_13 miX7_refuse lm7_102 (c_refuse (by assumption)) (by assumption) rfl rfl rfl (Nat.le_of_ble_eq_true rfl) ⟨by decide, by decide, by decide, by decide⟩ ?_
      refine a_iret X hr dX7_order_16 ⟨by decide, by decide⟩ ?_
      subst hF
      refine ⟨?_, rfl, fun a ha => ?_⟩
      · rfl
      · dsimp only
        repeat first | rw [zu_row (by omega)] | rw [zfil_row (by omega)] | rw [zcpy_row (by omega)] | rw [zwr_row (by omega)] | dsimp only
set_option maxRecDepth 100000 in
theorem f_winners {l : Launch} {G : zG} {b : Nat} {S : zS} {P : Nat} {sd : Int32} (hE : zE7 S P) : zM l G b yX7_winners cX7_winners 4 (some .int) 3 0 0 [.ref P, .int sd] S (fun r z => r = some (.int (fSeed sd)) ∧ z.1 = S.1 ∧ ∀ a, P + 200 ≤ a → z.2.1 a = S.2.1 a) := by
  refine zM.of miX7_winners (Nat.le_of_ble_eq_true rfl) ?_
  intro p e s m args below meth c X hr hname
  generalize hF : ((fun r z => r = some (.int (fSeed sd)) ∧ z.1 = S.1 ∧ ∀ a, P + 200 ≤ a → z.2.1 a = S.2.1 a) : Option Value → zS → Prop) = FQ
  change Zw p l e { frames := 3, cells := 0, slots := 0, locals := 80 * 3 } s m args below meth c G b 4 (MQ below (zQ G b FQ) args s 0 0 (fun q : Nat => b ≤ q)) 0 0 0 [some (.ref P), some (.int sd), none, none] [] S
  have hE9 := hE
  obtain ⟨hT, e_st, e_tl, e_ol, e_rk, e_rf, e_rp, e_l0, e_l1, e_l2, e_l3, e_l4, e_l5, e_l6, e_lq, e_lg, e_a0, e_a1, e_o0, e_o1, e_o2, e_o3⟩ := hE
  obtain ⟨lt, o, tape, out, reader, list, past, pool, result, odds, paper, trial, trialPool, trialResult, trialOdds⟩ := id hT
  have o_list := list.2.1
  have o_pool := pool.2.1
  have o_rd := reader.2.1
  have o_res := result.2.1
  have o_odds := odds.2.1
  have o_past := past.2.1
  have o_pap := paper.2.1
  refine a_iload_n X dX7_winners_0 rfl ?_
  refine a_callSv X dX7_winners_1 miX7_isSeed lm7_237 (c_isSeed) rfl rfl (Nat.le_of_ble_eq_true rfl) ⟨by decide, by decide, by decide, by decide⟩ ?_
  refine a_if_ne (tgt := 13) X dX7_winners_4 (by decide) (fun h_4 => ?_) (fun h_4 => ?_)
  · refine a_aload_n X dX7_winners_13 rfl ?_
    refine a_getr X lf7_47 (by assumption) rfl (by omega) dX7_winners_14 ?_
    refine a_aload_n X dX7_winners_17 rfl ?_
    refine a_getr X lf7_40 (by assumption) rfl (by omega) dX7_winners_18 ?_
    refine a_iload_n X dX7_winners_21 rfl ?_
    refine a_callVu X dX7_winners_22 miX5_bySeed lm7_247 (c_bySeed0 (by assumption) (by assumption) (by assumption) (by assumption) (by assumption)) (by assumption) rfl rfl rfl (Nat.le_of_ble_eq_true rfl) ⟨by decide, by decide, by decide, by decide⟩ ?_
    refine a_iconst (v := 0) X dX7_winners_25 (by decide) ?_
    refine a_istore_n X dX7_winners_26 (by decide) ?_
    refine a_iconst (v := 0) X dX7_winners_27 (by decide) ?_
    refine a_istore_n X dX7_winners_28 (by decide) ?_
    refine a_iload_n X dX7_winners_29 rfl ?_
    refine a_aload_n X dX7_winners_30 rfl ?_
    refine a_getr X lf7_40 (by assumption) rfl (by omega) dX7_winners_31 ?_
    refine a_geti X lf7_140 (by assumption) rfl dX7_winners_34 ?_
    refine a_icmp_ge (tgt := 75) X dX7_winners_37 (by decide) (fun h_37 => ?_) (fun h_37 => absurd (by show S.2.1 (P + 91) 1 ≤ 0; rw [e_o1]; decide) h_37)
    refine a_aload_n X dX7_winners_75 rfl ?_
    refine a_iload_n X dX7_winners_76 rfl ?_
    refine a_callVv X dX7_winners_77 miX7_answer lm7_134 (c_answer (by assumption)) (by assumption) rfl rfl rfl (Nat.le_of_ble_eq_true rfl) ⟨by decide, by decide, by decide, by decide⟩ ?_
    refine a_iret X hr dX7_winners_80 ⟨by decide, by decide⟩ ?_
    subst hF
    refine ⟨?_, rfl, fun a ha => ?_⟩
    · first | (show some (Value.int (-1)) = some (Value.int (fSeed sd)); unfold fSeed; rw [if_neg (zB_0 h_4)]; done) | (show some (Value.int _) = some (Value.int (fSeed sd)); unfold fSeed; rw [if_pos (zB_1 h_4)]; done)
    · dsimp only
      repeat first | rw [zu_row (by omega)] | rw [zfil_row (by omega)] | rw [zcpy_row (by omega)] | rw [zwr_row (by omega)] | dsimp only
  · refine a_aload_n X dX7_winners_7 rfl ?_
    refine a_iconst (v := 1) X dX7_winners_8 (by decide) ?_
    refine a_callVv X dX7_winners_9 miX7_refuse lm7_102 (c_refuse (by assumption)) (by assumption) rfl rfl rfl (Nat.le_of_ble_eq_true rfl) ⟨by decide, by decide, by decide, by decide⟩ ?_
    refine a_iret X hr dX7_winners_12 ⟨by decide, by decide⟩ ?_
    subst hF
    refine ⟨?_, rfl, fun a ha => ?_⟩
    · first | (show some (Value.int (-1)) = some (Value.int (fSeed sd)); unfold fSeed; rw [if_neg (zB_0 h_4)]; done) | (show some (Value.int _) = some (Value.int (fSeed sd)); unfold fSeed; rw [if_pos (zB_1 h_4)]; done)
    · dsimp only
      repeat first | rw [zu_row (by omega)] | rw [zfil_row (by omega)] | rw [zcpy_row (by omega)] | rw [zwr_row (by omega)] | dsimp only
set_option maxRecDepth 100000 in
theorem f_print {l : Launch} {G : zG} {b : Nat} {S : zS} {P : Nat} {sd : Int32} (hE : zE7 S P) : zM l G b yX7_print cX7_print 5 (some .int) 3 0 0 [.ref P, .int sd] S (fun r z => r = some (.int (fSeed sd)) ∧ z.1 = S.1 ∧ ∀ a, P + 200 ≤ a → z.2.1 a = S.2.1 a) := by
  refine zM.of miX7_print (Nat.le_of_ble_eq_true rfl) ?_
  intro p e s m args below meth c X hr hname
  generalize hF : ((fun r z => r = some (.int (fSeed sd)) ∧ z.1 = S.1 ∧ ∀ a, P + 200 ≤ a → z.2.1 a = S.2.1 a) : Option Value → zS → Prop) = FQ
  change Zw p l e { frames := 3, cells := 0, slots := 0, locals := 80 * 3 } s m args below meth c G b 5 (MQ below (zQ G b FQ) args s 0 0 (fun q : Nat => b ≤ q)) 0 0 0 [some (.ref P), some (.int sd), none, none, none] [] S
  have hE9 := hE
  obtain ⟨hT, e_st, e_tl, e_ol, e_rk, e_rf, e_rp, e_l0, e_l1, e_l2, e_l3, e_l4, e_l5, e_l6, e_lq, e_lg, e_a0, e_a1, e_o0, e_o1, e_o2, e_o3⟩ := hE
  obtain ⟨lt, o, tape, out, reader, list, past, pool, result, odds, paper, trial, trialPool, trialResult, trialOdds⟩ := id hT
  have o_list := list.2.1
  have o_pool := pool.2.1
  have o_rd := reader.2.1
  have o_res := result.2.1
  have o_odds := odds.2.1
  have o_past := past.2.1
  have o_pap := paper.2.1
  refine a_iload_n X dX7_print_0 rfl ?_
  refine a_callSv X dX7_print_1 miX7_isSeed lm7_237 (c_isSeed) rfl rfl (Nat.le_of_ble_eq_true rfl) ⟨by decide, by decide, by decide, by decide⟩ ?_
  refine a_if_ne (tgt := 13) X dX7_print_4 (by decide) (fun h_4 => ?_) (fun h_4 => ?_)
  · refine a_aload_n X dX7_print_13 rfl ?_
    refine a_getr X lf7_47 (by assumption) rfl (by omega) dX7_print_14 ?_
    refine a_aload_n X dX7_print_17 rfl ?_
    refine a_getr X lf7_40 (by assumption) rfl (by omega) dX7_print_18 ?_
    refine a_iload_n X dX7_print_21 rfl ?_
    refine a_callVu X dX7_print_22 miX5_bySeed lm7_247 (c_bySeed0 (by assumption) (by assumption) (by assumption) (by assumption) (by assumption)) (by assumption) rfl rfl rfl (Nat.le_of_ble_eq_true rfl) ⟨by decide, by decide, by decide, by decide⟩ ?_
    refine a_aload_n X dX7_print_25 rfl ?_
    refine a_iconst (v := 0) X dX7_print_26 (by decide) ?_
    refine a_puti X lf7_84 (by assumption) rfl dX7_print_27 ?_
    refine a_iconst (v := 0) X dX7_print_30 (by decide) ?_
    refine a_istore_n X dX7_print_31 (by decide) ?_
    refine a_iload_n X dX7_print_32 rfl ?_
    refine a_aload_n X dX7_print_33 rfl ?_
    refine a_getr X lf7_40 (by assumption) rfl (by omega) dX7_print_34 ?_
    refine a_geti X lf7_140 (by assumption) rfl dX7_print_37 ?_
    refine a_icmp_ge (tgt := 135) X dX7_print_40 (by decide) (fun h_40 => ?_) (fun h_40 => absurd (by show zu S.2.1 P 2 0 (P + 91) 1 ≤ 0; rw [zu_row (by omega), e_o1]; decide) h_40)
    refine a_aload_n X dX7_print_135 rfl ?_
    refine a_aload_n X dX7_print_136 rfl ?_
    refine a_geti X lf7_84 (by assumption) rfl dX7_print_137 ?_
    refine a_callVv X dX7_print_140 miX7_answer lm7_134 (c_answer (by assumption)) (by assumption) rfl rfl rfl (Nat.le_of_ble_eq_true rfl) ⟨by decide, by decide, by decide, by decide⟩ ?_
    refine a_iret X hr dX7_print_143 ⟨by decide, by decide⟩ ?_
    subst hF
    refine ⟨?_, rfl, fun a ha => ?_⟩
    · first | (show some (Value.int (-1)) = some (Value.int (fSeed sd)); unfold fSeed; rw [if_neg (zB_0 h_4)]; done) | (show some (Value.int _) = some (Value.int (fSeed sd)); unfold fSeed; rw [if_pos (zB_1 h_4)]; exact congrArg (fun x => some (Value.int x)) zu_eq)
    · dsimp only
      repeat first | rw [zu_row (by omega)] | rw [zfil_row (by omega)] | rw [zcpy_row (by omega)] | rw [zwr_row (by omega)] | dsimp only
  · refine a_aload_n X dX7_print_7 rfl ?_
    refine a_iconst (v := 1) X dX7_print_8 (by decide) ?_
    refine a_callVv X dX7_print_9 miX7_refuse lm7_102 (c_refuse (by assumption)) (by assumption) rfl rfl rfl (Nat.le_of_ble_eq_true rfl) ⟨by decide, by decide, by decide, by decide⟩ ?_
    refine a_iret X hr dX7_print_12 ⟨by decide, by decide⟩ ?_
    subst hF
    refine ⟨?_, rfl, fun a ha => ?_⟩
    · first | (show some (Value.int (-1)) = some (Value.int (fSeed sd)); unfold fSeed; rw [if_neg (zB_0 h_4)]; done) | (show some (Value.int _) = some (Value.int (fSeed sd)); unfold fSeed; rw [if_pos (zB_1 h_4)]; exact congrArg (fun x => some (Value.int x)) zu_eq)
    · dsimp only
      repeat first | rw [zu_row (by omega)] | rw [zfil_row (by omega)] | rw [zcpy_row (by omega)] | rw [zwr_row (by omega)] | dsimp only
set_option maxRecDepth 100000 in
theorem f_sure {l : Launch} {G : zG} {b : Nat} {S : zS} {P : Nat} {w : Int32} (hE : zE7 S P) : zM l G b yX7_sure cX7_sure 3 (some .int) 5 0 0 [.ref P, .int w] S (fun r z => r = some (.int (fTwo w)) ∧ z.1 = S.1 ∧ ∀ a, P + 200 ≤ a → z.2.1 a = S.2.1 a) := by
  refine zM.of miX7_sure (Nat.le_of_ble_eq_true rfl) ?_
  intro p e s m args below meth c X hr hname
  generalize hF : ((fun r z => r = some (.int (fTwo w)) ∧ z.1 = S.1 ∧ ∀ a, P + 200 ≤ a → z.2.1 a = S.2.1 a) : Option Value → zS → Prop) = FQ
  change Zw p l e { frames := 5, cells := 0, slots := 0, locals := 80 * 5 } s m args below meth c G b 3 (MQ below (zQ G b FQ) args s 0 0 (fun q : Nat => b ≤ q)) 0 0 0 [some (.ref P), some (.int w), none] [] S
  have hE9 := hE
  obtain ⟨hT, e_st, e_tl, e_ol, e_rk, e_rf, e_rp, e_l0, e_l1, e_l2, e_l3, e_l4, e_l5, e_l6, e_lq, e_lg, e_a0, e_a1, e_o0, e_o1, e_o2, e_o3⟩ := hE
  obtain ⟨lt, o, tape, out, reader, list, past, pool, result, odds, paper, trial, trialPool, trialResult, trialOdds⟩ := id hT
  have o_list := list.2.1
  have o_pool := pool.2.1
  have o_rd := reader.2.1
  have o_res := result.2.1
  have o_odds := odds.2.1
  have o_past := past.2.1
  have o_pap := paper.2.1
  refine a_iload_n X dX7_sure_0 rfl ?_
  refine a_if_lt (tgt := 9) X dX7_sure_1 (by decide) (fun h_1 => ?_) (fun h_1 => ?_)
  · refine a_aload_n X dX7_sure_9 rfl ?_
    refine a_iconst (v := 1) X dX7_sure_10 (by decide) ?_
    refine a_callVv X dX7_sure_11 miX7_refuse lm7_102 (c_refuse (by assumption)) (by assumption) rfl rfl rfl (Nat.le_of_ble_eq_true rfl) ⟨by decide, by decide, by decide, by decide⟩ ?_
    refine a_iret X hr dX7_sure_14 ⟨by decide, by decide⟩ ?_
    subst hF
    refine ⟨?_, rfl, fun a ha => ?_⟩
    · first | (show some (Value.int (-1)) = some (Value.int (fTwo w)); unfold fTwo; rw [if_neg]; intro q; first | exact absurd h_1 (Int32.not_lt.mpr q.1) | exact h_6 q.2) | (show some (Value.int _) = some (Value.int (fTwo w)); unfold fTwo; rw [if_pos ⟨Int32.not_lt.mp h_1, h_6⟩]; first | rw [z10_and q0_34 (by decide) (by decide)] | rw [z10_few q0_34 (by decide) (by decide)] | rw [z10_most q0_34 (by decide) (by decide)] | (show some (Value.int ((1 <<< (M_34 (P + 91) 1 &&& 31) - 1) &&& _)) = _; rw [q1_34 (P + 91) (by omega) (by omega), e_o1, show ((1 : Int32) <<< (0 &&& 31) - 1) = 0 by decide, Int32.zero_and]))
    · dsimp only
      repeat first | rw [zu_row (by omega)] | rw [zfil_row (by omega)] | rw [zcpy_row (by omega)] | rw [zwr_row (by omega)] | rw [q0_34 a (by omega) (by omega)] | rw [q0_34 a (by omega)] | rw [q1_34 a (by omega) (by omega)] | rw [q1_34 a (by omega)] | dsimp only
  · refine a_iload_n X dX7_sure_4 rfl ?_
    refine a_iconst (v := 1) X dX7_sure_5 (by decide) ?_
    refine a_icmp_le (tgt := 15) X dX7_sure_6 (by decide) (fun h_6 => ?_) (fun h_6 => ?_)
    · refine a_aload_n X dX7_sure_15 rfl ?_
      refine a_getr X lf7_40 (by assumption) rfl (by omega) dX7_sure_16 ?_
      refine a_geti X lf7_140 (by assumption) rfl dX7_sure_19 ?_
      refine a_bipush (v := 7) X dX7_sure_22 (by decide) ?_
      refine a_icmp_le (tgt := 33) X dX7_sure_24 (by decide) (fun h_24 => ?_) (fun h_24 => absurd (by show S.2.1 (P + 91) 1 ≤ 7; rw [e_o1]; decide) h_24)
      refine a_aload_n X dX7_sure_33 rfl ?_
      refine a_callVx X dX7_sure_34 miX7_reckon lm7_296 (c_reckonT0 hE9) (by assumption) rfl rfl rfl (Nat.le_of_ble_eq_true rfl) ⟨by decide, by decide, by decide, by decide⟩ (fun r_34 S_34 q_34 => ?_)
      obtain ⟨M_34, N_34, rfl, rfl, q0_34, q1_34⟩ := q_34
      refine a_iconst (v := 1) X dX7_sure_37 (by decide) ?_
      refine a_aload_n X dX7_sure_38 rfl ?_
      refine a_getr X lf7_40 (by assumption) rfl (by omega) dX7_sure_39 ?_
      refine a_geti X lf7_140 (by assumption) rfl dX7_sure_42 ?_
      refine a_ishl X dX7_sure_45 ?_
      refine a_iconst (v := 1) X dX7_sure_46 (by decide) ?_
      refine a_isub X dX7_sure_47 ?_
      refine a_istore_n X dX7_sure_48 (by decide) ?_
      refine a_aload_n X dX7_sure_49 rfl ?_
      refine a_iload_n X dX7_sure_50 rfl ?_
      refine a_if_ne (tgt := 64) X dX7_sure_51 (by decide) (fun h_51 => ?_) (fun h_51 => ?_)
      · refine a_iload_n X dX7_sure_64 rfl ?_
        refine a_aload_n X dX7_sure_65 rfl ?_
        refine a_getr X lf7_54 (by assumption) rfl (by omega) dX7_sure_66 ?_
        refine a_callVv X dX7_sure_69 miX0_ever lm7_326 (c_ever (by assumption)) (by assumption) rfl rfl rfl (Nat.le_of_ble_eq_true rfl) ⟨by decide, by decide, by decide, by decide⟩ ?_
        refine a_iconst (v := -1) X dX7_sure_72 (by decide) ?_
        refine a_ixor X dX7_sure_73 ?_
        refine a_iand X dX7_sure_74 ?_
        refine a_callVv X dX7_sure_75 miX7_answer lm7_134 (c_answer (by assumption)) (by assumption) rfl rfl rfl (Nat.le_of_ble_eq_true rfl) ⟨by decide, by decide, by decide, by decide⟩ ?_
        refine a_iret X hr dX7_sure_78 ⟨by decide, by decide⟩ ?_
        subst hF
        refine ⟨?_, rfl, fun a ha => ?_⟩
        · first | (show some (Value.int (-1)) = some (Value.int (fTwo w)); unfold fTwo; rw [if_neg]; intro q; first | exact absurd h_1 (Int32.not_lt.mpr q.1) | exact h_6 q.2) | (show some (Value.int _) = some (Value.int (fTwo w)); unfold fTwo; rw [if_pos ⟨Int32.not_lt.mp h_1, h_6⟩]; first | rw [z10_and q0_34 (by decide) (by decide)] | rw [z10_few q0_34 (by decide) (by decide)] | rw [z10_most q0_34 (by decide) (by decide)] | (show some (Value.int ((1 <<< (M_34 (P + 91) 1 &&& 31) - 1) &&& _)) = _; rw [q1_34 (P + 91) (by omega) (by omega), e_o1, show ((1 : Int32) <<< (0 &&& 31) - 1) = 0 by decide, Int32.zero_and]))
        · dsimp only
          repeat first | rw [zu_row (by omega)] | rw [zfil_row (by omega)] | rw [zcpy_row (by omega)] | rw [zwr_row (by omega)] | rw [q0_34 a (by omega) (by omega)] | rw [q0_34 a (by omega)] | rw [q1_34 a (by omega) (by omega)] | rw [q1_34 a (by omega)] | dsimp only
      · refine a_aload_n X dX7_sure_54 rfl ?_
        refine a_getr X lf7_54 (by assumption) rfl (by omega) dX7_sure_55 ?_
        refine a_callVv X dX7_sure_58 miX0_always lm7_322 (c_always (by assumption)) (by assumption) rfl rfl rfl (Nat.le_of_ble_eq_true rfl) ⟨by decide, by decide, by decide, by decide⟩ ?_
        refine a_goto (tgt := 75) X dX7_sure_61 (by decide) ?_
        refine a_callVv X dX7_sure_75 miX7_answer lm7_134 (c_answer (by assumption)) (by assumption) rfl rfl rfl (Nat.le_of_ble_eq_true rfl) ⟨by decide, by decide, by decide, by decide⟩ ?_
        refine a_iret X hr dX7_sure_78 ⟨by decide, by decide⟩ ?_
        subst hF
        refine ⟨?_, rfl, fun a ha => ?_⟩
        · first | (show some (Value.int (-1)) = some (Value.int (fTwo w)); unfold fTwo; rw [if_neg]; intro q; first | exact absurd h_1 (Int32.not_lt.mpr q.1) | exact h_6 q.2) | (show some (Value.int _) = some (Value.int (fTwo w)); unfold fTwo; rw [if_pos ⟨Int32.not_lt.mp h_1, h_6⟩]; first | rw [z10_and q0_34 (by decide) (by decide)] | rw [z10_few q0_34 (by decide) (by decide)] | rw [z10_most q0_34 (by decide) (by decide)] | (show some (Value.int ((1 <<< (M_34 (P + 91) 1 &&& 31) - 1) &&& _)) = _; rw [q1_34 (P + 91) (by omega) (by omega), e_o1, show ((1 : Int32) <<< (0 &&& 31) - 1) = 0 by decide, Int32.zero_and]))
        · dsimp only
          repeat first | rw [zu_row (by omega)] | rw [zfil_row (by omega)] | rw [zcpy_row (by omega)] | rw [zwr_row (by omega)] | rw [q0_34 a (by omega) (by omega)] | rw [q0_34 a (by omega)] | rw [q1_34 a (by omega) (by omega)] | rw [q1_34 a (by omega)] | dsimp only
    · refine a_aload_n X dX7_sure_9 rfl ?_
      refine a_iconst (v := 1) X dX7_sure_10 (by decide) ?_
      refine a_callVv X dX7_sure_11 miX7_refuse lm7_102 (c_refuse (by assumption)) (by assumption) rfl rfl rfl (Nat.le_of_ble_eq_true rfl) ⟨by decide, by decide, by decide, by decide⟩ ?_
      refine a_iret X hr dX7_sure_14 ⟨by decide, by decide⟩ ?_
      subst hF
      refine ⟨?_, rfl, fun a ha => ?_⟩
      · first | (show some (Value.int (-1)) = some (Value.int (fTwo w)); unfold fTwo; rw [if_neg]; intro q; first | exact absurd h_1 (Int32.not_lt.mpr q.1) | exact h_6 q.2) | (show some (Value.int _) = some (Value.int (fTwo w)); unfold fTwo; rw [if_pos ⟨Int32.not_lt.mp h_1, h_6⟩]; first | rw [z10_and q0_34 (by decide) (by decide)] | rw [z10_few q0_34 (by decide) (by decide)] | rw [z10_most q0_34 (by decide) (by decide)] | (show some (Value.int ((1 <<< (M_34 (P + 91) 1 &&& 31) - 1) &&& _)) = _; rw [q1_34 (P + 91) (by omega) (by omega), e_o1, show ((1 : Int32) <<< (0 &&& 31) - 1) = 0 by decide, Int32.zero_and]))
      · dsimp only
        repeat first | rw [zu_row (by omega)] | rw [zfil_row (by omega)] | rw [zcpy_row (by omega)] | rw [zwr_row (by omega)] | rw [q0_34 a (by omega) (by omega)] | rw [q0_34 a (by omega)] | rw [q1_34 a (by omega) (by omega)] | rw [q1_34 a (by omega)] | dsimp only
set_option maxRecDepth 100000 in
theorem f_given {l : Launch} {G : zG} {b : Nat} {S : zS} {P : Nat} {w : Int32} (hE : zE7 S P) : zM l G b yX7_given cX7_given 2 (some .int) 5 0 0 [.ref P, .int w] S (fun r z => r = some (.int (fTwo w)) ∧ z.1 = S.1 ∧ ∀ a, P + 200 ≤ a → z.2.1 a = S.2.1 a) := by
  refine zM.of miX7_given (Nat.le_of_ble_eq_true rfl) ?_
  intro p e s m args below meth c X hr hname
  generalize hF : ((fun r z => r = some (.int (fTwo w)) ∧ z.1 = S.1 ∧ ∀ a, P + 200 ≤ a → z.2.1 a = S.2.1 a) : Option Value → zS → Prop) = FQ
  change Zw p l e { frames := 5, cells := 0, slots := 0, locals := 80 * 5 } s m args below meth c G b 2 (MQ below (zQ G b FQ) args s 0 0 (fun q : Nat => b ≤ q)) 0 0 0 [some (.ref P), some (.int w)] [] S
  have hE9 := hE
  obtain ⟨hT, e_st, e_tl, e_ol, e_rk, e_rf, e_rp, e_l0, e_l1, e_l2, e_l3, e_l4, e_l5, e_l6, e_lq, e_lg, e_a0, e_a1, e_o0, e_o1, e_o2, e_o3⟩ := hE
  obtain ⟨lt, o, tape, out, reader, list, past, pool, result, odds, paper, trial, trialPool, trialResult, trialOdds⟩ := id hT
  have o_list := list.2.1
  have o_pool := pool.2.1
  have o_rd := reader.2.1
  have o_res := result.2.1
  have o_odds := odds.2.1
  have o_past := past.2.1
  have o_pap := paper.2.1
  refine a_iload_n X dX7_given_0 rfl ?_
  refine a_if_lt (tgt := 9) X dX7_given_1 (by decide) (fun h_1 => ?_) (fun h_1 => ?_)
  · refine a_aload_n X dX7_given_9 rfl ?_
    refine a_iconst (v := 1) X dX7_given_10 (by decide) ?_
    refine a_callVv X dX7_given_11 miX7_refuse lm7_102 (c_refuse (by assumption)) (by assumption) rfl rfl rfl (Nat.le_of_ble_eq_true rfl) ⟨by decide, by decide, by decide, by decide⟩ ?_
    refine a_iret X hr dX7_given_14 ⟨by decide, by decide⟩ ?_
    subst hF
    refine ⟨?_, rfl, fun a ha => ?_⟩
    · first | (show some (Value.int (-1)) = some (Value.int (fTwo w)); unfold fTwo; rw [if_neg]; intro q; first | exact absurd h_1 (Int32.not_lt.mpr q.1) | exact h_6 q.2) | (show some (Value.int _) = some (Value.int (fTwo w)); unfold fTwo; rw [if_pos ⟨Int32.not_lt.mp h_1, h_6⟩]; first | rw [z10_and q0_34 (by decide) (by decide)] | rw [z10_few q0_34 (by decide) (by decide)] | rw [z10_most q0_34 (by decide) (by decide)] | (show some (Value.int ((1 <<< (M_34 (P + 91) 1 &&& 31) - 1) &&& _)) = _; rw [q1_34 (P + 91) (by omega) (by omega), e_o1, show ((1 : Int32) <<< (0 &&& 31) - 1) = 0 by decide, Int32.zero_and]))
    · dsimp only
      repeat first | rw [zu_row (by omega)] | rw [zfil_row (by omega)] | rw [zcpy_row (by omega)] | rw [zwr_row (by omega)] | rw [q0_34 a (by omega) (by omega)] | rw [q0_34 a (by omega)] | rw [q1_34 a (by omega) (by omega)] | rw [q1_34 a (by omega)] | dsimp only
  · refine a_iload_n X dX7_given_4 rfl ?_
    refine a_iconst (v := 1) X dX7_given_5 (by decide) ?_
    refine a_icmp_le (tgt := 15) X dX7_given_6 (by decide) (fun h_6 => ?_) (fun h_6 => ?_)
    · refine a_aload_n X dX7_given_15 rfl ?_
      refine a_getr X lf7_40 (by assumption) rfl (by omega) dX7_given_16 ?_
      refine a_geti X lf7_140 (by assumption) rfl dX7_given_19 ?_
      refine a_bipush (v := 7) X dX7_given_22 (by decide) ?_
      refine a_icmp_le (tgt := 33) X dX7_given_24 (by decide) (fun h_24 => ?_) (fun h_24 => absurd (by show S.2.1 (P + 91) 1 ≤ 7; rw [e_o1]; decide) h_24)
      refine a_aload_n X dX7_given_33 rfl ?_
      refine a_callVx X dX7_given_34 miX7_reckon lm7_296 (c_reckonT0 hE9) (by assumption) rfl rfl rfl (Nat.le_of_ble_eq_true rfl) ⟨by decide, by decide, by decide, by decide⟩ (fun r_34 S_34 q_34 => ?_)
      obtain ⟨M_34, N_34, rfl, rfl, q0_34, q1_34⟩ := q_34
      refine a_aload_n X dX7_given_37 rfl ?_
      refine a_iload_n X dX7_given_38 rfl ?_
      refine a_if_ne (tgt := 56) X dX7_given_39 (by decide) (fun h_39 => ?_) (fun h_39 => ?_)
      · refine a_aload_n X dX7_given_56 rfl ?_
        refine a_getr X lf7_54 (by assumption) rfl (by omega) dX7_given_57 ?_
        refine a_aload_n X dX7_given_60 rfl ?_
        refine a_getr X lf7_40 (by assumption) rfl (by omega) dX7_given_61 ?_
        refine a_callVv X dX7_given_64 miX0_mostTags lm7_333 (c_mostTags0 (by assumption) (by assumption) (by show M_34 (P + 91) 1 = 0; rw [q1_34 (P + 91) (by omega) (by omega), e_o1]) (by show M_34 (P + 91) 0 = 0; rw [q1_34 (P + 91) (by omega) (by omega), e_o0]) (by show M_34 (P + 91) 3 = 0; rw [q1_34 (P + 91) (by omega) (by omega), e_o3])) (by assumption) rfl rfl rfl (Nat.le_of_ble_eq_true rfl) ⟨by decide, by decide, by decide, by decide⟩ ?_
        refine a_callVv X dX7_given_67 miX7_answer lm7_134 (c_answer (by assumption)) (by assumption) rfl rfl rfl (Nat.le_of_ble_eq_true rfl) ⟨by decide, by decide, by decide, by decide⟩ ?_
        refine a_iret X hr dX7_given_70 ⟨by decide, by decide⟩ ?_
        subst hF
        refine ⟨?_, rfl, fun a ha => ?_⟩
        · first | (show some (Value.int (-1)) = some (Value.int (fTwo w)); unfold fTwo; rw [if_neg]; intro q; first | exact absurd h_1 (Int32.not_lt.mpr q.1) | exact h_6 q.2) | (show some (Value.int _) = some (Value.int (fTwo w)); unfold fTwo; rw [if_pos ⟨Int32.not_lt.mp h_1, h_6⟩]; first | rw [z10_and q0_34 (by decide) (by decide)] | rw [z10_few q0_34 (by decide) (by decide)] | rw [z10_most q0_34 (by decide) (by decide)] | (show some (Value.int ((1 <<< (M_34 (P + 91) 1 &&& 31) - 1) &&& _)) = _; rw [q1_34 (P + 91) (by omega) (by omega), e_o1, show ((1 : Int32) <<< (0 &&& 31) - 1) = 0 by decide, Int32.zero_and]))
        · dsimp only
          repeat first | rw [zu_row (by omega)] | rw [zfil_row (by omega)] | rw [zcpy_row (by omega)] | rw [zwr_row (by omega)] | rw [q0_34 a (by omega) (by omega)] | rw [q0_34 a (by omega)] | rw [q1_34 a (by omega) (by omega)] | rw [q1_34 a (by omega)] | dsimp only
      · refine a_aload_n X dX7_given_42 rfl ?_
        refine a_getr X lf7_54 (by assumption) rfl (by omega) dX7_given_43 ?_
        refine a_aload_n X dX7_given_46 rfl ?_
        refine a_getr X lf7_40 (by assumption) rfl (by omega) dX7_given_47 ?_
        refine a_callVv X dX7_given_50 miX0_fewestTags lm7_329 (c_fewestTags0 (by assumption) (by assumption) (by show M_34 (P + 91) 1 = 0; rw [q1_34 (P + 91) (by omega) (by omega), e_o1]) (by show M_34 (P + 91) 0 = 0; rw [q1_34 (P + 91) (by omega) (by omega), e_o0]) (by show M_34 (P + 91) 3 = 0; rw [q1_34 (P + 91) (by omega) (by omega), e_o3])) (by assumption) rfl rfl rfl (Nat.le_of_ble_eq_true rfl) ⟨by decide, by decide, by decide, by decide⟩ ?_
        refine a_goto (tgt := 67) X dX7_given_53 (by decide) ?_
        refine a_callVv X dX7_given_67 miX7_answer lm7_134 (c_answer (by assumption)) (by assumption) rfl rfl rfl (Nat.le_of_ble_eq_true rfl) ⟨by decide, by decide, by decide, by decide⟩ ?_
        refine a_iret X hr dX7_given_70 ⟨by decide, by decide⟩ ?_
        subst hF
        refine ⟨?_, rfl, fun a ha => ?_⟩
        · first | (show some (Value.int (-1)) = some (Value.int (fTwo w)); unfold fTwo; rw [if_neg]; intro q; first | exact absurd h_1 (Int32.not_lt.mpr q.1) | exact h_6 q.2) | (show some (Value.int _) = some (Value.int (fTwo w)); unfold fTwo; rw [if_pos ⟨Int32.not_lt.mp h_1, h_6⟩]; first | rw [z10_and q0_34 (by decide) (by decide)] | rw [z10_few q0_34 (by decide) (by decide)] | rw [z10_most q0_34 (by decide) (by decide)] | (show some (Value.int ((1 <<< (M_34 (P + 91) 1 &&& 31) - 1) &&& _)) = _; rw [q1_34 (P + 91) (by omega) (by omega), e_o1, show ((1 : Int32) <<< (0 &&& 31) - 1) = 0 by decide, Int32.zero_and]))
        · dsimp only
          repeat first | rw [zu_row (by omega)] | rw [zfil_row (by omega)] | rw [zcpy_row (by omega)] | rw [zwr_row (by omega)] | rw [q0_34 a (by omega) (by omega)] | rw [q0_34 a (by omega)] | rw [q1_34 a (by omega) (by omega)] | rw [q1_34 a (by omega)] | dsimp only
    · refine a_aload_n X dX7_given_9 rfl ?_
      refine a_iconst (v := 1) X dX7_given_10 (by decide) ?_
      refine a_callVv X dX7_given_11 miX7_refuse lm7_102 (c_refuse (by assumption)) (by assumption) rfl rfl rfl (Nat.le_of_ble_eq_true rfl) ⟨by decide, by decide, by decide, by decide⟩ ?_
      refine a_iret X hr dX7_given_14 ⟨by decide, by decide⟩ ?_
      subst hF
      refine ⟨?_, rfl, fun a ha => ?_⟩
      · first | (show some (Value.int (-1)) = some (Value.int (fTwo w)); unfold fTwo; rw [if_neg]; intro q; first | exact absurd h_1 (Int32.not_lt.mpr q.1) | exact h_6 q.2) | (show some (Value.int _) = some (Value.int (fTwo w)); unfold fTwo; rw [if_pos ⟨Int32.not_lt.mp h_1, h_6⟩]; first | rw [z10_and q0_34 (by decide) (by decide)] | rw [z10_few q0_34 (by decide) (by decide)] | rw [z10_most q0_34 (by decide) (by decide)] | (show some (Value.int ((1 <<< (M_34 (P + 91) 1 &&& 31) - 1) &&& _)) = _; rw [q1_34 (P + 91) (by omega) (by omega), e_o1, show ((1 : Int32) <<< (0 &&& 31) - 1) = 0 by decide, Int32.zero_and]))
      · dsimp only
        repeat first | rw [zu_row (by omega)] | rw [zfil_row (by omega)] | rw [zcpy_row (by omega)] | rw [zwr_row (by omega)] | rw [q0_34 a (by omega) (by omega)] | rw [q0_34 a (by omega)] | rw [q1_34 a (by omega) (by omega)] | rw [q1_34 a (by omega)] | dsimp only
set_option maxRecDepth 100000 in
theorem f_ends {l : Launch} {G : zG} {b : Nat} {S : zS} {P : Nat}  (hE : zE7 S P) : zM l G b yX7_ends cX7_ends 1 (some .int) 5 0 0 [.ref P] S (fun r z => r = some (.int (1)) ∧ z.1 = S.1 ∧ ∀ a, P + 200 ≤ a → z.2.1 a = S.2.1 a) := by
  refine zM.of miX7_ends (Nat.le_of_ble_eq_true rfl) ?_
  intro p e s m args below meth c X hr hname
  generalize hF : ((fun r z => r = some (.int (1)) ∧ z.1 = S.1 ∧ ∀ a, P + 200 ≤ a → z.2.1 a = S.2.1 a) : Option Value → zS → Prop) = FQ
  change Zw p l e { frames := 5, cells := 0, slots := 0, locals := 80 * 5 } s m args below meth c G b 1 (MQ below (zQ G b FQ) args s 0 0 (fun q : Nat => b ≤ q)) 0 0 0 [some (.ref P)] [] S
  have hE9 := hE
  obtain ⟨hT, e_st, e_tl, e_ol, e_rk, e_rf, e_rp, e_l0, e_l1, e_l2, e_l3, e_l4, e_l5, e_l6, e_lq, e_lg, e_a0, e_a1, e_o0, e_o1, e_o2, e_o3⟩ := hE
  obtain ⟨lt, o, tape, out, reader, list, past, pool, result, odds, paper, trial, trialPool, trialResult, trialOdds⟩ := id hT
  have o_list := list.2.1
  have o_pool := pool.2.1
  have o_rd := reader.2.1
  have o_res := result.2.1
  have o_odds := odds.2.1
  have o_past := past.2.1
  have o_pap := paper.2.1
  refine a_aload_n X dX7_ends_0 rfl ?_
  refine a_getr X lf7_40 (by assumption) rfl (by omega) dX7_ends_1 ?_
  refine a_geti X lf7_140 (by assumption) rfl dX7_ends_4 ?_
  refine a_bipush (v := 7) X dX7_ends_7 (by decide) ?_
  refine a_icmp_le (tgt := 18) X dX7_ends_9 (by decide) (fun h_9 => ?_) (fun h_9 => absurd (by show S.2.1 (P + 91) 1 ≤ 7; rw [e_o1]; decide) h_9)
  refine a_aload_n X dX7_ends_18 rfl ?_
  refine a_callVx X dX7_ends_19 miX7_reckon lm7_296 (c_reckonT0 hE9) (by assumption) rfl rfl rfl (Nat.le_of_ble_eq_true rfl) ⟨by decide, by decide, by decide, by decide⟩ (fun r_19 S_19 q_19 => ?_)
  obtain ⟨M_19, N_19, rfl, rfl, q0_19, q1_19⟩ := q_19
  refine a_aload_n X dX7_ends_22 rfl ?_
  refine a_aload_n X dX7_ends_23 rfl ?_
  refine a_getr X lf7_54 (by assumption) rfl (by omega) dX7_ends_24 ?_
  refine a_getr X lf7_336 (by assumption) rfl (by omega) dX7_ends_27 ?_
  refine a_callSv X dX7_ends_30 miX7_sum lm7_161 (c_sum (n := 128) (by exact odds.2.2.2.1) (by decide)) rfl rfl (Nat.le_of_ble_eq_true rfl) ⟨by decide, by decide, by decide, by decide⟩ ?_
  refine a_callVv X dX7_ends_33 miX7_answer lm7_134 (c_answer (by assumption)) (by assumption) rfl rfl rfl (Nat.le_of_ble_eq_true rfl) ⟨by decide, by decide, by decide, by decide⟩ ?_
  refine a_iret X hr dX7_ends_36 ⟨by decide, by decide⟩ ?_
  subst hF
  refine ⟨?_, rfl, fun a ha => ?_⟩
  · show some (Value.int (zsum (M_19 (P + 114)) 128)) = _
    rw [z10_sum q0_19 (by decide) (by decide)]
  · dsimp only
    repeat first | rw [zu_row (by omega)] | rw [zfil_row (by omega)] | rw [zcpy_row (by omega)] | rw [zwr_row (by omega)] | rw [q0_19 a (by omega) (by omega)] | rw [q0_19 a (by omega)] | rw [q1_19 a (by omega) (by omega)] | rw [q1_19 a (by omega)] | dsimp only
set_option maxRecDepth 100000 in
theorem c_whyNotWise0 {l : Launch} {G : zG} {b : Nat} {S : zS} {P : Nat} {h : Int32} (hT : LX7 S.1 P) (h0 : S.2.1 (P + 91) 1 = 0) : zM l G b yX7_whyNotWise cX7_whyNotWise 2 (some .int) 1 0 0 [.ref P, .int h] S (fun r z => r = some (.int 2) ∧ z = S) := by
  refine zM.of miX7_whyNotWise (Nat.le_of_ble_eq_true rfl) ?_
  intro p e s m args below meth c X hr hname
  generalize hF : ((fun r z => r = some (.int 2) ∧ z = S) : Option Value → zS → Prop) = FQ
  change Zw p l e { frames := 1, cells := 0, slots := 0, locals := 80 * 1 } s m args below meth c G b 2 (MQ below (zQ G b FQ) args s 0 0 (fun q : Nat => b ≤ q)) 0 0 0 [some (.ref P), some (.int h)] [] S
  obtain ⟨lt, o, tape, out, reader, list, past, pool, result, odds, paper, trial, trialPool, trialResult, trialOdds⟩ := id hT
  refine a_aload_n X dX7_whyNotWise_0 rfl ?_
  refine a_iload_n X dX7_whyNotWise_1 rfl ?_
  refine a_callVv X dX7_whyNotWise_2 miX7_isApplicant lm7_206 (c_isApplicant0 (by assumption) (by assumption)) (by assumption) rfl rfl rfl (Nat.le_of_ble_eq_true rfl) ⟨by decide, by decide, by decide, by decide⟩ ?_
  refine a_if_ne (tgt := 10) X dX7_whyNotWise_5 (by decide) (fun h_5 => absurd rfl h_5) (fun h_5 => ?_)
  refine a_iconst (v := 2) X dX7_whyNotWise_8 (by decide) ?_
  refine a_iret X hr dX7_whyNotWise_9 ⟨by decide, by decide⟩ ?_
  subst hF
  exact ⟨rfl, rfl⟩
set_option maxRecDepth 100000 in
theorem f_wise {l : Launch} {G : zG} {b : Nat} {S : zS} {P : Nat} {a : Int32} (hE : zE7 S P) : zM l G b yX7_wise cX7_wise 9 (some .int) 3 0 0 [.ref P, .int a] S (fun r z => r = some (.int (-1)) ∧ z.1 = S.1 ∧ ∀ a, P + 200 ≤ a → z.2.1 a = S.2.1 a) := by
  refine zM.of miX7_wise (Nat.le_of_ble_eq_true rfl) ?_
  intro p e s m args below meth c X hr hname
  generalize hF : ((fun r z => r = some (.int (-1)) ∧ z.1 = S.1 ∧ ∀ a, P + 200 ≤ a → z.2.1 a = S.2.1 a) : Option Value → zS → Prop) = FQ
  change Zw p l e { frames := 3, cells := 0, slots := 0, locals := 80 * 3 } s m args below meth c G b 9 (MQ below (zQ G b FQ) args s 0 0 (fun q : Nat => b ≤ q)) 0 0 0 [some (.ref P), some (.int a), none, none, none, none, none, none, none] [] S
  have hE9 := hE
  obtain ⟨hT, e_st, e_tl, e_ol, e_rk, e_rf, e_rp, e_l0, e_l1, e_l2, e_l3, e_l4, e_l5, e_l6, e_lq, e_lg, e_a0, e_a1, e_o0, e_o1, e_o2, e_o3⟩ := hE
  obtain ⟨lt, o, tape, out, reader, list, past, pool, result, odds, paper, trial, trialPool, trialResult, trialOdds⟩ := id hT
  have o_list := list.2.1
  have o_pool := pool.2.1
  have o_rd := reader.2.1
  have o_res := result.2.1
  have o_odds := odds.2.1
  have o_past := past.2.1
  have o_pap := paper.2.1
  refine a_aload_n X dX7_wise_0 rfl ?_
  refine a_iload_n X dX7_wise_1 rfl ?_
  refine a_callVv X dX7_wise_2 miX7_whyNotWise lm7_344 (c_whyNotWise0 (by assumption) (by assumption)) (by assumption) rfl rfl rfl (Nat.le_of_ble_eq_true rfl) ⟨by decide, by decide, by decide, by decide⟩ ?_
  refine a_istore_n X dX7_wise_5 (by decide) ?_
  refine a_iload_n X dX7_wise_6 rfl ?_
  refine a_if_eq (tgt := 16) X dX7_wise_7 (by decide) (fun h_7 => absurd h_7 (by decide)) (fun h_7 => ?_)
  refine a_aload_n X dX7_wise_10 rfl ?_
  refine a_iload_n X dX7_wise_11 rfl ?_
  refine a_callVv X dX7_wise_12 miX7_refuse lm7_102 (c_refuse (by assumption)) (by assumption) rfl rfl rfl (Nat.le_of_ble_eq_true rfl) ⟨by decide, by decide, by decide, by decide⟩ ?_
  refine a_iret X hr dX7_wise_15 ⟨by decide, by decide⟩ ?_
  subst hF
  refine ⟨?_, rfl, fun a ha => ?_⟩
  · rfl
  · dsimp only
    repeat first | rw [zu_row (by omega)] | rw [zfil_row (by omega)] | rw [zcpy_row (by omega)] | rw [zwr_row (by omega)] | dsimp only
set_option maxRecDepth 100000 in
theorem f_wiseChance {l : Launch} {G : zG} {b : Nat} {S : zS} {P : Nat} {a : Int32} (hE : zE7 S P) : zM l G b yX7_wiseChance cX7_wiseChance 6 (some .long) 3 0 0 [.ref P, .int a] S (fun r z => r = some (.long (-1)) ∧ z.1 = S.1 ∧ ∀ a, P + 200 ≤ a → z.2.1 a = S.2.1 a) := by
  refine zM.of miX7_wiseChance (Nat.le_of_ble_eq_true rfl) ?_
  intro p e s m args below meth c X hr hname
  generalize hF : ((fun r z => r = some (.long (-1)) ∧ z.1 = S.1 ∧ ∀ a, P + 200 ≤ a → z.2.1 a = S.2.1 a) : Option Value → zS → Prop) = FQ
  change Zw p l e { frames := 3, cells := 0, slots := 0, locals := 80 * 3 } s m args below meth c G b 6 (MQ below (zQ G b FQ) args s 0 0 (fun q : Nat => b ≤ q)) 0 0 0 [some (.ref P), some (.int a), none, none, none, none] [] S
  have hE9 := hE
  obtain ⟨hT, e_st, e_tl, e_ol, e_rk, e_rf, e_rp, e_l0, e_l1, e_l2, e_l3, e_l4, e_l5, e_l6, e_lq, e_lg, e_a0, e_a1, e_o0, e_o1, e_o2, e_o3⟩ := hE
  obtain ⟨lt, o, tape, out, reader, list, past, pool, result, odds, paper, trial, trialPool, trialResult, trialOdds⟩ := id hT
  have o_list := list.2.1
  have o_pool := pool.2.1
  have o_rd := reader.2.1
  have o_res := result.2.1
  have o_odds := odds.2.1
  have o_past := past.2.1
  have o_pap := paper.2.1
  refine a_aload_n X dX7_wiseChance_0 rfl ?_
  refine a_iload_n X dX7_wiseChance_1 rfl ?_
  refine a_callVv X dX7_wiseChance_2 miX7_whyNotWise lm7_344 (c_whyNotWise0 (by assumption) (by assumption)) (by assumption) rfl rfl rfl (Nat.le_of_ble_eq_true rfl) ⟨by decide, by decide, by decide, by decide⟩ ?_
  refine a_istore_n X dX7_wiseChance_5 (by decide) ?_
  refine a_iload_n X dX7_wiseChance_6 rfl ?_
  refine a_if_eq (tgt := 17) X dX7_wiseChance_7 (by decide) (fun h_7 => absurd h_7 (by decide)) (fun h_7 => ?_)
  refine a_aload_n X dX7_wiseChance_10 rfl ?_
  refine a_iload_n X dX7_wiseChance_11 rfl ?_
  refine a_callVv X dX7_wiseChance_12 miX7_refuse lm7_102 (c_refuse (by assumption)) (by assumption) rfl rfl rfl (Nat.le_of_ble_eq_true rfl) ⟨by decide, by decide, by decide, by decide⟩ ?_
  refine a_i2l X dX7_wiseChance_15 ?_
  refine a_lret X hr dX7_wiseChance_16 ⟨by decide, by decide⟩ ?_
  subst hF
  refine ⟨?_, rfl, fun a ha => ?_⟩
  · rfl
  · dsimp only
    repeat first | rw [zu_row (by omega)] | rw [zfil_row (by omega)] | rw [zcpy_row (by omega)] | rw [zwr_row (by omega)] | dsimp only
set_option maxRecDepth 100000 in
theorem f_years {l : Launch} {G : zG} {b : Nat} {S : zS} {P : Nat} {sd : Int32} {n : Int32} {w : Int32} (hE : zE7 S P) : zM l G b yX7_years cX7_years 4 (some .int) 4 0 0 [.ref P, .int sd, .int n, .int w] S (fun r z => r = some (.int (fYears sd n w)) ∧ z.1 = S.1 ∧ ∀ a, P + 200 ≤ a → z.2.1 a = S.2.1 a) := by
  refine zM.of miX7_years (Nat.le_of_ble_eq_true rfl) ?_
  intro p e s m args below meth c X hr hname
  generalize hF : ((fun r z => r = some (.int (fYears sd n w)) ∧ z.1 = S.1 ∧ ∀ a, P + 200 ≤ a → z.2.1 a = S.2.1 a) : Option Value → zS → Prop) = FQ
  change Zw p l e { frames := 4, cells := 0, slots := 0, locals := 80 * 4 } s m args below meth c G b 4 (MQ below (zQ G b FQ) args s 0 0 (fun q : Nat => b ≤ q)) 0 0 0 [some (.ref P), some (.int sd), some (.int n), some (.int w)] [] S
  have hE9 := hE
  obtain ⟨hT, e_st, e_tl, e_ol, e_rk, e_rf, e_rp, e_l0, e_l1, e_l2, e_l3, e_l4, e_l5, e_l6, e_lq, e_lg, e_a0, e_a1, e_o0, e_o1, e_o2, e_o3⟩ := hE
  obtain ⟨lt, o, tape, out, reader, list, past, pool, result, odds, paper, trial, trialPool, trialResult, trialOdds⟩ := id hT
  have o_list := list.2.1
  have o_pool := pool.2.1
  have o_rd := reader.2.1
  have o_res := result.2.1
  have o_odds := odds.2.1
  have o_past := past.2.1
  have o_pap := paper.2.1
  refine a_iload_n X dX7_years_0 rfl ?_
  refine a_iload_n X dX7_years_1 rfl ?_
  refine a_callSv X dX7_years_2 miX7_areYears lm7_372 (c_areYears) rfl rfl (Nat.le_of_ble_eq_true rfl) ⟨by decide, by decide, by decide, by decide⟩ ?_
  refine a_if_eq (tgt := 17) X dX7_years_5 (by decide) (fun h_5 => ?_) (fun h_5 => ?_)
  · refine a_aload_n X dX7_years_17 rfl ?_
    refine a_iconst (v := 1) X dX7_years_18 (by decide) ?_
    refine a_callVv X dX7_years_19 miX7_refuse lm7_102 (c_refuse (by assumption)) (by assumption) rfl rfl rfl (Nat.le_of_ble_eq_true rfl) ⟨by decide, by decide, by decide, by decide⟩ ?_
    refine a_iret X hr dX7_years_22 ⟨by decide, by decide⟩ ?_
    subst hF
    refine ⟨?_, rfl, fun a ha => ?_⟩
    · first | (show some (Value.int (-1)) = some (Value.int (fYears sd n w)); unfold fYears; rw [if_neg]; intro q; first | exact zB_0 h_5 q.1 | exact absurd h_9 (Int32.not_lt.mpr q.2.1) | exact h_14 q.2.2) | (show some (Value.int _) = some (Value.int (fYears sd (nI k) w)); unfold fYears; rw [if_pos ⟨hc, Int32.not_lt.mp h_9, h_14⟩]; first | done | exact congrArg (fun x => some (Value.int x)) q0_33 | exact congrArg (fun x => some (Value.int x)) q1_33)
    · dsimp only
      repeat first | rw [zu_row (by omega)] | rw [zfil_row (by omega)] | rw [zcpy_row (by omega)] | rw [zwr_row (by omega)] | rw [q0_33 a (by omega) (by omega)] | rw [q0_33 a (by omega)] | rw [q1_33 a (by omega) (by omega)] | rw [q1_33 a (by omega)] | rw [q2_33 a (by omega) (by omega)] | rw [q2_33 a (by omega)] | dsimp only
  · refine a_iload_n X dX7_years_8 rfl ?_
    refine a_if_lt (tgt := 17) X dX7_years_9 (by decide) (fun h_9 => ?_) (fun h_9 => ?_)
    · refine a_aload_n X dX7_years_17 rfl ?_
      refine a_iconst (v := 1) X dX7_years_18 (by decide) ?_
      refine a_callVv X dX7_years_19 miX7_refuse lm7_102 (c_refuse (by assumption)) (by assumption) rfl rfl rfl (Nat.le_of_ble_eq_true rfl) ⟨by decide, by decide, by decide, by decide⟩ ?_
      refine a_iret X hr dX7_years_22 ⟨by decide, by decide⟩ ?_
      subst hF
      refine ⟨?_, rfl, fun a ha => ?_⟩
      · first | (show some (Value.int (-1)) = some (Value.int (fYears sd n w)); unfold fYears; rw [if_neg]; intro q; first | exact zB_0 h_5 q.1 | exact absurd h_9 (Int32.not_lt.mpr q.2.1) | exact h_14 q.2.2) | (show some (Value.int _) = some (Value.int (fYears sd (nI k) w)); unfold fYears; rw [if_pos ⟨hc, Int32.not_lt.mp h_9, h_14⟩]; first | done | exact congrArg (fun x => some (Value.int x)) q0_33 | exact congrArg (fun x => some (Value.int x)) q1_33)
      · dsimp only
        repeat first | rw [zu_row (by omega)] | rw [zfil_row (by omega)] | rw [zcpy_row (by omega)] | rw [zwr_row (by omega)] | rw [q0_33 a (by omega) (by omega)] | rw [q0_33 a (by omega)] | rw [q1_33 a (by omega) (by omega)] | rw [q1_33 a (by omega)] | rw [q2_33 a (by omega) (by omega)] | rw [q2_33 a (by omega)] | dsimp only
    · refine a_iload_n X dX7_years_12 rfl ?_
      refine a_iconst (v := 2) X dX7_years_13 (by decide) ?_
      refine a_icmp_le (tgt := 23) X dX7_years_14 (by decide) (fun h_14 => ?_) (fun h_14 => ?_)
      · have hc := zB_1 h_5
        obtain ⟨k, hk, rfl⟩ := zi_k hc.2.1 hc.2.2.1
        refine a_aload_n X dX7_years_23 rfl ?_
        refine a_getr X lf7_61 (by assumption) rfl (by omega) dX7_years_24 ?_
        refine a_aload_n X dX7_years_27 rfl ?_
        refine a_getr X lf7_26 (by assumption) rfl (by omega) dX7_years_28 ?_
        refine a_iload_n X dX7_years_31 rfl ?_
        refine a_iload_n X dX7_years_32 rfl ?_
        refine a_callVx X dX7_years_33 miX6_pass lm7_376 (c_pass0 (by assumption) (by assumption) (by omega) (by assumption) (by assumption) (by assumption) hk) (by assumption) rfl rfl rfl (Nat.le_of_ble_eq_true rfl) ⟨by decide, by decide, by decide, by decide⟩ (fun r_33 S_33 q_33 => ?_)
        obtain ⟨M_33, rfl, rfl, q0_33, q1_33, q2_33⟩ := q_33
        refine a_iload_n X dX7_years_36 rfl ?_
        refine a_lsw2 (t1 := 64) (t2 := 76) (td := 95) X dX7_years_37 rfl (by decide) (by decide) (by decide) (by decide) (fun h_37 => ?_) (fun g_37 h_37 => ?_) (fun f_37 g_37 => ?_)
        · refine a_aload_n X dX7_years_64 rfl ?_
          refine a_aload_n X dX7_years_65 rfl ?_
          refine a_getr X lf7_61 (by assumption) rfl (by omega) dX7_years_66 ?_
          refine a_geti X lf7_380 (by assumption) rfl dX7_years_69 ?_
          refine a_callVv X dX7_years_72 miX7_answer lm7_134 (c_answer (by assumption)) (by assumption) rfl rfl rfl (Nat.le_of_ble_eq_true rfl) ⟨by decide, by decide, by decide, by decide⟩ ?_
          refine a_iret X hr dX7_years_75 ⟨by decide, by decide⟩ ?_
          subst hF
          refine ⟨?_, rfl, fun a ha => ?_⟩
          · first | (show some (Value.int (-1)) = some (Value.int (fYears sd n w)); unfold fYears; rw [if_neg]; intro q; first | exact zB_0 h_5 q.1 | exact absurd h_9 (Int32.not_lt.mpr q.2.1) | exact h_14 q.2.2) | (show some (Value.int _) = some (Value.int (fYears sd (nI k) w)); unfold fYears; rw [if_pos ⟨hc, Int32.not_lt.mp h_9, h_14⟩]; first | done | exact congrArg (fun x => some (Value.int x)) q0_33 | exact congrArg (fun x => some (Value.int x)) q1_33)
          · dsimp only
            repeat first | rw [zu_row (by omega)] | rw [zfil_row (by omega)] | rw [zcpy_row (by omega)] | rw [zwr_row (by omega)] | rw [q0_33 a (by omega) (by omega)] | rw [q0_33 a (by omega)] | rw [q1_33 a (by omega) (by omega)] | rw [q1_33 a (by omega)] | rw [q2_33 a (by omega) (by omega)] | rw [q2_33 a (by omega)] | dsimp only
        · refine a_aload_n X dX7_years_76 rfl ?_
          refine a_aload_n X dX7_years_77 rfl ?_
          refine a_getr X lf7_61 (by assumption) rfl (by omega) dX7_years_78 ?_
          refine a_aload_n X dX7_years_81 rfl ?_
          refine a_getr X lf7_26 (by assumption) rfl (by omega) dX7_years_82 ?_
          refine a_geti X lf7_119 (by assumption) rfl dX7_years_85 ?_
          refine a_callVv X dX7_years_88 miX6_unserved lm7_383 (c_unserved0 (by show M_33 (P + 17) 1 = 0; rw [q2_33 (P + 17) (by omega), e_l1])) (by assumption) rfl rfl rfl (Nat.le_of_ble_eq_true rfl) ⟨by decide, by decide, by decide, by decide⟩ ?_
          refine a_callVv X dX7_years_91 miX7_answer lm7_134 (c_answer (by assumption)) (by assumption) rfl rfl rfl (Nat.le_of_ble_eq_true rfl) ⟨by decide, by decide, by decide, by decide⟩ ?_
          refine a_iret X hr dX7_years_94 ⟨by decide, by decide⟩ ?_
          subst hF
          refine ⟨?_, rfl, fun a ha => ?_⟩
          · first | (show some (Value.int (-1)) = some (Value.int (fYears sd n w)); unfold fYears; rw [if_neg]; intro q; first | exact zB_0 h_5 q.1 | exact absurd h_9 (Int32.not_lt.mpr q.2.1) | exact h_14 q.2.2) | (show some (Value.int _) = some (Value.int (fYears sd (nI k) w)); unfold fYears; rw [if_pos ⟨hc, Int32.not_lt.mp h_9, h_14⟩]; first | done | exact congrArg (fun x => some (Value.int x)) q0_33 | exact congrArg (fun x => some (Value.int x)) q1_33)
          · dsimp only
            repeat first | rw [zu_row (by omega)] | rw [zfil_row (by omega)] | rw [zcpy_row (by omega)] | rw [zwr_row (by omega)] | rw [q0_33 a (by omega) (by omega)] | rw [q0_33 a (by omega)] | rw [q1_33 a (by omega) (by omega)] | rw [q1_33 a (by omega)] | rw [q2_33 a (by omega) (by omega)] | rw [q2_33 a (by omega)] | dsimp only
        · refine a_aload_n X dX7_years_95 rfl ?_
          refine a_aload_n X dX7_years_96 rfl ?_
          refine a_getr X lf7_61 (by assumption) rfl (by omega) dX7_years_97 ?_
          refine a_geti X lf7_386 (by assumption) rfl dX7_years_100 ?_
          refine a_callVv X dX7_years_103 miX7_answer lm7_134 (c_answer (by assumption)) (by assumption) rfl rfl rfl (Nat.le_of_ble_eq_true rfl) ⟨by decide, by decide, by decide, by decide⟩ ?_
          refine a_iret X hr dX7_years_106 ⟨by decide, by decide⟩ ?_
          subst hF
          refine ⟨?_, rfl, fun a ha => ?_⟩
          · first | (show some (Value.int (-1)) = some (Value.int (fYears sd n w)); unfold fYears; rw [if_neg]; intro q; first | exact zB_0 h_5 q.1 | exact absurd h_9 (Int32.not_lt.mpr q.2.1) | exact h_14 q.2.2) | (show some (Value.int _) = some (Value.int (fYears sd (nI k) w)); unfold fYears; rw [if_pos ⟨hc, Int32.not_lt.mp h_9, h_14⟩]; first | done | exact congrArg (fun x => some (Value.int x)) q0_33 | exact congrArg (fun x => some (Value.int x)) q1_33)
          · dsimp only
            repeat first | rw [zu_row (by omega)] | rw [zfil_row (by omega)] | rw [zcpy_row (by omega)] | rw [zwr_row (by omega)] | rw [q0_33 a (by omega) (by omega)] | rw [q0_33 a (by omega)] | rw [q1_33 a (by omega) (by omega)] | rw [q1_33 a (by omega)] | rw [q2_33 a (by omega) (by omega)] | rw [q2_33 a (by omega)] | dsimp only
      · refine a_aload_n X dX7_years_17 rfl ?_
        refine a_iconst (v := 1) X dX7_years_18 (by decide) ?_
        refine a_callVv X dX7_years_19 miX7_refuse lm7_102 (c_refuse (by assumption)) (by assumption) rfl rfl rfl (Nat.le_of_ble_eq_true rfl) ⟨by decide, by decide, by decide, by decide⟩ ?_
        refine a_iret X hr dX7_years_22 ⟨by decide, by decide⟩ ?_
        subst hF
        refine ⟨?_, rfl, fun a ha => ?_⟩
        · first | (show some (Value.int (-1)) = some (Value.int (fYears sd n w)); unfold fYears; rw [if_neg]; intro q; first | exact zB_0 h_5 q.1 | exact absurd h_9 (Int32.not_lt.mpr q.2.1) | exact h_14 q.2.2) | (show some (Value.int _) = some (Value.int (fYears sd (nI k) w)); unfold fYears; rw [if_pos ⟨hc, Int32.not_lt.mp h_9, h_14⟩]; first | done | exact congrArg (fun x => some (Value.int x)) q0_33 | exact congrArg (fun x => some (Value.int x)) q1_33)
        · dsimp only
          repeat first | rw [zu_row (by omega)] | rw [zfil_row (by omega)] | rw [zcpy_row (by omega)] | rw [zwr_row (by omega)] | rw [q0_33 a (by omega) (by omega)] | rw [q0_33 a (by omega)] | rw [q1_33 a (by omega) (by omega)] | rw [q1_33 a (by omega)] | rw [q2_33 a (by omega) (by omega)] | rw [q2_33 a (by omega)] | dsimp only
set_option maxRecDepth 100000 in
theorem f_draw {l : Launch} {G : zG} {b : Nat} {S : zS} {P : Nat} {sd : Int32} (hE : zE7 S P) : zM l G b yX7_draw cX7_draw 2 (some .int) 5 0 0 [.ref P, .int sd] S (fun r z => r = some (.int (fSeed sd)) ∧ z.1 = S.1 ∧ ∀ a, P + 200 ≤ a → z.2.1 a = S.2.1 a) := by
  refine zM.of miX7_draw (Nat.le_of_ble_eq_true rfl) ?_
  intro p e s m args below meth c X hr hname
  generalize hF : ((fun r z => r = some (.int (fSeed sd)) ∧ z.1 = S.1 ∧ ∀ a, P + 200 ≤ a → z.2.1 a = S.2.1 a) : Option Value → zS → Prop) = FQ
  change Zw p l e { frames := 5, cells := 0, slots := 0, locals := 80 * 5 } s m args below meth c G b 2 (MQ below (zQ G b FQ) args s 0 0 (fun q : Nat => b ≤ q)) 0 0 0 [some (.ref P), some (.int sd)] [] S
  have hE9 := hE
  obtain ⟨hT, e_st, e_tl, e_ol, e_rk, e_rf, e_rp, e_l0, e_l1, e_l2, e_l3, e_l4, e_l5, e_l6, e_lq, e_lg, e_a0, e_a1, e_o0, e_o1, e_o2, e_o3⟩ := hE
  obtain ⟨lt, o, tape, out, reader, list, past, pool, result, odds, paper, trial, trialPool, trialResult, trialOdds⟩ := id hT
  have o_list := list.2.1
  have o_pool := pool.2.1
  have o_rd := reader.2.1
  have o_res := result.2.1
  have o_odds := odds.2.1
  have o_past := past.2.1
  have o_pap := paper.2.1
  refine a_iload_n X dX7_draw_0 rfl ?_
  refine a_callSv X dX7_draw_1 miX7_isSeed lm7_237 (c_isSeed) rfl rfl (Nat.le_of_ble_eq_true rfl) ⟨by decide, by decide, by decide, by decide⟩ ?_
  refine a_if_ne (tgt := 13) X dX7_draw_4 (by decide) (fun h_4 => ?_) (fun h_4 => ?_)
  · refine a_aload_n X dX7_draw_13 rfl ?_
    refine a_getr X lf7_33 (by assumption) rfl (by omega) dX7_draw_14 ?_
    refine a_aload_n X dX7_draw_17 rfl ?_
    refine a_getr X lf7_26 (by assumption) rfl (by omega) dX7_draw_18 ?_
    refine a_callVx X dX7_draw_21 miX1_keep lm7_396 (c_keep (k := 0) (by assumption) (by assumption) (by omega) (by exact e_a1) (by decide)) (by assumption) rfl rfl rfl (Nat.le_of_ble_eq_true rfl) ⟨by decide, by decide, by decide, by decide⟩ (fun r_21 S_21 q_21 => ?_)
    obtain ⟨M_21, rfl, rfl, q0_21⟩ := q_21
    have k0 : M_21 (P + 17) 0 = 0 := by rw [q0_21 (P + 17) (by omega), e_l0]
    have k1 : M_21 (P + 17) 1 = 0 := by rw [q0_21 (P + 17) (by omega), e_l1]
    have k2 : M_21 (P + 17) 2 = 0 := by rw [q0_21 (P + 17) (by omega), e_l2]
    have k3 : M_21 (P + 91) 0 = 0 := by rw [q0_21 (P + 91) (by omega), e_o0]
    have k4 : M_21 (P + 91) 1 = 0 := by rw [q0_21 (P + 91) (by omega), e_o1]
    have k5 : M_21 (P + 91) 3 = 0 := by rw [q0_21 (P + 91) (by omega), e_o3]
    refine a_aload_n X dX7_draw_24 rfl ?_
    refine a_getr X lf7_47 (by assumption) rfl (by omega) dX7_draw_25 ?_
    refine a_aload_n X dX7_draw_28 rfl ?_
    refine a_getr X lf7_40 (by assumption) rfl (by omega) dX7_draw_29 ?_
    refine a_iload_n X dX7_draw_32 rfl ?_
    refine a_callVu X dX7_draw_33 miX5_bySeed lm7_247 (c_bySeed0 (by assumption) (by assumption) (by assumption) (by assumption) (by assumption)) (by assumption) rfl rfl rfl (Nat.le_of_ble_eq_true rfl) ⟨by decide, by decide, by decide, by decide⟩ ?_
    refine a_aload_n X dX7_draw_36 rfl ?_
    refine a_getr X lf7_26 (by assumption) rfl (by omega) dX7_draw_37 ?_
    refine a_aload_n X dX7_draw_40 rfl ?_
    refine a_getr X lf7_40 (by assumption) rfl (by omega) dX7_draw_41 ?_
    refine a_aload_n X dX7_draw_44 rfl ?_
    refine a_getr X lf7_47 (by assumption) rfl (by omega) dX7_draw_45 ?_
    refine a_callVu X dX7_draw_48 miX4_live lm7_399 (c_live0 (by assumption) (by assumption)) (by assumption) rfl rfl rfl (Nat.le_of_ble_eq_true rfl) ⟨by decide, by decide, by decide, by decide⟩ ?_
    refine a_aload_n X dX7_draw_51 rfl ?_
    refine a_getr X lf7_26 (by assumption) rfl (by omega) dX7_draw_52 ?_
    refine a_dup X dX7_draw_55 rfl ?_
    refine a_geti X lf7_152 (by assumption) rfl dX7_draw_56 ?_
    refine a_iconst (v := 1) X dX7_draw_59 (by decide) ?_
    refine a_iadd X dX7_draw_60 ?_
    refine a_puti X lf7_152 (by assumption) rfl dX7_draw_61 ?_
    refine a_aload_n X dX7_draw_64 rfl ?_
    refine a_aload_n X dX7_draw_65 rfl ?_
    refine a_getr X lf7_47 (by assumption) rfl (by omega) dX7_draw_66 ?_
    refine a_aload_n X dX7_draw_69 rfl ?_
    refine a_getr X lf7_40 (by assumption) rfl (by omega) dX7_draw_70 ?_
    refine a_callVv X dX7_draw_73 miX5_tagsGiven lm7_403 (c_tagsGiven0 (by assumption) (by assumption) (by simp [zu, k4]) (by simp [zu, k3]) (by simp [zu, k5])) (by assumption) rfl rfl rfl (Nat.le_of_ble_eq_true rfl) ⟨by decide, by decide, by decide, by decide⟩ ?_
    refine a_callVx X dX7_draw_76 miX7_changed lm7_122 (c_changed0 hT (by simp [zu, k0]) (by simp [zu, k1]) (by simp [zu, k2])) (by assumption) rfl rfl rfl (Nat.le_of_ble_eq_true rfl) ⟨by decide, by decide, by decide, by decide⟩ (fun r_76 S_76 q_76 => ?_)
    obtain ⟨M_76, rfl, rfl, f_76⟩ := q_76
    refine a_iret X hr dX7_draw_79 ⟨by decide, by decide⟩ ?_
    subst hF
    refine ⟨?_, rfl, fun a ha => ?_⟩
    · first | (show some (Value.int (-1)) = some (Value.int (fSeed sd)); unfold fSeed; rw [if_neg (zB_0 h_4)]; done) | (show some (Value.int _) = some (Value.int (fSeed sd)); unfold fSeed; rw [if_pos (zB_1 h_4)]; done)
    · dsimp only
      repeat first | rw [zu_row (by omega)] | rw [zfil_row (by omega)] | rw [zcpy_row (by omega)] | rw [zwr_row (by omega)] | rw [q0_21 a (by omega) (by omega)] | rw [q0_21 a (by omega)] | rw [f_76 a (by omega) (by omega)] | rw [f_76 a (by omega)] | dsimp only
  · refine a_aload_n X dX7_draw_7 rfl ?_
    refine a_iconst (v := 1) X dX7_draw_8 (by decide) ?_
    refine a_callVv X dX7_draw_9 miX7_refuse lm7_102 (c_refuse (by assumption)) (by assumption) rfl rfl rfl (Nat.le_of_ble_eq_true rfl) ⟨by decide, by decide, by decide, by decide⟩ ?_
    refine a_iret X hr dX7_draw_12 ⟨by decide, by decide⟩ ?_
    subst hF
    refine ⟨?_, rfl, fun a ha => ?_⟩
    · first | (show some (Value.int (-1)) = some (Value.int (fSeed sd)); unfold fSeed; rw [if_neg (zB_0 h_4)]; done) | (show some (Value.int _) = some (Value.int (fSeed sd)); unfold fSeed; rw [if_pos (zB_1 h_4)]; done)
    · dsimp only
      repeat first | rw [zu_row (by omega)] | rw [zfil_row (by omega)] | rw [zcpy_row (by omega)] | rw [zwr_row (by omega)] | rw [q0_21 a (by omega) (by omega)] | rw [q0_21 a (by omega)] | rw [f_76 a (by omega) (by omega)] | rw [f_76 a (by omega)] | dsimp only
set_option maxRecDepth 100000 in
theorem f_law {l : Launch} {G : zG} {b : Nat} {S : zS} {P : Nat} {v : Int32} (hE : zE7 S P) : zM l G b yX7_law cX7_law 3 (some .int) 5 0 0 [.ref P, .int v] S (fun r z => r = some (.int (fLaw v)) ∧ z.1 = S.1 ∧ ∀ a, P + 200 ≤ a → z.2.1 a = S.2.1 a) := by
  refine zM.of miX7_law (Nat.le_of_ble_eq_true rfl) ?_
  intro p e s m args below meth c X hr hname
  generalize hF : ((fun r z => r = some (.int (fLaw v)) ∧ z.1 = S.1 ∧ ∀ a, P + 200 ≤ a → z.2.1 a = S.2.1 a) : Option Value → zS → Prop) = FQ
  change Zw p l e { frames := 5, cells := 0, slots := 0, locals := 80 * 5 } s m args below meth c G b 3 (MQ below (zQ G b FQ) args s 0 0 (fun q : Nat => b ≤ q)) 0 0 0 [some (.ref P), some (.int v), none] [] S
  have hE9 := hE
  obtain ⟨hT, e_st, e_tl, e_ol, e_rk, e_rf, e_rp, e_l0, e_l1, e_l2, e_l3, e_l4, e_l5, e_l6, e_lq, e_lg, e_a0, e_a1, e_o0, e_o1, e_o2, e_o3⟩ := hE
  obtain ⟨lt, o, tape, out, reader, list, past, pool, result, odds, paper, trial, trialPool, trialResult, trialOdds⟩ := id hT
  have o_list := list.2.1
  have o_pool := pool.2.1
  have o_rd := reader.2.1
  have o_res := result.2.1
  have o_odds := odds.2.1
  have o_past := past.2.1
  have o_pap := paper.2.1
  refine a_iload_n X dX7_law_0 rfl ?_
  refine a_if_lt (tgt := 9) X dX7_law_1 (by decide) (fun h_1 => ?_) (fun h_1 => ?_)
  · refine a_aload_n X dX7_law_9 rfl ?_
    refine a_iconst (v := 1) X dX7_law_10 (by decide) ?_
    refine a_callVv X dX7_law_11 miX7_refuse lm7_102 (c_refuse (by assumption)) (by assumption) rfl rfl rfl (Nat.le_of_ble_eq_true rfl) ⟨by decide, by decide, by decide, by decide⟩ ?_
    refine a_iret X hr dX7_law_14 ⟨by decide, by decide⟩ ?_
    subst hF
    refine ⟨?_, rfl, fun a ha => ?_⟩
    · first | (show some (Value.int (-1)) = some (Value.int (fLaw v)); unfold fLaw; rw [if_neg]; intro q; first | exact absurd h_1 (Int32.not_lt.mpr q.1.1) | exact h_6 q.1.2 | exact q.2 (by rw [← h_25]; exact e_l3)) | (show some (Value.int (S.2.1 (P + 17) 3)) = some (Value.int (fLaw v)); unfold fLaw; rw [if_pos ⟨⟨Int32.not_lt.mp h_1, h_6⟩, fun q => h_25 (by rw [q]; exact e_l3)⟩, e_l3])
    · dsimp only
      repeat first | rw [zu_row (by omega)] | rw [zfil_row (by omega)] | rw [zcpy_row (by omega)] | rw [zwr_row (by omega)] | rw [q0_42 a (by omega) (by omega)] | rw [q0_42 a (by omega)] | rw [f_55 a (by omega) (by omega)] | rw [f_55 a (by omega)] | dsimp only
  · refine a_iload_n X dX7_law_4 rfl ?_
    refine a_iconst (v := 2) X dX7_law_5 (by decide) ?_
    refine a_icmp_le (tgt := 15) X dX7_law_6 (by decide) (fun h_6 => ?_) (fun h_6 => ?_)
    · refine a_aload_n X dX7_law_15 rfl ?_
      refine a_getr X lf7_26 (by assumption) rfl (by omega) dX7_law_16 ?_
      refine a_geti X lf7_143 (by assumption) rfl dX7_law_19 ?_
      refine a_istore_n X dX7_law_22 (by decide) ?_
      refine a_iload_n X dX7_law_23 rfl ?_
      refine a_iload_n X dX7_law_24 rfl ?_
      refine a_icmp_ne (tgt := 34) X dX7_law_25 (by decide) (fun h_25 => ?_) (fun h_25 => ?_)
      · refine a_aload_n X dX7_law_34 rfl ?_
        refine a_getr X lf7_33 (by assumption) rfl (by omega) dX7_law_35 ?_
        refine a_aload_n X dX7_law_38 rfl ?_
        refine a_getr X lf7_26 (by assumption) rfl (by omega) dX7_law_39 ?_
        refine a_callVx X dX7_law_42 miX1_keep lm7_396 (c_keep (k := 0) (by assumption) (by assumption) (by omega) (by exact e_a1) (by decide)) (by assumption) rfl rfl rfl (Nat.le_of_ble_eq_true rfl) ⟨by decide, by decide, by decide, by decide⟩ (fun r_42 S_42 q_42 => ?_)
        obtain ⟨M_42, rfl, rfl, q0_42⟩ := q_42
        have k0 : M_42 (P + 17) 0 = 0 := by rw [q0_42 (P + 17) (by omega), e_l0]
        have k1 : M_42 (P + 17) 1 = 0 := by rw [q0_42 (P + 17) (by omega), e_l1]
        have k2 : M_42 (P + 17) 2 = 0 := by rw [q0_42 (P + 17) (by omega), e_l2]
        have k3 : M_42 (P + 91) 0 = 0 := by rw [q0_42 (P + 91) (by omega), e_o0]
        have k4 : M_42 (P + 91) 1 = 0 := by rw [q0_42 (P + 91) (by omega), e_o1]
        have k5 : M_42 (P + 91) 3 = 0 := by rw [q0_42 (P + 91) (by omega), e_o3]
        refine a_aload_n X dX7_law_45 rfl ?_
        refine a_getr X lf7_26 (by assumption) rfl (by omega) dX7_law_46 ?_
        refine a_iload_n X dX7_law_49 rfl ?_
        refine a_puti X lf7_143 (by assumption) rfl dX7_law_50 ?_
        refine a_aload_n X dX7_law_53 rfl ?_
        refine a_iload_n X dX7_law_54 rfl ?_
        refine a_callVx X dX7_law_55 miX7_changed lm7_122 (c_changed0 hT (by simp [zu, k0]) (by simp [zu, k1]) (by simp [zu, k2])) (by assumption) rfl rfl rfl (Nat.le_of_ble_eq_true rfl) ⟨by decide, by decide, by decide, by decide⟩ (fun r_55 S_55 q_55 => ?_)
        obtain ⟨M_55, rfl, rfl, f_55⟩ := q_55
        refine a_iret X hr dX7_law_58 ⟨by decide, by decide⟩ ?_
        subst hF
        refine ⟨?_, rfl, fun a ha => ?_⟩
        · first | (show some (Value.int (-1)) = some (Value.int (fLaw v)); unfold fLaw; rw [if_neg]; intro q; first | exact absurd h_1 (Int32.not_lt.mpr q.1.1) | exact h_6 q.1.2 | exact q.2 (by rw [← h_25]; exact e_l3)) | (show some (Value.int (S.2.1 (P + 17) 3)) = some (Value.int (fLaw v)); unfold fLaw; rw [if_pos ⟨⟨Int32.not_lt.mp h_1, h_6⟩, fun q => h_25 (by rw [q]; exact e_l3)⟩, e_l3])
        · dsimp only
          repeat first | rw [zu_row (by omega)] | rw [zfil_row (by omega)] | rw [zcpy_row (by omega)] | rw [zwr_row (by omega)] | rw [q0_42 a (by omega) (by omega)] | rw [q0_42 a (by omega)] | rw [f_55 a (by omega) (by omega)] | rw [f_55 a (by omega)] | dsimp only
      · refine a_aload_n X dX7_law_28 rfl ?_
        refine a_iconst (v := 4) X dX7_law_29 (by decide) ?_
        refine a_callVv X dX7_law_30 miX7_refuse lm7_102 (c_refuse (by assumption)) (by assumption) rfl rfl rfl (Nat.le_of_ble_eq_true rfl) ⟨by decide, by decide, by decide, by decide⟩ ?_
        refine a_iret X hr dX7_law_33 ⟨by decide, by decide⟩ ?_
        subst hF
        refine ⟨?_, rfl, fun a ha => ?_⟩
        · first | (show some (Value.int (-1)) = some (Value.int (fLaw v)); unfold fLaw; rw [if_neg]; intro q; first | exact absurd h_1 (Int32.not_lt.mpr q.1.1) | exact h_6 q.1.2 | exact q.2 (by rw [← h_25]; exact e_l3)) | (show some (Value.int (S.2.1 (P + 17) 3)) = some (Value.int (fLaw v)); unfold fLaw; rw [if_pos ⟨⟨Int32.not_lt.mp h_1, h_6⟩, fun q => h_25 (by rw [q]; exact e_l3)⟩, e_l3])
        · dsimp only
          repeat first | rw [zu_row (by omega)] | rw [zfil_row (by omega)] | rw [zcpy_row (by omega)] | rw [zwr_row (by omega)] | rw [q0_42 a (by omega) (by omega)] | rw [q0_42 a (by omega)] | rw [f_55 a (by omega) (by omega)] | rw [f_55 a (by omega)] | dsimp only
    · refine a_aload_n X dX7_law_9 rfl ?_
      refine a_iconst (v := 1) X dX7_law_10 (by decide) ?_
      refine a_callVv X dX7_law_11 miX7_refuse lm7_102 (c_refuse (by assumption)) (by assumption) rfl rfl rfl (Nat.le_of_ble_eq_true rfl) ⟨by decide, by decide, by decide, by decide⟩ ?_
      refine a_iret X hr dX7_law_14 ⟨by decide, by decide⟩ ?_
      subst hF
      refine ⟨?_, rfl, fun a ha => ?_⟩
      · first | (show some (Value.int (-1)) = some (Value.int (fLaw v)); unfold fLaw; rw [if_neg]; intro q; first | exact absurd h_1 (Int32.not_lt.mpr q.1.1) | exact h_6 q.1.2 | exact q.2 (by rw [← h_25]; exact e_l3)) | (show some (Value.int (S.2.1 (P + 17) 3)) = some (Value.int (fLaw v)); unfold fLaw; rw [if_pos ⟨⟨Int32.not_lt.mp h_1, h_6⟩, fun q => h_25 (by rw [q]; exact e_l3)⟩, e_l3])
      · dsimp only
        repeat first | rw [zu_row (by omega)] | rw [zfil_row (by omega)] | rw [zcpy_row (by omega)] | rw [zwr_row (by omega)] | rw [q0_42 a (by omega) (by omega)] | rw [q0_42 a (by omega)] | rw [f_55 a (by omega) (by omega)] | rw [f_55 a (by omega)] | dsimp only
set_option maxRecDepth 100000 in
theorem f_prefer {l : Launch} {G : zG} {b : Nat} {S : zS} {P : Nat} {v : Int32} (hE : zE7 S P) : zM l G b yX7_prefer cX7_prefer 3 (some .int) 5 0 0 [.ref P, .int v] S (fun r z => r = some (.int (fPrefer v)) ∧ z.1 = S.1 ∧ ∀ a, P + 200 ≤ a → z.2.1 a = S.2.1 a) := by
  refine zM.of miX7_prefer (Nat.le_of_ble_eq_true rfl) ?_
  intro p e s m args below meth c X hr hname
  generalize hF : ((fun r z => r = some (.int (fPrefer v)) ∧ z.1 = S.1 ∧ ∀ a, P + 200 ≤ a → z.2.1 a = S.2.1 a) : Option Value → zS → Prop) = FQ
  change Zw p l e { frames := 5, cells := 0, slots := 0, locals := 80 * 5 } s m args below meth c G b 3 (MQ below (zQ G b FQ) args s 0 0 (fun q : Nat => b ≤ q)) 0 0 0 [some (.ref P), some (.int v), none] [] S
  have hE9 := hE
  obtain ⟨hT, e_st, e_tl, e_ol, e_rk, e_rf, e_rp, e_l0, e_l1, e_l2, e_l3, e_l4, e_l5, e_l6, e_lq, e_lg, e_a0, e_a1, e_o0, e_o1, e_o2, e_o3⟩ := hE
  obtain ⟨lt, o, tape, out, reader, list, past, pool, result, odds, paper, trial, trialPool, trialResult, trialOdds⟩ := id hT
  have o_list := list.2.1
  have o_pool := pool.2.1
  have o_rd := reader.2.1
  have o_res := result.2.1
  have o_odds := odds.2.1
  have o_past := past.2.1
  have o_pap := paper.2.1
  refine a_iload_n X dX7_prefer_0 rfl ?_
  refine a_if_lt (tgt := 10) X dX7_prefer_1 (by decide) (fun h_1 => ?_) (fun h_1 => ?_)
  · refine a_aload_n X dX7_prefer_10 rfl ?_
    refine a_iconst (v := 1) X dX7_prefer_11 (by decide) ?_
    refine a_callVv X dX7_prefer_12 miX7_refuse lm7_102 (c_refuse (by assumption)) (by assumption) rfl rfl rfl (Nat.le_of_ble_eq_true rfl) ⟨by decide, by decide, by decide, by decide⟩ ?_
    refine a_iret X hr dX7_prefer_15 ⟨by decide, by decide⟩ ?_
    subst hF
    refine ⟨?_, rfl, fun a ha => ?_⟩
    · first | (show some (Value.int (-1)) = some (Value.int (fPrefer v)); unfold fPrefer; rw [if_neg]; intro q; first | exact absurd h_1 (Int32.not_lt.mpr q.1.1) | exact h_7 q.1.2 | exact q.2 (by rw [← h_26]; exact e_l4)) | (show some (Value.int (S.2.1 (P + 17) 4)) = some (Value.int (fPrefer v)); unfold fPrefer; rw [if_pos ⟨⟨Int32.not_lt.mp h_1, h_7⟩, fun q => h_26 (by rw [q]; exact e_l4)⟩, e_l4])
    · dsimp only
      repeat first | rw [zu_row (by omega)] | rw [zfil_row (by omega)] | rw [zcpy_row (by omega)] | rw [zwr_row (by omega)] | rw [q0_43 a (by omega) (by omega)] | rw [q0_43 a (by omega)] | rw [f_56 a (by omega) (by omega)] | rw [f_56 a (by omega)] | dsimp only
  · refine a_iload_n X dX7_prefer_4 rfl ?_
    refine a_bipush (v := 100) X dX7_prefer_5 (by decide) ?_
    refine a_icmp_le (tgt := 16) X dX7_prefer_7 (by decide) (fun h_7 => ?_) (fun h_7 => ?_)
    · refine a_aload_n X dX7_prefer_16 rfl ?_
      refine a_getr X lf7_26 (by assumption) rfl (by omega) dX7_prefer_17 ?_
      refine a_geti X lf7_146 (by assumption) rfl dX7_prefer_20 ?_
      refine a_istore_n X dX7_prefer_23 (by decide) ?_
      refine a_iload_n X dX7_prefer_24 rfl ?_
      refine a_iload_n X dX7_prefer_25 rfl ?_
      refine a_icmp_ne (tgt := 35) X dX7_prefer_26 (by decide) (fun h_26 => ?_) (fun h_26 => ?_)
      · refine a_aload_n X dX7_prefer_35 rfl ?_
        refine a_getr X lf7_33 (by assumption) rfl (by omega) dX7_prefer_36 ?_
        refine a_aload_n X dX7_prefer_39 rfl ?_
        refine a_getr X lf7_26 (by assumption) rfl (by omega) dX7_prefer_40 ?_
        refine a_callVx X dX7_prefer_43 miX1_keep lm7_396 (c_keep (k := 0) (by assumption) (by assumption) (by omega) (by exact e_a1) (by decide)) (by assumption) rfl rfl rfl (Nat.le_of_ble_eq_true rfl) ⟨by decide, by decide, by decide, by decide⟩ (fun r_43 S_43 q_43 => ?_)
        obtain ⟨M_43, rfl, rfl, q0_43⟩ := q_43
        have k0 : M_43 (P + 17) 0 = 0 := by rw [q0_43 (P + 17) (by omega), e_l0]
        have k1 : M_43 (P + 17) 1 = 0 := by rw [q0_43 (P + 17) (by omega), e_l1]
        have k2 : M_43 (P + 17) 2 = 0 := by rw [q0_43 (P + 17) (by omega), e_l2]
        have k3 : M_43 (P + 91) 0 = 0 := by rw [q0_43 (P + 91) (by omega), e_o0]
        have k4 : M_43 (P + 91) 1 = 0 := by rw [q0_43 (P + 91) (by omega), e_o1]
        have k5 : M_43 (P + 91) 3 = 0 := by rw [q0_43 (P + 91) (by omega), e_o3]
        refine a_aload_n X dX7_prefer_46 rfl ?_
        refine a_getr X lf7_26 (by assumption) rfl (by omega) dX7_prefer_47 ?_
        refine a_iload_n X dX7_prefer_50 rfl ?_
        refine a_puti X lf7_146 (by assumption) rfl dX7_prefer_51 ?_
        refine a_aload_n X dX7_prefer_54 rfl ?_
        refine a_iload_n X dX7_prefer_55 rfl ?_
        refine a_callVx X dX7_prefer_56 miX7_changed lm7_122 (c_changed0 hT (by simp [zu, k0]) (by simp [zu, k1]) (by simp [zu, k2])) (by assumption) rfl rfl rfl (Nat.le_of_ble_eq_true rfl) ⟨by decide, by decide, by decide, by decide⟩ (fun r_56 S_56 q_56 => ?_)
        obtain ⟨M_56, rfl, rfl, f_56⟩ := q_56
        refine a_iret X hr dX7_prefer_59 ⟨by decide, by decide⟩ ?_
        subst hF
        refine ⟨?_, rfl, fun a ha => ?_⟩
        · first | (show some (Value.int (-1)) = some (Value.int (fPrefer v)); unfold fPrefer; rw [if_neg]; intro q; first | exact absurd h_1 (Int32.not_lt.mpr q.1.1) | exact h_7 q.1.2 | exact q.2 (by rw [← h_26]; exact e_l4)) | (show some (Value.int (S.2.1 (P + 17) 4)) = some (Value.int (fPrefer v)); unfold fPrefer; rw [if_pos ⟨⟨Int32.not_lt.mp h_1, h_7⟩, fun q => h_26 (by rw [q]; exact e_l4)⟩, e_l4])
        · dsimp only
          repeat first | rw [zu_row (by omega)] | rw [zfil_row (by omega)] | rw [zcpy_row (by omega)] | rw [zwr_row (by omega)] | rw [q0_43 a (by omega) (by omega)] | rw [q0_43 a (by omega)] | rw [f_56 a (by omega) (by omega)] | rw [f_56 a (by omega)] | dsimp only
      · refine a_aload_n X dX7_prefer_29 rfl ?_
        refine a_iconst (v := 4) X dX7_prefer_30 (by decide) ?_
        refine a_callVv X dX7_prefer_31 miX7_refuse lm7_102 (c_refuse (by assumption)) (by assumption) rfl rfl rfl (Nat.le_of_ble_eq_true rfl) ⟨by decide, by decide, by decide, by decide⟩ ?_
        refine a_iret X hr dX7_prefer_34 ⟨by decide, by decide⟩ ?_
        subst hF
        refine ⟨?_, rfl, fun a ha => ?_⟩
        · first | (show some (Value.int (-1)) = some (Value.int (fPrefer v)); unfold fPrefer; rw [if_neg]; intro q; first | exact absurd h_1 (Int32.not_lt.mpr q.1.1) | exact h_7 q.1.2 | exact q.2 (by rw [← h_26]; exact e_l4)) | (show some (Value.int (S.2.1 (P + 17) 4)) = some (Value.int (fPrefer v)); unfold fPrefer; rw [if_pos ⟨⟨Int32.not_lt.mp h_1, h_7⟩, fun q => h_26 (by rw [q]; exact e_l4)⟩, e_l4])
        · dsimp only
          repeat first | rw [zu_row (by omega)] | rw [zfil_row (by omega)] | rw [zcpy_row (by omega)] | rw [zwr_row (by omega)] | rw [q0_43 a (by omega) (by omega)] | rw [q0_43 a (by omega)] | rw [f_56 a (by omega) (by omega)] | rw [f_56 a (by omega)] | dsimp only
    · refine a_aload_n X dX7_prefer_10 rfl ?_
      refine a_iconst (v := 1) X dX7_prefer_11 (by decide) ?_
      refine a_callVv X dX7_prefer_12 miX7_refuse lm7_102 (c_refuse (by assumption)) (by assumption) rfl rfl rfl (Nat.le_of_ble_eq_true rfl) ⟨by decide, by decide, by decide, by decide⟩ ?_
      refine a_iret X hr dX7_prefer_15 ⟨by decide, by decide⟩ ?_
      subst hF
      refine ⟨?_, rfl, fun a ha => ?_⟩
      · first | (show some (Value.int (-1)) = some (Value.int (fPrefer v)); unfold fPrefer; rw [if_neg]; intro q; first | exact absurd h_1 (Int32.not_lt.mpr q.1.1) | exact h_7 q.1.2 | exact q.2 (by rw [← h_26]; exact e_l4)) | (show some (Value.int (S.2.1 (P + 17) 4)) = some (Value.int (fPrefer v)); unfold fPrefer; rw [if_pos ⟨⟨Int32.not_lt.mp h_1, h_7⟩, fun q => h_26 (by rw [q]; exact e_l4)⟩, e_l4])
      · dsimp only
        repeat first | rw [zu_row (by omega)] | rw [zfil_row (by omega)] | rw [zcpy_row (by omega)] | rw [zwr_row (by omega)] | rw [q0_43 a (by omega) (by omega)] | rw [q0_43 a (by omega)] | rw [f_56 a (by omega) (by omega)] | rw [f_56 a (by omega)] | dsimp only
set_option maxRecDepth 100000 in
theorem f_guests {l : Launch} {G : zG} {b : Nat} {S : zS} {P : Nat} {v : Int32} (hE : zE7 S P) : zM l G b yX7_guests cX7_guests 3 (some .int) 5 0 0 [.ref P, .int v] S (fun r z => r = some (.int (fGuests v)) ∧ z.1 = S.1 ∧ ∀ a, P + 200 ≤ a → z.2.1 a = S.2.1 a) := by
  refine zM.of miX7_guests (Nat.le_of_ble_eq_true rfl) ?_
  intro p e s m args below meth c X hr hname
  generalize hF : ((fun r z => r = some (.int (fGuests v)) ∧ z.1 = S.1 ∧ ∀ a, P + 200 ≤ a → z.2.1 a = S.2.1 a) : Option Value → zS → Prop) = FQ
  change Zw p l e { frames := 5, cells := 0, slots := 0, locals := 80 * 5 } s m args below meth c G b 3 (MQ below (zQ G b FQ) args s 0 0 (fun q : Nat => b ≤ q)) 0 0 0 [some (.ref P), some (.int v), none] [] S
  have hE9 := hE
  obtain ⟨hT, e_st, e_tl, e_ol, e_rk, e_rf, e_rp, e_l0, e_l1, e_l2, e_l3, e_l4, e_l5, e_l6, e_lq, e_lg, e_a0, e_a1, e_o0, e_o1, e_o2, e_o3⟩ := hE
  obtain ⟨lt, o, tape, out, reader, list, past, pool, result, odds, paper, trial, trialPool, trialResult, trialOdds⟩ := id hT
  have o_list := list.2.1
  have o_pool := pool.2.1
  have o_rd := reader.2.1
  have o_res := result.2.1
  have o_odds := odds.2.1
  have o_past := past.2.1
  have o_pap := paper.2.1
  refine a_iload_n X dX7_guests_0 rfl ?_
  refine a_if_lt (tgt := 10) X dX7_guests_1 (by decide) (fun h_1 => ?_) (fun h_1 => ?_)
  · refine a_aload_n X dX7_guests_10 rfl ?_
    refine a_iconst (v := 1) X dX7_guests_11 (by decide) ?_
    refine a_callVv X dX7_guests_12 miX7_refuse lm7_102 (c_refuse (by assumption)) (by assumption) rfl rfl rfl (Nat.le_of_ble_eq_true rfl) ⟨by decide, by decide, by decide, by decide⟩ ?_
    refine a_iret X hr dX7_guests_15 ⟨by decide, by decide⟩ ?_
    subst hF
    refine ⟨?_, rfl, fun a ha => ?_⟩
    · first | (show some (Value.int (-1)) = some (Value.int (fGuests v)); unfold fGuests; rw [if_neg]; intro q; first | exact absurd h_1 (Int32.not_lt.mpr q.1.1) | exact h_7 q.1.2 | exact q.2 (by rw [← h_26]; exact e_l5)) | (show some (Value.int (S.2.1 (P + 17) 5)) = some (Value.int (fGuests v)); unfold fGuests; rw [if_pos ⟨⟨Int32.not_lt.mp h_1, h_7⟩, fun q => h_26 (by rw [q]; exact e_l5)⟩, e_l5])
    · dsimp only
      repeat first | rw [zu_row (by omega)] | rw [zfil_row (by omega)] | rw [zcpy_row (by omega)] | rw [zwr_row (by omega)] | rw [q0_43 a (by omega) (by omega)] | rw [q0_43 a (by omega)] | rw [f_56 a (by omega) (by omega)] | rw [f_56 a (by omega)] | dsimp only
  · refine a_iload_n X dX7_guests_4 rfl ?_
    refine a_bipush (v := 100) X dX7_guests_5 (by decide) ?_
    refine a_icmp_le (tgt := 16) X dX7_guests_7 (by decide) (fun h_7 => ?_) (fun h_7 => ?_)
    · refine a_aload_n X dX7_guests_16 rfl ?_
      refine a_getr X lf7_26 (by assumption) rfl (by omega) dX7_guests_17 ?_
      refine a_geti X lf7_149 (by assumption) rfl dX7_guests_20 ?_
      refine a_istore_n X dX7_guests_23 (by decide) ?_
      refine a_iload_n X dX7_guests_24 rfl ?_
      refine a_iload_n X dX7_guests_25 rfl ?_
      refine a_icmp_ne (tgt := 35) X dX7_guests_26 (by decide) (fun h_26 => ?_) (fun h_26 => ?_)
      · refine a_aload_n X dX7_guests_35 rfl ?_
        refine a_getr X lf7_33 (by assumption) rfl (by omega) dX7_guests_36 ?_
        refine a_aload_n X dX7_guests_39 rfl ?_
        refine a_getr X lf7_26 (by assumption) rfl (by omega) dX7_guests_40 ?_
        refine a_callVx X dX7_guests_43 miX1_keep lm7_396 (c_keep (k := 0) (by assumption) (by assumption) (by omega) (by exact e_a1) (by decide)) (by assumption) rfl rfl rfl (Nat.le_of_ble_eq_true rfl) ⟨by decide, by decide, by decide, by decide⟩ (fun r_43 S_43 q_43 => ?_)
        obtain ⟨M_43, rfl, rfl, q0_43⟩ := q_43
        have k0 : M_43 (P + 17) 0 = 0 := by rw [q0_43 (P + 17) (by omega), e_l0]
        have k1 : M_43 (P + 17) 1 = 0 := by rw [q0_43 (P + 17) (by omega), e_l1]
        have k2 : M_43 (P + 17) 2 = 0 := by rw [q0_43 (P + 17) (by omega), e_l2]
        have k3 : M_43 (P + 91) 0 = 0 := by rw [q0_43 (P + 91) (by omega), e_o0]
        have k4 : M_43 (P + 91) 1 = 0 := by rw [q0_43 (P + 91) (by omega), e_o1]
        have k5 : M_43 (P + 91) 3 = 0 := by rw [q0_43 (P + 91) (by omega), e_o3]
        refine a_aload_n X dX7_guests_46 rfl ?_
        refine a_getr X lf7_26 (by assumption) rfl (by omega) dX7_guests_47 ?_
        refine a_iload_n X dX7_guests_50 rfl ?_
        refine a_puti X lf7_149 (by assumption) rfl dX7_guests_51 ?_
        refine a_aload_n X dX7_guests_54 rfl ?_
        refine a_iload_n X dX7_guests_55 rfl ?_
        refine a_callVx X dX7_guests_56 miX7_changed lm7_122 (c_changed0 hT (by simp [zu, k0]) (by simp [zu, k1]) (by simp [zu, k2])) (by assumption) rfl rfl rfl (Nat.le_of_ble_eq_true rfl) ⟨by decide, by decide, by decide, by decide⟩ (fun r_56 S_56 q_56 => ?_)
        obtain ⟨M_56, rfl, rfl, f_56⟩ := q_56
        refine a_iret X hr dX7_guests_59 ⟨by decide, by decide⟩ ?_
        subst hF
        refine ⟨?_, rfl, fun a ha => ?_⟩
        · first | (show some (Value.int (-1)) = some (Value.int (fGuests v)); unfold fGuests; rw [if_neg]; intro q; first | exact absurd h_1 (Int32.not_lt.mpr q.1.1) | exact h_7 q.1.2 | exact q.2 (by rw [← h_26]; exact e_l5)) | (show some (Value.int (S.2.1 (P + 17) 5)) = some (Value.int (fGuests v)); unfold fGuests; rw [if_pos ⟨⟨Int32.not_lt.mp h_1, h_7⟩, fun q => h_26 (by rw [q]; exact e_l5)⟩, e_l5])
        · dsimp only
          repeat first | rw [zu_row (by omega)] | rw [zfil_row (by omega)] | rw [zcpy_row (by omega)] | rw [zwr_row (by omega)] | rw [q0_43 a (by omega) (by omega)] | rw [q0_43 a (by omega)] | rw [f_56 a (by omega) (by omega)] | rw [f_56 a (by omega)] | dsimp only
      · refine a_aload_n X dX7_guests_29 rfl ?_
        refine a_iconst (v := 4) X dX7_guests_30 (by decide) ?_
        refine a_callVv X dX7_guests_31 miX7_refuse lm7_102 (c_refuse (by assumption)) (by assumption) rfl rfl rfl (Nat.le_of_ble_eq_true rfl) ⟨by decide, by decide, by decide, by decide⟩ ?_
        refine a_iret X hr dX7_guests_34 ⟨by decide, by decide⟩ ?_
        subst hF
        refine ⟨?_, rfl, fun a ha => ?_⟩
        · first | (show some (Value.int (-1)) = some (Value.int (fGuests v)); unfold fGuests; rw [if_neg]; intro q; first | exact absurd h_1 (Int32.not_lt.mpr q.1.1) | exact h_7 q.1.2 | exact q.2 (by rw [← h_26]; exact e_l5)) | (show some (Value.int (S.2.1 (P + 17) 5)) = some (Value.int (fGuests v)); unfold fGuests; rw [if_pos ⟨⟨Int32.not_lt.mp h_1, h_7⟩, fun q => h_26 (by rw [q]; exact e_l5)⟩, e_l5])
        · dsimp only
          repeat first | rw [zu_row (by omega)] | rw [zfil_row (by omega)] | rw [zcpy_row (by omega)] | rw [zwr_row (by omega)] | rw [q0_43 a (by omega) (by omega)] | rw [q0_43 a (by omega)] | rw [f_56 a (by omega) (by omega)] | rw [f_56 a (by omega)] | dsimp only
    · refine a_aload_n X dX7_guests_10 rfl ?_
      refine a_iconst (v := 1) X dX7_guests_11 (by decide) ?_
      refine a_callVv X dX7_guests_12 miX7_refuse lm7_102 (c_refuse (by assumption)) (by assumption) rfl rfl rfl (Nat.le_of_ble_eq_true rfl) ⟨by decide, by decide, by decide, by decide⟩ ?_
      refine a_iret X hr dX7_guests_15 ⟨by decide, by decide⟩ ?_
      subst hF
      refine ⟨?_, rfl, fun a ha => ?_⟩
      · first | (show some (Value.int (-1)) = some (Value.int (fGuests v)); unfold fGuests; rw [if_neg]; intro q; first | exact absurd h_1 (Int32.not_lt.mpr q.1.1) | exact h_7 q.1.2 | exact q.2 (by rw [← h_26]; exact e_l5)) | (show some (Value.int (S.2.1 (P + 17) 5)) = some (Value.int (fGuests v)); unfold fGuests; rw [if_pos ⟨⟨Int32.not_lt.mp h_1, h_7⟩, fun q => h_26 (by rw [q]; exact e_l5)⟩, e_l5])
      · dsimp only
        repeat first | rw [zu_row (by omega)] | rw [zfil_row (by omega)] | rw [zcpy_row (by omega)] | rw [zwr_row (by omega)] | rw [q0_43 a (by omega) (by omega)] | rw [q0_43 a (by omega)] | rw [f_56 a (by omega) (by omega)] | rw [f_56 a (by omega)] | dsimp only
set_option maxRecDepth 100000 in
theorem f_undo {l : Launch} {G : zG} {b : Nat} {S : zS} {P : Nat}  (hE : zE7 S P) : zM l G b yX7_undo cX7_undo 1 (some .int) 3 0 0 [.ref P] S (fun r z => r = some (.int (-1)) ∧ z.1 = S.1 ∧ ∀ a, P + 200 ≤ a → z.2.1 a = S.2.1 a) := by
  refine zM.of miX7_undo (Nat.le_of_ble_eq_true rfl) ?_
  intro p e s m args below meth c X hr hname
  generalize hF : ((fun r z => r = some (.int (-1)) ∧ z.1 = S.1 ∧ ∀ a, P + 200 ≤ a → z.2.1 a = S.2.1 a) : Option Value → zS → Prop) = FQ
  change Zw p l e { frames := 3, cells := 0, slots := 0, locals := 80 * 3 } s m args below meth c G b 1 (MQ below (zQ G b FQ) args s 0 0 (fun q : Nat => b ≤ q)) 0 0 0 [some (.ref P)] [] S
  have hE9 := hE
  obtain ⟨hT, e_st, e_tl, e_ol, e_rk, e_rf, e_rp, e_l0, e_l1, e_l2, e_l3, e_l4, e_l5, e_l6, e_lq, e_lg, e_a0, e_a1, e_o0, e_o1, e_o2, e_o3⟩ := hE
  obtain ⟨lt, o, tape, out, reader, list, past, pool, result, odds, paper, trial, trialPool, trialResult, trialOdds⟩ := id hT
  have o_list := list.2.1
  have o_pool := pool.2.1
  have o_rd := reader.2.1
  have o_res := result.2.1
  have o_odds := odds.2.1
  have o_past := past.2.1
  have o_pap := paper.2.1
  refine a_aload_n X dX7_undo_0 rfl ?_
  refine a_getr X lf7_33 (by assumption) rfl (by omega) dX7_undo_1 ?_
  refine a_aload_n X dX7_undo_4 rfl ?_
  refine a_getr X lf7_26 (by assumption) rfl (by omega) dX7_undo_5 ?_
  refine a_callVv X dX7_undo_8 miX1_giveBack lm7_409 (c_giveBack0 (k := 0) (by assumption) (by exact e_a1) (by decide) (by exact e_a0)) (by assumption) rfl rfl rfl (Nat.le_of_ble_eq_true rfl) ⟨by decide, by decide, by decide, by decide⟩ ?_
  refine a_if_ne (tgt := 20) X dX7_undo_11 (by decide) (fun h_11 => absurd rfl h_11) (fun h_11 => ?_)
  refine a_aload_n X dX7_undo_14 rfl ?_
  refine a_iconst (v := 5) X dX7_undo_15 (by decide) ?_
  refine a_callVv X dX7_undo_16 miX7_refuse lm7_102 (c_refuse (by assumption)) (by assumption) rfl rfl rfl (Nat.le_of_ble_eq_true rfl) ⟨by decide, by decide, by decide, by decide⟩ ?_
  refine a_iret X hr dX7_undo_19 ⟨by decide, by decide⟩ ?_
  subst hF
  refine ⟨?_, rfl, fun a ha => ?_⟩
  · rfl
  · dsimp only
    repeat first | rw [zu_row (by omega)] | rw [zfil_row (by omega)] | rw [zcpy_row (by omega)] | rw [zwr_row (by omega)] | rw [f_28 a (by omega) (by omega)] | rw [f_28 a (by omega)] | dsimp only
set_option maxRecDepth 100000 in
theorem f_out {l : Launch} {G : zG} {b : Nat} {S : zS} {P : Nat} {i : Int32} (hE : zE7 S P) : zM l G b yX7_out cX7_out 2 (some .int) 1 0 0 [.ref P, .int i] S (fun r z => r = some (.int (-1)) ∧ z.1 = S.1 ∧ ∀ a, P + 200 ≤ a → z.2.1 a = S.2.1 a) := by
  refine zM.of miX7_out (Nat.le_of_ble_eq_true rfl) ?_
  intro p e s m args below meth c X hr hname
  generalize hF : ((fun r z => r = some (.int (-1)) ∧ z.1 = S.1 ∧ ∀ a, P + 200 ≤ a → z.2.1 a = S.2.1 a) : Option Value → zS → Prop) = FQ
  change Zw p l e { frames := 1, cells := 0, slots := 0, locals := 80 * 1 } s m args below meth c G b 2 (MQ below (zQ G b FQ) args s 0 0 (fun q : Nat => b ≤ q)) 0 0 0 [some (.ref P), some (.int i)] [] S
  have hE9 := hE
  obtain ⟨hT, e_st, e_tl, e_ol, e_rk, e_rf, e_rp, e_l0, e_l1, e_l2, e_l3, e_l4, e_l5, e_l6, e_lq, e_lg, e_a0, e_a1, e_o0, e_o1, e_o2, e_o3⟩ := hE
  obtain ⟨lt, o, tape, out, reader, list, past, pool, result, odds, paper, trial, trialPool, trialResult, trialOdds⟩ := id hT
  have o_list := list.2.1
  have o_pool := pool.2.1
  have o_rd := reader.2.1
  have o_res := result.2.1
  have o_odds := odds.2.1
  have o_past := past.2.1
  have o_pap := paper.2.1
  refine a_iload_n X dX7_out_0 rfl ?_
  refine a_if_ge (tgt := 10) X dX7_out_1 (by decide) (fun h_1 => ?_) (fun h_1 => ?_)
  · refine a_iload_n X dX7_out_10 rfl ?_
    refine a_aload_n X dX7_out_11 rfl ?_
    refine a_geti X lf7_84 (by assumption) rfl dX7_out_12 ?_
    refine a_icmp_lt (tgt := 26) X dX7_out_15 (by decide) (fun h_15 => absurd h_15 (by show ¬ i < S.2.1 P 2; rw [e_ol]; intro q; exact absurd (Int32.lt_of_le_of_lt h_1 q) (by decide))) (fun h_15 => ?_)
    refine a_aload_n X dX7_out_18 rfl ?_
    refine a_iconst (v := 5) X dX7_out_19 (by decide) ?_
    refine a_callVv X dX7_out_20 miX7_refuse lm7_102 (c_refuse (by assumption)) (by assumption) rfl rfl rfl (Nat.le_of_ble_eq_true rfl) ⟨by decide, by decide, by decide, by decide⟩ ?_
    refine a_goto (tgt := 38) X dX7_out_23 (by decide) ?_
    refine a_iret X hr dX7_out_38 ⟨by decide, by decide⟩ ?_
    subst hF
    refine ⟨?_, rfl, fun a ha => ?_⟩
    · rfl
    · dsimp only
      repeat first | rw [zu_row (by omega)] | rw [zfil_row (by omega)] | rw [zcpy_row (by omega)] | rw [zwr_row (by omega)] | dsimp only
  · refine a_aload_n X dX7_out_4 rfl ?_
    refine a_iconst (v := 1) X dX7_out_5 (by decide) ?_
    refine a_callVv X dX7_out_6 miX7_refuse lm7_102 (c_refuse (by assumption)) (by assumption) rfl rfl rfl (Nat.le_of_ble_eq_true rfl) ⟨by decide, by decide, by decide, by decide⟩ ?_
    refine a_iret X hr dX7_out_9 ⟨by decide, by decide⟩ ?_
    subst hF
    refine ⟨?_, rfl, fun a ha => ?_⟩
    · rfl
    · dsimp only
      repeat first | rw [zu_row (by omega)] | rw [zfil_row (by omega)] | rw [zcpy_row (by omega)] | rw [zwr_row (by omega)] | dsimp only
set_option maxRecDepth 100000 in
theorem f_chance {l : Launch} {G : zG} {b : Nat} {S : zS} {P : Nat} {a : Int32} {w : Int32} (hE : zE7 S P) : zM l G b yX7_chance cX7_chance 3 (some .long) 2 0 0 [.ref P, .int a, .int w] S (fun r z => r = some (.long (-1)) ∧ z.1 = S.1 ∧ ∀ a, P + 200 ≤ a → z.2.1 a = S.2.1 a) := by
  refine zM.of miX7_chance (Nat.le_of_ble_eq_true rfl) ?_
  intro p e s m args below meth c X hr hname
  generalize hF : ((fun r z => r = some (.long (-1)) ∧ z.1 = S.1 ∧ ∀ a, P + 200 ≤ a → z.2.1 a = S.2.1 a) : Option Value → zS → Prop) = FQ
  change Zw p l e { frames := 2, cells := 0, slots := 0, locals := 80 * 2 } s m args below meth c G b 3 (MQ below (zQ G b FQ) args s 0 0 (fun q : Nat => b ≤ q)) 0 0 0 [some (.ref P), some (.int a), some (.int w)] [] S
  have hE9 := hE
  obtain ⟨hT, e_st, e_tl, e_ol, e_rk, e_rf, e_rp, e_l0, e_l1, e_l2, e_l3, e_l4, e_l5, e_l6, e_lq, e_lg, e_a0, e_a1, e_o0, e_o1, e_o2, e_o3⟩ := hE
  obtain ⟨lt, o, tape, out, reader, list, past, pool, result, odds, paper, trial, trialPool, trialResult, trialOdds⟩ := id hT
  have o_list := list.2.1
  have o_pool := pool.2.1
  have o_rd := reader.2.1
  have o_res := result.2.1
  have o_odds := odds.2.1
  have o_past := past.2.1
  have o_pap := paper.2.1
  refine a_iload_n X dX7_chance_0 rfl ?_
  refine a_if_lt (tgt := 9) X dX7_chance_1 (by decide) (fun h_1 => ?_) (fun h_1 => ?_)
  · refine a_aload_n X dX7_chance_9 rfl ?_
    refine a_iconst (v := 1) X dX7_chance_10 (by decide) ?_
    refine a_callVv X dX7_chance_11 miX7_refuse lm7_102 (c_refuse (by assumption)) (by assumption) rfl rfl rfl (Nat.le_of_ble_eq_true rfl) ⟨by decide, by decide, by decide, by decide⟩ ?_
    refine a_i2l X dX7_chance_14 ?_
    refine a_lret X hr dX7_chance_15 ⟨by decide, by decide⟩ ?_
    subst hF
    refine ⟨?_, rfl, fun a ha => ?_⟩
    · rfl
    · dsimp only
      repeat first | rw [zu_row (by omega)] | rw [zfil_row (by omega)] | rw [zcpy_row (by omega)] | rw [zwr_row (by omega)] | rw [q0_51 a (by omega) (by omega)] | rw [q0_51 a (by omega)] | rw [q1_51 a (by omega) (by omega)] | rw [q1_51 a (by omega)] | dsimp only
  · refine a_iload_n X dX7_chance_4 rfl ?_
    refine a_iconst (v := 2) X dX7_chance_5 (by decide) ?_
    refine a_icmp_le (tgt := 16) X dX7_chance_6 (by decide) (fun h_6 => ?_) (fun h_6 => ?_)
    · refine a_aload_n X dX7_chance_16 rfl ?_
      refine a_iload_n X dX7_chance_17 rfl ?_
      refine a_callVv X dX7_chance_18 miX7_isApplicant lm7_206 (c_isApplicant0 (by assumption) (by assumption)) (by assumption) rfl rfl rfl (Nat.le_of_ble_eq_true rfl) ⟨by decide, by decide, by decide, by decide⟩ ?_
      refine a_if_ne (tgt := 31) X dX7_chance_21 (by decide) (fun h_21 => absurd rfl h_21) (fun h_21 => ?_)
      refine a_aload_n X dX7_chance_24 rfl ?_
      refine a_iconst (v := 2) X dX7_chance_25 (by decide) ?_
      refine a_callVv X dX7_chance_26 miX7_refuse lm7_102 (c_refuse (by assumption)) (by assumption) rfl rfl rfl (Nat.le_of_ble_eq_true rfl) ⟨by decide, by decide, by decide, by decide⟩ ?_
      refine a_i2l X dX7_chance_29 ?_
      refine a_lret X hr dX7_chance_30 ⟨by decide, by decide⟩ ?_
      subst hF
      refine ⟨?_, rfl, fun a ha => ?_⟩
      · rfl
      · dsimp only
        repeat first | rw [zu_row (by omega)] | rw [zfil_row (by omega)] | rw [zcpy_row (by omega)] | rw [zwr_row (by omega)] | rw [q0_51 a (by omega) (by omega)] | rw [q0_51 a (by omega)] | rw [q1_51 a (by omega) (by omega)] | rw [q1_51 a (by omega)] | dsimp only
    · refine a_aload_n X dX7_chance_9 rfl ?_
      refine a_iconst (v := 1) X dX7_chance_10 (by decide) ?_
      refine a_callVv X dX7_chance_11 miX7_refuse lm7_102 (c_refuse (by assumption)) (by assumption) rfl rfl rfl (Nat.le_of_ble_eq_true rfl) ⟨by decide, by decide, by decide, by decide⟩ ?_
      refine a_i2l X dX7_chance_14 ?_
      refine a_lret X hr dX7_chance_15 ⟨by decide, by decide⟩ ?_
      subst hF
      refine ⟨?_, rfl, fun a ha => ?_⟩
      · rfl
      · dsimp only
        repeat first | rw [zu_row (by omega)] | rw [zfil_row (by omega)] | rw [zcpy_row (by omega)] | rw [zwr_row (by omega)] | rw [q0_51 a (by omega) (by omega)] | rw [q0_51 a (by omega)] | rw [q1_51 a (by omega) (by omega)] | rw [q1_51 a (by omega)] | dsimp only
set_option maxRecDepth 100000 in
theorem f_at {l : Launch} {G : zG} {b : Nat} {S : zS} {P : Nat} {a : Int32} {u : Int32} (hE : zE7 S P) : zM l G b yX7_at cX7_at 3 (some .long) 2 0 0 [.ref P, .int a, .int u] S (fun r z => r = some (.long (-1)) ∧ z.1 = S.1 ∧ ∀ a, P + 200 ≤ a → z.2.1 a = S.2.1 a) := by
  refine zM.of miX7_at (Nat.le_of_ble_eq_true rfl) ?_
  intro p e s m args below meth c X hr hname
  generalize hF : ((fun r z => r = some (.long (-1)) ∧ z.1 = S.1 ∧ ∀ a, P + 200 ≤ a → z.2.1 a = S.2.1 a) : Option Value → zS → Prop) = FQ
  change Zw p l e { frames := 2, cells := 0, slots := 0, locals := 80 * 2 } s m args below meth c G b 3 (MQ below (zQ G b FQ) args s 0 0 (fun q : Nat => b ≤ q)) 0 0 0 [some (.ref P), some (.int a), some (.int u)] [] S
  have hE9 := hE
  obtain ⟨hT, e_st, e_tl, e_ol, e_rk, e_rf, e_rp, e_l0, e_l1, e_l2, e_l3, e_l4, e_l5, e_l6, e_lq, e_lg, e_a0, e_a1, e_o0, e_o1, e_o2, e_o3⟩ := hE
  obtain ⟨lt, o, tape, out, reader, list, past, pool, result, odds, paper, trial, trialPool, trialResult, trialOdds⟩ := id hT
  have o_list := list.2.1
  have o_pool := pool.2.1
  have o_rd := reader.2.1
  have o_res := result.2.1
  have o_odds := odds.2.1
  have o_past := past.2.1
  have o_pap := paper.2.1
  refine a_aload_n X dX7_at_0 rfl ?_
  refine a_iload_n X dX7_at_1 rfl ?_
  refine a_callVv X dX7_at_2 miX7_isApplicant lm7_206 (c_isApplicant0 (by assumption) (by assumption)) (by assumption) rfl rfl rfl (Nat.le_of_ble_eq_true rfl) ⟨by decide, by decide, by decide, by decide⟩ ?_
  refine a_if_eq (tgt := 16) X dX7_at_5 (by decide) (fun h_5 => ?_) (fun h_5 => absurd rfl h_5)
  refine a_aload_n X dX7_at_16 rfl ?_
  refine a_iconst (v := 2) X dX7_at_17 (by decide) ?_
  refine a_callVv X dX7_at_18 miX7_refuse lm7_102 (c_refuse (by assumption)) (by assumption) rfl rfl rfl (Nat.le_of_ble_eq_true rfl) ⟨by decide, by decide, by decide, by decide⟩ ?_
  refine a_i2l X dX7_at_21 ?_
  refine a_lret X hr dX7_at_22 ⟨by decide, by decide⟩ ?_
  subst hF
  refine ⟨?_, rfl, fun a ha => ?_⟩
  · rfl
  · dsimp only
    repeat first | rw [zu_row (by omega)] | rw [zfil_row (by omega)] | rw [zcpy_row (by omega)] | rw [zwr_row (by omega)] | rw [q0_43 a (by omega) (by omega)] | rw [q0_43 a (by omega)] | rw [q1_43 a (by omega) (by omega)] | rw [q1_43 a (by omega)] | dsimp only
set_option maxRecDepth 100000 in
theorem f_both {l : Launch} {G : zG} {b : Nat} {S : zS} {P : Nat} {a : Int32} {q : Int32} (hE : zE7 S P) : zM l G b yX7_both cX7_both 3 (some .long) 2 0 0 [.ref P, .int a, .int q] S (fun r z => r = some (.long (-1)) ∧ z.1 = S.1 ∧ ∀ a, P + 200 ≤ a → z.2.1 a = S.2.1 a) := by
  refine zM.of miX7_both (Nat.le_of_ble_eq_true rfl) ?_
  intro p e s m args below meth c X hr hname
  generalize hF : ((fun r z => r = some (.long (-1)) ∧ z.1 = S.1 ∧ ∀ a, P + 200 ≤ a → z.2.1 a = S.2.1 a) : Option Value → zS → Prop) = FQ
  change Zw p l e { frames := 2, cells := 0, slots := 0, locals := 80 * 2 } s m args below meth c G b 3 (MQ below (zQ G b FQ) args s 0 0 (fun q : Nat => b ≤ q)) 0 0 0 [some (.ref P), some (.int a), some (.int q)] [] S
  have hE9 := hE
  obtain ⟨hT, e_st, e_tl, e_ol, e_rk, e_rf, e_rp, e_l0, e_l1, e_l2, e_l3, e_l4, e_l5, e_l6, e_lq, e_lg, e_a0, e_a1, e_o0, e_o1, e_o2, e_o3⟩ := hE
  obtain ⟨lt, o, tape, out, reader, list, past, pool, result, odds, paper, trial, trialPool, trialResult, trialOdds⟩ := id hT
  have o_list := list.2.1
  have o_pool := pool.2.1
  have o_rd := reader.2.1
  have o_res := result.2.1
  have o_odds := odds.2.1
  have o_past := past.2.1
  have o_pap := paper.2.1
  refine a_aload_n X dX7_both_0 rfl ?_
  refine a_iload_n X dX7_both_1 rfl ?_
  refine a_callVv X dX7_both_2 miX7_isApplicant lm7_206 (c_isApplicant0 (by assumption) (by assumption)) (by assumption) rfl rfl rfl (Nat.le_of_ble_eq_true rfl) ⟨by decide, by decide, by decide, by decide⟩ ?_
  refine a_if_eq (tgt := 16) X dX7_both_5 (by decide) (fun h_5 => ?_) (fun h_5 => absurd rfl h_5)
  refine a_aload_n X dX7_both_16 rfl ?_
  refine a_iconst (v := 2) X dX7_both_17 (by decide) ?_
  refine a_callVv X dX7_both_18 miX7_refuse lm7_102 (c_refuse (by assumption)) (by assumption) rfl rfl rfl (Nat.le_of_ble_eq_true rfl) ⟨by decide, by decide, by decide, by decide⟩ ?_
  refine a_i2l X dX7_both_21 ?_
  refine a_lret X hr dX7_both_22 ⟨by decide, by decide⟩ ?_
  subst hF
  refine ⟨?_, rfl, fun a ha => ?_⟩
  · rfl
  · dsimp only
    repeat first | rw [zu_row (by omega)] | rw [zfil_row (by omega)] | rw [zcpy_row (by omega)] | rw [zwr_row (by omega)] | rw [q0_55 a (by omega) (by omega)] | rw [q0_55 a (by omega)] | rw [q1_55 a (by omega) (by omega)] | rw [q1_55 a (by omega)] | dsimp only
set_option maxRecDepth 100000 in
theorem f_mean {l : Launch} {G : zG} {b : Nat} {S : zS} {P : Nat} {u : Int32} (hE : zE7 S P) : zM l G b yX7_mean cX7_mean 5 (some .long) 2 0 0 [.ref P, .int u] S (fun r z => r = some (.long (-1)) ∧ z.1 = S.1 ∧ ∀ a, P + 200 ≤ a → z.2.1 a = S.2.1 a) := by
  refine zM.of miX7_mean (Nat.le_of_ble_eq_true rfl) ?_
  intro p e s m args below meth c X hr hname
  generalize hF : ((fun r z => r = some (.long (-1)) ∧ z.1 = S.1 ∧ ∀ a, P + 200 ≤ a → z.2.1 a = S.2.1 a) : Option Value → zS → Prop) = FQ
  change Zw p l e { frames := 2, cells := 0, slots := 0, locals := 80 * 2 } s m args below meth c G b 5 (MQ below (zQ G b FQ) args s 0 0 (fun q : Nat => b ≤ q)) 0 0 0 [some (.ref P), some (.int u), none, none, none] [] S
  have hE9 := hE
  obtain ⟨hT, e_st, e_tl, e_ol, e_rk, e_rf, e_rp, e_l0, e_l1, e_l2, e_l3, e_l4, e_l5, e_l6, e_lq, e_lg, e_a0, e_a1, e_o0, e_o1, e_o2, e_o3⟩ := hE
  obtain ⟨lt, o, tape, out, reader, list, past, pool, result, odds, paper, trial, trialPool, trialResult, trialOdds⟩ := id hT
  have o_list := list.2.1
  have o_pool := pool.2.1
  have o_rd := reader.2.1
  have o_res := result.2.1
  have o_odds := odds.2.1
  have o_past := past.2.1
  have o_pap := paper.2.1
  refine a_aload_n X dX7_mean_0 rfl ?_
  refine a_iload_n X dX7_mean_1 rfl ?_
  refine a_callVv X dX7_mean_2 miX7_isUnit lm7_188 (c_isUnit0 (by assumption) (by assumption)) (by assumption) rfl rfl rfl (Nat.le_of_ble_eq_true rfl) ⟨by decide, by decide, by decide, by decide⟩ ?_
  refine a_if_ne (tgt := 15) X dX7_mean_5 (by decide) (fun h_5 => absurd rfl h_5) (fun h_5 => ?_)
  refine a_aload_n X dX7_mean_8 rfl ?_
  refine a_iconst (v := 2) X dX7_mean_9 (by decide) ?_
  refine a_callVv X dX7_mean_10 miX7_refuse lm7_102 (c_refuse (by assumption)) (by assumption) rfl rfl rfl (Nat.le_of_ble_eq_true rfl) ⟨by decide, by decide, by decide, by decide⟩ ?_
  refine a_i2l X dX7_mean_13 ?_
  refine a_lret X hr dX7_mean_14 ⟨by decide, by decide⟩ ?_
  subst hF
  refine ⟨?_, rfl, fun a ha => ?_⟩
  · rfl
  · dsimp only
    repeat first | rw [zu_row (by omega)] | rw [zfil_row (by omega)] | rw [zcpy_row (by omega)] | rw [zwr_row (by omega)] | rw [q0_35 a (by omega) (by omega)] | rw [q0_35 a (by omega)] | rw [q1_35 a (by omega) (by omega)] | rw [q1_35 a (by omega)] | dsimp only
set_option maxRecDepth 100000 in
theorem f_apart {l : Launch} {G : zG} {b : Nat} {S : zS} {P : Nat} {pt : Int32} (hE : zE7 S P) : zM l G b yX7_apart cX7_apart 4 (some .long) 2 0 0 [.ref P, .int pt] S (fun r z => r = some (.long (-1)) ∧ z.1 = S.1 ∧ ∀ a, P + 200 ≤ a → z.2.1 a = S.2.1 a) := by
  refine zM.of miX7_apart (Nat.le_of_ble_eq_true rfl) ?_
  intro p e s m args below meth c X hr hname
  generalize hF : ((fun r z => r = some (.long (-1)) ∧ z.1 = S.1 ∧ ∀ a, P + 200 ≤ a → z.2.1 a = S.2.1 a) : Option Value → zS → Prop) = FQ
  change Zw p l e { frames := 2, cells := 0, slots := 0, locals := 80 * 2 } s m args below meth c G b 4 (MQ below (zQ G b FQ) args s 0 0 (fun q : Nat => b ≤ q)) 0 0 0 [some (.ref P), some (.int pt), none, none] [] S
  have hE9 := hE
  obtain ⟨hT, e_st, e_tl, e_ol, e_rk, e_rf, e_rp, e_l0, e_l1, e_l2, e_l3, e_l4, e_l5, e_l6, e_lq, e_lg, e_a0, e_a1, e_o0, e_o1, e_o2, e_o3⟩ := hE
  obtain ⟨lt, o, tape, out, reader, list, past, pool, result, odds, paper, trial, trialPool, trialResult, trialOdds⟩ := id hT
  have o_list := list.2.1
  have o_pool := pool.2.1
  have o_rd := reader.2.1
  have o_res := result.2.1
  have o_odds := odds.2.1
  have o_past := past.2.1
  have o_pap := paper.2.1
  refine a_aload_n X dX7_apart_0 rfl ?_
  refine a_iload_n X dX7_apart_1 rfl ?_
  refine a_callVv X dX7_apart_2 miX7_isParty lm7_362 (c_isParty0 (by assumption) (by assumption)) (by assumption) rfl rfl rfl (Nat.le_of_ble_eq_true rfl) ⟨by decide, by decide, by decide, by decide⟩ ?_
  refine a_if_ne (tgt := 15) X dX7_apart_5 (by decide) (fun h_5 => absurd rfl h_5) (fun h_5 => ?_)
  refine a_aload_n X dX7_apart_8 rfl ?_
  refine a_iconst (v := 2) X dX7_apart_9 (by decide) ?_
  refine a_callVv X dX7_apart_10 miX7_refuse lm7_102 (c_refuse (by assumption)) (by assumption) rfl rfl rfl (Nat.le_of_ble_eq_true rfl) ⟨by decide, by decide, by decide, by decide⟩ ?_
  refine a_i2l X dX7_apart_13 ?_
  refine a_lret X hr dX7_apart_14 ⟨by decide, by decide⟩ ?_
  subst hF
  refine ⟨?_, rfl, fun a ha => ?_⟩
  · rfl
  · dsimp only
    repeat first | rw [zu_row (by omega)] | rw [zfil_row (by omega)] | rw [zcpy_row (by omega)] | rw [zwr_row (by omega)] | rw [h0_72 a (by omega) (by omega)] | rw [h0_72 a (by omega)] | rw [h1_72 a (by omega) (by omega)] | rw [h1_72 a (by omega)] | rw [h2_72 a (by omega) (by omega)] | rw [h2_72 a (by omega)] | dsimp only
set_option maxRecDepth 100000 in
theorem f_together {l : Launch} {G : zG} {b : Nat} {S : zS} {P : Nat} {h : Int32} {q : Int32} (hE : zE7 S P) : zM l G b yX7_together cX7_together 3 (some .long) 2 0 0 [.ref P, .int h, .int q] S (fun r z => r = some (.long (-1)) ∧ z.1 = S.1 ∧ ∀ a, P + 200 ≤ a → z.2.1 a = S.2.1 a) := by
  refine zM.of miX7_together (Nat.le_of_ble_eq_true rfl) ?_
  intro p e s m args below meth c X hr hname
  generalize hF : ((fun r z => r = some (.long (-1)) ∧ z.1 = S.1 ∧ ∀ a, P + 200 ≤ a → z.2.1 a = S.2.1 a) : Option Value → zS → Prop) = FQ
  change Zw p l e { frames := 2, cells := 0, slots := 0, locals := 80 * 2 } s m args below meth c G b 3 (MQ below (zQ G b FQ) args s 0 0 (fun q : Nat => b ≤ q)) 0 0 0 [some (.ref P), some (.int h), some (.int q)] [] S
  have hE9 := hE
  obtain ⟨hT, e_st, e_tl, e_ol, e_rk, e_rf, e_rp, e_l0, e_l1, e_l2, e_l3, e_l4, e_l5, e_l6, e_lq, e_lg, e_a0, e_a1, e_o0, e_o1, e_o2, e_o3⟩ := hE
  obtain ⟨lt, o, tape, out, reader, list, past, pool, result, odds, paper, trial, trialPool, trialResult, trialOdds⟩ := id hT
  have o_list := list.2.1
  have o_pool := pool.2.1
  have o_rd := reader.2.1
  have o_res := result.2.1
  have o_odds := odds.2.1
  have o_past := past.2.1
  have o_pap := paper.2.1
  refine a_aload_n X dX7_together_0 rfl ?_
  refine a_iload_n X dX7_together_1 rfl ?_
  refine a_callVv X dX7_together_2 miX7_isHunter lm7_168 (c_isHunter0 (by assumption) (by assumption)) (by assumption) rfl rfl rfl (Nat.le_of_ble_eq_true rfl) ⟨by decide, by decide, by decide, by decide⟩ ?_
  refine a_if_eq (tgt := 16) X dX7_together_5 (by decide) (fun h_5 => ?_) (fun h_5 => absurd rfl h_5)
  refine a_aload_n X dX7_together_16 rfl ?_
  refine a_iconst (v := 2) X dX7_together_17 (by decide) ?_
  refine a_callVv X dX7_together_18 miX7_refuse lm7_102 (c_refuse (by assumption)) (by assumption) rfl rfl rfl (Nat.le_of_ble_eq_true rfl) ⟨by decide, by decide, by decide, by decide⟩ ?_
  refine a_i2l X dX7_together_21 ?_
  refine a_lret X hr dX7_together_22 ⟨by decide, by decide⟩ ?_
  subst hF
  refine ⟨?_, rfl, fun a ha => ?_⟩
  · rfl
  · dsimp only
    repeat first | rw [zu_row (by omega)] | rw [zfil_row (by omega)] | rw [zcpy_row (by omega)] | rw [zwr_row (by omega)] | rw [h0_131 a (by omega) (by omega)] | rw [h0_131 a (by omega)] | rw [h1_131 a (by omega) (by omega)] | rw [h1_131 a (by omega)] | rw [h2_131 a (by omega) (by omega)] | rw [h2_131 a (by omega)] | dsimp only
