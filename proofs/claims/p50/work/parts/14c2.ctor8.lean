/-- a row as begins leaves it -/
theorem jRow_fresh {r : Nat → Int32} (h1 : ∀ j, (j < 10 ∨ (62 ≤ j ∧ j < 69) ∨ j = 70 ∨ j = 71) → r j = 0) (h2 : ∀ j, 10 ≤ j → j < 62 → r j = -1) (h3 : r 69 = 100) : jRow r 0 0 := by
  have o0 : (0 : Int32).toInt = 0 := by decide
  have o1 : (-1 : Int32).toInt = -1 := by decide
  have o2 : (100 : Int32).toInt = 100 := by decide
  refine ⟨fun x hx => ?_, fun x hx => ?_, fun k q1 q2 => ?_, fun x hx => ?_, ?_, fun p hp => absurd hp (by rw [h1 70 (by omega), o0]; omega)⟩
  · rw [h1 x (by omega), o0]; omega
  · rw [h2 (10 + x) (by omega) (by omega), h1 70 (by omega), o1, o0]; omega
  · rw [h2 k (by omega) q2, o1]; omega
  · rw [h1 (62 + x) (by omega), o0]; omega
  · rw [h1 67 (by omega), h1 68 (by omega), h3, h1 70 (by omega), o0, o2]; omega
theorem m_begins {l : Launch} {G : zG} {b : Nat} {S : zS} {P : Nat} (hP : S.1[P]? = some kc1_82) : zM l G b yX8_begins cX8_begins 2 none 0 0 0 [.ref P] S (fun r z => ∃ M', r = none ∧ z = (S.1, M', S.2.2) ∧ (∀ a j, ¬ (a = P ∧ j < 82) → M' a j = S.2.1 a j) ∧ (∀ j, (j < 10 ∨ (62 ≤ j ∧ j < 69) ∨ j = 70 ∨ j = 71) → M' P j = 0) ∧ (∀ j, 10 ≤ j → j < 62 → M' P j = -1) ∧ M' P 69 = 100 ∧ (∀ j, j < 10 → M' P (72 + j) = -1)) := by
  obtain ⟨L, M, N⟩ := S
  obtain ⟨r, h1, h2⟩ := w_X8_begins (Q := P) (M0 := M)
  obtain ⟨r', h1', h3⟩ := w_beg (Q := P) (M0 := M)
  rw [h1] at h1'
  cases h1'
  exact zM.weaken (t_X8_begins hP (by decide) h1) (fun r2 z q => ⟨r, q.1, q.2, h2.1, h2.2.1, h2.2.2.1, h2.2.2.2, h3⟩)
/-- a fresh model at P -/
def zE8 (S : zS) (P : Nat) : Prop := LX8 S.1 P ∧ jJ P S.2.1 ∧ S.2.1 P 11 = 0 ∧ S.2.1 P 13 = -1 ∧ S.2.1 P 14 = -1 ∧ S.2.1 P 7 = 0 ∧ S.2.1 P 8 = 0 ∧ S.2.1 P 9 = 0 ∧ S.2.1 P 64 = 0 ∧ (∀ j, (j < 10 ∨ (62 ≤ j ∧ j < 69) ∨ j = 70 ∨ j = 71) → S.2.1 (P + 1) j = 0) ∧ (∀ j, 10 ≤ j → j < 62 → S.2.1 (P + 1) j = -1) ∧ S.2.1 (P + 1) 69 = 100 ∧ (∀ j, j < 10 → S.2.1 (P + 1) (72 + j) = -1)
theorem jJ.fresh {P : Nat} {M : zMt} (z : ∀ j, j = 7 ∨ j = 8 ∨ j = 9 ∨ j = 11 ∨ j = 33 ∨ j = 64 → M P j = 0) (r : ∀ a, a < 10 → M (P + 19) a = 0) (h1 : ∀ j, (j < 10 ∨ (62 ≤ j ∧ j < 69) ∨ j = 70 ∨ j = 71) → M (P + 1) j = 0) (h2 : ∀ j, 10 ≤ j → j < 62 → M (P + 1) j = -1) (h3 : M (P + 1) 69 = 100) : jJ P M := by
  have o0 : (0 : Int32).toInt = 0 := by decide
  have f := jRow_fresh h1 h2 h3
  refine ⟨?_, ?_, fun a ha => ?_, fun k hk => ?_, ?_⟩
  · unfold jB
    rw [z 7 (by omega), z 8 (by omega), z 33 (by omega), o0]
    omega
  · unfold jS
    rw [z 7 (by omega), z 8 (by omega), o0]
    exact f
  · rw [r a ha, o0]; omega
  · rw [z 9 (by omega), o0] at hk; omega
  · unfold jT
    rw [z 9 (by omega), z 11 (by omega), z 64 (by omega), o0]
    omega
def blk8 (P : Nat) : List zC := [kd112 P, kc1_82, kc1_82, kc1_82, kc1_656, kc2_10, kc2_10, kc1_700, kc3_5, kc3_10, kc3_4, kc1_10, kc1_10, kc1_10, kc1_10, kc1_10, kc1_10, kc1_10, kc1_10, kc1_10, kc1_10, kc1_5, kc1_5, kc1_10, kc3_35, kc3_7, kc3_7, kc3_49, kc3_5, kc2_128, kc1_10, kc1_10, kc1_64]
set_option maxRecDepth 100000 in
theorem lx8 {pre : List zC} {P : Nat} (hP : pre.length = P) (hp : P + 300 < 1000000) : LX8 (pre ++ blk8 P) P := ⟨by omega, (b_at0 hP).trans rfl, (b_at 1 hP).trans rfl, (b_at 2 hP).trans rfl, (b_at 3 hP).trans rfl, (b_at 4 hP).trans rfl, (b_at 5 hP).trans rfl, (b_at 6 hP).trans rfl, (b_at 7 hP).trans rfl, (b_at 8 hP).trans rfl, (b_at 9 hP).trans rfl, (b_at 10 hP).trans rfl, (b_at 11 hP).trans rfl, (b_at 12 hP).trans rfl, (b_at 13 hP).trans rfl, (b_at 14 hP).trans rfl, (b_at 15 hP).trans rfl, (b_at 16 hP).trans rfl, (b_at 17 hP).trans rfl, (b_at 18 hP).trans rfl, (b_at 19 hP).trans rfl, (b_at 20 hP).trans rfl, (b_at 21 hP).trans rfl, (b_at 22 hP).trans rfl, (b_at 23 hP).trans rfl, (b_at 24 hP).trans rfl, (b_at 25 hP).trans rfl, (b_at 26 hP).trans rfl, (b_at 27 hP).trans rfl, (b_at 28 hP).trans rfl, (b_at 29 hP).trans rfl, (b_at 30 hP).trans rfl, (b_at 31 hP).trans rfl, (b_at 32 hP).trans rfl⟩
set_option maxRecDepth 100000 in
set_option maxHeartbeats 8000000 in
theorem k_X8 {l : Launch} {G : zG} {b : Nat} {pre : List zC} {P : Nat} {M : Nat → Nat → Int32} {N : Nat → Nat → Int64} (hP : pre.length = P) (hp : P + 300 < 1000000) (hz : zz (P + 0) M N) : zM l G b yX8_init cX8_init 1 none 1 32 2076 [.ref P] (pre ++ [kd113], M, N) (fun r z => r = none ∧ ∃ M' N', z = (pre ++ blk8 P, M', N') ∧ zE8 z P ∧ zz (P + 33) M' N' ∧ (∀ a, a < P → M' a = M a)) := by
  refine zM.of miX8_init (Nat.le_of_ble_eq_true rfl) ?_
  intro p e s m args below meth c X hr hname
  generalize hF : ((fun r z => r = none ∧ ∃ M' N', z = (pre ++ blk8 P, M', N') ∧ zE8 z P ∧ zz (P + 33) M' N' ∧ (∀ a, a < P → M' a = M a)) : Option Value → zS → Prop) = FQ
  change Zw p l e { frames := 1, cells := 32, slots := 2076, locals := 80 * 1 } s m args below meth c G b 1 (MQ below (zQ G b FQ) args s 32 2076 (fun q : Nat => b ≤ q)) 0 0 0 [some (.ref P)] [] (pre ++ [kd113], M, N)
  refine a_aload_n X dX8_init_0 rfl ?_
  refine a_objinit X lm8_1 (by decide) dX8_init_1 ?_
  refine a_aload_n X dX8_init_4 rfl ?_
  refine a_bipush (v := 82) X dX8_init_5 (by decide) ?_
  refine b_newarray (at_ := .int) (Y' := [kd113, kc1_82]) X 1 hP rfl (by omega) ((hz.up (by omega))) rfl (Or.inl ⟨rfl, rfl⟩) zarrI ⟨by decide, rfl, by decide⟩ ⟨by decide, by decide⟩ dX8_init_7 ?_
  refine b_putr (Y' := [kd114 P, kc1_82]) X hP hname lff8_7 (fun _ => ⟨rfl, rfl⟩) (by omega) rfl (Nat.le_of_ble_eq_true rfl) rfl dX8_init_9 ?_
  refine a_aload_n X dX8_init_12 rfl ?_
  refine a_bipush (v := 82) X dX8_init_13 (by decide) ?_
  refine b_newarray (at_ := .int) (Y' := [kd114 P, kc1_82, kc1_82]) X 2 hP rfl (by omega) ((hz.up (by omega))) rfl (Or.inl ⟨rfl, rfl⟩) zarrI ⟨by decide, rfl, by decide⟩ ⟨by decide, by decide⟩ dX8_init_15 ?_
  refine b_putr (Y' := [kd115 P, kc1_82, kc1_82]) X hP hname lff8_13 (fun _ => ⟨rfl, rfl⟩) (by omega) rfl (Nat.le_of_ble_eq_true rfl) rfl dX8_init_17 ?_
  refine a_aload_n X dX8_init_20 rfl ?_
  refine a_bipush (v := 82) X dX8_init_21 (by decide) ?_
  refine b_newarray (at_ := .int) (Y' := [kd115 P, kc1_82, kc1_82, kc1_82]) X 3 hP rfl (by omega) ((hz.up (by omega))) rfl (Or.inl ⟨rfl, rfl⟩) zarrI ⟨by decide, rfl, by decide⟩ ⟨by decide, by decide⟩ dX8_init_23 ?_
  refine b_putr (Y' := [kd116 P, kc1_82, kc1_82, kc1_82]) X hP hname lff8_16 (fun _ => ⟨rfl, rfl⟩) (by omega) rfl (Nat.le_of_ble_eq_true rfl) rfl dX8_init_25 ?_
  refine a_aload_n X dX8_init_28 rfl ?_
  refine a_sipush (v := 656) X dX8_init_29 (by decide) ?_
  refine b_newarray (at_ := .int) (Y' := [kd116 P, kc1_82, kc1_82, kc1_82, kc1_656]) X 4 hP rfl (by omega) ((hz.up (by omega))) rfl (Or.inl ⟨rfl, rfl⟩) zarrI ⟨by decide, rfl, by decide⟩ ⟨by decide, by decide⟩ dX8_init_32 ?_
  refine b_putr (Y' := [kd117 P, kc1_82, kc1_82, kc1_82, kc1_656]) X hP hname lff8_19 (fun _ => ⟨rfl, rfl⟩) (by omega) rfl (Nat.le_of_ble_eq_true rfl) rfl dX8_init_34 ?_
  refine a_aload_n X dX8_init_37 rfl ?_
  refine a_bipush (v := 10) X dX8_init_38 (by decide) ?_
  refine b_newarray (at_ := .boolean) (Y' := [kd117 P, kc1_82, kc1_82, kc1_82, kc1_656, kc2_10]) X 5 hP rfl (by omega) ((hz.up (by omega))) rfl (Or.inr (Or.inl ⟨rfl, rfl⟩)) zarrZ ⟨by decide, rfl, by decide⟩ ⟨by decide, by decide⟩ dX8_init_40 ?_
  refine b_putr (Y' := [kd118 P, kc1_82, kc1_82, kc1_82, kc1_656, kc2_10]) X hP hname lff8_22 (fun _ => ⟨rfl, rfl⟩) (by omega) rfl (Nat.le_of_ble_eq_true rfl) rfl dX8_init_42 ?_
  refine a_aload_n X dX8_init_45 rfl ?_
  refine a_bipush (v := 10) X dX8_init_46 (by decide) ?_
  refine b_newarray (at_ := .boolean) (Y' := [kd118 P, kc1_82, kc1_82, kc1_82, kc1_656, kc2_10, kc2_10]) X 6 hP rfl (by omega) ((hz.up (by omega))) rfl (Or.inr (Or.inl ⟨rfl, rfl⟩)) zarrZ ⟨by decide, rfl, by decide⟩ ⟨by decide, by decide⟩ dX8_init_48 ?_
  refine b_putr (Y' := [kd119 P, kc1_82, kc1_82, kc1_82, kc1_656, kc2_10, kc2_10]) X hP hname lff8_26 (fun _ => ⟨rfl, rfl⟩) (by omega) rfl (Nat.le_of_ble_eq_true rfl) rfl dX8_init_50 ?_
  refine a_aload_n X dX8_init_53 rfl ?_
  refine a_sipush (v := 700) X dX8_init_54 (by decide) ?_
  refine b_newarray (at_ := .int) (Y' := [kd119 P, kc1_82, kc1_82, kc1_82, kc1_656, kc2_10, kc2_10, kc1_700]) X 7 hP rfl (by omega) ((hz.up (by omega))) rfl (Or.inl ⟨rfl, rfl⟩) zarrI ⟨by decide, rfl, by decide⟩ ⟨by decide, by decide⟩ dX8_init_57 ?_
  refine b_putr (Y' := [kd120 P, kc1_82, kc1_82, kc1_82, kc1_656, kc2_10, kc2_10, kc1_700]) X hP hname lff8_29 (fun _ => ⟨rfl, rfl⟩) (by omega) rfl (Nat.le_of_ble_eq_true rfl) rfl dX8_init_59 ?_
  refine a_aload_n X dX8_init_62 rfl ?_
  refine a_iconst (v := -1) X dX8_init_63 (by decide) ?_
  refine a_puti (P := P) X lf8_32 (by show (pre ++ _)[P]? = _; rw [← hP, List.getElem?_append_right (Nat.le_refl _), Nat.sub_self]; rfl) rfl dX8_init_64 ?_
  change Zw _ _ _ _ _ _ _ _ _ _ _ _ _ _ _ _ _ _ _ (pre ++ [kd120 P, kc1_82, kc1_82, kc1_82, kc1_656, kc2_10, kc2_10, kc1_700], zu (M) P 13 (-1), N)
  refine a_aload_n X dX8_init_67 rfl ?_
  refine a_iconst (v := -1) X dX8_init_68 (by decide) ?_
  refine a_puti (P := P) X lf8_36 (by show (pre ++ _)[P]? = _; rw [← hP, List.getElem?_append_right (Nat.le_refl _), Nat.sub_self]; rfl) rfl dX8_init_69 ?_
  change Zw _ _ _ _ _ _ _ _ _ _ _ _ _ _ _ _ _ _ _ (pre ++ [kd120 P, kc1_82, kc1_82, kc1_82, kc1_656, kc2_10, kc2_10, kc1_700], zu (zu (M) P 13 (-1)) P 14 (-1), N)
  refine a_aload_n X dX8_init_72 rfl ?_
  refine a_iconst (v := 5) X dX8_init_73 (by decide) ?_
  refine b_newarray (at_ := .long) (Y' := [kd120 P, kc1_82, kc1_82, kc1_82, kc1_656, kc2_10, kc2_10, kc1_700, kc3_5]) X 8 hP rfl (by omega) (((zz.zuM (a := P + 8) (zz.zuM (a := P + 8) (hz.up (by omega)) (by omega)) (by omega))).up (by omega)) rfl (Or.inr (Or.inr ⟨rfl, rfl⟩)) zarrJ ⟨by decide, rfl, by decide⟩ ⟨by decide, by decide⟩ dX8_init_74 ?_
  refine b_putr (Y' := [kd121 P, kc1_82, kc1_82, kc1_82, kc1_656, kc2_10, kc2_10, kc1_700, kc3_5]) X hP hname lff8_39 (fun _ => ⟨rfl, rfl⟩) (by omega) rfl (Nat.le_of_ble_eq_true rfl) rfl dX8_init_76 ?_
  refine a_aload_n X dX8_init_79 rfl ?_
  refine a_bipush (v := 10) X dX8_init_80 (by decide) ?_
  refine b_newarray (at_ := .long) (Y' := [kd121 P, kc1_82, kc1_82, kc1_82, kc1_656, kc2_10, kc2_10, kc1_700, kc3_5, kc3_10]) X 9 hP rfl (by omega) (((zz.zuM (a := P + 9) (zz.zuM (a := P + 9) (hz.up (by omega)) (by omega)) (by omega))).up (by omega)) rfl (Or.inr (Or.inr ⟨rfl, rfl⟩)) zarrJ ⟨by decide, rfl, by decide⟩ ⟨by decide, by decide⟩ dX8_init_82 ?_
  refine b_putr (Y' := [kd122 P, kc1_82, kc1_82, kc1_82, kc1_656, kc2_10, kc2_10, kc1_700, kc3_5, kc3_10]) X hP hname lff8_43 (fun _ => ⟨rfl, rfl⟩) (by omega) rfl (Nat.le_of_ble_eq_true rfl) rfl dX8_init_84 ?_
  refine a_aload_n X dX8_init_87 rfl ?_
  refine a_iconst (v := 4) X dX8_init_88 (by decide) ?_
  refine b_newarray (at_ := .long) (Y' := [kd122 P, kc1_82, kc1_82, kc1_82, kc1_656, kc2_10, kc2_10, kc1_700, kc3_5, kc3_10, kc3_4]) X 10 hP rfl (by omega) (((zz.zuM (a := P + 10) (zz.zuM (a := P + 10) (hz.up (by omega)) (by omega)) (by omega))).up (by omega)) rfl (Or.inr (Or.inr ⟨rfl, rfl⟩)) zarrJ ⟨by decide, rfl, by decide⟩ ⟨by decide, by decide⟩ dX8_init_89 ?_
  refine b_putr (Y' := [kd123 P, kc1_82, kc1_82, kc1_82, kc1_656, kc2_10, kc2_10, kc1_700, kc3_5, kc3_10, kc3_4]) X hP hname lff8_46 (fun _ => ⟨rfl, rfl⟩) (by omega) rfl (Nat.le_of_ble_eq_true rfl) rfl dX8_init_91 ?_
  refine a_aload_n X dX8_init_94 rfl ?_
  refine a_bipush (v := 10) X dX8_init_95 (by decide) ?_
  refine b_newarray (at_ := .int) (Y' := [kd123 P, kc1_82, kc1_82, kc1_82, kc1_656, kc2_10, kc2_10, kc1_700, kc3_5, kc3_10, kc3_4, kc1_10]) X 11 hP rfl (by omega) (((zz.zuM (a := P + 11) (zz.zuM (a := P + 11) (hz.up (by omega)) (by omega)) (by omega))).up (by omega)) rfl (Or.inl ⟨rfl, rfl⟩) zarrI ⟨by decide, rfl, by decide⟩ ⟨by decide, by decide⟩ dX8_init_97 ?_
  refine b_putr (Y' := [kd124 P, kc1_82, kc1_82, kc1_82, kc1_656, kc2_10, kc2_10, kc1_700, kc3_5, kc3_10, kc3_4, kc1_10]) X hP hname lff8_49 (fun _ => ⟨rfl, rfl⟩) (by omega) rfl (Nat.le_of_ble_eq_true rfl) rfl dX8_init_99 ?_
  refine a_aload_n X dX8_init_102 rfl ?_
  refine a_bipush (v := 10) X dX8_init_103 (by decide) ?_
  refine b_newarray (at_ := .int) (Y' := [kd124 P, kc1_82, kc1_82, kc1_82, kc1_656, kc2_10, kc2_10, kc1_700, kc3_5, kc3_10, kc3_4, kc1_10, kc1_10]) X 12 hP rfl (by omega) (((zz.zuM (a := P + 12) (zz.zuM (a := P + 12) (hz.up (by omega)) (by omega)) (by omega))).up (by omega)) rfl (Or.inl ⟨rfl, rfl⟩) zarrI ⟨by decide, rfl, by decide⟩ ⟨by decide, by decide⟩ dX8_init_105 ?_
  refine b_putr (Y' := [kd125 P, kc1_82, kc1_82, kc1_82, kc1_656, kc2_10, kc2_10, kc1_700, kc3_5, kc3_10, kc3_4, kc1_10, kc1_10]) X hP hname lff8_52 (fun _ => ⟨rfl, rfl⟩) (by omega) rfl (Nat.le_of_ble_eq_true rfl) rfl dX8_init_107 ?_
  refine a_aload_n X dX8_init_110 rfl ?_
  refine a_bipush (v := 10) X dX8_init_111 (by decide) ?_
  refine b_newarray (at_ := .int) (Y' := [kd125 P, kc1_82, kc1_82, kc1_82, kc1_656, kc2_10, kc2_10, kc1_700, kc3_5, kc3_10, kc3_4, kc1_10, kc1_10, kc1_10]) X 13 hP rfl (by omega) (((zz.zuM (a := P + 13) (zz.zuM (a := P + 13) (hz.up (by omega)) (by omega)) (by omega))).up (by omega)) rfl (Or.inl ⟨rfl, rfl⟩) zarrI ⟨by decide, rfl, by decide⟩ ⟨by decide, by decide⟩ dX8_init_113 ?_
  refine b_putr (Y' := [kd126 P, kc1_82, kc1_82, kc1_82, kc1_656, kc2_10, kc2_10, kc1_700, kc3_5, kc3_10, kc3_4, kc1_10, kc1_10, kc1_10]) X hP hname lff8_55 (fun _ => ⟨rfl, rfl⟩) (by omega) rfl (Nat.le_of_ble_eq_true rfl) rfl dX8_init_115 ?_
  refine a_aload_n X dX8_init_118 rfl ?_
  refine a_bipush (v := 10) X dX8_init_119 (by decide) ?_
  refine b_newarray (at_ := .int) (Y' := [kd126 P, kc1_82, kc1_82, kc1_82, kc1_656, kc2_10, kc2_10, kc1_700, kc3_5, kc3_10, kc3_4, kc1_10, kc1_10, kc1_10, kc1_10]) X 14 hP rfl (by omega) (((zz.zuM (a := P + 14) (zz.zuM (a := P + 14) (hz.up (by omega)) (by omega)) (by omega))).up (by omega)) rfl (Or.inl ⟨rfl, rfl⟩) zarrI ⟨by decide, rfl, by decide⟩ ⟨by decide, by decide⟩ dX8_init_121 ?_
  refine b_putr (Y' := [kd127 P, kc1_82, kc1_82, kc1_82, kc1_656, kc2_10, kc2_10, kc1_700, kc3_5, kc3_10, kc3_4, kc1_10, kc1_10, kc1_10, kc1_10]) X hP hname lff8_58 (fun _ => ⟨rfl, rfl⟩) (by omega) rfl (Nat.le_of_ble_eq_true rfl) rfl dX8_init_123 ?_
  refine a_aload_n X dX8_init_126 rfl ?_
  refine a_bipush (v := 10) X dX8_init_127 (by decide) ?_
  refine b_newarray (at_ := .int) (Y' := [kd127 P, kc1_82, kc1_82, kc1_82, kc1_656, kc2_10, kc2_10, kc1_700, kc3_5, kc3_10, kc3_4, kc1_10, kc1_10, kc1_10, kc1_10, kc1_10]) X 15 hP rfl (by omega) (((zz.zuM (a := P + 15) (zz.zuM (a := P + 15) (hz.up (by omega)) (by omega)) (by omega))).up (by omega)) rfl (Or.inl ⟨rfl, rfl⟩) zarrI ⟨by decide, rfl, by decide⟩ ⟨by decide, by decide⟩ dX8_init_129 ?_
  refine b_putr (Y' := [kd128 P, kc1_82, kc1_82, kc1_82, kc1_656, kc2_10, kc2_10, kc1_700, kc3_5, kc3_10, kc3_4, kc1_10, kc1_10, kc1_10, kc1_10, kc1_10]) X hP hname lff8_61 (fun _ => ⟨rfl, rfl⟩) (by omega) rfl (Nat.le_of_ble_eq_true rfl) rfl dX8_init_131 ?_
  refine a_aload_n X dX8_init_134 rfl ?_
  refine a_bipush (v := 10) X dX8_init_135 (by decide) ?_
  refine b_newarray (at_ := .int) (Y' := [kd128 P, kc1_82, kc1_82, kc1_82, kc1_656, kc2_10, kc2_10, kc1_700, kc3_5, kc3_10, kc3_4, kc1_10, kc1_10, kc1_10, kc1_10, kc1_10, kc1_10]) X 16 hP rfl (by omega) (((zz.zuM (a := P + 16) (zz.zuM (a := P + 16) (hz.up (by omega)) (by omega)) (by omega))).up (by omega)) rfl (Or.inl ⟨rfl, rfl⟩) zarrI ⟨by decide, rfl, by decide⟩ ⟨by decide, by decide⟩ dX8_init_137 ?_
  refine b_putr (Y' := [kd129 P, kc1_82, kc1_82, kc1_82, kc1_656, kc2_10, kc2_10, kc1_700, kc3_5, kc3_10, kc3_4, kc1_10, kc1_10, kc1_10, kc1_10, kc1_10, kc1_10]) X hP hname lff8_64 (fun _ => ⟨rfl, rfl⟩) (by omega) rfl (Nat.le_of_ble_eq_true rfl) rfl dX8_init_139 ?_
  refine a_aload_n X dX8_init_142 rfl ?_
  refine a_bipush (v := 10) X dX8_init_143 (by decide) ?_
  refine b_newarray (at_ := .int) (Y' := [kd129 P, kc1_82, kc1_82, kc1_82, kc1_656, kc2_10, kc2_10, kc1_700, kc3_5, kc3_10, kc3_4, kc1_10, kc1_10, kc1_10, kc1_10, kc1_10, kc1_10, kc1_10]) X 17 hP rfl (by omega) (((zz.zuM (a := P + 17) (zz.zuM (a := P + 17) (hz.up (by omega)) (by omega)) (by omega))).up (by omega)) rfl (Or.inl ⟨rfl, rfl⟩) zarrI ⟨by decide, rfl, by decide⟩ ⟨by decide, by decide⟩ dX8_init_145 ?_
  refine b_putr (Y' := [kd130 P, kc1_82, kc1_82, kc1_82, kc1_656, kc2_10, kc2_10, kc1_700, kc3_5, kc3_10, kc3_4, kc1_10, kc1_10, kc1_10, kc1_10, kc1_10, kc1_10, kc1_10]) X hP hname lff8_67 (fun _ => ⟨rfl, rfl⟩) (by omega) rfl (Nat.le_of_ble_eq_true rfl) rfl dX8_init_147 ?_
  refine a_aload_n X dX8_init_150 rfl ?_
  refine a_bipush (v := 10) X dX8_init_151 (by decide) ?_
  refine b_newarray (at_ := .int) (Y' := [kd130 P, kc1_82, kc1_82, kc1_82, kc1_656, kc2_10, kc2_10, kc1_700, kc3_5, kc3_10, kc3_4, kc1_10, kc1_10, kc1_10, kc1_10, kc1_10, kc1_10, kc1_10, kc1_10]) X 18 hP rfl (by omega) (((zz.zuM (a := P + 18) (zz.zuM (a := P + 18) (hz.up (by omega)) (by omega)) (by omega))).up (by omega)) rfl (Or.inl ⟨rfl, rfl⟩) zarrI ⟨by decide, rfl, by decide⟩ ⟨by decide, by decide⟩ dX8_init_153 ?_
  refine b_putr (Y' := [kd131 P, kc1_82, kc1_82, kc1_82, kc1_656, kc2_10, kc2_10, kc1_700, kc3_5, kc3_10, kc3_4, kc1_10, kc1_10, kc1_10, kc1_10, kc1_10, kc1_10, kc1_10, kc1_10]) X hP hname lff8_70 (fun _ => ⟨rfl, rfl⟩) (by omega) rfl (Nat.le_of_ble_eq_true rfl) rfl dX8_init_155 ?_
  refine a_aload_n X dX8_init_158 rfl ?_
  refine a_bipush (v := 10) X dX8_init_159 (by decide) ?_
  refine b_newarray (at_ := .int) (Y' := [kd131 P, kc1_82, kc1_82, kc1_82, kc1_656, kc2_10, kc2_10, kc1_700, kc3_5, kc3_10, kc3_4, kc1_10, kc1_10, kc1_10, kc1_10, kc1_10, kc1_10, kc1_10, kc1_10, kc1_10]) X 19 hP rfl (by omega) (((zz.zuM (a := P + 19) (zz.zuM (a := P + 19) (hz.up (by omega)) (by omega)) (by omega))).up (by omega)) rfl (Or.inl ⟨rfl, rfl⟩) zarrI ⟨by decide, rfl, by decide⟩ ⟨by decide, by decide⟩ dX8_init_161 ?_
  refine b_putr (Y' := [kd132 P, kc1_82, kc1_82, kc1_82, kc1_656, kc2_10, kc2_10, kc1_700, kc3_5, kc3_10, kc3_4, kc1_10, kc1_10, kc1_10, kc1_10, kc1_10, kc1_10, kc1_10, kc1_10, kc1_10]) X hP hname lff8_73 (fun _ => ⟨rfl, rfl⟩) (by omega) rfl (Nat.le_of_ble_eq_true rfl) rfl dX8_init_163 ?_
  refine a_aload_n X dX8_init_166 rfl ?_
  refine a_bipush (v := 10) X dX8_init_167 (by decide) ?_
  refine b_newarray (at_ := .int) (Y' := [kd132 P, kc1_82, kc1_82, kc1_82, kc1_656, kc2_10, kc2_10, kc1_700, kc3_5, kc3_10, kc3_4, kc1_10, kc1_10, kc1_10, kc1_10, kc1_10, kc1_10, kc1_10, kc1_10, kc1_10, kc1_10]) X 20 hP rfl (by omega) (((zz.zuM (a := P + 20) (zz.zuM (a := P + 20) (hz.up (by omega)) (by omega)) (by omega))).up (by omega)) rfl (Or.inl ⟨rfl, rfl⟩) zarrI ⟨by decide, rfl, by decide⟩ ⟨by decide, by decide⟩ dX8_init_169 ?_
  refine b_putr (Y' := [kd133 P, kc1_82, kc1_82, kc1_82, kc1_656, kc2_10, kc2_10, kc1_700, kc3_5, kc3_10, kc3_4, kc1_10, kc1_10, kc1_10, kc1_10, kc1_10, kc1_10, kc1_10, kc1_10, kc1_10, kc1_10]) X hP hname lff8_76 (fun _ => ⟨rfl, rfl⟩) (by omega) rfl (Nat.le_of_ble_eq_true rfl) rfl dX8_init_171 ?_
  refine a_aload_n X dX8_init_174 rfl ?_
  refine a_iconst (v := 5) X dX8_init_175 (by decide) ?_
  refine b_newarray (at_ := .int) (Y' := [kd133 P, kc1_82, kc1_82, kc1_82, kc1_656, kc2_10, kc2_10, kc1_700, kc3_5, kc3_10, kc3_4, kc1_10, kc1_10, kc1_10, kc1_10, kc1_10, kc1_10, kc1_10, kc1_10, kc1_10, kc1_10, kc1_5]) X 21 hP rfl (by omega) (((zz.zuM (a := P + 21) (zz.zuM (a := P + 21) (hz.up (by omega)) (by omega)) (by omega))).up (by omega)) rfl (Or.inl ⟨rfl, rfl⟩) zarrI ⟨by decide, rfl, by decide⟩ ⟨by decide, by decide⟩ dX8_init_176 ?_
  refine b_putr (Y' := [kd134 P, kc1_82, kc1_82, kc1_82, kc1_656, kc2_10, kc2_10, kc1_700, kc3_5, kc3_10, kc3_4, kc1_10, kc1_10, kc1_10, kc1_10, kc1_10, kc1_10, kc1_10, kc1_10, kc1_10, kc1_10, kc1_5]) X hP hname lff8_79 (fun _ => ⟨rfl, rfl⟩) (by omega) rfl (Nat.le_of_ble_eq_true rfl) rfl dX8_init_178 ?_
  refine a_aload_n X dX8_init_181 rfl ?_
  refine a_iconst (v := 5) X dX8_init_182 (by decide) ?_
  refine b_newarray (at_ := .int) (Y' := [kd134 P, kc1_82, kc1_82, kc1_82, kc1_656, kc2_10, kc2_10, kc1_700, kc3_5, kc3_10, kc3_4, kc1_10, kc1_10, kc1_10, kc1_10, kc1_10, kc1_10, kc1_10, kc1_10, kc1_10, kc1_10, kc1_5, kc1_5]) X 22 hP rfl (by omega) (((zz.zuM (a := P + 22) (zz.zuM (a := P + 22) (hz.up (by omega)) (by omega)) (by omega))).up (by omega)) rfl (Or.inl ⟨rfl, rfl⟩) zarrI ⟨by decide, rfl, by decide⟩ ⟨by decide, by decide⟩ dX8_init_183 ?_
  refine b_putr (Y' := [kd135 P, kc1_82, kc1_82, kc1_82, kc1_656, kc2_10, kc2_10, kc1_700, kc3_5, kc3_10, kc3_4, kc1_10, kc1_10, kc1_10, kc1_10, kc1_10, kc1_10, kc1_10, kc1_10, kc1_10, kc1_10, kc1_5, kc1_5]) X hP hname lff8_82 (fun _ => ⟨rfl, rfl⟩) (by omega) rfl (Nat.le_of_ble_eq_true rfl) rfl dX8_init_185 ?_
  refine a_aload_n X dX8_init_188 rfl ?_
  refine a_bipush (v := 10) X dX8_init_189 (by decide) ?_
  refine b_newarray (at_ := .int) (Y' := [kd135 P, kc1_82, kc1_82, kc1_82, kc1_656, kc2_10, kc2_10, kc1_700, kc3_5, kc3_10, kc3_4, kc1_10, kc1_10, kc1_10, kc1_10, kc1_10, kc1_10, kc1_10, kc1_10, kc1_10, kc1_10, kc1_5, kc1_5, kc1_10]) X 23 hP rfl (by omega) (((zz.zuM (a := P + 23) (zz.zuM (a := P + 23) (hz.up (by omega)) (by omega)) (by omega))).up (by omega)) rfl (Or.inl ⟨rfl, rfl⟩) zarrI ⟨by decide, rfl, by decide⟩ ⟨by decide, by decide⟩ dX8_init_191 ?_
  refine b_putr (Y' := [kd136 P, kc1_82, kc1_82, kc1_82, kc1_656, kc2_10, kc2_10, kc1_700, kc3_5, kc3_10, kc3_4, kc1_10, kc1_10, kc1_10, kc1_10, kc1_10, kc1_10, kc1_10, kc1_10, kc1_10, kc1_10, kc1_5, kc1_5, kc1_10]) X hP hname lff8_85 (fun _ => ⟨rfl, rfl⟩) (by omega) rfl (Nat.le_of_ble_eq_true rfl) rfl dX8_init_193 ?_
  refine a_aload_n X dX8_init_196 rfl ?_
  refine a_bipush (v := 35) X dX8_init_197 (by decide) ?_
  refine b_newarray (at_ := .long) (Y' := [kd136 P, kc1_82, kc1_82, kc1_82, kc1_656, kc2_10, kc2_10, kc1_700, kc3_5, kc3_10, kc3_4, kc1_10, kc1_10, kc1_10, kc1_10, kc1_10, kc1_10, kc1_10, kc1_10, kc1_10, kc1_10, kc1_5, kc1_5, kc1_10, kc3_35]) X 24 hP rfl (by omega) (((zz.zuM (a := P + 24) (zz.zuM (a := P + 24) (hz.up (by omega)) (by omega)) (by omega))).up (by omega)) rfl (Or.inr (Or.inr ⟨rfl, rfl⟩)) zarrJ ⟨by decide, rfl, by decide⟩ ⟨by decide, by decide⟩ dX8_init_199 ?_
  refine b_putr (Y' := [kd137 P, kc1_82, kc1_82, kc1_82, kc1_656, kc2_10, kc2_10, kc1_700, kc3_5, kc3_10, kc3_4, kc1_10, kc1_10, kc1_10, kc1_10, kc1_10, kc1_10, kc1_10, kc1_10, kc1_10, kc1_10, kc1_5, kc1_5, kc1_10, kc3_35]) X hP hname lff8_88 (fun _ => ⟨rfl, rfl⟩) (by omega) rfl (Nat.le_of_ble_eq_true rfl) rfl dX8_init_201 ?_
  refine a_aload_n X dX8_init_204 rfl ?_
  refine a_bipush (v := 7) X dX8_init_205 (by decide) ?_
  refine b_newarray (at_ := .long) (Y' := [kd137 P, kc1_82, kc1_82, kc1_82, kc1_656, kc2_10, kc2_10, kc1_700, kc3_5, kc3_10, kc3_4, kc1_10, kc1_10, kc1_10, kc1_10, kc1_10, kc1_10, kc1_10, kc1_10, kc1_10, kc1_10, kc1_5, kc1_5, kc1_10, kc3_35, kc3_7]) X 25 hP rfl (by omega) (((zz.zuM (a := P + 25) (zz.zuM (a := P + 25) (hz.up (by omega)) (by omega)) (by omega))).up (by omega)) rfl (Or.inr (Or.inr ⟨rfl, rfl⟩)) zarrJ ⟨by decide, rfl, by decide⟩ ⟨by decide, by decide⟩ dX8_init_207 ?_
  refine b_putr (Y' := [kd138 P, kc1_82, kc1_82, kc1_82, kc1_656, kc2_10, kc2_10, kc1_700, kc3_5, kc3_10, kc3_4, kc1_10, kc1_10, kc1_10, kc1_10, kc1_10, kc1_10, kc1_10, kc1_10, kc1_10, kc1_10, kc1_5, kc1_5, kc1_10, kc3_35, kc3_7]) X hP hname lff8_91 (fun _ => ⟨rfl, rfl⟩) (by omega) rfl (Nat.le_of_ble_eq_true rfl) rfl dX8_init_209 ?_
  refine a_aload_n X dX8_init_212 rfl ?_
  refine a_bipush (v := 7) X dX8_init_213 (by decide) ?_
  refine b_newarray (at_ := .long) (Y' := [kd138 P, kc1_82, kc1_82, kc1_82, kc1_656, kc2_10, kc2_10, kc1_700, kc3_5, kc3_10, kc3_4, kc1_10, kc1_10, kc1_10, kc1_10, kc1_10, kc1_10, kc1_10, kc1_10, kc1_10, kc1_10, kc1_5, kc1_5, kc1_10, kc3_35, kc3_7, kc3_7]) X 26 hP rfl (by omega) (((zz.zuM (a := P + 26) (zz.zuM (a := P + 26) (hz.up (by omega)) (by omega)) (by omega))).up (by omega)) rfl (Or.inr (Or.inr ⟨rfl, rfl⟩)) zarrJ ⟨by decide, rfl, by decide⟩ ⟨by decide, by decide⟩ dX8_init_215 ?_
  refine b_putr (Y' := [kd139 P, kc1_82, kc1_82, kc1_82, kc1_656, kc2_10, kc2_10, kc1_700, kc3_5, kc3_10, kc3_4, kc1_10, kc1_10, kc1_10, kc1_10, kc1_10, kc1_10, kc1_10, kc1_10, kc1_10, kc1_10, kc1_5, kc1_5, kc1_10, kc3_35, kc3_7, kc3_7]) X hP hname lff8_94 (fun _ => ⟨rfl, rfl⟩) (by omega) rfl (Nat.le_of_ble_eq_true rfl) rfl dX8_init_217 ?_
  refine a_aload_n X dX8_init_220 rfl ?_
  refine a_bipush (v := 49) X dX8_init_221 (by decide) ?_
  refine b_newarray (at_ := .long) (Y' := [kd139 P, kc1_82, kc1_82, kc1_82, kc1_656, kc2_10, kc2_10, kc1_700, kc3_5, kc3_10, kc3_4, kc1_10, kc1_10, kc1_10, kc1_10, kc1_10, kc1_10, kc1_10, kc1_10, kc1_10, kc1_10, kc1_5, kc1_5, kc1_10, kc3_35, kc3_7, kc3_7, kc3_49]) X 27 hP rfl (by omega) (((zz.zuM (a := P + 27) (zz.zuM (a := P + 27) (hz.up (by omega)) (by omega)) (by omega))).up (by omega)) rfl (Or.inr (Or.inr ⟨rfl, rfl⟩)) zarrJ ⟨by decide, rfl, by decide⟩ ⟨by decide, by decide⟩ dX8_init_223 ?_
  refine b_putr (Y' := [kd140 P, kc1_82, kc1_82, kc1_82, kc1_656, kc2_10, kc2_10, kc1_700, kc3_5, kc3_10, kc3_4, kc1_10, kc1_10, kc1_10, kc1_10, kc1_10, kc1_10, kc1_10, kc1_10, kc1_10, kc1_10, kc1_5, kc1_5, kc1_10, kc3_35, kc3_7, kc3_7, kc3_49]) X hP hname lff8_97 (fun _ => ⟨rfl, rfl⟩) (by omega) rfl (Nat.le_of_ble_eq_true rfl) rfl dX8_init_225 ?_
  refine a_aload_n X dX8_init_228 rfl ?_
  refine a_iconst (v := 5) X dX8_init_229 (by decide) ?_
  refine b_newarray (at_ := .long) (Y' := [kd140 P, kc1_82, kc1_82, kc1_82, kc1_656, kc2_10, kc2_10, kc1_700, kc3_5, kc3_10, kc3_4, kc1_10, kc1_10, kc1_10, kc1_10, kc1_10, kc1_10, kc1_10, kc1_10, kc1_10, kc1_10, kc1_5, kc1_5, kc1_10, kc3_35, kc3_7, kc3_7, kc3_49, kc3_5]) X 28 hP rfl (by omega) (((zz.zuM (a := P + 28) (zz.zuM (a := P + 28) (hz.up (by omega)) (by omega)) (by omega))).up (by omega)) rfl (Or.inr (Or.inr ⟨rfl, rfl⟩)) zarrJ ⟨by decide, rfl, by decide⟩ ⟨by decide, by decide⟩ dX8_init_230 ?_
  refine b_putr (Y' := [kd141 P, kc1_82, kc1_82, kc1_82, kc1_656, kc2_10, kc2_10, kc1_700, kc3_5, kc3_10, kc3_4, kc1_10, kc1_10, kc1_10, kc1_10, kc1_10, kc1_10, kc1_10, kc1_10, kc1_10, kc1_10, kc1_5, kc1_5, kc1_10, kc3_35, kc3_7, kc3_7, kc3_49, kc3_5]) X hP hname lff8_100 (fun _ => ⟨rfl, rfl⟩) (by omega) rfl (Nat.le_of_ble_eq_true rfl) rfl dX8_init_232 ?_
  refine a_aload_n X dX8_init_235 rfl ?_
  refine a_sipush (v := 128) X dX8_init_236 (by decide) ?_
  refine b_newarray (at_ := .boolean) (Y' := [kd141 P, kc1_82, kc1_82, kc1_82, kc1_656, kc2_10, kc2_10, kc1_700, kc3_5, kc3_10, kc3_4, kc1_10, kc1_10, kc1_10, kc1_10, kc1_10, kc1_10, kc1_10, kc1_10, kc1_10, kc1_10, kc1_5, kc1_5, kc1_10, kc3_35, kc3_7, kc3_7, kc3_49, kc3_5, kc2_128]) X 29 hP rfl (by omega) (((zz.zuM (a := P + 29) (zz.zuM (a := P + 29) (hz.up (by omega)) (by omega)) (by omega))).up (by omega)) rfl (Or.inr (Or.inl ⟨rfl, rfl⟩)) zarrZ ⟨by decide, rfl, by decide⟩ ⟨by decide, by decide⟩ dX8_init_239 ?_
  refine b_putr (Y' := [kd142 P, kc1_82, kc1_82, kc1_82, kc1_656, kc2_10, kc2_10, kc1_700, kc3_5, kc3_10, kc3_4, kc1_10, kc1_10, kc1_10, kc1_10, kc1_10, kc1_10, kc1_10, kc1_10, kc1_10, kc1_10, kc1_5, kc1_5, kc1_10, kc3_35, kc3_7, kc3_7, kc3_49, kc3_5, kc2_128]) X hP hname lff8_103 (fun _ => ⟨rfl, rfl⟩) (by omega) rfl (Nat.le_of_ble_eq_true rfl) rfl dX8_init_241 ?_
  refine a_aload_n X dX8_init_244 rfl ?_
  refine a_bipush (v := 10) X dX8_init_245 (by decide) ?_
  refine b_newarray (at_ := .int) (Y' := [kd142 P, kc1_82, kc1_82, kc1_82, kc1_656, kc2_10, kc2_10, kc1_700, kc3_5, kc3_10, kc3_4, kc1_10, kc1_10, kc1_10, kc1_10, kc1_10, kc1_10, kc1_10, kc1_10, kc1_10, kc1_10, kc1_5, kc1_5, kc1_10, kc3_35, kc3_7, kc3_7, kc3_49, kc3_5, kc2_128, kc1_10]) X 30 hP rfl (by omega) (((zz.zuM (a := P + 30) (zz.zuM (a := P + 30) (hz.up (by omega)) (by omega)) (by omega))).up (by omega)) rfl (Or.inl ⟨rfl, rfl⟩) zarrI ⟨by decide, rfl, by decide⟩ ⟨by decide, by decide⟩ dX8_init_247 ?_
  refine b_putr (Y' := [kd143 P, kc1_82, kc1_82, kc1_82, kc1_656, kc2_10, kc2_10, kc1_700, kc3_5, kc3_10, kc3_4, kc1_10, kc1_10, kc1_10, kc1_10, kc1_10, kc1_10, kc1_10, kc1_10, kc1_10, kc1_10, kc1_5, kc1_5, kc1_10, kc3_35, kc3_7, kc3_7, kc3_49, kc3_5, kc2_128, kc1_10]) X hP hname lff8_106 (fun _ => ⟨rfl, rfl⟩) (by omega) rfl (Nat.le_of_ble_eq_true rfl) rfl dX8_init_249 ?_
  refine a_aload_n X dX8_init_252 rfl ?_
  refine a_bipush (v := 10) X dX8_init_253 (by decide) ?_
  refine b_newarray (at_ := .int) (Y' := [kd143 P, kc1_82, kc1_82, kc1_82, kc1_656, kc2_10, kc2_10, kc1_700, kc3_5, kc3_10, kc3_4, kc1_10, kc1_10, kc1_10, kc1_10, kc1_10, kc1_10, kc1_10, kc1_10, kc1_10, kc1_10, kc1_5, kc1_5, kc1_10, kc3_35, kc3_7, kc3_7, kc3_49, kc3_5, kc2_128, kc1_10, kc1_10]) X 31 hP rfl (by omega) (((zz.zuM (a := P + 31) (zz.zuM (a := P + 31) (hz.up (by omega)) (by omega)) (by omega))).up (by omega)) rfl (Or.inl ⟨rfl, rfl⟩) zarrI ⟨by decide, rfl, by decide⟩ ⟨by decide, by decide⟩ dX8_init_255 ?_
  refine b_putr (Y' := [kd144 P, kc1_82, kc1_82, kc1_82, kc1_656, kc2_10, kc2_10, kc1_700, kc3_5, kc3_10, kc3_4, kc1_10, kc1_10, kc1_10, kc1_10, kc1_10, kc1_10, kc1_10, kc1_10, kc1_10, kc1_10, kc1_5, kc1_5, kc1_10, kc3_35, kc3_7, kc3_7, kc3_49, kc3_5, kc2_128, kc1_10, kc1_10]) X hP hname lff8_109 (fun _ => ⟨rfl, rfl⟩) (by omega) rfl (Nat.le_of_ble_eq_true rfl) rfl dX8_init_257 ?_
  refine a_aload_n X dX8_init_260 rfl ?_
  refine a_bipush (v := 64) X dX8_init_261 (by decide) ?_
  refine b_newarray (at_ := .int) (Y' := [kd144 P, kc1_82, kc1_82, kc1_82, kc1_656, kc2_10, kc2_10, kc1_700, kc3_5, kc3_10, kc3_4, kc1_10, kc1_10, kc1_10, kc1_10, kc1_10, kc1_10, kc1_10, kc1_10, kc1_10, kc1_10, kc1_5, kc1_5, kc1_10, kc3_35, kc3_7, kc3_7, kc3_49, kc3_5, kc2_128, kc1_10, kc1_10, kc1_64]) X 32 hP rfl (by omega) (((zz.zuM (a := P + 32) (zz.zuM (a := P + 32) (hz.up (by omega)) (by omega)) (by omega))).up (by omega)) rfl (Or.inl ⟨rfl, rfl⟩) zarrI ⟨by decide, rfl, by decide⟩ ⟨by decide, by decide⟩ dX8_init_263 ?_
  refine b_putr (Y' := [kd112 P, kc1_82, kc1_82, kc1_82, kc1_656, kc2_10, kc2_10, kc1_700, kc3_5, kc3_10, kc3_4, kc1_10, kc1_10, kc1_10, kc1_10, kc1_10, kc1_10, kc1_10, kc1_10, kc1_10, kc1_10, kc1_5, kc1_5, kc1_10, kc3_35, kc3_7, kc3_7, kc3_49, kc3_5, kc2_128, kc1_10, kc1_10, kc1_64]) X hP hname lff8_112 (fun _ => ⟨rfl, rfl⟩) (by omega) rfl (Nat.le_of_ble_eq_true rfl) rfl dX8_init_265 ?_
  have hT : LX8 (pre ++ blk8 P) P := lx8 hP hp
  change Zw _ _ _ _ _ _ _ _ _ _ _ _ _ _ _ _ _ _ _ (pre ++ blk8 P, zu (zu (M) P 13 (-1)) P 14 (-1), N)
  obtain ⟨z_lt, z_o, z_s, z_read, z_aside, z_kept, z_guest, z_readGuest, z_tape, z_unitName, z_hunterName, z_partyName, z_bits, z_partyOf, z_choiceAt, z_sizes, z_guestMany, z_pointsOf, z_ticketsOf, z_ord, z_given, z_roundOf, z_tags, z_guestTags, z_places, z_sumAt, z_sumFirst, z_sumRound, z_sumBoth, z_sumTags, z_isEnd, z_newPoints, z_inRow, z_out⟩ := id hT
  refine a_aload_n X dX8_init_268 rfl ?_
  refine a_getr X lf8_7 (by assumption) rfl (by omega) dX8_init_269 ?_
  refine a_callSx X dX8_init_272 miX8_begins lm8_115 (m_begins (by assumption)) rfl rfl (Nat.le_of_ble_eq_true rfl) ⟨by decide, by decide, by decide, by decide⟩ (fun r_272 S_272 q_272 => ?_)
  obtain ⟨M_272, rfl, rfl, b0_272, b1_272, b2_272, b3_272, b4_272⟩ := q_272
  refine a_vret X hr dX8_init_275 ⟨by decide, by decide⟩ ?_
  subst hF
  have z0 : ∀ k j, P ≤ k → M k j = 0 := fun k j h => (hz k h j).1
  have g0 : ∀ a j, ¬ (a = P + 1 ∧ j < 82) → M_272 a j = (zu (zu (M) P 13 (-1)) P 14 (-1)) a j := b0_272
  have gz : ∀ a j, P < a → a ≠ P + 1 → M_272 a j = 0 := fun a j h1 h2 => by
    rw [g0 a j (by omega), zu_row (by omega), zu_row (by omega)]
    exact z0 a j (by omega)
  refine ⟨rfl, _, _, rfl, ⟨hT, ?_, ?_, ?_, ?_, ?_, ?_, ?_, ?_, b1_272, b2_272, b3_272, b4_272⟩, ?_, ?_⟩
  · refine jJ.fresh (fun j hj => ?_) (fun a ha => gz (P + 19) a (by omega) (by omega)) b1_272 b2_272 b3_272
    show M_272 P j = 0
    rw [g0 P j (by omega), zu_ne (by omega), zu_ne (by omega)]
    exact z0 P j (by omega)
  · show M_272 P 11 = 0
    rw [g0 P 11 (by omega), zu_ne (by omega), zu_ne (by omega)]
    exact z0 P 11 (by omega)
  · show M_272 P 13 = -1
    rw [g0 P 13 (by omega), zu_ne (by omega), zu_eq]
  · show M_272 P 14 = -1
    rw [g0 P 14 (by omega), zu_eq]
  · show M_272 P 7 = 0
    rw [g0 P 7 (by omega), zu_ne (by omega), zu_ne (by omega)]
    exact z0 P 7 (by omega)
  · show M_272 P 8 = 0
    rw [g0 P 8 (by omega), zu_ne (by omega), zu_ne (by omega)]
    exact z0 P 8 (by omega)
  · show M_272 P 9 = 0
    rw [g0 P 9 (by omega), zu_ne (by omega), zu_ne (by omega)]
    exact z0 P 9 (by omega)
  · show M_272 P 64 = 0
    rw [g0 P 64 (by omega), zu_ne (by omega), zu_ne (by omega)]
    exact z0 P 64 (by omega)
  · intro k hk j
    exact ⟨gz k j (by omega) (by omega), (hz k (by omega) j).2⟩
  · intro a ha
    funext j
    show M_272 a j = M a j
    rw [g0 a j (by omega), zu_row (by omega), zu_row (by omega)]
