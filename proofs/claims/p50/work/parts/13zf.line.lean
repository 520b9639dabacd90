/-! A LINE -/
theorem zB_eta {o : Option (Int32 × zMt × zNt)} : (zB o fun e => some (e.1, e.2.1, e.2.2)) = o := by
  cases o with
  | none => rfl
  | some e => rfl
theorem m16_0 {P : Nat} {B : zMt} {NB : zNt} : D_X8_readLine_16 P (nI 0) B NB = zB (D_X8_readUnit P B NB) fun e => D_X8_readLine_114 P e.1 e.2.1 e.2.2 := by
  unfold D_X8_readLine_16
  rw [if_pos (show (nI 0).toInt = 0 by decide)]
theorem m16_1 {P : Nat} {B : zMt} {NB : zNt} : D_X8_readLine_16 P (nI 1) B NB = zB (D_X8_readHunter P B NB) fun e => D_X8_readLine_114 P e.1 e.2.1 e.2.2 := by
  unfold D_X8_readLine_16
  rw [if_neg (show ¬ (nI 1).toInt = 0 by decide), if_pos (show (nI 1).toInt = 1 by decide)]
theorem m16_3 {P : Nat} {B : zMt} {NB : zNt} : D_X8_readLine_16 P (nI 3) B NB = zB (D_X8_readParty P B NB) fun e => D_X8_readLine_114 P e.1 e.2.1 e.2.2 := by
  unfold D_X8_readLine_16
  rw [if_neg (show ¬ (nI 3).toInt = 0 by decide), if_neg (show ¬ (nI 3).toInt = 1 by decide), if_neg (show ¬ (nI 3).toInt = 2 by decide), if_pos (show (nI 3).toInt = 3 by decide)]
theorem m16_4 {P : Nat} {B : zMt} {NB : zNt} : D_X8_readLine_16 P (nI 4) B NB = zB (D_X8_readAsks P B NB) fun e => D_X8_readLine_114 P e.1 e.2.1 e.2.2 := by
  unfold D_X8_readLine_16
  rw [if_neg (show ¬ (nI 4).toInt = 0 by decide), if_neg (show ¬ (nI 4).toInt = 1 by decide), if_neg (show ¬ (nI 4).toInt = 2 by decide), if_neg (show ¬ (nI 4).toInt = 3 by decide), if_pos (show (nI 4).toInt = 4 by decide)]
theorem m16_5 {P : Nat} {B : zMt} {NB : zNt} : D_X8_readLine_16 P (nI 5) B NB = D_X8_readLine_96 P B NB := by
  unfold D_X8_readLine_16
  rw [if_neg (show ¬ (nI 5).toInt = 0 by decide), if_neg (show ¬ (nI 5).toInt = 1 by decide), if_neg (show ¬ (nI 5).toInt = 2 by decide), if_neg (show ¬ (nI 5).toInt = 3 by decide), if_neg (show ¬ (nI 5).toInt = 4 by decide), if_pos (show (nI 5).toInt = 5 by decide)]
theorem m16_6 {P : Nat} {B : zMt} {NB : zNt} : D_X8_readLine_16 P (nI 6) B NB = D_X8_readLine_96 P B NB := by
  unfold D_X8_readLine_16
  rw [if_neg (show ¬ (nI 6).toInt = 0 by decide), if_neg (show ¬ (nI 6).toInt = 1 by decide), if_neg (show ¬ (nI 6).toInt = 2 by decide), if_neg (show ¬ (nI 6).toInt = 3 by decide), if_neg (show ¬ (nI 6).toInt = 4 by decide), if_neg (show ¬ (nI 6).toInt = 5 by decide), if_pos (show (nI 6).toInt = 6 by decide)]
theorem m16_7 {P : Nat} {B : zMt} {NB : zNt} : D_X8_readLine_16 P (nI 7) B NB = D_X8_readLine_96 P B NB := by
  unfold D_X8_readLine_16
  rw [if_neg (show ¬ (nI 7).toInt = 0 by decide), if_neg (show ¬ (nI 7).toInt = 1 by decide), if_neg (show ¬ (nI 7).toInt = 2 by decide), if_neg (show ¬ (nI 7).toInt = 3 by decide), if_neg (show ¬ (nI 7).toInt = 4 by decide), if_neg (show ¬ (nI 7).toInt = 5 by decide), if_neg (show ¬ (nI 7).toInt = 6 by decide), if_pos (show (nI 7).toInt = 7 by decide)]
theorem l_line {Q P n : Nat} {t : Nat → Int32} {A B : zMt} {NA NB : zNt} (hX : tx Q n t A) (hY : ty P n t B) (hK : tk Q P n t A NA B NB) (hD : A Q 6 = 2 ∨ A Q 6 = 4 ∨ dD Q P t A NA B NB) : two (D_X3_readLine Q A NA) (D_X8_readLine P B NB) (LR Q P n t) := by
  obtain ⟨w61, w62⟩ := hK.wrd
  unfold D_X3_readLine D_X8_readLine
  have bad : two (zB (D_X3_fail Q (2 : Int32) A) fun e => some (e.1, e.2, NA)) (D_X8_readLine_108 P B NB) (LR Q P n t) := (t_fail (NA := NA) (NB := NB) (v := 2) hK).imp (fun _ _ h => Or.inl h)
  by_cases q6 : A Q 6 = 1
  · obtain ⟨s, k, h7, hW⟩ := w62 q6
    obtain ⟨u1, u2, u3, u4, u5, u6, u7, u8, u9, u10, u11⟩ := id hW
    have hnx := hW.nx
    have hD' : dD Q P t A NA B NB := by
      rcases hD with z | z | z
      · exact absurd (q6.symm.trans z) (by decide)
      · exact absurd (q6.symm.trans z) (by decide)
      · exact z
    obtain ⟨⟨U, H, G, hC, hM, hR⟩, hO, hF⟩ := hD'
    obtain ⟨c1, c2, c3, c4, c5, c6, c7, c8, c9⟩ := id hC
    rw [if_pos u2]
    have S : ∀ j, j < 8 → ∃ r, D_X3_says Q j A = some r ∧ (say t s k j → r = 1) ∧ (¬ say t s k j → r = 0) := fun j hj => by
      obtain ⟨r, hr, g⟩ := c_says (j := j) hX u1 h7 u3 u7 (by omega)
      refine ⟨r, hr, fun h => ?_, fun h => ?_⟩
      · rcases g with ⟨z, _⟩ | ⟨_, z⟩
        · exact z
        · exact absurd h z
      · rcases g with ⟨_, z⟩ | ⟨z, _⟩
        · exact absurd z h
        · exact z
    obtain ⟨r0, e0, y0, n0⟩ := S 0 (by decide)
    obtain ⟨r1, e1, y1, n1⟩ := S 1 (by decide)
    obtain ⟨r3, e3, y3, n3⟩ := S 3 (by decide)
    obtain ⟨r4, e4, y4, n4⟩ := S 4 (by decide)
    obtain ⟨r5, e5, y5, n5⟩ := S 5 (by decide)
    obtain ⟨r6, e6, y6, n6⟩ := S 6 (by decide)
    obtain ⟨r7, e7, y7, n7⟩ := S 7 (by decide)
    have one : ¬ (1 : Int32) = 0 := by decide
    have W : ∀ j, j < 8 → say t s k j → B P 19 = nI j := fun j hj h => (u11.iff hj).mpr h
    have V : ∀ j j', j < 8 → j' < 8 → j ≠ j' → say t s k j → ¬ say t s k j' := fun j j' hj hj' hne h h' => hne (say.uni h h' (by omega) (by omega))
    have badO : ∀ v, (5 ≤ v ∧ v ≤ 7) → bitAt (B P 23) v → two (zB (D_X3_fail Q (2 : Int32) A) fun e => some (e.1, e.2, NA)) (zB (D_X8_readOnce P (nI v) B NB) fun e => D_X8_readLine_114 P e.1 e.2.1 e.2.2) (LR Q P n t) := fun v hv hb => by
      unfold D_X8_readOnce
      rw [zB_zB]
      refine two.r (has1 hb) ?_
      rw [if_neg (by decide)]
      obtain ⟨a, f1, b, f2, f3⟩ := t_fail (NA := NA) (NB := NB) (v := 2) hK
      rw [f1, f2]
      exact t_dn2 (a := a) (b := b) f3
    have T : ∀ j : Nat, j < 8 → say t s k j → D_X8_readLine_16 P (B P 19) B NB = D_X8_readLine_16 P (nI j) B NB := fun j hj h => by rw [W j hj h]
    refine two.l e0 ?_
    by_cases s0 : say t s k 0
    · rw [y0 s0, if_neg one, T 0 (by decide) s0, m16_0, c4]
      by_cases hU : U < 5
      · rw [if_neg (by intro z; exact absurd ((leL (x := 5) (a := 5) (by decide) (by decide) (by omega)).mp z) (by omega))]
        unfold D_X3_readLine_32
        rw [zB_eta]
        exact l_unit hX hY hnx hC hM hR hO hF hU
      · rw [if_pos (by exact (leL (x := 5) (a := 5) (by decide) (by decide) (by omega)).mpr (by omega))]
        unfold D_X8_readUnit
        rw [if_pos (by rw [c5, show U = 5 by omega]; decide)]
        obtain ⟨a, f1, b, f2, f3⟩ := t_fail (NA := NA) (NB := NB) (v := 2) hK
        unfold D_X3_readLine_32
        rw [f1, f2]
        exact t_dn2 (a := a) (b := b) f3
    rw [n0 s0, if_pos rfl]
    refine two.l e1 ?_
    by_cases s1 : say t s k 1
    · rw [y1 s1, if_neg one, T 1 (by decide) s1, m16_1, c6]
      by_cases hH : H < 10
      · rw [if_neg (by intro z; exact absurd ((leL (x := 10) (a := 10) (by decide) (by decide) (by omega)).mp z) (by omega))]
        unfold D_X3_readLine_66
        rw [zB_eta]
        exact l_hunter hX hY hnx hC hM hR hO hF hH
      · rw [if_pos (by exact (leL (x := 10) (a := 10) (by decide) (by decide) (by omega)).mpr (by omega))]
        unfold D_X8_readHunter
        rw [if_pos (by rw [c7, show H = 10 by omega]; decide)]
        obtain ⟨a, f1, b, f2, f3⟩ := t_fail (NA := NA) (NB := NB) (v := 2) hK
        unfold D_X3_readLine_66
        rw [f1, f2]
        exact t_dn2 (a := a) (b := b) f3
    rw [n1 s1, if_pos rfl]
    refine two.l e3 ?_
    by_cases s3 : say t s k 3
    · rw [y3 s3, if_neg one, T 3 (by decide) s3, m16_3, c8]
      by_cases hG : G < 4
      · rw [if_neg (by intro z; exact absurd ((leL (x := 4) (a := 4) (by decide) (by decide) (by omega)).mp z) (by omega))]
        unfold D_X3_readLine_99
        rw [zB_eta]
        exact l_party hX hY hnx hC hM hR hO hF hG
      · rw [if_pos (by exact (leL (x := 4) (a := 4) (by decide) (by decide) (by omega)).mpr (by omega))]
        unfold D_X8_readParty
        rw [if_pos (by rw [c9, show G = 4 by omega]; decide)]
        obtain ⟨a, f1, b, f2, f3⟩ := t_fail (NA := NA) (NB := NB) (v := 2) hK
        unfold D_X3_readLine_99
        rw [f1, f2]
        exact t_dn2 (a := a) (b := b) f3
    rw [n3 s3, if_pos rfl]
    refine two.l e4 ?_
    by_cases s4 : say t s k 4
    · rw [y4 s4, if_neg one, T 4 (by decide) s4, m16_4, zB_eta]
      exact l_asks hX hY hnx hC hM hR hO hF
    rw [n4 s4, if_pos rfl]
    refine two.l e5 ?_
    by_cases s5 : say t s k 5
    · rw [y5 s5, if_neg one, T 5 (by decide) s5, m16_5]
      unfold D_X8_readLine_96
      rw [W 5 (by decide) s5]
      by_cases hT : A Q 11 = 0
      · rw [if_pos hT]
        unfold D_X3_readLine_142
        rw [zB_eta]
        exact l_law hX hY hnx hC hM hR hO hF hT
      · rw [if_neg hT]
        exact badO 5 (by decide) (Classical.byContradiction (fun z => hT (hO.1.mpr z)))
    rw [n5 s5, if_pos rfl]
    refine two.l e6 ?_
    by_cases s6 : say t s k 6
    · rw [y6 s6, if_neg one, T 6 (by decide) s6, m16_6]
      unfold D_X8_readLine_96
      rw [W 6 (by decide) s6]
      by_cases hT : A Q 12 = 0
      · rw [if_pos hT]
        unfold D_X3_readLine_171
        rw [zB_eta]
        exact l_prefer hX hY hnx hC hM hR hO hF hT
      · rw [if_neg hT]
        exact badO 6 (by decide) (Classical.byContradiction (fun z => hT (hO.2.1.mpr z)))
    rw [n6 s6, if_pos rfl]
    refine two.l e7 ?_
    by_cases s7 : say t s k 7
    · rw [y7 s7, if_neg one, T 7 (by decide) s7, m16_7]
      unfold D_X8_readLine_96
      rw [W 7 (by decide) s7]
      by_cases hT : A Q 13 = 0
      · rw [if_pos hT]
        unfold D_X3_readLine_200
        rw [zB_eta]
        exact l_guests hX hY hnx hC hM hR hO hF hT
      · rw [if_neg hT]
        exact badO 7 (by decide) (Classical.byContradiction (fun z => hT (hO.2.2.1.mpr z)))
    rw [n7 s7, if_pos rfl]
    -- a word that begins no line
    have w19 : D_X8_readLine_16 P (B P 19) B NB = D_X8_readLine_108 P B NB := by
      rcases u11 with ⟨j, j1, j2, j3⟩ | ⟨j1, j2⟩
      · have : j = 0 ∨ j = 1 ∨ j = 2 ∨ j = 3 ∨ j = 4 ∨ j = 5 ∨ j = 6 ∨ j = 7 := by omega
        rcases this with rfl | rfl | rfl | rfl | rfl | rfl | rfl | rfl
        · exact absurd j3 s0
        · exact absurd j3 s1
        · rw [j2]
          unfold D_X8_readLine_16
          rw [if_neg (by decide), if_neg (by decide), if_pos (by decide)]
        · exact absurd j3 s3
        · exact absurd j3 s4
        · exact absurd j3 s5
        · exact absurd j3 s6
        · exact absurd j3 s7
      · rw [j1]
        unfold D_X8_readLine_16
        rw [if_neg (by decide), if_neg (by decide), if_neg (by decide), if_neg (by decide), if_neg (by decide), if_neg (by decide), if_neg (by decide), if_neg (by decide)]
    rw [w19]
    exact bad
  · rw [if_neg (fun z => q6 (w61.mpr z))]
    have w16 : D_X8_readLine_16 P (-1 : Int32) B NB = D_X8_readLine_108 P B NB := by
      unfold D_X8_readLine_16
      rw [if_neg (by decide), if_neg (by decide), if_neg (by decide), if_neg (by decide), if_neg (by decide), if_neg (by decide), if_neg (by decide), if_neg (by decide)]
    rw [w16]
    refine two.l (c_says0 q6) ?_
    rw [if_pos rfl]
    refine two.l (c_says0 q6) ?_
    rw [if_pos rfl]
    refine two.l (c_says0 q6) ?_
    rw [if_pos rfl]
    refine two.l (c_says0 q6) ?_
    rw [if_pos rfl]
    refine two.l (c_says0 q6) ?_
    rw [if_pos rfl]
    refine two.l (c_says0 q6) ?_
    rw [if_pos rfl]
    refine two.l (c_says0 q6) ?_
    rw [if_pos rfl]
    exact bad
