/-! p52: the law's load: the letters of a text, four by four, on the class's tape -/
def cN (t : List Nat) (i : Nat) : Nat := if i < t.length then t.getD i 0 else 32
def ch4 (t : List Nat) (i : Nat) : Int32 := if i < t.length then zby t i else 32
theorem ch4_nI {t : List Nat} {i : Nat} : ch4 t i = nI (cN t i) := by
  unfold ch4 cN
  by_cases h : i < t.length
  · rw [if_pos h, if_pos h]; rfl
  · rw [if_neg h, if_neg h]; rfl
theorem cN_lt {t : List Nat} {i : Nat} (h : ∀ x, x ∈ t → x < 128) : cN t i < 128 := by
  unfold cN
  by_cases hi : i < t.length
  · rw [if_pos hi]
    refine h _ ?_
    rw [List.getD_eq_getElem?_getD, List.getElem?_eq_getElem hi]
    exact List.getElem_mem hi
  · rw [if_neg hi]; decide
def ac4 (t : List Nat) : Nat → Nat → Int32 → Int32
  | 0, _, v => v
  | d + 1, i, v => ac4 t d (i + 1) ((v <<< ((8 : Int32) &&& 31)) ||| ch4 t i)
def fr4 (t : List Nat) (k : Nat) : Int32 := ac4 t 4 k 0
theorem sh8 {V x : Nat} (hV : V < 8388608) (hx : x < 256) : (nI V <<< ((8 : Int32) &&& 31)) ||| nI x = nI (V * 256 + x) := by
  refine Int32.toBitVec_inj.mp ?_
  rw [Int32.toBitVec_or, Int32.toBitVec_shiftLeft, show ((8 : Int32) &&& 31).toBitVec.smod 32 = 8#32 by decide]
  refine BitVec.eq_of_toNat_eq ?_
  rw [BitVec.toNat_or, BitVec.shiftLeft_eq', BitVec.toNat_shiftLeft]
  show ((V % 2 ^ 32) <<< 8) % 2 ^ 32 ||| x % 2 ^ 32 = (V * 256 + x) % 2 ^ 32
  rw [Nat.mod_eq_of_lt (show V < 2 ^ 32 by omega), Nat.mod_eq_of_lt (show x < 2 ^ 32 by omega), Nat.mod_eq_of_lt (show V <<< 8 < 2 ^ 32 by rw [Nat.shiftLeft_eq]; omega), ← Nat.shiftLeft_add_eq_or_of_lt (show x < 2 ^ 8 by omega), Nat.shiftLeft_eq, Nat.mod_eq_of_lt (by omega)]
theorem bt_nI {V k : Nat} {s : Int32} (hV : V < 2147483648) (hs : ((Int32.toUInt32 s &&& Int32.toUInt32 31) % 32).toBitVec = BitVec.ofNat 32 k) (hk : k < 32) : bt (nI V) s = nI (V / 2 ^ k % 256) := by
  refine Int32.toBitVec_inj.mp ?_
  have h : (bt (nI V) s).toBitVec = ((nI V).toBitVec >>> ((Int32.toUInt32 s &&& Int32.toUInt32 31) % 32).toBitVec) &&& 255#32 := rfl
  rw [h, hs]
  refine BitVec.eq_of_toNat_eq ?_
  rw [BitVec.toNat_and, BitVec.ushiftRight_eq', BitVec.toNat_ushiftRight]
  show (V % 2 ^ 32) >>> (k % 2 ^ 32) &&& (2 ^ 8 - 1) = (V / 2 ^ k % 256) % 2 ^ 32
  rw [Nat.and_two_pow_sub_one_eq_mod, Nat.mod_eq_of_lt (show V < 2 ^ 32 by omega), Nat.mod_eq_of_lt (show k < 2 ^ 32 by omega), Nat.shiftRight_eq_div_pow, Nat.mod_eq_of_lt (show V / 2 ^ k % 256 < 2 ^ 32 by omega)]
theorem fr4_nI {t : List Nat} {k : Nat} (h : ∀ x, x ∈ t → x < 128) : fr4 t k = nI (((cN t k * 256 + cN t (k + 1)) * 256 + cN t (k + 2)) * 256 + cN t (k + 3)) := by
  have h0 := cN_lt (i := k) h
  have h1 := cN_lt (i := k + 1) h
  have h2 := cN_lt (i := k + 2) h
  have h3 := cN_lt (i := k + 3) h
  show (((((((0 : Int32) <<< ((8 : Int32) &&& 31)) ||| ch4 t k) <<< ((8 : Int32) &&& 31)) ||| ch4 t (k + 1)) <<< ((8 : Int32) &&& 31) ||| ch4 t (k + 2)) <<< ((8 : Int32) &&& 31)) ||| ch4 t (k + 3) = _
  rw [ch4_nI, ch4_nI, ch4_nI, ch4_nI, show (0 : Int32) = nI 0 by decide, sh8 (by omega) (by omega), sh8 (by omega) (by omega), sh8 (by omega) (by omega), sh8 (by omega) (by omega), Nat.zero_mul, Nat.zero_add]
theorem b4_fr {t : List Nat} {k i : Nat} (h : ∀ x, x ∈ t → x < 128) (hi : i < 4) : b4 (fr4 t k) i = nI (cN t (k + i)) := by
  have h0 := cN_lt (i := k) h
  have h1 := cN_lt (i := k + 1) h
  have h2 := cN_lt (i := k + 2) h
  have h3 := cN_lt (i := k + 3) h
  rw [fr4_nI h]
  generalize e0 : cN t k = a0 at h0 ⊢
  generalize e1 : cN t (k + 1) = a1 at h1 ⊢
  generalize e2 : cN t (k + 2) = a2 at h2 ⊢
  generalize e3 : cN t (k + 3) = a3 at h3 ⊢
  rcases (show i = 0 ∨ i = 1 ∨ i = 2 ∨ i = 3 by omega) with rfl | rfl | rfl | rfl
  · show bt _ 24 = nI (cN t k)
    rw [bt_nI (k := 24) (by omega) (by decide) (by omega), e0]
    exact congrArg nI (by omega)
  · show bt _ 16 = nI (cN t (k + 1))
    rw [bt_nI (k := 16) (by omega) (by decide) (by omega), e1]
    exact congrArg nI (by omega)
  · show bt _ 8 = nI (cN t (k + 2))
    rw [bt_nI (k := 8) (by omega) (by decide) (by omega), e2]
    exact congrArg nI (by omega)
  · show bt _ 0 = nI (cN t (k + 3))
    rw [bt_nI (k := 0) (by omega) (by decide) (by omega), e3]
    exact congrArg nI (by omega)
/-- twenty letters more on the tape -/
theorem fd_20 {C m k : Nat} {t : List Nat} {A : zMt} (h : ∀ x, x ∈ t → x < 128) (h1 : A C 1 = nI m) (hm : m + 20 ≤ 700) : ∃ e, D_X7_feed C (fr4 t k) (fr4 t (k + 4)) (fr4 t (k + 8)) (fr4 t (k + 12)) (fr4 t (k + 16)) A = some e ∧ e.2 C 1 = nI (m + 20) ∧ (∀ i, i < 20 → e.2 (C + 1) (m + i) = nI (cN t (k + i))) ∧ (∀ r j, ¬ (r = C ∧ j = 1) → ¬ (r = C + 1 ∧ m ≤ j ∧ j < m + 20) → e.2 r j = A r j) := by
  obtain ⟨A1, a1, b1, c1, d1⟩ := c_append (v := fr4 t k) h1 (by omega)
  obtain ⟨A2, a2, b2, c2, d2⟩ := c_append (v := fr4 t (k + 4)) b1 (by omega)
  obtain ⟨A3, a3, b3, c3, d3⟩ := c_append (v := fr4 t (k + 8)) b2 (by omega)
  obtain ⟨A4, a4, b4', c4, d4⟩ := c_append (v := fr4 t (k + 12)) b3 (by omega)
  obtain ⟨A5, a5, b5, c5, d5⟩ := c_append (v := fr4 t (k + 16)) b4' (by omega)
  unfold D_X7_feed
  rw [h1, if_pos (show nI m + (20 : Int32) ≤ (700 : Int32) by
    rw [show (20 : Int32) = nI 20 by decide, nI_add]
    exact (nI_leI (a := m + 20) (b := 700) (by omega) (by omega)).mpr hm), zB_s a1, zB_s a2, zB_s a3, zB_s a4, zB_s a5]
  refine ⟨_, rfl, b5, fun i hi => ?_, fun r j q1 q2 => ?_⟩
  · show A5 (C + 1) (m + i) = _
    have q : ∀ x, x < 4 → (∃ y, i = x + 4 * y ∧ y < 5) → True := fun _ _ _ => trivial
    by_cases z1 : i < 4
    · rw [d5 _ _ (by omega) (by omega), d4 _ _ (by omega) (by omega), d3 _ _ (by omega) (by omega), d2 _ _ (by omega) (by omega), c1 i z1, b4_fr h z1]
    · by_cases z2 : i < 8
      · obtain ⟨x, rfl⟩ : ∃ x, i = 4 + x := ⟨i - 4, by omega⟩
        rw [d5 _ _ (by omega) (by omega), d4 _ _ (by omega) (by omega), d3 _ _ (by omega) (by omega), ← Nat.add_assoc, c2 x (by omega), b4_fr h (by omega), Nat.add_assoc]
      · by_cases z3 : i < 12
        · obtain ⟨x, rfl⟩ : ∃ x, i = 8 + x := ⟨i - 8, by omega⟩
          rw [d5 _ _ (by omega) (by omega), d4 _ _ (by omega) (by omega), show m + (8 + x) = m + 4 + 4 + x by omega, c3 x (by omega), b4_fr h (by omega), Nat.add_assoc]
        · by_cases z4 : i < 16
          · obtain ⟨x, rfl⟩ : ∃ x, i = 12 + x := ⟨i - 12, by omega⟩
            rw [d5 _ _ (by omega) (by omega), show m + (12 + x) = m + 4 + 4 + 4 + x by omega, c4 x (by omega), b4_fr h (by omega), Nat.add_assoc]
          · obtain ⟨x, rfl⟩ : ∃ x, i = 16 + x := ⟨i - 16, by omega⟩
            rw [show m + (16 + x) = m + 4 + 4 + 4 + 4 + x by omega, c5 x (by omega), b4_fr h (by omega), Nat.add_assoc]
  · show A5 r j = A r j
    rw [d5 r j q1 (by omega), d4 r j q1 (by omega), d3 r j q1 (by omega), d2 r j q1 (by omega), d1 r j q1 (by omega)]
/-- a text is not touched by what is written to the class's object and its tape -/
theorem zTx.fed {G : zG} {L : List zC} {M M' : zMt} {N N' : zNt} {C v : Nat} {t : List Nat} (hC : LX7 L C) (hk : ∀ a, a ≠ C → a ≠ C + 1 → M' a = M a) (h : zTx G (L, M, N) v t) : zTx G (L, M', N') v t := by
  rcases h with h | ⟨hv, j, q1, q2, q3, q4, q5⟩
  · exact Or.inl h
  · have o1 := hC.2.1
    have o2 := hC.2.2.1
    have q1' : L[v]? = some (0, 9, [(2, j), (0, 0), (0, 0), (0, 0)]) := q1
    have q4' : L[j]? = some (2, t.length, []) := q4
    have n1 : v ≠ C := fun e => by rw [e, o1] at q1'; cases q1'
    have n2 : v ≠ C + 1 := fun e => by rw [e, o2] at q1'; cases q1'
    have n3 : j ≠ C := fun e => by rw [e, o1] at q4'; cases q4'
    have n4 : j ≠ C + 1 := fun e => by rw [e, o2] at q4'; cases q4'
    exact Or.inr ⟨hv, j, q1, q2, by show M' v 1 = _; rw [hk v n1 n2]; exact q3, q4, fun k hk' => by show M' j k = _; rw [hk j n3 n4]; exact q5 k hk'⟩
set_option maxRecDepth 100000 in
theorem k_four {l : Launch} {G : zG} {b : Nat} {S : zS} {v k : Nat} {t : List Nat} (hv : zTx G S v t) (ht : ∀ x, x ∈ t → x < 128) (hn : t.length ≤ 9999) (hk : k + 20 < 100000) : zM l G b yL_four cL_four 4 (some .int) 4 0 0 [.ref v, .int (nI k)] S (fun r z => r = some (.int (fr4 t k)) ∧ z = S) := by
  refine zM.of miL_four (Nat.le_of_ble_eq_true rfl) ?_
  intro p0 e s m args below meth c X hr hname
  have go : ∀ (d i : Nat) (x : Int32), i + d = k + 4 → Zw p0 l e { frames := 4, cells := 0, slots := 0, locals := 36 * 4 } s m args below meth c G b 4 (MQ below (zQ G b (fun r z => r = some (.int (ac4 t d i x)) ∧ z = S)) args s 0 0 (fun q : Nat => b ≤ q)) 0 0 4 [some (.ref v), some (.int (nI k)), some (.int x), some (.int (nI i))] [] S := by
    intro d
    induction d with
    | zero =>
      intro i x hi
      refine a_iload_n X dL_four_4 rfl ?_
      refine a_iload_n X dL_four_5 rfl ?_
      refine a_iconst (v := nI 4) X dL_four_6 (by decide) ?_
      refine a_iadd X dL_four_7 ?_
      rw [nI_add]
      refine a_icmp_ge (tgt := 41) X dL_four_8 (by decide) (fun h => ?_) (fun h => absurd ((nI_leI (by omega) (by omega)).mpr (by omega)) h)
      refine a_iload_n X dL_four_41 rfl ?_
      exact a_iret X hr dL_four_42 ⟨by decide, by decide⟩ ⟨rfl, rfl⟩
    | succ d ih =>
      intro i x hi
      have fin : ∀ y : Int32, y = ch4 t i → Zw p0 l e { frames := 4, cells := 0, slots := 0, locals := 36 * 4 } s m args below meth c G b 4 (MQ below (zQ G b (fun r z => r = some (.int (ac4 t (d + 1) i x)) ∧ z = S)) args s 0 0 (fun q : Nat => b ≤ q)) 0 0 33 [some (.ref v), some (.int (nI k)), some (.int x), some (.int (nI i))] [.int y, .int (x <<< ((8 : Int32) &&& 31))] S := fun y hy => by
        subst hy
        refine a_ior X dL_four_33 ?_
        refine a_istore_n X dL_four_34 (by decide) ?_
        refine a_iinc (v := nI (i + 1)) X dL_four_35 (by decide) rfl (by rw [show Int32.ofInt 1 = (1 : Int32) by decide, nI_add1]) ?_
        refine a_goto (tgt := 4) X dL_four_38 (by decide) ?_
        exact Zw.to2 (ih (i + 1) _ (by omega)) rfl rfl rfl
      refine a_iload_n X dL_four_4 rfl ?_
      refine a_iload_n X dL_four_5 rfl ?_
      refine a_iconst (v := nI 4) X dL_four_6 (by decide) ?_
      refine a_iadd X dL_four_7 ?_
      rw [nI_add]
      refine a_icmp_ge (tgt := 41) X dL_four_8 (by decide) (fun h => absurd ((nI_leI (by omega) (by omega)).mp h) (by omega)) (fun h => ?_)
      refine a_iload_n X dL_four_11 rfl ?_
      refine a_bipush (v := 8) X dL_four_12 (by decide) ?_
      refine a_ishl X dL_four_14 ?_
      refine a_iload_n X dL_four_15 rfl ?_
      refine a_aload_n X dL_four_16 rfl ?_
      refine a_invT X miJ0_length_8abf5 lm8_22 hv rfl rfl rfl (Nat.le_of_ble_eq_true rfl) ⟨by decide, by decide, by decide, by decide⟩ dL_four_17 (k_length0 hv) (fun r z q => ?_)
      obtain ⟨rfl, rfl⟩ := q
      refine a_icmp_ge (tgt := 31) X dL_four_20 (by decide) (fun h2 => ?_) (fun h2 => ?_)
      · have h3 : ¬ i < t.length := fun q => absurd ((nI_leI (by omega) (by omega)).mp h2) (by omega)
        refine a_bipush (v := 32) X dL_four_31 (by decide) ?_
        exact fin 32 (by unfold ch4; rw [if_neg h3])
      · have h3 : i < t.length := Nat.not_le.mp (fun q => h2 ((nI_leI (by omega) (by omega)).mpr q))
        refine a_aload_n X dL_four_23 rfl ?_
        refine a_iload_n X dL_four_24 rfl ?_
        refine a_invT X miJ0_charAt_5068e lm8_28 hv rfl rfl rfl (Nat.le_of_ble_eq_true rfl) ⟨by decide, by decide, by decide, by decide⟩ dL_four_25 (k_charAt hv h3 hn (by have := cN_lt (i := i) ht; unfold cN at this; rw [if_pos h3] at this; exact this)) (fun r z q => ?_)
        obtain ⟨rfl, rfl⟩ := q
        refine a_goto (tgt := 33) X dL_four_28 (by decide) ?_
        exact fin (zby t i) (by unfold ch4; rw [if_pos h3])
  refine a_iconst (v := 0) X dL_four_0 (by decide) ?_
  refine a_istore_n X dL_four_1 (by decide) ?_
  refine a_iload_n X dL_four_2 rfl ?_
  refine a_istore_n X dL_four_3 (by decide) ?_
  exact Zw.to2 (go 4 k 0 rfl) rfl rfl rfl
/-- the tape holds the text's letters, blanks behind -/
def tpt (C : Nat) (t : List Nat) (A0 A : zMt) (m : Nat) : Prop := A C 1 = nI m ∧ (∀ i, i < m → A (C + 1) i = nI (cN t i)) ∧ (∀ r j, ¬ (r = C ∧ j = 1) → ¬ (r = C + 1) → A r j = A0 r j)
set_option maxRecDepth 100000 in
theorem k_load52 {l : Launch} {G : zG} {b : Nat} {L : List zC} {M : zMt} {N : zNt} {C v : Nat} {t : List Nat} (hC : LX7 L C) (hv : zTx G (L, M, N) v t) (ht : ∀ x, x ∈ t → x < 128) (hn : t.length ≤ 400) (h1 : M C 1 = 0) (hL : ∀ A m, m ≤ 700 → t.length ≤ m → tpt C t M A m → ∃ r, D_X7_load C (nI t.length) A N = some r) : zM l G b yL_load cL_load 3 (some .int) 11 0 0 [.ref C, .ref v] (L, M, N) (fun r2 z => ∃ A m r, m ≤ 700 ∧ t.length ≤ m ∧ tpt C t M A m ∧ D_X7_load C (nI t.length) A N = some r ∧ r2 = some (.int r.1) ∧ z = (L, r.2.1, r.2.2)) := by
  refine zM.of miL_load (Nat.le_of_ble_eq_true rfl) ?_
  intro p0 e s m args below meth c X hr hname
  have o1 := hC.2.1
  have go : ∀ (d q : Nat) (A : zMt), t.length ≤ 20 * (q + d) → 20 * (q + d) ≤ 440 → tpt C t M A (20 * q) → Zw p0 l e { frames := 11, cells := 0, slots := 0, locals := 36 * 11 } s m args below meth c G b 3 (MQ below (zQ G b (fun r2 z => ∃ A m r, m ≤ 700 ∧ t.length ≤ m ∧ tpt C t M A m ∧ D_X7_load C (nI t.length) A N = some r ∧ r2 = some (.int r.1) ∧ z = (L, r.2.1, r.2.2))) args s 0 0 (fun q : Nat => b ≤ q)) 0 0 2 [some (.ref C), some (.ref v), some (.int (nI (20 * q)))] [] (L, A, N) := by
    intro d
    induction d with
    | zero =>
      intro q A h2 h3 hA
      have hv' : zTx G (L, A, N) v t := hv.fed hC (fun a n1 n2 => funext fun j => hA.2.2 a j (fun z => n1 z.1) n2)
      refine a_iload_n X dL_load_2 rfl ?_
      refine a_aload_n X dL_load_3 rfl ?_
      refine a_invT X miJ0_length_8abf5 lm8_22 hv' rfl rfl rfl (Nat.le_of_ble_eq_true rfl) ⟨by decide, by decide, by decide, by decide⟩ dL_load_4 (k_length0 hv') (fun r z q => ?_)
      obtain ⟨rfl, rfl⟩ := q
      refine a_icmp_ge (tgt := 57) X dL_load_7 (by decide) (fun h => ?_) (fun h => absurd ((nI_leI (by omega) (by omega)).mpr (by omega)) h)
      refine a_aload_n X dL_load_57 rfl ?_
      refine a_aload_n X dL_load_58 rfl ?_
      refine a_invT X miJ0_length_8abf5 lm8_22 hv' rfl rfl rfl (Nat.le_of_ble_eq_true rfl) ⟨by decide, by decide, by decide, by decide⟩ dL_load_59 (k_length0 hv') (fun r z q => ?_)
      obtain ⟨rfl, rfl⟩ := q
      obtain ⟨r, er⟩ := hL A (20 * q) (by omega) (by omega) hA
      refine a_callVv X dL_load_62 miX7_load lm8_42 (t_X7_load hC er) o1 rfl rfl rfl (Nat.le_of_ble_eq_true rfl) ⟨by decide, by decide, by decide, by decide⟩ ?_
      exact a_iret X hr dL_load_65 ⟨by decide, by decide⟩ ⟨A, 20 * q, r, by omega, by omega, hA, er, rfl, rfl⟩
    | succ d ih =>
      intro q A h2 h3 hA
      have hv' : zTx G (L, A, N) v t := hv.fed hC (fun a n1 n2 => funext fun j => hA.2.2 a j (fun z => n1 z.1) n2)
      refine a_iload_n X dL_load_2 rfl ?_
      refine a_aload_n X dL_load_3 rfl ?_
      refine a_invT X miJ0_length_8abf5 lm8_22 hv' rfl rfl rfl (Nat.le_of_ble_eq_true rfl) ⟨by decide, by decide, by decide, by decide⟩ dL_load_4 (k_length0 hv') (fun r z q => ?_)
      obtain ⟨rfl, rfl⟩ := q
      refine a_icmp_ge (tgt := 57) X dL_load_7 (by decide) (fun h => ?_) (fun h => ?_)
      · have h4 := (nI_leI (by omega) (by omega)).mp h
        refine a_aload_n X dL_load_57 rfl ?_
        refine a_aload_n X dL_load_58 rfl ?_
        refine a_invT X miJ0_length_8abf5 lm8_22 hv' rfl rfl rfl (Nat.le_of_ble_eq_true rfl) ⟨by decide, by decide, by decide, by decide⟩ dL_load_59 (k_length0 hv') (fun r z q => ?_)
        obtain ⟨rfl, rfl⟩ := q
        obtain ⟨r, er⟩ := hL A (20 * q) (by omega) (by omega) hA
        refine a_callVv X dL_load_62 miX7_load lm8_42 (t_X7_load hC er) o1 rfl rfl rfl (Nat.le_of_ble_eq_true rfl) ⟨by decide, by decide, by decide, by decide⟩ ?_
        exact a_iret X hr dL_load_65 ⟨by decide, by decide⟩ ⟨A, 20 * q, r, by omega, by omega, hA, er, rfl, rfl⟩
      · refine a_aload_n X dL_load_10 rfl ?_
        refine a_aload_n X dL_load_11 rfl ?_
        refine a_iload_n X dL_load_12 rfl ?_
        refine a_callSv X dL_load_13 miL_four lm8_32 (k_four hv' ht (by omega) (by omega)) rfl rfl (Nat.le_of_ble_eq_true rfl) ⟨by decide, by decide, by decide, by decide⟩ ?_
        refine a_aload_n X dL_load_16 rfl ?_
        refine a_iload_n X dL_load_17 rfl ?_
        refine a_iconst (v := nI 4) X dL_load_18 (by decide) ?_
        refine a_iadd X dL_load_19 ?_
        rw [nI_add]
        refine a_callSv X dL_load_20 miL_four lm8_32 (k_four hv' ht (by omega) (by omega)) rfl rfl (Nat.le_of_ble_eq_true rfl) ⟨by decide, by decide, by decide, by decide⟩ ?_
        refine a_aload_n X dL_load_23 rfl ?_
        refine a_iload_n X dL_load_24 rfl ?_
        refine a_bipush (v := nI 8) X dL_load_25 (by decide) ?_
        refine a_iadd X dL_load_27 ?_
        rw [nI_add]
        refine a_callSv X dL_load_28 miL_four lm8_32 (k_four hv' ht (by omega) (by omega)) rfl rfl (Nat.le_of_ble_eq_true rfl) ⟨by decide, by decide, by decide, by decide⟩ ?_
        refine a_aload_n X dL_load_31 rfl ?_
        refine a_iload_n X dL_load_32 rfl ?_
        refine a_bipush (v := nI 12) X dL_load_33 (by decide) ?_
        refine a_iadd X dL_load_35 ?_
        rw [nI_add]
        refine a_callSv X dL_load_36 miL_four lm8_32 (k_four hv' ht (by omega) (by omega)) rfl rfl (Nat.le_of_ble_eq_true rfl) ⟨by decide, by decide, by decide, by decide⟩ ?_
        refine a_aload_n X dL_load_39 rfl ?_
        refine a_iload_n X dL_load_40 rfl ?_
        refine a_bipush (v := nI 16) X dL_load_41 (by decide) ?_
        refine a_iadd X dL_load_43 ?_
        rw [nI_add]
        refine a_callSv X dL_load_44 miL_four lm8_32 (k_four hv' ht (by omega) (by omega)) rfl rfl (Nat.le_of_ble_eq_true rfl) ⟨by decide, by decide, by decide, by decide⟩ ?_
        obtain ⟨e5, f1, f2, f3, f4⟩ := fd_20 (k := 20 * q) ht hA.1 (by omega)
        refine a_callVv X dL_load_47 miX7_feed lm8_36 (t_X7_feed hC f1) o1 rfl rfl rfl (Nat.le_of_ble_eq_true rfl) ⟨by decide, by decide, by decide, by decide⟩ ?_
        refine a_pop X dL_load_50 rfl ?_
        refine a_iinc (v := nI (20 * (q + 1))) X dL_load_51 (by decide) rfl (by rw [show 20 * (q + 1) = 20 * q + 20 by omega, ← nI_add]; rfl) ?_
        refine a_goto (tgt := 2) X dL_load_54 (by decide) ?_
        refine Zw.to2 (ih (q + 1) e5.2 (by omega) (by omega) ⟨?_, fun i hi => ?_, fun r j q1 q2 => (f4 r j q1 (fun z => q2 z.1)).trans (hA.2.2 r j q1 q2)⟩) rfl rfl rfl
        · rw [f2, show 20 * (q + 1) = 20 * q + 20 by omega]
        · by_cases z : i < 20 * q
          · rw [f4 _ _ (by omega) (by omega)]
            exact hA.2.1 i z
          · obtain ⟨x, rfl⟩ : ∃ x, i = 20 * q + x := ⟨i - 20 * q, by omega⟩
            exact f3 x (by omega)
  refine a_iconst (v := nI 0) X dL_load_0 (by decide) ?_
  refine a_istore_n X dL_load_1 (by decide) ?_
  exact Zw.to2 (go 22 0 M (by omega) (by omega) ⟨h1, fun i hi => absurd hi (Nat.not_lt_zero i), fun _ _ _ _ => rfl⟩) rfl rfl rfl
