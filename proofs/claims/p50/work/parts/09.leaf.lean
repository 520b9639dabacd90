theorem zcpy_row {α : Type} {M : Nat → Nat → α} {P n a : Nat} {g : Nat → α} (h : a ≠ P) : zcpy M P n g a = M a := by
  funext j
  exact if_neg (fun q => h q.1)
theorem zcpy_s2 {α : Type} {M : Nat → Nat → α} {P n : Nat} {g : Nat → α} : zu (zcpy M P n g) P n (g n) = zcpy M P (n + 1) g := zcpy_s
def zsum (f : Nat → Int32) : Nat → Int32
  | 0 => 0
  | n + 1 => zsum f n + f n
theorem zsum_s (f : Nat → Int32) (n : Nat) : zsum f (n + 1) = zsum f n + f n := rfl
set_option maxRecDepth 100000 in
theorem c_cell {l : Launch} {G : zG} {b : Nat} {S : zS} {P n : Nat} {fs : List (Nat × Nat)} {i : Int32} (hP : S.1[P]? = some (1, n, fs)) (hn : n < 2 ^ 31) : zM l G b yX7_cell cX7_cell 2 (some .int) 0 0 0 [.ref P, .int i] S (fun r z => r = some (.int (zrd 0 (S.2.1 P) n i)) ∧ z = S) := by
  refine zM.of miX7_cell (Nat.le_of_ble_eq_true rfl) ?_
  intro p e s m args below meth c X hr hname
  generalize hF : ((fun r z => r = some (.int (zrd 0 (S.2.1 P) n i)) ∧ z = S) : Option Value → zS → Prop) = FQ
  change Zw p l e { frames := 0, cells := 0, slots := 0, locals := 80 * 0 } s m args below meth c G b 2 (MQ below (zQ G b FQ) args s 0 0 (fun q : Nat => b ≤ q)) 0 0 0 [some (.ref P), some (.int i)] [] S
  refine a_iload_n X dX7_cell_0 rfl ?_
  refine a_if_lt (tgt := 16) X dX7_cell_1 (by decide) (fun h_1 => ?_) (fun h_1 => ?_)
  · refine a_iconst (v := 0) X dX7_cell_16 (by decide) ?_
    refine a_iret X hr dX7_cell_17 ⟨by decide, by decide⟩ ?_
    subst hF
    first | exact ⟨by rw [zrd_a h_1], rfl⟩ | exact ⟨by rw [zrd_b hn h_1 h_7], rfl⟩ | exact ⟨by rw [zrd_c hn h_1 h_7], rfl⟩
  · refine a_iload_n X dX7_cell_4 rfl ?_
    refine a_aload_n X dX7_cell_5 rfl ?_
    refine a_alen X (by assumption) (by decide) dX7_cell_6 ?_
    refine a_icmp_ge (tgt := 16) X dX7_cell_7 (by decide) (fun h_7 => ?_) (fun h_7 => ?_)
    · refine a_iconst (v := 0) X dX7_cell_16 (by decide) ?_
      refine a_iret X hr dX7_cell_17 ⟨by decide, by decide⟩ ?_
      subst hF
      first | exact ⟨by rw [zrd_a h_1], rfl⟩ | exact ⟨by rw [zrd_b hn h_1 h_7], rfl⟩ | exact ⟨by rw [zrd_c hn h_1 h_7], rfl⟩
    · refine a_aload_n X dX7_cell_10 rfl ?_
      refine a_iload_n X dX7_cell_11 rfl ?_
      refine a_iaload X (by assumption) (z_in hn h_1 h_7) dX7_cell_12 ?_
      refine a_goto (tgt := 17) X dX7_cell_13 (by decide) ?_
      refine a_iret X hr dX7_cell_17 ⟨by decide, by decide⟩ ?_
      subst hF
      first | exact ⟨by rw [zrd_a h_1], rfl⟩ | exact ⟨by rw [zrd_b hn h_1 h_7], rfl⟩ | exact ⟨by rw [zrd_c hn h_1 h_7], rfl⟩
set_option maxRecDepth 100000 in
theorem c_bigCell {l : Launch} {G : zG} {b : Nat} {S : zS} {P n : Nat} {fs : List (Nat × Nat)} {i : Int32} (hP : S.1[P]? = some (3, n, fs)) (hn : n < 2 ^ 31) : zM l G b yX7_bigCell cX7_bigCell 2 (some .long) 0 0 0 [.ref P, .int i] S (fun r z => r = some (.long (zrd 0 (S.2.2 P) n i)) ∧ z = S) := by
  refine zM.of miX7_bigCell (Nat.le_of_ble_eq_true rfl) ?_
  intro p e s m args below meth c X hr hname
  generalize hF : ((fun r z => r = some (.long (zrd 0 (S.2.2 P) n i)) ∧ z = S) : Option Value → zS → Prop) = FQ
  change Zw p l e { frames := 0, cells := 0, slots := 0, locals := 80 * 0 } s m args below meth c G b 2 (MQ below (zQ G b FQ) args s 0 0 (fun q : Nat => b ≤ q)) 0 0 0 [some (.ref P), some (.int i)] [] S
  refine a_iload_n X dX7_bigCell_0 rfl ?_
  refine a_if_lt (tgt := 16) X dX7_bigCell_1 (by decide) (fun h_1 => ?_) (fun h_1 => ?_)
  · refine a_lconst (v := 0) X dX7_bigCell_16 (by decide) ?_
    refine a_lret X hr dX7_bigCell_17 ⟨by decide, by decide⟩ ?_
    subst hF
    first | exact ⟨by rw [zrd_a h_1], rfl⟩ | exact ⟨by rw [zrd_b hn h_1 h_7], rfl⟩ | exact ⟨by rw [zrd_c hn h_1 h_7], rfl⟩
  · refine a_iload_n X dX7_bigCell_4 rfl ?_
    refine a_aload_n X dX7_bigCell_5 rfl ?_
    refine a_alen X (by assumption) (by decide) dX7_bigCell_6 ?_
    refine a_icmp_ge (tgt := 16) X dX7_bigCell_7 (by decide) (fun h_7 => ?_) (fun h_7 => ?_)
    · refine a_lconst (v := 0) X dX7_bigCell_16 (by decide) ?_
      refine a_lret X hr dX7_bigCell_17 ⟨by decide, by decide⟩ ?_
      subst hF
      first | exact ⟨by rw [zrd_a h_1], rfl⟩ | exact ⟨by rw [zrd_b hn h_1 h_7], rfl⟩ | exact ⟨by rw [zrd_c hn h_1 h_7], rfl⟩
    · refine a_aload_n X dX7_bigCell_10 rfl ?_
      refine a_iload_n X dX7_bigCell_11 rfl ?_
      refine a_laload X (by assumption) (z_in hn h_1 h_7) dX7_bigCell_12 ?_
      refine a_goto (tgt := 17) X dX7_bigCell_13 (by decide) ?_
      refine a_lret X hr dX7_bigCell_17 ⟨by decide, by decide⟩ ?_
      subst hF
      first | exact ⟨by rw [zrd_a h_1], rfl⟩ | exact ⟨by rw [zrd_b hn h_1 h_7], rfl⟩ | exact ⟨by rw [zrd_c hn h_1 h_7], rfl⟩
set_option maxRecDepth 100000 in
theorem c_put {l : Launch} {G : zG} {b : Nat} {S : zS} {P n : Nat} {fs : List (Nat × Nat)} {i : Int32} {x : Int32} (hP : S.1[P]? = some (1, n, fs)) (hn : n < 2 ^ 31) : zM l G b yX7_put cX7_put 3 none 0 0 0 [.ref P, .int i, .int x] S (fun r z => r = none ∧ z = (S.1, zwr S.2.1 P n i x, S.2.2)) := by
  refine zM.of miX7_put (Nat.le_of_ble_eq_true rfl) ?_
  intro p e s m args below meth c X hr hname
  generalize hF : ((fun r z => r = none ∧ z = (S.1, zwr S.2.1 P n i x, S.2.2)) : Option Value → zS → Prop) = FQ
  change Zw p l e { frames := 0, cells := 0, slots := 0, locals := 80 * 0 } s m args below meth c G b 3 (MQ below (zQ G b FQ) args s 0 0 (fun q : Nat => b ≤ q)) 0 0 0 [some (.ref P), some (.int i), some (.int x)] [] S
  refine a_iload_n X dX7_put_0 rfl ?_
  refine a_if_lt (tgt := 14) X dX7_put_1 (by decide) (fun h_1 => ?_) (fun h_1 => ?_)
  · refine a_vret X hr dX7_put_14 ⟨by decide, by decide⟩ ?_
    subst hF
    first | exact ⟨rfl, by rw [zwr_a h_1]⟩ | exact ⟨rfl, by rw [zwr_b hn h_1 h_7]⟩ | exact ⟨rfl, by rw [zwr_c hn h_1 h_7]⟩
  · refine a_iload_n X dX7_put_4 rfl ?_
    refine a_aload_n X dX7_put_5 rfl ?_
    refine a_alen X (by assumption) (by decide) dX7_put_6 ?_
    refine a_icmp_ge (tgt := 14) X dX7_put_7 (by decide) (fun h_7 => ?_) (fun h_7 => ?_)
    · refine a_vret X hr dX7_put_14 ⟨by decide, by decide⟩ ?_
      subst hF
      first | exact ⟨rfl, by rw [zwr_a h_1]⟩ | exact ⟨rfl, by rw [zwr_b hn h_1 h_7]⟩ | exact ⟨rfl, by rw [zwr_c hn h_1 h_7]⟩
    · refine a_aload_n X dX7_put_10 rfl ?_
      refine a_iload_n X dX7_put_11 rfl ?_
      refine a_iload_n X dX7_put_12 rfl ?_
      refine a_iastore X (by assumption) (z_in hn h_1 h_7) dX7_put_13 ?_
      refine a_vret X hr dX7_put_14 ⟨by decide, by decide⟩ ?_
      subst hF
      first | exact ⟨rfl, by rw [zwr_a h_1]⟩ | exact ⟨rfl, by rw [zwr_b hn h_1 h_7]⟩ | exact ⟨rfl, by rw [zwr_c hn h_1 h_7]⟩
set_option maxRecDepth 100000 in
theorem c_bigPut {l : Launch} {G : zG} {b : Nat} {S : zS} {P n : Nat} {fs : List (Nat × Nat)} {i : Int32} {x : Int64} (hP : S.1[P]? = some (3, n, fs)) (hn : n < 2 ^ 31) : zM l G b yX7_bigPut cX7_bigPut 4 none 0 0 0 [.ref P, .int i, .long x] S (fun r z => r = none ∧ z = (S.1, S.2.1, zwr S.2.2 P n i x)) := by
  refine zM.of miX7_bigPut (Nat.le_of_ble_eq_true rfl) ?_
  intro p e s m args below meth c X hr hname
  generalize hF : ((fun r z => r = none ∧ z = (S.1, S.2.1, zwr S.2.2 P n i x)) : Option Value → zS → Prop) = FQ
  change Zw p l e { frames := 0, cells := 0, slots := 0, locals := 80 * 0 } s m args below meth c G b 4 (MQ below (zQ G b FQ) args s 0 0 (fun q : Nat => b ≤ q)) 0 0 0 [some (.ref P), some (.int i), some (.long x), none] [] S
  refine a_iload_n X dX7_bigPut_0 rfl ?_
  refine a_if_lt (tgt := 14) X dX7_bigPut_1 (by decide) (fun h_1 => ?_) (fun h_1 => ?_)
  · refine a_vret X hr dX7_bigPut_14 ⟨by decide, by decide⟩ ?_
    subst hF
    first | exact ⟨rfl, by rw [zwr_a h_1]⟩ | exact ⟨rfl, by rw [zwr_b hn h_1 h_7]⟩ | exact ⟨rfl, by rw [zwr_c hn h_1 h_7]⟩
  · refine a_iload_n X dX7_bigPut_4 rfl ?_
    refine a_aload_n X dX7_bigPut_5 rfl ?_
    refine a_alen X (by assumption) (by decide) dX7_bigPut_6 ?_
    refine a_icmp_ge (tgt := 14) X dX7_bigPut_7 (by decide) (fun h_7 => ?_) (fun h_7 => ?_)
    · refine a_vret X hr dX7_bigPut_14 ⟨by decide, by decide⟩ ?_
      subst hF
      first | exact ⟨rfl, by rw [zwr_a h_1]⟩ | exact ⟨rfl, by rw [zwr_b hn h_1 h_7]⟩ | exact ⟨rfl, by rw [zwr_c hn h_1 h_7]⟩
    · refine a_aload_n X dX7_bigPut_10 rfl ?_
      refine a_iload_n X dX7_bigPut_11 rfl ?_
      refine a_lload_n X dX7_bigPut_12 rfl ?_
      refine a_lastore X (by assumption) (z_in hn h_1 h_7) dX7_bigPut_13 ?_
      refine a_vret X hr dX7_bigPut_14 ⟨by decide, by decide⟩ ?_
      subst hF
      first | exact ⟨rfl, by rw [zwr_a h_1]⟩ | exact ⟨rfl, by rw [zwr_b hn h_1 h_7]⟩ | exact ⟨rfl, by rw [zwr_c hn h_1 h_7]⟩
set_option maxRecDepth 100000 in
theorem c_add {l : Launch} {G : zG} {b : Nat} {S : zS} {P n : Nat} {fs : List (Nat × Nat)} {i : Int32} {x : Int32} (hP : S.1[P]? = some (1, n, fs)) (hn : n < 2 ^ 31) : zM l G b yX7_add cX7_add 3 none 0 0 0 [.ref P, .int i, .int x] S (fun r z => r = none ∧ z = (S.1, zwr S.2.1 P n i (zrd 0 (S.2.1 P) n i + x), S.2.2)) := by
  refine zM.of miX7_add (Nat.le_of_ble_eq_true rfl) ?_
  intro p e s m args below meth c X hr hname
  generalize hF : ((fun r z => r = none ∧ z = (S.1, zwr S.2.1 P n i (zrd 0 (S.2.1 P) n i + x), S.2.2)) : Option Value → zS → Prop) = FQ
  change Zw p l e { frames := 0, cells := 0, slots := 0, locals := 80 * 0 } s m args below meth c G b 3 (MQ below (zQ G b FQ) args s 0 0 (fun q : Nat => b ≤ q)) 0 0 0 [some (.ref P), some (.int i), some (.int x)] [] S
  refine a_iload_n X dX7_add_0 rfl ?_
  refine a_if_lt (tgt := 17) X dX7_add_1 (by decide) (fun h_1 => ?_) (fun h_1 => ?_)
  · refine a_vret X hr dX7_add_17 ⟨by decide, by decide⟩ ?_
    subst hF
    first | exact ⟨rfl, by rw [zwr_a h_1]⟩ | exact ⟨rfl, by rw [zwr_b hn h_1 h_7]⟩ | exact ⟨rfl, by rw [zwr_c hn h_1 h_7, zrd_c hn h_1 h_7]⟩
  · refine a_iload_n X dX7_add_4 rfl ?_
    refine a_aload_n X dX7_add_5 rfl ?_
    refine a_alen X (by assumption) (by decide) dX7_add_6 ?_
    refine a_icmp_ge (tgt := 17) X dX7_add_7 (by decide) (fun h_7 => ?_) (fun h_7 => ?_)
    · refine a_vret X hr dX7_add_17 ⟨by decide, by decide⟩ ?_
      subst hF
      first | exact ⟨rfl, by rw [zwr_a h_1]⟩ | exact ⟨rfl, by rw [zwr_b hn h_1 h_7]⟩ | exact ⟨rfl, by rw [zwr_c hn h_1 h_7, zrd_c hn h_1 h_7]⟩
    · refine a_aload_n X dX7_add_10 rfl ?_
      refine a_iload_n X dX7_add_11 rfl ?_
      refine a_dup2 X dX7_add_12 rfl rfl ?_
      refine a_iaload X (by assumption) (z_in hn h_1 h_7) dX7_add_13 ?_
      refine a_iload_n X dX7_add_14 rfl ?_
      refine a_iadd X dX7_add_15 ?_
      refine a_iastore X (by assumption) (z_in hn h_1 h_7) dX7_add_16 ?_
      refine a_vret X hr dX7_add_17 ⟨by decide, by decide⟩ ?_
      subst hF
      first | exact ⟨rfl, by rw [zwr_a h_1]⟩ | exact ⟨rfl, by rw [zwr_b hn h_1 h_7]⟩ | exact ⟨rfl, by rw [zwr_c hn h_1 h_7, zrd_c hn h_1 h_7]⟩
set_option maxRecDepth 100000 in
theorem c_bigAdd {l : Launch} {G : zG} {b : Nat} {S : zS} {P n : Nat} {fs : List (Nat × Nat)} {i : Int32} {x : Int64} (hP : S.1[P]? = some (3, n, fs)) (hn : n < 2 ^ 31) : zM l G b yX7_bigAdd cX7_bigAdd 4 none 0 0 0 [.ref P, .int i, .long x] S (fun r z => r = none ∧ z = (S.1, S.2.1, zwr S.2.2 P n i (zrd 0 (S.2.2 P) n i + x))) := by
  refine zM.of miX7_bigAdd (Nat.le_of_ble_eq_true rfl) ?_
  intro p e s m args below meth c X hr hname
  generalize hF : ((fun r z => r = none ∧ z = (S.1, S.2.1, zwr S.2.2 P n i (zrd 0 (S.2.2 P) n i + x))) : Option Value → zS → Prop) = FQ
  change Zw p l e { frames := 0, cells := 0, slots := 0, locals := 80 * 0 } s m args below meth c G b 4 (MQ below (zQ G b FQ) args s 0 0 (fun q : Nat => b ≤ q)) 0 0 0 [some (.ref P), some (.int i), some (.long x), none] [] S
  refine a_iload_n X dX7_bigAdd_0 rfl ?_
  refine a_if_lt (tgt := 17) X dX7_bigAdd_1 (by decide) (fun h_1 => ?_) (fun h_1 => ?_)
  · refine a_vret X hr dX7_bigAdd_17 ⟨by decide, by decide⟩ ?_
    subst hF
    first | exact ⟨rfl, by rw [zwr_a h_1]⟩ | exact ⟨rfl, by rw [zwr_b hn h_1 h_7]⟩ | exact ⟨rfl, by rw [zwr_c hn h_1 h_7, zrd_c hn h_1 h_7]⟩
  · refine a_iload_n X dX7_bigAdd_4 rfl ?_
    refine a_aload_n X dX7_bigAdd_5 rfl ?_
    refine a_alen X (by assumption) (by decide) dX7_bigAdd_6 ?_
    refine a_icmp_ge (tgt := 17) X dX7_bigAdd_7 (by decide) (fun h_7 => ?_) (fun h_7 => ?_)
    · refine a_vret X hr dX7_bigAdd_17 ⟨by decide, by decide⟩ ?_
      subst hF
      first | exact ⟨rfl, by rw [zwr_a h_1]⟩ | exact ⟨rfl, by rw [zwr_b hn h_1 h_7]⟩ | exact ⟨rfl, by rw [zwr_c hn h_1 h_7, zrd_c hn h_1 h_7]⟩
    · refine a_aload_n X dX7_bigAdd_10 rfl ?_
      refine a_iload_n X dX7_bigAdd_11 rfl ?_
      refine a_dup2 X dX7_bigAdd_12 rfl rfl ?_
      refine a_laload X (by assumption) (z_in hn h_1 h_7) dX7_bigAdd_13 ?_
      refine a_lload_n X dX7_bigAdd_14 rfl ?_
      refine a_ladd X dX7_bigAdd_15 ?_
      refine a_lastore X (by assumption) (z_in hn h_1 h_7) dX7_bigAdd_16 ?_
      refine a_vret X hr dX7_bigAdd_17 ⟨by decide, by decide⟩ ?_
      subst hF
      first | exact ⟨rfl, by rw [zwr_a h_1]⟩ | exact ⟨rfl, by rw [zwr_b hn h_1 h_7]⟩ | exact ⟨rfl, by rw [zwr_c hn h_1 h_7, zrd_c hn h_1 h_7]⟩
set_option maxRecDepth 100000 in
theorem c_fill {l : Launch} {G : zG} {b : Nat} {S : zS} {P n : Nat} {fs : List (Nat × Nat)} {v : Int32} (hP : S.1[P]? = some (1, n, fs)) (hn : n < 2 ^ 31) : zM l G b yX7_fill cX7_fill 3 none 0 0 0 [.ref P, .int v] S (fun r z => r = none ∧ z = (S.1, zfil S.2.1 P n v, S.2.2)) := by
  refine zM.of miX7_fill (Nat.le_of_ble_eq_true rfl) ?_
  intro p e s m args below meth c X hr hname
  generalize hF : ((fun r z => r = none ∧ z = (S.1, zfil S.2.1 P n v, S.2.2)) : Option Value → zS → Prop) = FQ
  change Zw p l e { frames := 0, cells := 0, slots := 0, locals := 80 * 0 } s m args below meth c G b 3 (MQ below (zQ G b FQ) args s 0 0 (fun q : Nat => b ≤ q)) 0 0 0 [some (.ref P), some (.int v), none] [] S
  have L : ∀ (u j : Nat), n < j + u → j ≤ n → Zw p l e { frames := 0, cells := 0, slots := 0, locals := 80 * 0 } s m args below meth c G b 3 (MQ below (zQ G b FQ) args s 0 0 (fun q : Nat => b ≤ q)) 0 0 2 [some (.ref P), some (.int v), some (.int (nI j))] [] (S.1, zfil S.2.1 P j v, S.2.2) := by
    intro u
    induction u with
    | zero => intro j h1 h2; exact absurd h1 (by omega)
    | succ u ih =>
      intro j h1 h2
      refine a_iload_n X dX7_fill_2 rfl ?_
      refine a_aload_n X dX7_fill_3 rfl ?_
      refine a_alen X (by assumption) (by decide) dX7_fill_4 ?_
      refine a_icmp_ge (tgt := 18) X dX7_fill_5 (by decide) (fun h_5 => ?_) (fun h_5 => ?_)
      · refine a_vret X hr dX7_fill_18 ⟨by decide, by decide⟩ ?_
        have hj : j = n := by have := (nI_leI hn (by omega)).mp h_5; omega
        subst hj
        subst hF
        exact ⟨rfl, rfl⟩
      · have hj : j < n := Nat.not_le.mp (fun q => h_5 ((nI_leI hn (by omega)).mpr q))
        refine a_aload_n X dX7_fill_8 rfl ?_
        refine a_iload_n X dX7_fill_9 rfl ?_
        refine a_iload_n X dX7_fill_10 rfl ?_
        refine a_iastore X (by assumption) (vp_in_nI hj hn) dX7_fill_11 ?_
        refine a_iinc (v := nI (j + 1)) X dX7_fill_12 (by decide) rfl (nI_1 j) ?_
        refine a_goto (tgt := 2) X dX7_fill_15 (by decide) ?_
        exact Zw.to (ih (j + 1) (by omega) (by omega)) rfl (by show (S.1, zfil S.2.1 P (j + 1) v, S.2.2) = (S.1, zu (zfil S.2.1 P j v) P (nI j).toNatClampNeg v, S.2.2); rw [nI_clamp (by omega), zfil_s])
  refine a_iconst (v := 0) X dX7_fill_0 (by decide) ?_
  refine a_istore_n X dX7_fill_1 (by decide) ?_
  exact Zw.to (L (n + 1) 0 (by omega) (by omega)) rfl (by rw [zfil_0])
set_option maxRecDepth 100000 in
theorem c_bigFill {l : Launch} {G : zG} {b : Nat} {S : zS} {P n : Nat} {fs : List (Nat × Nat)} {v : Int64} (hP : S.1[P]? = some (3, n, fs)) (hn : n < 2 ^ 31) : zM l G b yX7_bigFill cX7_bigFill 4 none 0 0 0 [.ref P, .long v] S (fun r z => r = none ∧ z = (S.1, S.2.1, zfil S.2.2 P n v)) := by
  refine zM.of miX7_bigFill (Nat.le_of_ble_eq_true rfl) ?_
  intro p e s m args below meth c X hr hname
  generalize hF : ((fun r z => r = none ∧ z = (S.1, S.2.1, zfil S.2.2 P n v)) : Option Value → zS → Prop) = FQ
  change Zw p l e { frames := 0, cells := 0, slots := 0, locals := 80 * 0 } s m args below meth c G b 4 (MQ below (zQ G b FQ) args s 0 0 (fun q : Nat => b ≤ q)) 0 0 0 [some (.ref P), some (.long v), none, none] [] S
  have L : ∀ (u j : Nat), n < j + u → j ≤ n → Zw p l e { frames := 0, cells := 0, slots := 0, locals := 80 * 0 } s m args below meth c G b 4 (MQ below (zQ G b FQ) args s 0 0 (fun q : Nat => b ≤ q)) 0 0 2 [some (.ref P), some (.long v), none, some (.int (nI j))] [] (S.1, S.2.1, zfil S.2.2 P j v) := by
    intro u
    induction u with
    | zero => intro j h1 h2; exact absurd h1 (by omega)
    | succ u ih =>
      intro j h1 h2
      refine a_iload_n X dX7_bigFill_2 rfl ?_
      refine a_aload_n X dX7_bigFill_3 rfl ?_
      refine a_alen X (by assumption) (by decide) dX7_bigFill_4 ?_
      refine a_icmp_ge (tgt := 18) X dX7_bigFill_5 (by decide) (fun h_5 => ?_) (fun h_5 => ?_)
      · refine a_vret X hr dX7_bigFill_18 ⟨by decide, by decide⟩ ?_
        have hj : j = n := by have := (nI_leI hn (by omega)).mp h_5; omega
        subst hj
        subst hF
        exact ⟨rfl, rfl⟩
      · have hj : j < n := Nat.not_le.mp (fun q => h_5 ((nI_leI hn (by omega)).mpr q))
        refine a_aload_n X dX7_bigFill_8 rfl ?_
        refine a_iload_n X dX7_bigFill_9 rfl ?_
        refine a_lload_n X dX7_bigFill_10 rfl ?_
        refine a_lastore X (by assumption) (vp_in_nI hj hn) dX7_bigFill_11 ?_
        refine a_iinc (v := nI (j + 1)) X dX7_bigFill_12 (by decide) rfl (nI_1 j) ?_
        refine a_goto (tgt := 2) X dX7_bigFill_15 (by decide) ?_
        exact Zw.to (ih (j + 1) (by omega) (by omega)) rfl (by show (S.1, S.2.1, zfil S.2.2 P (j + 1) v) = (S.1, S.2.1, zu (zfil S.2.2 P j v) P (nI j).toNatClampNeg v); rw [nI_clamp (by omega), zfil_s])
  refine a_iconst (v := 0) X dX7_bigFill_0 (by decide) ?_
  refine a_istore_n X dX7_bigFill_1 (by decide) ?_
  exact Zw.to (L (n + 1) 0 (by omega) (by omega)) rfl (by rw [zfil_0])
set_option maxRecDepth 100000 in
theorem c_copy {l : Launch} {G : zG} {b : Nat} {S : zS} {F2 P n n2 : Nat} {fs f2 : List (Nat × Nat)} (hP : S.1[P]? = some (1, n, fs)) (hF2 : S.1[F2]? = some (1, n2, f2)) (hn : n < 2 ^ 31) (hn2 : n2 < 2 ^ 31) (hne : F2 ≠ P) : zM l G b yX7_copy cX7_copy 3 none 1 0 0 [.ref F2, .ref P] S (fun r z => r = none ∧ z = (S.1, zcpy S.2.1 P n (fun j => zrd 0 (S.2.1 F2) n2 (nI j)), S.2.2)) := by
  refine zM.of miX7_copy (Nat.le_of_ble_eq_true rfl) ?_
  intro p e s m args below meth c X hr hname
  generalize hF : ((fun r z => r = none ∧ z = (S.1, zcpy S.2.1 P n (fun j => zrd 0 (S.2.1 F2) n2 (nI j)), S.2.2)) : Option Value → zS → Prop) = FQ
  change Zw p l e { frames := 1, cells := 0, slots := 0, locals := 80 * 1 } s m args below meth c G b 3 (MQ below (zQ G b FQ) args s 0 0 (fun q : Nat => b ≤ q)) 0 0 0 [some (.ref F2), some (.ref P), none] [] S
  have L : ∀ (u j : Nat), n < j + u → j ≤ n → Zw p l e { frames := 1, cells := 0, slots := 0, locals := 80 * 1 } s m args below meth c G b 3 (MQ below (zQ G b FQ) args s 0 0 (fun q : Nat => b ≤ q)) 0 0 2 [some (.ref F2), some (.ref P), some (.int (nI j))] [] (S.1, zcpy S.2.1 P j (fun j => zrd 0 (S.2.1 F2) n2 (nI j)), S.2.2) := by
    intro u
    induction u with
    | zero => intro j h1 h2; exact absurd h1 (by omega)
    | succ u ih =>
      intro j h1 h2
      refine a_iload_n X dX7_copy_2 rfl ?_
      refine a_aload_n X dX7_copy_3 rfl ?_
      refine a_alen X (by assumption) (by decide) dX7_copy_4 ?_
      refine a_icmp_ge (tgt := 22) X dX7_copy_5 (by decide) (fun h_5 => ?_) (fun h_5 => ?_)
      · refine a_vret X hr dX7_copy_22 ⟨by decide, by decide⟩ ?_
        have hj : j = n := by have := (nI_leI hn (by omega)).mp h_5; omega
        subst hj
        subst hF
        exact ⟨rfl, rfl⟩
      · have hj : j < n := Nat.not_le.mp (fun q => h_5 ((nI_leI hn (by omega)).mpr q))
        refine a_aload_n X dX7_copy_8 rfl ?_
        refine a_iload_n X dX7_copy_9 rfl ?_
        refine a_aload_n X dX7_copy_10 rfl ?_
        refine a_iload_n X dX7_copy_11 rfl ?_
        refine a_callSv X dX7_copy_12 miX7_cell lm7_175 (c_cell hF2 hn2) rfl rfl (Nat.le_of_ble_eq_true rfl) ⟨by decide, by decide, by decide, by decide⟩ ?_
        refine a_iastore X (by assumption) (vp_in_nI hj hn) dX7_copy_15 ?_
        refine a_iinc (v := nI (j + 1)) X dX7_copy_16 (by decide) rfl (nI_1 j) ?_
        refine a_goto (tgt := 2) X dX7_copy_19 (by decide) ?_
        exact Zw.to (ih (j + 1) (by omega) (by omega)) rfl (by show (S.1, zcpy S.2.1 P (j + 1) (fun j => zrd 0 (S.2.1 F2) n2 (nI j)), S.2.2) = (S.1, zu (zcpy S.2.1 P j (fun j => zrd 0 (S.2.1 F2) n2 (nI j))) P (nI j).toNatClampNeg (zrd 0 (zcpy S.2.1 P j (fun j => zrd 0 (S.2.1 F2) n2 (nI j)) F2) n2 (nI j)), S.2.2); rw [nI_clamp (by omega), zcpy_row hne, zcpy_s2])
  refine a_iconst (v := 0) X dX7_copy_0 (by decide) ?_
  refine a_istore_n X dX7_copy_1 (by decide) ?_
  exact Zw.to (L (n + 1) 0 (by omega) (by omega)) rfl (by rw [zcpy_0])
set_option maxRecDepth 100000 in
theorem c_sum {l : Launch} {G : zG} {b : Nat} {S : zS} {P n : Nat} {fs : List (Nat × Nat)} (hP : S.1[P]? = some (1, n, fs)) (hn : n < 2 ^ 31) : zM l G b yX7_sum cX7_sum 3 (some .int) 0 0 0 [.ref P] S (fun r z => r = some (.int (zsum (S.2.1 P) n)) ∧ z = S) := by
  refine zM.of miX7_sum (Nat.le_of_ble_eq_true rfl) ?_
  intro p e s m args below meth c X hr hname
  generalize hF : ((fun r z => r = some (.int (zsum (S.2.1 P) n)) ∧ z = S) : Option Value → zS → Prop) = FQ
  change Zw p l e { frames := 0, cells := 0, slots := 0, locals := 80 * 0 } s m args below meth c G b 3 (MQ below (zQ G b FQ) args s 0 0 (fun q : Nat => b ≤ q)) 0 0 0 [some (.ref P), none, none] [] S
  have L : ∀ (u j : Nat), n < j + u → j ≤ n → Zw p l e { frames := 0, cells := 0, slots := 0, locals := 80 * 0 } s m args below meth c G b 3 (MQ below (zQ G b FQ) args s 0 0 (fun q : Nat => b ≤ q)) 0 0 4 [some (.ref P), some (.int (zsum (S.2.1 P) j)), some (.int (nI j))] [] S := by
    intro u
    induction u with
    | zero => intro j h1 h2; exact absurd h1 (by omega)
    | succ u ih =>
      intro j h1 h2
      refine a_iload_n X dX7_sum_4 rfl ?_
      refine a_aload_n X dX7_sum_5 rfl ?_
      refine a_alen X (by assumption) (by decide) dX7_sum_6 ?_
      refine a_icmp_ge (tgt := 22) X dX7_sum_7 (by decide) (fun h_7 => ?_) (fun h_7 => ?_)
      · refine a_iload_n X dX7_sum_22 rfl ?_
        refine a_iret X hr dX7_sum_23 ⟨by decide, by decide⟩ ?_
        have hj : j = n := by have := (nI_leI hn (by omega)).mp h_7; omega
        subst hj
        subst hF
        exact ⟨rfl, rfl⟩
      · have hj : j < n := Nat.not_le.mp (fun q => h_7 ((nI_leI hn (by omega)).mpr q))
        refine a_iload_n X dX7_sum_10 rfl ?_
        refine a_aload_n X dX7_sum_11 rfl ?_
        refine a_iload_n X dX7_sum_12 rfl ?_
        refine a_iaload X (by assumption) (vp_in_nI hj hn) dX7_sum_13 ?_
        refine a_iadd X dX7_sum_14 ?_
        refine a_istore_n X dX7_sum_15 (by decide) ?_
        refine a_iinc (v := nI (j + 1)) X dX7_sum_16 (by decide) rfl (nI_1 j) ?_
        refine a_goto (tgt := 4) X dX7_sum_19 (by decide) ?_
        exact Zw.to (ih (j + 1) (by omega) (by omega)) (by show [some (Value.ref P), some (Value.int (zsum (S.2.1 P) j + S.2.1 P j)), some (Value.int (nI (j + 1)))] = [some (Value.ref P), some (Value.int (zsum (S.2.1 P) j + S.2.1 P (nI j).toNatClampNeg)), some (Value.int (nI (j + 1)))]; rw [nI_clamp (by omega)]) rfl
  refine a_iconst (v := 0) X dX7_sum_0 (by decide) ?_
  refine a_istore_n X dX7_sum_1 (by decide) ?_
  refine a_iconst (v := 0) X dX7_sum_2 (by decide) ?_
  refine a_istore_n X dX7_sum_3 (by decide) ?_
  exact Zw.to (L (n + 1) 0 (by omega) (by omega)) rfl rfl
