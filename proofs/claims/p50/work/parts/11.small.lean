/-- nothing has changed but in rows lo .. hi - 1 -/
def zout {α : Type} (M M' : Nat → Nat → α) (lo hi : Nat) : Prop := ∀ a : Nat, a < lo ∨ hi ≤ a → M' a = M a
theorem zout.rf {α : Type} {M : Nat → Nat → α} {lo hi : Nat} : zout M M lo hi := fun _ _ => rfl
theorem zout.zu {α : Type} {M M' : Nat → Nat → α} {lo hi P k : Nat} {v : α} (h : zout M M' lo hi) (h1 : lo ≤ P) (h2 : P < hi) : zout M (zu M' P k v) lo hi := fun a ha => (zu_row (by omega)).trans (h a ha)
theorem zfil_row {α : Type} {M : Nat → Nat → α} {P n a : Nat} {v : α} (h : a ≠ P) : zfil M P n v a = M a := by
  funext j
  exact if_neg (fun q => h q.1)
theorem zout.zfil {α : Type} {M M' : Nat → Nat → α} {lo hi P n : Nat} {v : α} (h : zout M M' lo hi) (h1 : lo ≤ P) (h2 : P < hi) : zout M (zfil M' P n v) lo hi := fun a ha => (zfil_row (by omega)).trans (h a ha)
theorem zout.zcpy {α : Type} {M M' : Nat → Nat → α} {lo hi P n : Nat} {g : Nat → α} (h : zout M M' lo hi) (h1 : lo ≤ P) (h2 : P < hi) : zout M (zcpy M' P n g) lo hi := fun a ha => (zcpy_row (by omega)).trans (h a ha)
theorem zout.zwr {α : Type} {M M' : Nat → Nat → α} {lo hi P n : Nat} {i : Int32} {v : α} (h : zout M M' lo hi) (h1 : lo ≤ P) (h2 : P < hi) : zout M (zwr M' P n i v) lo hi := by
  unfold _root_.Jvm.Pilot.@@N@@.zwr
  split
  · exact h
  · exact h.zu h1 h2
theorem zwr_row {α : Type} {M : Nat → Nat → α} {P n a : Nat} {i : Int32} {v : α} (h : a ≠ P) : zwr M P n i v a = M a := by
  unfold zwr
  split
  · rfl
  · exact zu_row h
theorem zout.mono {α : Type} {M M' : Nat → Nat → α} {lo hi lo2 hi2 : Nat} (h : zout M M' lo hi) (h1 : lo2 ≤ lo) (h2 : hi ≤ hi2) : zout M M' lo2 hi2 := fun a ha => h a (by omega)
theorem zout.trans {α : Type} {M M' M2 : Nat → Nat → α} {lo hi : Nat} (h : zout M M' lo hi) (h' : zout M' M2 lo hi) : zout M M2 lo hi := fun a ha => (h' a ha).trans (h a ha)
theorem zu_eq {α : Type} {M : Nat → Nat → α} {P k : Nat} {v : α} : zu M P k v P k = v := if_pos ⟨rfl, rfl⟩
theorem zu_ne {α : Type} {M : Nat → Nat → α} {P k a j : Nat} {v : α} (h : ¬ (a = P ∧ j = k)) : zu M P k v a j = M a j := if_neg h
theorem zrd_nI {α : Type} {o : α} {f : Nat → α} {n j : Nat} (h : j < n) (hn : n < 2 ^ 31) : zrd o f n (nI j) = f j := by
  unfold zrd
  rw [if_neg (vp_in_nI h hn), nI_clamp (by omega)]
theorem zwr_nI {α : Type} {M : Nat → Nat → α} {P n j : Nat} {x : α} (h : j < n) (hn : n < 2 ^ 31) : zwr M P n (nI j) x = zu M P j x := by
  unfold zwr
  rw [if_neg (vp_in_nI h hn), nI_clamp (by omega)]
def zand (f : Nat → Int32) : Nat → Int32
  | 0 => 127
  | j + 1 => if f j = 1 then zand f j &&& nI j else zand f j
def zor (f : Nat → Int32) : Nat → Int32
  | 0 => 0
  | j + 1 => if f j = 1 then zor f j ||| nI j else zor f j
def zfew (f g : Nat → Int32) : Nat → Int32
  | 0 => 10
  | j + 1 => if f j = 1 then (if g j < zfew f g j then g j else zfew f g j) else zfew f g j
def zmost (f g : Nat → Int32) : Nat → Int32
  | 0 => 0
  | j + 1 => if f j = 1 then (if zmost f g j < g j then g j else zmost f g j) else zmost f g j
def LX4 (L : List zC) (P : Nat) : Prop := P + 9 < 1000000 ∧ L[P]? = some (0, 4, [(0, 0), (0, 0), (0, 0), (0, 0), (0, 0), (0, 0), (0, 0), (2, P + 1), (2, P + 2), (2, P + 3), (2, P + 4), (2, P + 5), (2, P + 6), (2, P + 7)]) ∧ L[P + 1]? = some (1, 5, []) ∧ L[P + 2]? = some (1, 10, []) ∧ L[P + 3]? = some (1, 10, []) ∧ L[P + 4]? = some (1, 10, []) ∧ L[P + 5]? = some (1, 10, []) ∧ L[P + 6]? = some (1, 30, []) ∧ L[P + 7]? = some (1, 10, [])
def LX2 (L : List zC) (P : Nat) : Prop := P + 14 < 1000000 ∧ L[P]? = some (0, 2, [(0, 0), (0, 0), (0, 0), (0, 0), (2, P + 1), (2, P + 2), (2, P + 3), (2, P + 4), (2, P + 5), (2, P + 6), (2, P + 7), (2, P + 8), (2, P + 9), (2, P + 10), (2, P + 11), (2, P + 12)]) ∧ L[P + 1]? = some (1, 5, []) ∧ L[P + 2]? = some (1, 5, []) ∧ L[P + 3]? = some (1, 5, []) ∧ L[P + 4]? = some (1, 10, []) ∧ L[P + 5]? = some (1, 10, []) ∧ L[P + 6]? = some (1, 10, []) ∧ L[P + 7]? = some (1, 10, []) ∧ L[P + 8]? = some (1, 10, []) ∧ L[P + 9]? = some (1, 10, []) ∧ L[P + 10]? = some (1, 10, []) ∧ L[P + 11]? = some (1, 10, []) ∧ L[P + 12]? = some (1, 30, [])
def LX5 (L : List zC) (P : Nat) : Prop := P + 9 < 1000000 ∧ L[P]? = some (0, 5, [(2, P + 1), (2, P + 2), (2, P + 3), (2, P + 4), (2, P + 5), (2, P + 6), (2, P + 7)]) ∧ L[P + 1]? = some (1, 10, []) ∧ L[P + 2]? = some (1, 10, []) ∧ L[P + 3]? = some (1, 10, []) ∧ L[P + 4]? = some (1, 5, []) ∧ L[P + 5]? = some (1, 5, []) ∧ L[P + 6]? = some (1, 5, []) ∧ L[P + 7]? = some (1, 10, [])
def LX0 (L : List zC) (P : Nat) : Prop := P + 14 < 1000000 ∧ L[P]? = some (0, 0, [(2, P + 1), (2, P + 2), (2, P + 3), (2, P + 4), (2, P + 5)]) ∧ L[P + 1]? = some (3, 128, []) ∧ L[P + 2]? = some (1, 128, []) ∧ L[P + 3]? = some (3, 35, []) ∧ L[P + 4]? = some (3, 7, []) ∧ LX5 L (P + 5)
def LX6 (L : List zC) (P : Nat) : Prop := P + 34 < 1000000 ∧ L[P]? = some (0, 6, [(0, 0), (0, 0), (2, P + 1), (2, P + 2), (2, P + 3), (2, P + 4), (2, P + 12), (2, P + 25)]) ∧ L[P + 1]? = some (1, 10, []) ∧ L[P + 2]? = some (1, 10, []) ∧ L[P + 3]? = some (1, 10, []) ∧ LX4 L (P + 4) ∧ LX2 L (P + 12) ∧ LX5 L (P + 25)
def LX3 (L : List zC) (P : Nat) : Prop := P + 15 < 1000000 ∧ L[P]? = some (0, 3, [(2, P + 1), (0, 0), (0, 0), (2, P + 9), (0, 0), (0, 0), (0, 0), (0, 0), (1, 0), (0, 0), (1, 0), (0, 0), (0, 0), (0, 0), (2, P + 10), (2, P + 11), (2, P + 12), (2, P + 13)]) ∧ LX4 L (P + 1) ∧ L[P + 9]? = some (1, 700, []) ∧ L[P + 10]? = some (3, 5, []) ∧ L[P + 11]? = some (3, 10, []) ∧ L[P + 12]? = some (3, 4, []) ∧ L[P + 13]? = some (1, 3, [])
def LX1 (L : List zC) (P : Nat) : Prop := P + 67 < 1000000 ∧ L[P]? = some (0, 1, [(0, 0), (0, 0), (2, P + 1)]) ∧ L[P + 1]? = some (4, 8, [(2, P + 2), (2, P + 10), (2, P + 18), (2, P + 26), (2, P + 34), (2, P + 42), (2, P + 50), (2, P + 58)]) ∧ LX4 L (P + 2) ∧ LX4 L (P + 10) ∧ LX4 L (P + 18) ∧ LX4 L (P + 26) ∧ LX4 L (P + 34) ∧ LX4 L (P + 42) ∧ LX4 L (P + 50) ∧ LX4 L (P + 58)
def LX7 (L : List zC) (P : Nat) : Prop := P + 201 < 1000000 ∧ L[P]? = some (0, 7, [(0, 0), (0, 0), (0, 0), (0, 0), (2, P + 1), (2, P + 2), (2, P + 3), (2, P + 17), (2, P + 25), (2, P + 91), (2, P + 104), (2, P + 112), (2, P + 125), (2, P + 158), (2, P + 166), (2, P + 179), (2, P + 187)]) ∧ L[P + 1]? = some (1, 700, []) ∧ L[P + 2]? = some (1, 50, []) ∧ LX3 L (P + 3) ∧ LX4 L (P + 17) ∧ LX1 L (P + 25) ∧ LX2 L (P + 91) ∧ LX5 L (P + 104) ∧ LX0 L (P + 112) ∧ LX6 L (P + 125) ∧ LX4 L (P + 158) ∧ LX2 L (P + 166) ∧ LX5 L (P + 179) ∧ LX0 L (P + 187)
def LX8 (L : List zC) (P : Nat) : Prop := P + 34 < 1000000 ∧ L[P]? = some (0, 8, [(2, P + 1), (2, P + 2), (2, P + 3), (2, P + 4), (2, P + 5), (2, P + 6), (0, 0), (0, 0), (0, 0), (0, 0), (2, P + 7), (0, 0), (0, 0), (0, 0), (0, 0), (0, 0), (0, 0), (0, 0), (0, 0), (0, 0), (0, 0), (0, 0), (0, 0), (0, 0), (1, 0), (2, P + 8), (2, P + 9), (2, P + 10), (0, 0), (0, 0), (0, 0), (0, 0), (1, 0), (0, 0), (2, P + 11), (2, P + 12), (2, P + 13), (2, P + 14), (2, P + 15), (2, P + 16), (2, P + 17), (2, P + 18), (2, P + 19), (2, P + 20), (2, P + 21), (2, P + 22), (1, 0), (2, P + 23), (2, P + 24), (2, P + 25), (2, P + 26), (2, P + 27), (2, P + 28), (2, P + 29), (0, 0), (0, 0), (0, 0), (0, 0), (0, 0), (1, 0), (1, 0), (2, P + 30), (2, P + 31), (2, P + 32), (0, 0)]) ∧ L[P + 1]? = some (1, 82, []) ∧ L[P + 2]? = some (1, 82, []) ∧ L[P + 3]? = some (1, 82, []) ∧ L[P + 4]? = some (1, 656, []) ∧ L[P + 5]? = some (2, 10, []) ∧ L[P + 6]? = some (2, 10, []) ∧ L[P + 7]? = some (1, 700, []) ∧ L[P + 8]? = some (3, 5, []) ∧ L[P + 9]? = some (3, 10, []) ∧ L[P + 10]? = some (3, 4, []) ∧ L[P + 11]? = some (1, 10, []) ∧ L[P + 12]? = some (1, 10, []) ∧ L[P + 13]? = some (1, 10, []) ∧ L[P + 14]? = some (1, 10, []) ∧ L[P + 15]? = some (1, 10, []) ∧ L[P + 16]? = some (1, 10, []) ∧ L[P + 17]? = some (1, 10, []) ∧ L[P + 18]? = some (1, 10, []) ∧ L[P + 19]? = some (1, 10, []) ∧ L[P + 20]? = some (1, 10, []) ∧ L[P + 21]? = some (1, 5, []) ∧ L[P + 22]? = some (1, 5, []) ∧ L[P + 23]? = some (1, 10, []) ∧ L[P + 24]? = some (3, 35, []) ∧ L[P + 25]? = some (3, 7, []) ∧ L[P + 26]? = some (3, 7, []) ∧ L[P + 27]? = some (3, 49, []) ∧ L[P + 28]? = some (3, 5, []) ∧ L[P + 29]? = some (2, 128, []) ∧ L[P + 30]? = some (1, 10, []) ∧ L[P + 31]? = some (1, 10, []) ∧ L[P + 32]? = some (1, 64, [])
set_option maxRecDepth 100000 in
theorem c_clear {l : Launch} {G : zG} {b : Nat} {S : zS} {P : Nat} (hP : LX4 S.1 P) : zM l G b yX4_clear cX4_clear 1 none 1 0 0 [.ref P] S (fun r z => ∃ M', r = none ∧ z = (S.1, M', S.2.2) ∧ zout S.2.1 M' P (P + 8) ∧ M' P 0 = 0 ∧ M' P 1 = 0 ∧ M' P 2 = 0 ∧ M' P 3 = 0 ∧ M' P 4 = 0 ∧ M' P 5 = 100 ∧ M' P 6 = 0 ∧ (∀ j, j < 5 → M' (P + 1) j = 0) ∧ (∀ j, j < 10 → M' (P + 2) j = 0) ∧ (∀ j, j < 10 → M' (P + 3) j = 0) ∧ (∀ j, j < 10 → M' (P + 4) j = -1) ∧ (∀ j, j < 10 → M' (P + 5) j = 0) ∧ (∀ j, j < 30 → M' (P + 6) j = -1) ∧ (∀ j, j < 10 → M' (P + 7) j = -1)) := by
  refine zM.of miX4_clear (Nat.le_of_ble_eq_true rfl) ?_
  intro p e s m args below meth c X hr hname
  generalize hF : ((fun r z => ∃ M', r = none ∧ z = (S.1, M', S.2.2) ∧ zout S.2.1 M' P (P + 8) ∧ M' P 0 = 0 ∧ M' P 1 = 0 ∧ M' P 2 = 0 ∧ M' P 3 = 0 ∧ M' P 4 = 0 ∧ M' P 5 = 100 ∧ M' P 6 = 0 ∧ (∀ j, j < 5 → M' (P + 1) j = 0) ∧ (∀ j, j < 10 → M' (P + 2) j = 0) ∧ (∀ j, j < 10 → M' (P + 3) j = 0) ∧ (∀ j, j < 10 → M' (P + 4) j = -1) ∧ (∀ j, j < 10 → M' (P + 5) j = 0) ∧ (∀ j, j < 30 → M' (P + 6) j = -1) ∧ (∀ j, j < 10 → M' (P + 7) j = -1)) : Option Value → zS → Prop) = FQ
  change Zw p l e { frames := 1, cells := 0, slots := 0, locals := 80 * 1 } s m args below meth c G b 1 (MQ below (zQ G b FQ) args s 0 0 (fun q : Nat => b ≤ q)) 0 0 0 [some (.ref P)] [] S
  obtain ⟨lt, o, quota, score, guest, party, wishCount, wishes, has⟩ := id hP
  refine a_aload_n X dX4_clear_0 rfl ?_
  refine a_iconst (v := 0) X dX4_clear_1 (by decide) ?_
  refine a_puti X lf4_33 (by assumption) rfl dX4_clear_2 ?_
  refine a_aload_n X dX4_clear_5 rfl ?_
  refine a_iconst (v := 0) X dX4_clear_6 (by decide) ?_
  refine a_puti X lf4_37 (by assumption) rfl dX4_clear_7 ?_
  refine a_aload_n X dX4_clear_10 rfl ?_
  refine a_iconst (v := 0) X dX4_clear_11 (by decide) ?_
  refine a_puti X lf4_40 (by assumption) rfl dX4_clear_12 ?_
  refine a_aload_n X dX4_clear_15 rfl ?_
  refine a_iconst (v := 0) X dX4_clear_16 (by decide) ?_
  refine a_puti X lf4_43 (by assumption) rfl dX4_clear_17 ?_
  refine a_aload_n X dX4_clear_20 rfl ?_
  refine a_iconst (v := 0) X dX4_clear_21 (by decide) ?_
  refine a_puti X lf4_46 (by assumption) rfl dX4_clear_22 ?_
  refine a_aload_n X dX4_clear_25 rfl ?_
  refine a_bipush (v := 100) X dX4_clear_26 (by decide) ?_
  refine a_puti X lf4_49 (by assumption) rfl dX4_clear_28 ?_
  refine a_aload_n X dX4_clear_31 rfl ?_
  refine a_iconst (v := 0) X dX4_clear_32 (by decide) ?_
  refine a_puti X lf4_52 (by assumption) rfl dX4_clear_33 ?_
  refine a_aload_n X dX4_clear_36 rfl ?_
  refine a_getr X lf4_9 (by assumption) rfl (by omega) dX4_clear_37 ?_
  refine a_iconst (v := 0) X dX4_clear_40 (by decide) ?_
  refine a_callSNu X dX4_clear_41 miX7_fill lm4_55 (c_fill (by assumption) (by decide)) rfl rfl (Nat.le_of_ble_eq_true rfl) ⟨by decide, by decide, by decide, by decide⟩ ?_
  refine a_aload_n X dX4_clear_44 rfl ?_
  refine a_getr X lf4_15 (by assumption) rfl (by omega) dX4_clear_45 ?_
  refine a_iconst (v := 0) X dX4_clear_48 (by decide) ?_
  refine a_callSNu X dX4_clear_49 miX7_fill lm4_55 (c_fill (by assumption) (by decide)) rfl rfl (Nat.le_of_ble_eq_true rfl) ⟨by decide, by decide, by decide, by decide⟩ ?_
  refine a_aload_n X dX4_clear_52 rfl ?_
  refine a_getr X lf4_18 (by assumption) rfl (by omega) dX4_clear_53 ?_
  refine a_iconst (v := 0) X dX4_clear_56 (by decide) ?_
  refine a_callSNu X dX4_clear_57 miX7_fill lm4_55 (c_fill (by assumption) (by decide)) rfl rfl (Nat.le_of_ble_eq_true rfl) ⟨by decide, by decide, by decide, by decide⟩ ?_
  refine a_aload_n X dX4_clear_60 rfl ?_
  refine a_getr X lf4_21 (by assumption) rfl (by omega) dX4_clear_61 ?_
  refine a_iconst (v := -1) X dX4_clear_64 (by decide) ?_
  refine a_callSNu X dX4_clear_65 miX7_fill lm4_55 (c_fill (by assumption) (by decide)) rfl rfl (Nat.le_of_ble_eq_true rfl) ⟨by decide, by decide, by decide, by decide⟩ ?_
  refine a_aload_n X dX4_clear_68 rfl ?_
  refine a_getr X lf4_24 (by assumption) rfl (by omega) dX4_clear_69 ?_
  refine a_iconst (v := 0) X dX4_clear_72 (by decide) ?_
  refine a_callSNu X dX4_clear_73 miX7_fill lm4_55 (c_fill (by assumption) (by decide)) rfl rfl (Nat.le_of_ble_eq_true rfl) ⟨by decide, by decide, by decide, by decide⟩ ?_
  refine a_aload_n X dX4_clear_76 rfl ?_
  refine a_getr X lf4_27 (by assumption) rfl (by omega) dX4_clear_77 ?_
  refine a_iconst (v := -1) X dX4_clear_80 (by decide) ?_
  refine a_callSNu X dX4_clear_81 miX7_fill lm4_55 (c_fill (by assumption) (by decide)) rfl rfl (Nat.le_of_ble_eq_true rfl) ⟨by decide, by decide, by decide, by decide⟩ ?_
  refine a_aload_n X dX4_clear_84 rfl ?_
  refine a_getr X lf4_30 (by assumption) rfl (by omega) dX4_clear_85 ?_
  refine a_iconst (v := -1) X dX4_clear_88 (by decide) ?_
  refine a_callSNu X dX4_clear_89 miX7_fill lm4_55 (c_fill (by assumption) (by decide)) rfl rfl (Nat.le_of_ble_eq_true rfl) ⟨by decide, by decide, by decide, by decide⟩ ?_
  refine a_vret X hr dX4_clear_92 ⟨by decide, by decide⟩ ?_
  subst hF
  exact ⟨_, rfl, rfl, ((((((((((((((zout.rf.zu (by omega) (by omega)).zu (by omega) (by omega)).zu (by omega) (by omega)).zu (by omega) (by omega)).zu (by omega) (by omega)).zu (by omega) (by omega)).zu (by omega) (by omega)).zfil (by omega) (by omega)).zfil (by omega) (by omega)).zfil (by omega) (by omega)).zfil (by omega) (by omega)).zfil (by omega) (by omega)).zfil (by omega) (by omega)).zfil (by omega) (by omega)), by simp [zfil, zu], by simp [zfil, zu], by simp [zfil, zu], by simp [zfil, zu], by simp [zfil, zu], by simp [zfil, zu], by simp [zfil, zu], fun j hj => by simp [zfil, zu, hj], fun j hj => by simp [zfil, zu, hj], fun j hj => by simp [zfil, zu, hj], fun j hj => by simp [zfil, zu, hj], fun j hj => by simp [zfil, zu, hj], fun j hj => by simp [zfil, zu, hj], fun j hj => by simp [zfil, zu, hj]⟩
set_option maxRecDepth 100000 in
theorem c_take {l : Launch} {G : zG} {b : Nat} {S : zS} {P F : Nat} (hP : LX4 S.1 P) (hF0 : LX4 S.1 F) (hne : F + 8 ≤ P ∨ P + 8 ≤ F) : zM l G b yX4_take cX4_take 2 none 2 0 0 [.ref P, .ref F] S (fun r z => ∃ M', r = none ∧ z = (S.1, M', S.2.2) ∧ zout S.2.1 M' P (P + 8) ∧ M' P 0 = S.2.1 F 0 ∧ M' P 1 = S.2.1 F 1 ∧ M' P 2 = S.2.1 F 2 ∧ M' P 3 = S.2.1 F 3 ∧ M' P 4 = S.2.1 F 4 ∧ M' P 5 = S.2.1 F 5 ∧ M' P 6 = S.2.1 F 6 ∧ (∀ j, j < 5 → M' (P + 1) j = S.2.1 (F + 1) j) ∧ (∀ j, j < 10 → M' (P + 2) j = S.2.1 (F + 2) j) ∧ (∀ j, j < 10 → M' (P + 3) j = S.2.1 (F + 3) j) ∧ (∀ j, j < 10 → M' (P + 4) j = S.2.1 (F + 4) j) ∧ (∀ j, j < 10 → M' (P + 5) j = S.2.1 (F + 5) j) ∧ (∀ j, j < 30 → M' (P + 6) j = S.2.1 (F + 6) j) ∧ (∀ j, j < 10 → M' (P + 7) j = S.2.1 (F + 7) j)) := by
  refine zM.of miX4_take (Nat.le_of_ble_eq_true rfl) ?_
  intro p e s m args below meth c X hr hname
  generalize hF : ((fun r z => ∃ M', r = none ∧ z = (S.1, M', S.2.2) ∧ zout S.2.1 M' P (P + 8) ∧ M' P 0 = S.2.1 F 0 ∧ M' P 1 = S.2.1 F 1 ∧ M' P 2 = S.2.1 F 2 ∧ M' P 3 = S.2.1 F 3 ∧ M' P 4 = S.2.1 F 4 ∧ M' P 5 = S.2.1 F 5 ∧ M' P 6 = S.2.1 F 6 ∧ (∀ j, j < 5 → M' (P + 1) j = S.2.1 (F + 1) j) ∧ (∀ j, j < 10 → M' (P + 2) j = S.2.1 (F + 2) j) ∧ (∀ j, j < 10 → M' (P + 3) j = S.2.1 (F + 3) j) ∧ (∀ j, j < 10 → M' (P + 4) j = S.2.1 (F + 4) j) ∧ (∀ j, j < 10 → M' (P + 5) j = S.2.1 (F + 5) j) ∧ (∀ j, j < 30 → M' (P + 6) j = S.2.1 (F + 6) j) ∧ (∀ j, j < 10 → M' (P + 7) j = S.2.1 (F + 7) j)) : Option Value → zS → Prop) = FQ
  change Zw p l e { frames := 2, cells := 0, slots := 0, locals := 80 * 2 } s m args below meth c G b 2 (MQ below (zQ G b FQ) args s 0 0 (fun q : Nat => b ≤ q)) 0 0 0 [some (.ref P), some (.ref F)] [] S
  obtain ⟨plt, po, pquota, pscore, pguest, pparty, pwishCount, pwishes, phas⟩ := id hP
  obtain ⟨flt, fo, fquota, fscore, fguest, fparty, fwishCount, fwishes, fhas⟩ := id hF0
  have n0 : F + 0 ≠ P := by omega
  have m0 : P + 0 ≠ F := by omega
  have n1 : F + 1 ≠ P := by omega
  have m1 : P + 1 ≠ F := by omega
  have n2 : F + 2 ≠ P := by omega
  have m2 : P + 2 ≠ F := by omega
  have n3 : F + 3 ≠ P := by omega
  have m3 : P + 3 ≠ F := by omega
  have n4 : F + 4 ≠ P := by omega
  have m4 : P + 4 ≠ F := by omega
  have n5 : F + 5 ≠ P := by omega
  have m5 : P + 5 ≠ F := by omega
  have n6 : F + 6 ≠ P := by omega
  have m6 : P + 6 ≠ F := by omega
  have n7 : F + 7 ≠ P := by omega
  have m7 : P + 7 ≠ F := by omega
  refine a_aload_n X dX4_take_0 rfl ?_
  refine a_aload_n X dX4_take_1 rfl ?_
  refine a_geti X lf4_33 (by assumption) rfl dX4_take_2 ?_
  refine a_puti X lf4_33 (by assumption) rfl dX4_take_5 ?_
  refine a_aload_n X dX4_take_8 rfl ?_
  refine a_aload_n X dX4_take_9 rfl ?_
  refine a_geti X lf4_37 (by assumption) rfl dX4_take_10 ?_
  refine a_puti X lf4_37 (by assumption) rfl dX4_take_13 ?_
  refine a_aload_n X dX4_take_16 rfl ?_
  refine a_aload_n X dX4_take_17 rfl ?_
  refine a_geti X lf4_40 (by assumption) rfl dX4_take_18 ?_
  refine a_puti X lf4_40 (by assumption) rfl dX4_take_21 ?_
  refine a_aload_n X dX4_take_24 rfl ?_
  refine a_aload_n X dX4_take_25 rfl ?_
  refine a_geti X lf4_43 (by assumption) rfl dX4_take_26 ?_
  refine a_puti X lf4_43 (by assumption) rfl dX4_take_29 ?_
  refine a_aload_n X dX4_take_32 rfl ?_
  refine a_aload_n X dX4_take_33 rfl ?_
  refine a_geti X lf4_46 (by assumption) rfl dX4_take_34 ?_
  refine a_puti X lf4_46 (by assumption) rfl dX4_take_37 ?_
  refine a_aload_n X dX4_take_40 rfl ?_
  refine a_aload_n X dX4_take_41 rfl ?_
  refine a_geti X lf4_49 (by assumption) rfl dX4_take_42 ?_
  refine a_puti X lf4_49 (by assumption) rfl dX4_take_45 ?_
  refine a_aload_n X dX4_take_48 rfl ?_
  refine a_aload_n X dX4_take_49 rfl ?_
  refine a_geti X lf4_52 (by assumption) rfl dX4_take_50 ?_
  refine a_puti X lf4_52 (by assumption) rfl dX4_take_53 ?_
  refine a_aload_n X dX4_take_56 rfl ?_
  refine a_getr X lf4_9 (by assumption) rfl (by omega) dX4_take_57 ?_
  refine a_aload_n X dX4_take_60 rfl ?_
  refine a_getr X lf4_9 (by assumption) rfl (by omega) dX4_take_61 ?_
  refine a_callSNu X dX4_take_64 miX7_copy lm4_59 (c_copy (by assumption) (by assumption) (by decide) (by decide) (by omega)) rfl rfl (Nat.le_of_ble_eq_true rfl) ⟨by decide, by decide, by decide, by decide⟩ ?_
  refine a_aload_n X dX4_take_67 rfl ?_
  refine a_getr X lf4_15 (by assumption) rfl (by omega) dX4_take_68 ?_
  refine a_aload_n X dX4_take_71 rfl ?_
  refine a_getr X lf4_15 (by assumption) rfl (by omega) dX4_take_72 ?_
  refine a_callSNu X dX4_take_75 miX7_copy lm4_59 (c_copy (by assumption) (by assumption) (by decide) (by decide) (by omega)) rfl rfl (Nat.le_of_ble_eq_true rfl) ⟨by decide, by decide, by decide, by decide⟩ ?_
  refine a_aload_n X dX4_take_78 rfl ?_
  refine a_getr X lf4_18 (by assumption) rfl (by omega) dX4_take_79 ?_
  refine a_aload_n X dX4_take_82 rfl ?_
  refine a_getr X lf4_18 (by assumption) rfl (by omega) dX4_take_83 ?_
  refine a_callSNu X dX4_take_86 miX7_copy lm4_59 (c_copy (by assumption) (by assumption) (by decide) (by decide) (by omega)) rfl rfl (Nat.le_of_ble_eq_true rfl) ⟨by decide, by decide, by decide, by decide⟩ ?_
  refine a_aload_n X dX4_take_89 rfl ?_
  refine a_getr X lf4_21 (by assumption) rfl (by omega) dX4_take_90 ?_
  refine a_aload_n X dX4_take_93 rfl ?_
  refine a_getr X lf4_21 (by assumption) rfl (by omega) dX4_take_94 ?_
  refine a_callSNu X dX4_take_97 miX7_copy lm4_59 (c_copy (by assumption) (by assumption) (by decide) (by decide) (by omega)) rfl rfl (Nat.le_of_ble_eq_true rfl) ⟨by decide, by decide, by decide, by decide⟩ ?_
  refine a_aload_n X dX4_take_100 rfl ?_
  refine a_getr X lf4_24 (by assumption) rfl (by omega) dX4_take_101 ?_
  refine a_aload_n X dX4_take_104 rfl ?_
  refine a_getr X lf4_24 (by assumption) rfl (by omega) dX4_take_105 ?_
  refine a_callSNu X dX4_take_108 miX7_copy lm4_59 (c_copy (by assumption) (by assumption) (by decide) (by decide) (by omega)) rfl rfl (Nat.le_of_ble_eq_true rfl) ⟨by decide, by decide, by decide, by decide⟩ ?_
  refine a_aload_n X dX4_take_111 rfl ?_
  refine a_getr X lf4_27 (by assumption) rfl (by omega) dX4_take_112 ?_
  refine a_aload_n X dX4_take_115 rfl ?_
  refine a_getr X lf4_27 (by assumption) rfl (by omega) dX4_take_116 ?_
  refine a_callSNu X dX4_take_119 miX7_copy lm4_59 (c_copy (by assumption) (by assumption) (by decide) (by decide) (by omega)) rfl rfl (Nat.le_of_ble_eq_true rfl) ⟨by decide, by decide, by decide, by decide⟩ ?_
  refine a_aload_n X dX4_take_122 rfl ?_
  refine a_getr X lf4_30 (by assumption) rfl (by omega) dX4_take_123 ?_
  refine a_aload_n X dX4_take_126 rfl ?_
  refine a_getr X lf4_30 (by assumption) rfl (by omega) dX4_take_127 ?_
  refine a_callSNu X dX4_take_130 miX7_copy lm4_59 (c_copy (by assumption) (by assumption) (by decide) (by decide) (by omega)) rfl rfl (Nat.le_of_ble_eq_true rfl) ⟨by decide, by decide, by decide, by decide⟩ ?_
  refine a_vret X hr dX4_take_133 ⟨by decide, by decide⟩ ?_
  subst hF
  exact ⟨_, rfl, rfl, ((((((((((((((zout.rf.zu (by omega) (by omega)).zu (by omega) (by omega)).zu (by omega) (by omega)).zu (by omega) (by omega)).zu (by omega) (by omega)).zu (by omega) (by omega)).zu (by omega) (by omega)).zcpy (by omega) (by omega)).zcpy (by omega) (by omega)).zcpy (by omega) (by omega)).zcpy (by omega) (by omega)).zcpy (by omega) (by omega)).zcpy (by omega) (by omega)).zcpy (by omega) (by omega)), by simp [zcpy, zu, n0, n1, n2, n3, n4, n5, n6, n7], by simp [zcpy, zu, n0, n1, n2, n3, n4, n5, n6, n7], by simp [zcpy, zu, n0, n1, n2, n3, n4, n5, n6, n7], by simp [zcpy, zu, n0, n1, n2, n3, n4, n5, n6, n7], by simp [zcpy, zu, n0, n1, n2, n3, n4, n5, n6, n7], by simp [zcpy, zu, n0, n1, n2, n3, n4, n5, n6, n7], by simp [zcpy, zu, n0, n1, n2, n3, n4, n5, n6, n7], fun j hj => by simp [zcpy, zu, hj, zrd_nI hj, n0, n1, n2, n3, n4, n5, n6, n7], fun j hj => by simp [zcpy, zu, hj, zrd_nI hj, n0, n1, n2, n3, n4, n5, n6, n7], fun j hj => by simp [zcpy, zu, hj, zrd_nI hj, n0, n1, n2, n3, n4, n5, n6, n7], fun j hj => by simp [zcpy, zu, hj, zrd_nI hj, n0, n1, n2, n3, n4, n5, n6, n7], fun j hj => by simp [zcpy, zu, hj, zrd_nI hj, n0, n1, n2, n3, n4, n5, n6, n7], fun j hj => by simp [zcpy, zu, hj, zrd_nI hj, n0, n1, n2, n3, n4, n5, n6, n7], fun j hj => by simp [zcpy, zu, hj, zrd_nI hj, n0, n1, n2, n3, n4, n5, n6, n7]⟩
set_option maxRecDepth 100000 in
theorem c_gatherUnits0 {l : Launch} {G : zG} {b : Nat} {S : zS} {P Q : Nat} (hP : LX2 S.1 P) (hQ : LX4 S.1 Q) (hu : S.2.1 Q 0 = 0) (hh : S.2.1 Q 1 = 0) (hp : S.2.1 Q 2 = 0) (hPQ : Q + 8 ≤ P ∨ P + 13 ≤ Q) : zM l G b yX2_gatherUnits cX2_gatherUnits 4 none 1 0 0 [.ref P, .ref Q] S (fun r z => r = none ∧ z = (S.1, zu (zu S.2.1 P 0 0) P 3 0, S.2.2)) := by
  refine zM.of miX2_gatherUnits (Nat.le_of_ble_eq_true rfl) ?_
  intro p e s m args below meth c X hr hname
  generalize hF : ((fun r z => r = none ∧ z = (S.1, zu (zu S.2.1 P 0 0) P 3 0, S.2.2)) : Option Value → zS → Prop) = FQ
  change Zw p l e { frames := 1, cells := 0, slots := 0, locals := 80 * 1 } s m args below meth c G b 4 (MQ below (zQ G b FQ) args s 0 0 (fun q : Nat => b ≤ q)) 0 0 0 [some (.ref P), some (.ref Q), none, none] [] S
  obtain ⟨plt, po, pquota, ppreferred, pforGuests, papplicantOf, psize, pguestCount, pscore, ptickets, pbits, pparty, pwishCount, pwishes⟩ := id hP
  obtain ⟨qlt, qo, qquota, qscore, qguest, qparty, qwishCount, qwishes, qhas⟩ := id hQ
  refine a_aload_n X dX2_gatherUnits_0 rfl ?_
  refine a_aload_n X dX2_gatherUnits_1 rfl ?_
  refine a_geti X lf2_87 (by assumption) rfl dX2_gatherUnits_2 ?_
  refine a_puti X lf2_90 (by assumption) rfl dX2_gatherUnits_5 ?_
  refine a_aload_n X dX2_gatherUnits_8 rfl ?_
  refine a_iconst (v := 0) X dX2_gatherUnits_9 (by decide) ?_
  refine a_putz X (by first | exact Or.inl rfl | exact Or.inr rfl | assumption) lf2_91 (by assumption) rfl dX2_gatherUnits_10 ?_
  refine a_iconst (v := 0) X dX2_gatherUnits_13 (by decide) ?_
  refine a_istore_n X dX2_gatherUnits_14 (by decide) ?_
  refine a_iload_n X dX2_gatherUnits_15 rfl ?_
  refine a_aload_n X dX2_gatherUnits_16 rfl ?_
  refine a_geti X lf2_90 (by assumption) rfl dX2_gatherUnits_17 ?_
  refine a_icmp_ge (tgt := 106) X dX2_gatherUnits_20 (by decide) (fun h_20 => ?_) (fun h_20 => absurd (by show zu (zu S.2.1 P 0 (S.2.1 Q 0)) P 3 0 P 0 ≤ 0; simp [zu, hu]) h_20)
  refine a_vret X hr dX2_gatherUnits_106 ⟨by decide, by decide⟩ ?_
  subst hF
  exact ⟨rfl, by rw [← hu]⟩
set_option maxRecDepth 100000 in
theorem c_gather0 {l : Launch} {G : zG} {b : Nat} {S : zS} {P Q : Nat} (hP : LX2 S.1 P) (hQ : LX4 S.1 Q) (hu : S.2.1 Q 0 = 0) (hh : S.2.1 Q 1 = 0) (hp : S.2.1 Q 2 = 0) (hPQ : Q + 8 ≤ P ∨ P + 13 ≤ Q) : zM l G b yX2_gather cX2_gather 4 none 2 0 0 [.ref P, .ref Q] S (fun r z => r = none ∧ z = (S.1, zu (zu (zu (zu S.2.1 P 0 0) P 3 0) P 1 0) P 2 0, S.2.2)) := by
  refine zM.of miX2_gather (Nat.le_of_ble_eq_true rfl) ?_
  intro p e s m args below meth c X hr hname
  generalize hF : ((fun r z => r = none ∧ z = (S.1, zu (zu (zu (zu S.2.1 P 0 0) P 3 0) P 1 0) P 2 0, S.2.2)) : Option Value → zS → Prop) = FQ
  change Zw p l e { frames := 2, cells := 0, slots := 0, locals := 80 * 2 } s m args below meth c G b 4 (MQ below (zQ G b FQ) args s 0 0 (fun q : Nat => b ≤ q)) 0 0 0 [some (.ref P), some (.ref Q), none, none] [] S
  have hP9 := hP
  have hQ9 := hQ
  obtain ⟨plt, po, pquota, ppreferred, pforGuests, papplicantOf, psize, pguestCount, pscore, ptickets, pbits, pparty, pwishCount, pwishes⟩ := id hP
  obtain ⟨qlt, qo, qquota, qscore, qguest, qparty, qwishCount, qwishes, qhas⟩ := id hQ
  have n0 : Q ≠ P := by omega
  refine a_aload_n X dX2_gather_0 rfl ?_
  refine a_aload_n X dX2_gather_1 rfl ?_
  refine a_callVu X dX2_gather_2 miX2_gatherUnits lm2_48 (c_gatherUnits0 hP hQ hu hh hp hPQ) (by assumption) rfl rfl rfl (Nat.le_of_ble_eq_true rfl) ⟨by decide, by decide, by decide, by decide⟩ ?_
  refine a_aload_n X dX2_gather_5 rfl ?_
  refine a_iconst (v := 0) X dX2_gather_6 (by decide) ?_
  refine a_puti X lf2_52 (by assumption) rfl dX2_gather_7 ?_
  refine a_iconst (v := 0) X dX2_gather_10 (by decide) ?_
  refine a_istore_n X dX2_gather_11 (by decide) ?_
  refine a_iload_n X dX2_gather_12 rfl ?_
  refine a_aload_n X dX2_gather_13 rfl ?_
  refine a_geti X lf2_56 (by assumption) rfl dX2_gather_14 ?_
  refine a_icmp_ge (tgt := 49) X dX2_gather_17 (by decide) (fun h_17 => ?_) (fun h_17 => absurd (by show (zu (zu (zu S.2.1 P 0 0) P 3 0) P 1 0) Q 1 ≤ 0; simp [zu, hu, hh, hp, n0]) h_17)
  refine a_iconst (v := 0) X dX2_gather_49 (by decide) ?_
  refine a_istore_n X dX2_gather_50 (by decide) ?_
  refine a_iload_n X dX2_gather_51 rfl ?_
  refine a_aload_n X dX2_gather_52 rfl ?_
  refine a_geti X lf2_74 (by assumption) rfl dX2_gather_53 ?_
  refine a_icmp_ge (tgt := 104) X dX2_gather_56 (by decide) (fun h_56 => ?_) (fun h_56 => absurd (by show (zu (zu (zu S.2.1 P 0 0) P 3 0) P 1 0) Q 2 ≤ 0; simp [zu, hu, hh, hp, n0]) h_56)
  refine a_aload_n X dX2_gather_104 rfl ?_
  refine a_iconst (v := 0) X dX2_gather_105 (by decide) ?_
  refine a_puti X lf2_77 (by assumption) rfl dX2_gather_106 ?_
  refine a_iconst (v := 0) X dX2_gather_109 (by decide) ?_
  refine a_istore_n X dX2_gather_110 (by decide) ?_
  refine a_iload_n X dX2_gather_111 rfl ?_
  refine a_aload_n X dX2_gather_112 rfl ?_
  refine a_geti X lf2_52 (by assumption) rfl dX2_gather_113 ?_
  refine a_icmp_ge (tgt := 151) X dX2_gather_116 (by decide) (fun h_116 => ?_) (fun h_116 => absurd (by show (zu (zu (zu (zu S.2.1 P 0 0) P 3 0) P 1 0) P 2 0) P 1 ≤ 0; simp [zu, hu, hh, hp, n0]) h_116)
  refine a_vret X hr dX2_gather_151 ⟨by decide, by decide⟩ ?_
  subst hF
  exact ⟨rfl, rfl⟩
set_option maxRecDepth 100000 in
theorem c_lineUp0 {l : Launch} {G : zG} {b : Nat} {S : zS} {P Q : Nat}{sd : Int32} (hP : LX5 S.1 P) (hQ : LX2 S.1 Q) (hc : S.2.1 Q 1 = 0) (hu : S.2.1 Q 0 = 0) (hn : S.2.1 Q 3 = 0) : zM l G b yX5_lineUp cX5_lineUp 9 none 0 0 0 [.ref P, .ref Q, .int sd] S (fun r z => r = none ∧ z = S) := by
  refine zM.of miX5_lineUp (Nat.le_of_ble_eq_true rfl) ?_
  intro p e s m args below meth c X hr hname
  generalize hF : ((fun r z => r = none ∧ z = S) : Option Value → zS → Prop) = FQ
  change Zw p l e { frames := 0, cells := 0, slots := 0, locals := 80 * 0 } s m args below meth c G b 9 (MQ below (zQ G b FQ) args s 0 0 (fun q : Nat => b ≤ q)) 0 0 0 [some (.ref P), some (.ref Q), some (.int sd), none, none, none, none, none, none] [] S
  obtain ⟨plt, po, pline, punitOf, proundOf, pleftTags, pleftGuests, pleftPreferred, pranked⟩ := id hP
  obtain ⟨qlt, qo, qquota, qpreferred, qforGuests, qapplicantOf, qsize, qguestCount, qscore, qtickets, qbits, qparty, qwishCount, qwishes⟩ := id hQ
  refine a_iload_n X dX5_lineUp_0 rfl ?_
  refine a_i2l X dX5_lineUp_1 ?_
  refine a_lstore_n X dX5_lineUp_2 (by decide) ?_
  refine a_aload_n X dX5_lineUp_3 rfl ?_
  refine a_geti X lf5_41 (by assumption) rfl dX5_lineUp_4 ?_
  refine a_istore X dX5_lineUp_7 (by decide) ?_
  refine a_iconst (v := 1) X dX5_lineUp_9 (by decide) ?_
  refine a_aload_n X dX5_lineUp_10 rfl ?_
  refine a_geti X lf5_47 (by assumption) rfl dX5_lineUp_11 ?_
  refine a_ishl X dX5_lineUp_14 ?_
  refine a_iconst (v := 1) X dX5_lineUp_15 (by decide) ?_
  refine a_isub X dX5_lineUp_16 ?_
  refine a_istore X dX5_lineUp_17 (by decide) ?_
  refine a_iconst (v := 0) X dX5_lineUp_19 (by decide) ?_
  refine a_istore X dX5_lineUp_20 (by decide) ?_
  refine a_iload X dX5_lineUp_22 rfl ?_
  refine a_aload_n X dX5_lineUp_24 rfl ?_
  refine a_geti X lf5_47 (by assumption) rfl dX5_lineUp_25 ?_
  refine a_icmp_ge (tgt := 110) X dX5_lineUp_28 (by decide) (fun h_28 => ?_) (fun h_28 => absurd (by show S.2.1 Q 1 ≤ 0; rw [hc]; decide) h_28)
  refine a_vret X hr dX5_lineUp_110 ⟨by decide, by decide⟩ ?_
  subst hF
  exact ⟨rfl, rfl⟩
set_option maxRecDepth 100000 in
theorem c_secondRound0 {l : Launch} {G : zG} {b : Nat} {S : zS} {P Q : Nat} (hP : LX5 S.1 P) (hQ : LX2 S.1 Q) (hc : S.2.1 Q 1 = 0) (hu : S.2.1 Q 0 = 0) (hn : S.2.1 Q 3 = 0) : zM l G b yX5_secondRound cX5_secondRound 7 none 0 0 0 [.ref P, .ref Q] S (fun r z => r = none ∧ z = S) := by
  refine zM.of miX5_secondRound (Nat.le_of_ble_eq_true rfl) ?_
  intro p e s m args below meth c X hr hname
  generalize hF : ((fun r z => r = none ∧ z = S) : Option Value → zS → Prop) = FQ
  change Zw p l e { frames := 0, cells := 0, slots := 0, locals := 80 * 0 } s m args below meth c G b 7 (MQ below (zQ G b FQ) args s 0 0 (fun q : Nat => b ≤ q)) 0 0 0 [some (.ref P), some (.ref Q), none, none, none, none, none] [] S
  obtain ⟨plt, po, pline, punitOf, proundOf, pleftTags, pleftGuests, pleftPreferred, pranked⟩ := id hP
  obtain ⟨qlt, qo, qquota, qpreferred, qforGuests, qapplicantOf, qsize, qguestCount, qscore, qtickets, qbits, qparty, qwishCount, qwishes⟩ := id hQ
  refine a_iconst (v := 0) X dX5_secondRound_0 (by decide) ?_
  refine a_istore_n X dX5_secondRound_1 (by decide) ?_
  refine a_iload_n X dX5_secondRound_2 rfl ?_
  refine a_aload_n X dX5_secondRound_3 rfl ?_
  refine a_geti X lf5_47 (by assumption) rfl dX5_secondRound_4 ?_
  refine a_icmp_ge (tgt := 114) X dX5_secondRound_7 (by decide) (fun h_7 => ?_) (fun h_7 => absurd (by show S.2.1 Q 1 ≤ 0; rw [hc]; decide) h_7)
  refine a_vret X hr dX5_secondRound_114 ⟨by decide, by decide⟩ ?_
  subst hF
  exact ⟨rfl, rfl⟩
set_option maxRecDepth 100000 in
theorem c_settle0 {l : Launch} {G : zG} {b : Nat} {S : zS} {P Q : Nat} (hP : LX5 S.1 P) (hQ : LX2 S.1 Q) (hc : S.2.1 Q 1 = 0) (hu : S.2.1 Q 0 = 0) (hn : S.2.1 Q 3 = 0) : zM l G b yX5_settle cX5_settle 3 none 1 0 0 [.ref P, .ref Q] S (fun r z => r = none ∧ z = S) := by
  refine zM.of miX5_settle (Nat.le_of_ble_eq_true rfl) ?_
  intro p e s m args below meth c X hr hname
  generalize hF : ((fun r z => r = none ∧ z = S) : Option Value → zS → Prop) = FQ
  change Zw p l e { frames := 1, cells := 0, slots := 0, locals := 80 * 1 } s m args below meth c G b 3 (MQ below (zQ G b FQ) args s 0 0 (fun q : Nat => b ≤ q)) 0 0 0 [some (.ref P), some (.ref Q), none] [] S
  obtain ⟨plt, po, pline, punitOf, proundOf, pleftTags, pleftGuests, pleftPreferred, pranked⟩ := id hP
  obtain ⟨qlt, qo, qquota, qpreferred, qforGuests, qapplicantOf, qsize, qguestCount, qscore, qtickets, qbits, qparty, qwishCount, qwishes⟩ := id hQ
  refine a_iconst (v := 0) X dX5_settle_0 (by decide) ?_
  refine a_istore_n X dX5_settle_1 (by decide) ?_
  refine a_iload_n X dX5_settle_2 rfl ?_
  refine a_aload_n X dX5_settle_3 rfl ?_
  refine a_geti X lf5_47 (by assumption) rfl dX5_settle_4 ?_
  refine a_icmp_ge (tgt := 34) X dX5_settle_7 (by decide) (fun h_7 => ?_) (fun h_7 => absurd (by show S.2.1 Q 1 ≤ 0; rw [hc]; decide) h_7)
  refine a_iconst (v := 0) X dX5_settle_34 (by decide) ?_
  refine a_istore_n X dX5_settle_35 (by decide) ?_
  refine a_iload_n X dX5_settle_36 rfl ?_
  refine a_aload_n X dX5_settle_37 rfl ?_
  refine a_geti X lf5_73 (by assumption) rfl dX5_settle_38 ?_
  refine a_icmp_ge (tgt := 98) X dX5_settle_41 (by decide) (fun h_41 => ?_) (fun h_41 => absurd (by show S.2.1 Q 0 ≤ 0; rw [hu]; decide) h_41)
  refine a_aload_n X dX5_settle_98 rfl ?_
  refine a_geti X lf5_85 (by assumption) rfl dX5_settle_99 ?_
  refine a_if_eq (tgt := 110) X dX5_settle_102 (by decide) (fun h_102 => ?_) (fun h_102 => absurd (by show S.2.1 Q 3 = 0; exact hn) h_102)
  refine a_aload_n X dX5_settle_110 rfl ?_
  refine a_aload_n X dX5_settle_111 rfl ?_
  refine a_callVu X dX5_settle_112 miX5_secondRound lm5_92 (c_secondRound0 (by assumption) (by assumption) (by assumption) (by assumption) (by assumption)) (by assumption) rfl rfl rfl (Nat.le_of_ble_eq_true rfl) ⟨by decide, by decide, by decide, by decide⟩ ?_
  refine a_vret X hr dX5_settle_115 ⟨by decide, by decide⟩ ?_
  subst hF
  exact ⟨rfl, rfl⟩
set_option maxRecDepth 100000 in
theorem c_bySeed0 {l : Launch} {G : zG} {b : Nat} {S : zS} {P Q : Nat}{sd : Int32} (hP : LX5 S.1 P) (hQ : LX2 S.1 Q) (hc : S.2.1 Q 1 = 0) (hu : S.2.1 Q 0 = 0) (hn : S.2.1 Q 3 = 0) : zM l G b yX5_bySeed cX5_bySeed 3 none 2 0 0 [.ref P, .ref Q, .int sd] S (fun r z => r = none ∧ z = S) := by
  refine zM.of miX5_bySeed (Nat.le_of_ble_eq_true rfl) ?_
  intro p e s m args below meth c X hr hname
  generalize hF : ((fun r z => r = none ∧ z = S) : Option Value → zS → Prop) = FQ
  change Zw p l e { frames := 2, cells := 0, slots := 0, locals := 80 * 2 } s m args below meth c G b 3 (MQ below (zQ G b FQ) args s 0 0 (fun q : Nat => b ≤ q)) 0 0 0 [some (.ref P), some (.ref Q), some (.int sd)] [] S
  obtain ⟨plt, po, pline, punitOf, proundOf, pleftTags, pleftGuests, pleftPreferred, pranked⟩ := id hP
  obtain ⟨qlt, qo, qquota, qpreferred, qforGuests, qapplicantOf, qsize, qguestCount, qscore, qtickets, qbits, qparty, qwishCount, qwishes⟩ := id hQ
  refine a_aload_n X dX5_bySeed_0 rfl ?_
  refine a_aload_n X dX5_bySeed_1 rfl ?_
  refine a_iload_n X dX5_bySeed_2 rfl ?_
  refine a_callVu X dX5_bySeed_3 miX5_lineUp lm5_33 (c_lineUp0 (by assumption) (by assumption) (by assumption) (by assumption) (by assumption)) (by assumption) rfl rfl rfl (Nat.le_of_ble_eq_true rfl) ⟨by decide, by decide, by decide, by decide⟩ ?_
  refine a_aload_n X dX5_bySeed_6 rfl ?_
  refine a_aload_n X dX5_bySeed_7 rfl ?_
  refine a_callVu X dX5_bySeed_8 miX5_settle lm5_37 (c_settle0 (by assumption) (by assumption) (by assumption) (by assumption) (by assumption)) (by assumption) rfl rfl rfl (Nat.le_of_ble_eq_true rfl) ⟨by decide, by decide, by decide, by decide⟩ ?_
  refine a_vret X hr dX5_bySeed_11 ⟨by decide, by decide⟩ ?_
  subst hF
  exact ⟨rfl, rfl⟩
set_option maxRecDepth 100000 in
theorem c_tagsGiven0 {l : Launch} {G : zG} {b : Nat} {S : zS} {P Q : Nat} (hP : LX5 S.1 P) (hQ : LX2 S.1 Q) (hc : S.2.1 Q 1 = 0) (hu : S.2.1 Q 0 = 0) (hn : S.2.1 Q 3 = 0) : zM l G b yX5_tagsGiven cX5_tagsGiven 4 (some .int) 0 0 0 [.ref P, .ref Q] S (fun r z => r = some (.int 0) ∧ z = S) := by
  refine zM.of miX5_tagsGiven (Nat.le_of_ble_eq_true rfl) ?_
  intro p e s m args below meth c X hr hname
  generalize hF : ((fun r z => r = some (.int 0) ∧ z = S) : Option Value → zS → Prop) = FQ
  change Zw p l e { frames := 0, cells := 0, slots := 0, locals := 80 * 0 } s m args below meth c G b 4 (MQ below (zQ G b FQ) args s 0 0 (fun q : Nat => b ≤ q)) 0 0 0 [some (.ref P), some (.ref Q), none, none] [] S
  obtain ⟨plt, po, pline, punitOf, proundOf, pleftTags, pleftGuests, pleftPreferred, pranked⟩ := id hP
  obtain ⟨qlt, qo, qquota, qpreferred, qforGuests, qapplicantOf, qsize, qguestCount, qscore, qtickets, qbits, qparty, qwishCount, qwishes⟩ := id hQ
  refine a_iconst (v := 0) X dX5_tagsGiven_0 (by decide) ?_
  refine a_istore_n X dX5_tagsGiven_1 (by decide) ?_
  refine a_iconst (v := 0) X dX5_tagsGiven_2 (by decide) ?_
  refine a_istore_n X dX5_tagsGiven_3 (by decide) ?_
  refine a_iload_n X dX5_tagsGiven_4 rfl ?_
  refine a_aload_n X dX5_tagsGiven_5 rfl ?_
  refine a_geti X lf5_47 (by assumption) rfl dX5_tagsGiven_6 ?_
  refine a_icmp_ge (tgt := 45) X dX5_tagsGiven_9 (by decide) (fun h_9 => ?_) (fun h_9 => absurd (by show S.2.1 Q 1 ≤ 0; rw [hc]; decide) h_9)
  refine a_iload_n X dX5_tagsGiven_45 rfl ?_
  refine a_iret X hr dX5_tagsGiven_46 ⟨by decide, by decide⟩ ?_
  subst hF
  exact ⟨rfl, rfl⟩
set_option maxRecDepth 100000 in
theorem c_tagsOf0 {l : Launch} {G : zG} {b : Nat} {S : zS} {Q : Nat} {k : Int32} (hQ : LX2 S.1 Q) (hc : S.2.1 Q 1 = 0) (hu : S.2.1 Q 0 = 0) (hn : S.2.1 Q 3 = 0) : zM l G b yX0_tagsOf cX0_tagsOf 4 (some .int) 0 0 0 [.ref Q, .int k] S (fun r z => r = some (.int 0) ∧ z = S) := by
  refine zM.of miX0_tagsOf (Nat.le_of_ble_eq_true rfl) ?_
  intro p e s m args below meth c X hr hname
  generalize hF : ((fun r z => r = some (.int 0) ∧ z = S) : Option Value → zS → Prop) = FQ
  change Zw p l e { frames := 0, cells := 0, slots := 0, locals := 80 * 0 } s m args below meth c G b 4 (MQ below (zQ G b FQ) args s 0 0 (fun q : Nat => b ≤ q)) 0 0 0 [some (.ref Q), some (.int k), none, none] [] S
  obtain ⟨qlt, qo, qquota, qpreferred, qforGuests, qapplicantOf, qsize, qguestCount, qscore, qtickets, qbits, qparty, qwishCount, qwishes⟩ := id hQ
  refine a_iconst (v := 0) X dX0_tagsOf_0 (by decide) ?_
  refine a_istore_n X dX0_tagsOf_1 (by decide) ?_
  refine a_iconst (v := 0) X dX0_tagsOf_2 (by decide) ?_
  refine a_istore_n X dX0_tagsOf_3 (by decide) ?_
  refine a_iload_n X dX0_tagsOf_4 rfl ?_
  refine a_aload_n X dX0_tagsOf_5 rfl ?_
  refine a_geti X lf0_40 (by assumption) rfl dX0_tagsOf_6 ?_
  refine a_icmp_ge (tgt := 42) X dX0_tagsOf_9 (by decide) (fun h_9 => ?_) (fun h_9 => absurd (by show S.2.1 Q 1 ≤ 0; rw [hc]; decide) h_9)
  refine a_iload_n X dX0_tagsOf_42 rfl ?_
  refine a_iret X hr dX0_tagsOf_43 ⟨by decide, by decide⟩ ?_
  subst hF
  exact ⟨rfl, rfl⟩
set_option maxRecDepth 100000 in
theorem c_record0 {l : Launch} {G : zG} {b : Nat} {S : zS} {P Q : Nat} {w : Int64} (hP : LX0 S.1 P) (hQ : LX2 S.1 Q) (hc : S.2.1 Q 1 = 0) (hu : S.2.1 Q 0 = 0) (hn : S.2.1 Q 3 = 0) : zM l G b yX0_record cX0_record 7 none 1 0 0 [.ref P, .ref Q, .long w] S (fun r z => r = none ∧ z = (S.1, zu S.2.1 (P + 2) 0 1, zwr S.2.2 (P + 1) 128 0 (zrd 0 (S.2.2 (P + 1)) 128 0 + w))) := by
  refine zM.of miX0_record (Nat.le_of_ble_eq_true rfl) ?_
  intro p e s m args below meth c X hr hname
  generalize hF : ((fun r z => r = none ∧ z = (S.1, zu S.2.1 (P + 2) 0 1, zwr S.2.2 (P + 1) 128 0 (zrd 0 (S.2.2 (P + 1)) 128 0 + w))) : Option Value → zS → Prop) = FQ
  change Zw p l e { frames := 1, cells := 0, slots := 0, locals := 80 * 1 } s m args below meth c G b 7 (MQ below (zQ G b FQ) args s 0 0 (fun q : Nat => b ≤ q)) 0 0 0 [some (.ref P), some (.ref Q), some (.long w), none, none, none, none] [] S
  obtain ⟨plt, po, psets, pseen, patUnit, pearly, presult⟩ := id hP
  obtain ⟨qlt, qo, qquota, qpreferred, qforGuests, qapplicantOf, qsize, qguestCount, qscore, qtickets, qbits, qparty, qwishCount, qwishes⟩ := id hQ
  refine a_iconst (v := 0) X dX0_record_0 (by decide) ?_
  refine a_istore X dX0_record_1 (by decide) ?_
  refine a_iconst (v := 0) X dX0_record_3 (by decide) ?_
  refine a_istore X dX0_record_4 (by decide) ?_
  refine a_iload X dX0_record_6 rfl ?_
  refine a_aload_n X dX0_record_8 rfl ?_
  refine a_geti X lf0_40 (by assumption) rfl dX0_record_9 ?_
  refine a_icmp_ge (tgt := 94) X dX0_record_12 (by decide) (fun h_12 => ?_) (fun h_12 => absurd (by show S.2.1 Q 1 ≤ 0; rw [hc]; decide) h_12)
  refine a_aload_n X dX0_record_94 rfl ?_
  refine a_getr X lf0_9 (by assumption) rfl (by omega) dX0_record_95 ?_
  refine a_iload X dX0_record_98 rfl ?_
  refine a_lload_n X dX0_record_100 rfl ?_
  refine a_callSNu X dX0_record_101 miX7_bigAdd lm0_80 (c_bigAdd (by assumption) (by decide)) rfl rfl (Nat.le_of_ble_eq_true rfl) ⟨by decide, by decide, by decide, by decide⟩ ?_
  refine a_aload_n X dX0_record_104 rfl ?_
  refine a_getr X lf0_15 (by assumption) rfl (by omega) dX0_record_105 ?_
  refine a_iload X dX0_record_108 rfl ?_
  refine a_iconst (v := 1) X dX0_record_110 (by decide) ?_
  refine a_callSNu X dX0_record_111 miX7_put lm0_73 (c_put (by assumption) (by decide)) rfl rfl (Nat.le_of_ble_eq_true rfl) ⟨by decide, by decide, by decide, by decide⟩ ?_
  refine a_vret X hr dX0_record_114 ⟨by decide, by decide⟩ ?_
  subst hF
  exact ⟨rfl, rfl⟩
set_option maxRecDepth 100000 in
theorem c_walk0 {l : Launch} {G : zG} {b : Nat} {S : zS} {P Q : Nat} {dp tk : Int32} {w : Int64} (hP : LX0 S.1 P) (hQ : LX2 S.1 Q) (hc : S.2.1 Q 1 = 0) (hu : S.2.1 Q 0 = 0) (hn : S.2.1 Q 3 = 0) : zM l G b yX0_walk cX0_walk 9 none 2 0 0 [.ref P, .ref Q, .int dp, .int 0, .int tk, .long w] S (fun r z => r = none ∧ z = (S.1, zu S.2.1 (P + 2) 0 1, zwr S.2.2 (P + 1) 128 0 (zrd 0 (S.2.2 (P + 1)) 128 0 + w))) := by
  refine zM.of miX0_walk (Nat.le_of_ble_eq_true rfl) ?_
  intro p e s m args below meth c X hr hname
  generalize hF : ((fun r z => r = none ∧ z = (S.1, zu S.2.1 (P + 2) 0 1, zwr S.2.2 (P + 1) 128 0 (zrd 0 (S.2.2 (P + 1)) 128 0 + w))) : Option Value → zS → Prop) = FQ
  change Zw p l e { frames := 2, cells := 0, slots := 0, locals := 80 * 2 } s m args below meth c G b 9 (MQ below (zQ G b FQ) args s 0 0 (fun q : Nat => b ≤ q)) 0 0 0 [some (.ref P), some (.ref Q), some (.int dp), some (.int 0), some (.int tk), some (.long w), none, none, none] [] S
  obtain ⟨plt, po, psets, pseen, patUnit, pearly, presult⟩ := id hP
  obtain ⟨qlt, qo, qquota, qpreferred, qforGuests, qapplicantOf, qsize, qguestCount, qscore, qtickets, qbits, qparty, qwishCount, qwishes⟩ := id hQ
  have pr := presult
  obtain ⟨rlt, ro, _⟩ := presult
  refine a_iload_n X dX0_walk_0 rfl ?_
  refine a_if_ne (tgt := 20) X dX0_walk_1 (by decide) (fun h_1 => absurd rfl h_1) (fun h_1 => ?_)
  refine a_aload_n X dX0_walk_4 rfl ?_
  refine a_getr X lf0_28 (by assumption) rfl (by omega) dX0_walk_5 ?_
  refine a_aload_n X dX0_walk_8 rfl ?_
  refine a_callVu X dX0_walk_9 miX5_settle lm0_55 (c_settle0 (by assumption) (by assumption) (by assumption) (by assumption) (by assumption)) (by assumption) rfl rfl rfl (Nat.le_of_ble_eq_true rfl) ⟨by decide, by decide, by decide, by decide⟩ ?_
  refine a_aload_n X dX0_walk_12 rfl ?_
  refine a_aload_n X dX0_walk_13 rfl ?_
  refine a_lload X dX0_walk_14 rfl ?_
  refine a_callVu X dX0_walk_16 miX0_record lm0_59 (c_record0 (by assumption) (by assumption) (by assumption) (by assumption) (by assumption)) (by assumption) rfl rfl rfl (Nat.le_of_ble_eq_true rfl) ⟨by decide, by decide, by decide, by decide⟩ ?_
  refine a_vret X hr dX0_walk_19 ⟨by decide, by decide⟩ ?_
  subst hF
  exact ⟨rfl, rfl⟩
set_option maxRecDepth 100000 in
theorem c_reckon0 {l : Launch} {G : zG} {b : Nat} {S : zS} {P Q : Nat} (hPQ : Q + 13 ≤ P ∨ P + 13 ≤ Q) (hP : LX0 S.1 P) (hQ : LX2 S.1 Q) (hc : S.2.1 Q 1 = 0) (hu : S.2.1 Q 0 = 0) (hn : S.2.1 Q 3 = 0) : zM l G b yX0_reckon cX0_reckon 2 none 3 0 0 [.ref P, .ref Q] S (fun r z => ∃ M' N', r = none ∧ z = (S.1, M', N') ∧ zout S.2.1 M' (P + 2) (P + 3) ∧ M' (P + 2) 0 = 1 ∧ ∀ j, 0 < j → j < 128 → M' (P + 2) j = 0) := by
  refine zM.of miX0_reckon (Nat.le_of_ble_eq_true rfl) ?_
  intro p e s m args below meth c X hr hname
  generalize hF : ((fun r z => ∃ M' N', r = none ∧ z = (S.1, M', N') ∧ zout S.2.1 M' (P + 2) (P + 3) ∧ M' (P + 2) 0 = 1 ∧ ∀ j, 0 < j → j < 128 → M' (P + 2) j = 0) : Option Value → zS → Prop) = FQ
  change Zw p l e { frames := 3, cells := 0, slots := 0, locals := 80 * 3 } s m args below meth c G b 2 (MQ below (zQ G b FQ) args s 0 0 (fun q : Nat => b ≤ q)) 0 0 0 [some (.ref P), some (.ref Q)] [] S
  obtain ⟨plt, po, psets, pseen, patUnit, pearly, presult⟩ := id hP
  obtain ⟨qlt, qo, qquota, qpreferred, qforGuests, qapplicantOf, qsize, qguestCount, qscore, qtickets, qbits, qparty, qwishCount, qwishes⟩ := id hQ
  have nq : ¬ Q = P + 2 := by omega
  refine a_aload_n X dX0_reckon_0 rfl ?_
  refine a_getr X lf0_9 (by assumption) rfl (by omega) dX0_reckon_1 ?_
  refine a_lconst (v := 0) X dX0_reckon_4 (by decide) ?_
  refine a_callSNu X dX0_reckon_5 miX7_bigFill lm0_32 (c_bigFill (by assumption) (by decide)) rfl rfl (Nat.le_of_ble_eq_true rfl) ⟨by decide, by decide, by decide, by decide⟩ ?_
  refine a_aload_n X dX0_reckon_8 rfl ?_
  refine a_getr X lf0_15 (by assumption) rfl (by omega) dX0_reckon_9 ?_
  refine a_iconst (v := 0) X dX0_reckon_12 (by decide) ?_
  refine a_callSNu X dX0_reckon_13 miX7_fill lm0_36 (c_fill (by assumption) (by decide)) rfl rfl (Nat.le_of_ble_eq_true rfl) ⟨by decide, by decide, by decide, by decide⟩ ?_
  refine a_aload_n X dX0_reckon_16 rfl ?_
  refine a_getr X lf0_19 (by assumption) rfl (by omega) dX0_reckon_17 ?_
  refine a_lconst (v := 0) X dX0_reckon_20 (by decide) ?_
  refine a_callSNu X dX0_reckon_21 miX7_bigFill lm0_32 (c_bigFill (by assumption) (by decide)) rfl rfl (Nat.le_of_ble_eq_true rfl) ⟨by decide, by decide, by decide, by decide⟩ ?_
  refine a_aload_n X dX0_reckon_24 rfl ?_
  refine a_getr X lf0_22 (by assumption) rfl (by omega) dX0_reckon_25 ?_
  refine a_lconst (v := 0) X dX0_reckon_28 (by decide) ?_
  refine a_callSNu X dX0_reckon_29 miX7_bigFill lm0_32 (c_bigFill (by assumption) (by decide)) rfl rfl (Nat.le_of_ble_eq_true rfl) ⟨by decide, by decide, by decide, by decide⟩ ?_
  refine a_aload_n X dX0_reckon_32 rfl ?_
  refine a_geti X lf0_40 (by assumption) rfl dX0_reckon_33 ?_
  refine a_bipush (v := 7) X dX0_reckon_36 (by decide) ?_
  refine a_icmp_gt (tgt := 62) X dX0_reckon_38 (by decide) (fun h_38 => absurd h_38 (by show ¬ 7 < zfil S.2.1 (P + 2) 128 0 Q 1; rw [zfil_row nq, hc]; decide)) (fun h_38 => ?_)
  refine a_aload_n X dX0_reckon_41 rfl ?_
  refine a_aload_n X dX0_reckon_42 rfl ?_
  refine a_iconst (v := 0) X dX0_reckon_43 (by decide) ?_
  refine a_iconst (v := 1) X dX0_reckon_44 (by decide) ?_
  refine a_aload_n X dX0_reckon_45 rfl ?_
  refine a_geti X lf0_40 (by assumption) rfl dX0_reckon_46 ?_
  refine a_ishl X dX0_reckon_49 ?_
  refine a_iconst (v := 1) X dX0_reckon_50 (by decide) ?_
  refine a_isub X dX0_reckon_51 ?_
  refine a_aload_n X dX0_reckon_52 rfl ?_
  refine a_geti X lf0_46 (by assumption) rfl dX0_reckon_53 ?_
  refine a_ldc2 X dX0_reckon_56 lk0_49 ?_
  rw [show (1 <<< (zfil S.2.1 (P + 2) 128 0 Q 1 &&& 31) - 1 : Int32) = 0 by rw [zfil_row nq, hc]; decide]
  refine a_callSu X dX0_reckon_59 miX0_walk lm0_51 (c_walk0 (w := 1000000000000) hP hQ (by show zfil S.2.1 (P + 2) 128 0 Q 1 = 0; rw [zfil_row nq, hc]) (by show zfil S.2.1 (P + 2) 128 0 Q 0 = 0; rw [zfil_row nq, hu]) (by show zfil S.2.1 (P + 2) 128 0 Q 3 = 0; rw [zfil_row nq, hn])) rfl rfl (Nat.le_of_ble_eq_true rfl) ⟨by decide, by decide, by decide, by decide⟩ ?_
  refine a_vret X hr dX0_reckon_62 ⟨by decide, by decide⟩ ?_
  subst hF
  exact ⟨_, _, rfl, rfl, (zout.rf.zfil (by omega) (by omega)).zu (by omega) (by omega), zu_eq, fun j h1 h2 => by simp [zu, zfil, h2]; omega⟩
set_option maxRecDepth 100000 in
theorem c_always {l : Launch} {G : zG} {b : Nat} {S : zS} {P : Nat} (hP : LX0 S.1 P) : zM l G b yX0_always cX0_always 3 (some .int) 1 0 0 [.ref P] S (fun r z => r = some (.int (zand (S.2.1 (P + 2)) 128)) ∧ z = S) := by
  refine zM.of miX0_always (Nat.le_of_ble_eq_true rfl) ?_
  intro p e s m args below meth c X hr hname
  generalize hF : ((fun r z => r = some (.int (zand (S.2.1 (P + 2)) 128)) ∧ z = S) : Option Value → zS → Prop) = FQ
  change Zw p l e { frames := 1, cells := 0, slots := 0, locals := 80 * 1 } s m args below meth c G b 3 (MQ below (zQ G b FQ) args s 0 0 (fun q : Nat => b ≤ q)) 0 0 0 [some (.ref P), none, none] [] S
  obtain ⟨plt, po, psets, pseen, patUnit, pearly, presult⟩ := id hP
  have L : ∀ (u j : Nat), 128 < j + u → j ≤ 128 → Zw p l e { frames := 1, cells := 0, slots := 0, locals := 80 * 1 } s m args below meth c G b 3 (MQ below (zQ G b FQ) args s 0 0 (fun q : Nat => b ≤ q)) 0 0 5 [some (.ref P), some (.int (zand (S.2.1 (P + 2)) j)), some (.int (nI j))] [] S := by
    intro u
    induction u with
    | zero => intro j h1 h2; exact absurd h1 (by omega)
    | succ u ih =>
      intro j h1 h2
      refine a_iload_n X dX0_always_5 rfl ?_
      refine a_sipush (v := 128) X dX0_always_6 (by decide) ?_
      refine a_icmp_ge (tgt := 34) X dX0_always_9 (by decide) (fun h_9 => ?_) (fun h_9 => ?_)
      · refine a_iload_n X dX0_always_34 rfl ?_
        refine a_iret X hr dX0_always_35 ⟨by decide, by decide⟩ ?_
        have hj : j = 128 := by have := (nI_leI (a := 128) (by decide) (by omega)).mp h_9; omega
        subst hj
        subst hF
        exact ⟨rfl, rfl⟩
      · have hj : j < 128 := Nat.not_le.mp (fun q => h_9 ((nI_leI (by decide) (by omega)).mpr q))
        refine a_aload_n X dX0_always_12 rfl ?_
        refine a_getr X lf0_15 (by assumption) rfl (by omega) dX0_always_13 ?_
        refine a_iload_n X dX0_always_16 rfl ?_
        refine a_callSNv X dX0_always_17 miX7_cell lm0_66 (c_cell (by assumption) (by decide)) rfl rfl (Nat.le_of_ble_eq_true rfl) ⟨by decide, by decide, by decide, by decide⟩ ?_
        refine a_iconst (v := 1) X dX0_always_20 (by decide) ?_
        refine a_icmp_ne (tgt := 28) X dX0_always_21 (by decide) (fun h_21 => ?_) (fun h_21 => ?_)
        · refine a_iinc (v := nI (j + 1)) X dX0_always_28 (by decide) rfl (nI_1 j) ?_
          refine a_goto (tgt := 5) X dX0_always_31 (by decide) ?_
          rw [zrd_nI hj (by decide)] at h_21
          exact Zw.to (ih (j + 1) (by omega) (by omega)) (by simp only [zand, h_21, if_true, if_false]; rfl) rfl
        · refine a_iload_n X dX0_always_24 rfl ?_
          refine a_iload_n X dX0_always_25 rfl ?_
          refine a_iand X dX0_always_26 ?_
          refine a_istore_n X dX0_always_27 (by decide) ?_
          refine a_iinc (v := nI (j + 1)) X dX0_always_28 (by decide) rfl (nI_1 j) ?_
          refine a_goto (tgt := 5) X dX0_always_31 (by decide) ?_
          rw [zrd_nI hj (by decide)] at h_21
          exact Zw.to (ih (j + 1) (by omega) (by omega)) (by simp only [zand, h_21, if_true, if_false]; rfl) rfl
  refine a_bipush (v := 127) X dX0_always_0 (by decide) ?_
  refine a_istore_n X dX0_always_2 (by decide) ?_
  refine a_iconst (v := 0) X dX0_always_3 (by decide) ?_
  refine a_istore_n X dX0_always_4 (by decide) ?_
  exact Zw.to (L 129 0 (by omega) (by omega)) rfl rfl
set_option maxRecDepth 100000 in
theorem c_ever {l : Launch} {G : zG} {b : Nat} {S : zS} {P : Nat} (hP : LX0 S.1 P) : zM l G b yX0_ever cX0_ever 3 (some .int) 1 0 0 [.ref P] S (fun r z => r = some (.int (zor (S.2.1 (P + 2)) 128)) ∧ z = S) := by
  refine zM.of miX0_ever (Nat.le_of_ble_eq_true rfl) ?_
  intro p e s m args below meth c X hr hname
  generalize hF : ((fun r z => r = some (.int (zor (S.2.1 (P + 2)) 128)) ∧ z = S) : Option Value → zS → Prop) = FQ
  change Zw p l e { frames := 1, cells := 0, slots := 0, locals := 80 * 1 } s m args below meth c G b 3 (MQ below (zQ G b FQ) args s 0 0 (fun q : Nat => b ≤ q)) 0 0 0 [some (.ref P), none, none] [] S
  obtain ⟨plt, po, psets, pseen, patUnit, pearly, presult⟩ := id hP
  have L : ∀ (u j : Nat), 128 < j + u → j ≤ 128 → Zw p l e { frames := 1, cells := 0, slots := 0, locals := 80 * 1 } s m args below meth c G b 3 (MQ below (zQ G b FQ) args s 0 0 (fun q : Nat => b ≤ q)) 0 0 4 [some (.ref P), some (.int (zor (S.2.1 (P + 2)) j)), some (.int (nI j))] [] S := by
    intro u
    induction u with
    | zero => intro j h1 h2; exact absurd h1 (by omega)
    | succ u ih =>
      intro j h1 h2
      refine a_iload_n X dX0_ever_4 rfl ?_
      refine a_sipush (v := 128) X dX0_ever_5 (by decide) ?_
      refine a_icmp_ge (tgt := 33) X dX0_ever_8 (by decide) (fun h_8 => ?_) (fun h_8 => ?_)
      · refine a_iload_n X dX0_ever_33 rfl ?_
        refine a_iret X hr dX0_ever_34 ⟨by decide, by decide⟩ ?_
        have hj : j = 128 := by have := (nI_leI (a := 128) (by decide) (by omega)).mp h_8; omega
        subst hj
        subst hF
        exact ⟨rfl, rfl⟩
      · have hj : j < 128 := Nat.not_le.mp (fun q => h_8 ((nI_leI (by decide) (by omega)).mpr q))
        refine a_aload_n X dX0_ever_11 rfl ?_
        refine a_getr X lf0_15 (by assumption) rfl (by omega) dX0_ever_12 ?_
        refine a_iload_n X dX0_ever_15 rfl ?_
        refine a_callSNv X dX0_ever_16 miX7_cell lm0_66 (c_cell (by assumption) (by decide)) rfl rfl (Nat.le_of_ble_eq_true rfl) ⟨by decide, by decide, by decide, by decide⟩ ?_
        refine a_iconst (v := 1) X dX0_ever_19 (by decide) ?_
        refine a_icmp_ne (tgt := 27) X dX0_ever_20 (by decide) (fun h_20 => ?_) (fun h_20 => ?_)
        · refine a_iinc (v := nI (j + 1)) X dX0_ever_27 (by decide) rfl (nI_1 j) ?_
          refine a_goto (tgt := 4) X dX0_ever_30 (by decide) ?_
          rw [zrd_nI hj (by decide)] at h_20
          exact Zw.to (ih (j + 1) (by omega) (by omega)) (by simp only [zor, h_20, if_true, if_false]; rfl) rfl
        · refine a_iload_n X dX0_ever_23 rfl ?_
          refine a_iload_n X dX0_ever_24 rfl ?_
          refine a_ior X dX0_ever_25 ?_
          refine a_istore_n X dX0_ever_26 (by decide) ?_
          refine a_iinc (v := nI (j + 1)) X dX0_ever_27 (by decide) rfl (nI_1 j) ?_
          refine a_goto (tgt := 4) X dX0_ever_30 (by decide) ?_
          rw [zrd_nI hj (by decide)] at h_20
          exact Zw.to (ih (j + 1) (by omega) (by omega)) (by simp only [zor, h_20, if_true, if_false]; rfl) rfl
  refine a_iconst (v := 0) X dX0_ever_0 (by decide) ?_
  refine a_istore_n X dX0_ever_1 (by decide) ?_
  refine a_iconst (v := 0) X dX0_ever_2 (by decide) ?_
  refine a_istore_n X dX0_ever_3 (by decide) ?_
  exact Zw.to (L 129 0 (by omega) (by omega)) rfl rfl
set_option maxRecDepth 100000 in
theorem c_fewestTags0 {l : Launch} {G : zG} {b : Nat} {S : zS} {P Q : Nat} (hP : LX0 S.1 P) (hQ : LX2 S.1 Q) (hc : S.2.1 Q 1 = 0) (hu : S.2.1 Q 0 = 0) (hn : S.2.1 Q 3 = 0) : zM l G b yX0_fewestTags cX0_fewestTags 4 (some .int) 1 0 0 [.ref P, .ref Q] S (fun r z => r = some (.int (zfew (S.2.1 (P + 2)) (fun _ => 0) 128)) ∧ z = S) := by
  refine zM.of miX0_fewestTags (Nat.le_of_ble_eq_true rfl) ?_
  intro p e s m args below meth c X hr hname
  generalize hF : ((fun r z => r = some (.int (zfew (S.2.1 (P + 2)) (fun _ => 0) 128)) ∧ z = S) : Option Value → zS → Prop) = FQ
  change Zw p l e { frames := 1, cells := 0, slots := 0, locals := 80 * 1 } s m args below meth c G b 4 (MQ below (zQ G b FQ) args s 0 0 (fun q : Nat => b ≤ q)) 0 0 0 [some (.ref P), some (.ref Q), none, none] [] S
  obtain ⟨plt, po, psets, pseen, patUnit, pearly, presult⟩ := id hP
  obtain ⟨qlt, qo, qquota, qpreferred, qforGuests, qapplicantOf, qsize, qguestCount, qscore, qtickets, qbits, qparty, qwishCount, qwishes⟩ := id hQ
  have L : ∀ (u j : Nat), 128 < j + u → j ≤ 128 → Zw p l e { frames := 1, cells := 0, slots := 0, locals := 80 * 1 } s m args below meth c G b 4 (MQ below (zQ G b FQ) args s 0 0 (fun q : Nat => b ≤ q)) 0 0 5 [some (.ref P), some (.ref Q), some (.int (zfew (S.2.1 (P + 2)) (fun _ => 0) j)), some (.int (nI j))] [] S := by
    intro u
    induction u with
    | zero => intro j h1 h2; exact absurd h1 (by omega)
    | succ u ih =>
      intro j h1 h2
      refine a_iload_n X dX0_fewestTags_5 rfl ?_
      refine a_sipush (v := 128) X dX0_fewestTags_6 (by decide) ?_
      refine a_icmp_ge (tgt := 40) X dX0_fewestTags_9 (by decide) (fun h_9 => ?_) (fun h_9 => ?_)
      · refine a_iload_n X dX0_fewestTags_40 rfl ?_
        refine a_iret X hr dX0_fewestTags_41 ⟨by decide, by decide⟩ ?_
        have hj : j = 128 := by have := (nI_leI (a := 128) (by decide) (by omega)).mp h_9; omega
        subst hj
        subst hF
        exact ⟨rfl, rfl⟩
      · have hj : j < 128 := Nat.not_le.mp (fun q => h_9 ((nI_leI (by decide) (by omega)).mpr q))
        refine a_aload_n X dX0_fewestTags_12 rfl ?_
        refine a_getr X lf0_15 (by assumption) rfl (by omega) dX0_fewestTags_13 ?_
        refine a_iload_n X dX0_fewestTags_16 rfl ?_
        refine a_callSNv X dX0_fewestTags_17 miX7_cell lm0_66 (c_cell (by assumption) (by decide)) rfl rfl (Nat.le_of_ble_eq_true rfl) ⟨by decide, by decide, by decide, by decide⟩ ?_
        refine a_iconst (v := 1) X dX0_fewestTags_20 (by decide) ?_
        refine a_icmp_ne (tgt := 34) X dX0_fewestTags_21 (by decide) (fun h_21 => ?_) (fun h_21 => ?_)
        · refine a_iinc (v := nI (j + 1)) X dX0_fewestTags_34 (by decide) rfl (nI_1 j) ?_
          refine a_goto (tgt := 5) X dX0_fewestTags_37 (by decide) ?_
          rw [zrd_nI hj (by decide)] at h_21
          exact Zw.to (ih (j + 1) (by omega) (by omega)) (by simp only [zfew, h_21, if_true, if_false]; rfl) rfl
        · refine a_iload_n X dX0_fewestTags_24 rfl ?_
          refine a_aload_n X dX0_fewestTags_25 rfl ?_
          refine a_iload_n X dX0_fewestTags_26 rfl ?_
          refine a_callSv X dX0_fewestTags_27 miX0_tagsOf lm0_95 (c_tagsOf0 (by assumption) (by assumption) (by assumption) (by assumption)) rfl rfl (Nat.le_of_ble_eq_true rfl) ⟨by decide, by decide, by decide, by decide⟩ ?_
          refine a_mmin X lm0_99 zmath2 zmath0 zmathc2 ⟨by decide, Nat.le_of_ble_eq_true rfl, by decide, by decide⟩ dX0_fewestTags_30 ?_
          refine a_istore_n X dX0_fewestTags_33 (by decide) ?_
          refine a_iinc (v := nI (j + 1)) X dX0_fewestTags_34 (by decide) rfl (nI_1 j) ?_
          refine a_goto (tgt := 5) X dX0_fewestTags_37 (by decide) ?_
          rw [zrd_nI hj (by decide)] at h_21
          exact Zw.to (ih (j + 1) (by omega) (by omega)) (by simp only [zfew, h_21, if_true, if_false]; rfl) rfl
  refine a_bipush (v := 10) X dX0_fewestTags_0 (by decide) ?_
  refine a_istore_n X dX0_fewestTags_2 (by decide) ?_
  refine a_iconst (v := 0) X dX0_fewestTags_3 (by decide) ?_
  refine a_istore_n X dX0_fewestTags_4 (by decide) ?_
  exact Zw.to (L 129 0 (by omega) (by omega)) rfl rfl
set_option maxRecDepth 100000 in
theorem c_mostTags0 {l : Launch} {G : zG} {b : Nat} {S : zS} {P Q : Nat} (hP : LX0 S.1 P) (hQ : LX2 S.1 Q) (hc : S.2.1 Q 1 = 0) (hu : S.2.1 Q 0 = 0) (hn : S.2.1 Q 3 = 0) : zM l G b yX0_mostTags cX0_mostTags 4 (some .int) 1 0 0 [.ref P, .ref Q] S (fun r z => r = some (.int (zmost (S.2.1 (P + 2)) (fun _ => 0) 128)) ∧ z = S) := by
  refine zM.of miX0_mostTags (Nat.le_of_ble_eq_true rfl) ?_
  intro p e s m args below meth c X hr hname
  generalize hF : ((fun r z => r = some (.int (zmost (S.2.1 (P + 2)) (fun _ => 0) 128)) ∧ z = S) : Option Value → zS → Prop) = FQ
  change Zw p l e { frames := 1, cells := 0, slots := 0, locals := 80 * 1 } s m args below meth c G b 4 (MQ below (zQ G b FQ) args s 0 0 (fun q : Nat => b ≤ q)) 0 0 0 [some (.ref P), some (.ref Q), none, none] [] S
  obtain ⟨plt, po, psets, pseen, patUnit, pearly, presult⟩ := id hP
  obtain ⟨qlt, qo, qquota, qpreferred, qforGuests, qapplicantOf, qsize, qguestCount, qscore, qtickets, qbits, qparty, qwishCount, qwishes⟩ := id hQ
  have L : ∀ (u j : Nat), 128 < j + u → j ≤ 128 → Zw p l e { frames := 1, cells := 0, slots := 0, locals := 80 * 1 } s m args below meth c G b 4 (MQ below (zQ G b FQ) args s 0 0 (fun q : Nat => b ≤ q)) 0 0 4 [some (.ref P), some (.ref Q), some (.int (zmost (S.2.1 (P + 2)) (fun _ => 0) j)), some (.int (nI j))] [] S := by
    intro u
    induction u with
    | zero => intro j h1 h2; exact absurd h1 (by omega)
    | succ u ih =>
      intro j h1 h2
      refine a_iload_n X dX0_mostTags_4 rfl ?_
      refine a_sipush (v := 128) X dX0_mostTags_5 (by decide) ?_
      refine a_icmp_ge (tgt := 39) X dX0_mostTags_8 (by decide) (fun h_8 => ?_) (fun h_8 => ?_)
      · refine a_iload_n X dX0_mostTags_39 rfl ?_
        refine a_iret X hr dX0_mostTags_40 ⟨by decide, by decide⟩ ?_
        have hj : j = 128 := by have := (nI_leI (a := 128) (by decide) (by omega)).mp h_8; omega
        subst hj
        subst hF
        exact ⟨rfl, rfl⟩
      · have hj : j < 128 := Nat.not_le.mp (fun q => h_8 ((nI_leI (by decide) (by omega)).mpr q))
        refine a_aload_n X dX0_mostTags_11 rfl ?_
        refine a_getr X lf0_15 (by assumption) rfl (by omega) dX0_mostTags_12 ?_
        refine a_iload_n X dX0_mostTags_15 rfl ?_
        refine a_callSNv X dX0_mostTags_16 miX7_cell lm0_66 (c_cell (by assumption) (by decide)) rfl rfl (Nat.le_of_ble_eq_true rfl) ⟨by decide, by decide, by decide, by decide⟩ ?_
        refine a_iconst (v := 1) X dX0_mostTags_19 (by decide) ?_
        refine a_icmp_ne (tgt := 33) X dX0_mostTags_20 (by decide) (fun h_20 => ?_) (fun h_20 => ?_)
        · refine a_iinc (v := nI (j + 1)) X dX0_mostTags_33 (by decide) rfl (nI_1 j) ?_
          refine a_goto (tgt := 4) X dX0_mostTags_36 (by decide) ?_
          rw [zrd_nI hj (by decide)] at h_20
          exact Zw.to (ih (j + 1) (by omega) (by omega)) (by simp only [zmost, h_20, if_true, if_false]; rfl) rfl
        · refine a_iload_n X dX0_mostTags_23 rfl ?_
          refine a_aload_n X dX0_mostTags_24 rfl ?_
          refine a_iload_n X dX0_mostTags_25 rfl ?_
          refine a_callSv X dX0_mostTags_26 miX0_tagsOf lm0_95 (c_tagsOf0 (by assumption) (by assumption) (by assumption) (by assumption)) rfl rfl (Nat.le_of_ble_eq_true rfl) ⟨by decide, by decide, by decide, by decide⟩ ?_
          refine a_mmax X lm0_105 zmath1 zmath0 zmathc1 ⟨by decide, Nat.le_of_ble_eq_true rfl, by decide, by decide⟩ dX0_mostTags_29 ?_
          refine a_istore_n X dX0_mostTags_32 (by decide) ?_
          refine a_iinc (v := nI (j + 1)) X dX0_mostTags_33 (by decide) rfl (nI_1 j) ?_
          refine a_goto (tgt := 4) X dX0_mostTags_36 (by decide) ?_
          rw [zrd_nI hj (by decide)] at h_20
          exact Zw.to (ih (j + 1) (by omega) (by omega)) (by simp only [zmost, h_20, if_true, if_false]; rfl) rfl
  refine a_iconst (v := 0) X dX0_mostTags_0 (by decide) ?_
  refine a_istore_n X dX0_mostTags_1 (by decide) ?_
  refine a_iconst (v := 0) X dX0_mostTags_2 (by decide) ?_
  refine a_istore_n X dX0_mostTags_3 (by decide) ?_
  exact Zw.to (L 129 0 (by omega) (by omega)) rfl rfl
set_option maxRecDepth 100000 in
theorem c_live0 {l : Launch} {G : zG} {b : Nat} {S : zS} {P Q C : Nat} (hP : LX4 S.1 P) (hh : S.2.1 P 1 = 0) : zM l G b yX4_live cX4_live 5 none 0 0 0 [.ref P, .ref Q, .ref C] S (fun r z => r = none ∧ z = S) := by
  refine zM.of miX4_live (Nat.le_of_ble_eq_true rfl) ?_
  intro p e s m args below meth c X hr hname
  generalize hF : ((fun r z => r = none ∧ z = S) : Option Value → zS → Prop) = FQ
  change Zw p l e { frames := 0, cells := 0, slots := 0, locals := 80 * 0 } s m args below meth c G b 5 (MQ below (zQ G b FQ) args s 0 0 (fun q : Nat => b ≤ q)) 0 0 0 [some (.ref P), some (.ref Q), some (.ref C), none, none] [] S
  obtain ⟨plt, po, pquota, pscore, pguest, pparty, pwishCount, pwishes, phas⟩ := id hP
  refine a_iconst (v := 0) X dX4_live_0 (by decide) ?_
  refine a_istore_n X dX4_live_1 (by decide) ?_
  refine a_iload_n X dX4_live_2 rfl ?_
  refine a_aload_n X dX4_live_3 rfl ?_
  refine a_geti X lf4_37 (by assumption) rfl dX4_live_4 ?_
  refine a_icmp_ge (tgt := 66) X dX4_live_7 (by decide) (fun h_7 => ?_) (fun h_7 => absurd (by show S.2.1 P 1 ≤ 0; rw [hh]; decide) h_7)
  refine a_vret X hr dX4_live_66 ⟨by decide, by decide⟩ ?_
  subst hF
  exact ⟨rfl, rfl⟩
set_option maxRecDepth 100000 in
theorem c_pass0 {l : Launch} {G : zG} {b : Nat} {S : zS} {P Q k : Nat} {sd : Int32} (hP : LX6 S.1 P) (hQ : LX4 S.1 Q) (hPQ : Q + 8 ≤ P ∨ P + 33 ≤ Q) (hu : S.2.1 Q 0 = 0) (hh : S.2.1 Q 1 = 0) (hp : S.2.1 Q 2 = 0) (hk : k < 1000) : zM l G b yX6_pass cX6_pass 6 none 3 0 0 [.ref P, .ref Q, .int sd, .int (nI k)] S (fun r z => ∃ M', r = none ∧ z = (S.1, M', S.2.2) ∧ M' P 0 = 0 ∧ M' P 1 = 0 ∧ zout S.2.1 M' P (P + 33)) := by
  refine zM.of miX6_pass (Nat.le_of_ble_eq_true rfl) ?_
  intro p e s m args below meth c X hr hname
  generalize hF : ((fun r z => ∃ M', r = none ∧ z = (S.1, M', S.2.2) ∧ M' P 0 = 0 ∧ M' P 1 = 0 ∧ zout S.2.1 M' P (P + 33)) : Option Value → zS → Prop) = FQ
  change Zw p l e { frames := 3, cells := 0, slots := 0, locals := 80 * 3 } s m args below meth c G b 6 (MQ below (zQ G b FQ) args s 0 0 (fun q : Nat => b ≤ q)) 0 0 0 [some (.ref P), some (.ref Q), some (.int sd), some (.int (nI k)), none, none] [] S
  have hQ9 := hQ
  obtain ⟨plt, po, ptimes, pfirstWish, pdry, plist, ppool, presult⟩ := id hP
  have hl := plist
  have hpo := ppool
  have hre := presult
  obtain ⟨llt, lo, lquota, lscore, lguest, lparty, lwishCount, lwishes, lhas⟩ := id hl
  obtain ⟨olt, oo, oquota, opreferred, oforGuests, oapplicantOf, osize, oguestCount, oscore, otickets, obits, oparty, owishCount, owishes⟩ := id hpo
  obtain ⟨rlt, ro, rline, runitOf, rroundOf, rleftTags, rleftGuests, rleftPreferred, rranked⟩ := id hre
  have n0 : ¬ Q = P := by omega
  have n1 : ¬ Q = P + 1 := by omega
  have n2 : ¬ Q = P + 2 := by omega
  have n3 : ¬ Q = P + 3 := by omega
  have L : ∀ (u j : Nat), k + 1 < j + u → j ≤ k + 1 → ∀ (x5 : Option Value) (M2 : Nat → Nat → Int32), M2 P 0 = 0 → M2 P 1 = 0 → M2 (P + 4) 0 = 0 → M2 (P + 4) 1 = 0 → M2 (P + 4) 2 = 0 → zout S.2.1 M2 P (P + 33) → Zw p l e { frames := 3, cells := 0, slots := 0, locals := 80 * 3 } s m args below meth c G b 6 (MQ below (zQ G b FQ) args s 0 0 (fun q : Nat => b ≤ q)) 0 0 45 [some (.ref P), some (.ref Q), some (.int sd), some (.int (nI k)), some (.int (nI j)), x5] [] (S.1, M2, S.2.2) := by
    intro u
    induction u with
    | zero => intro j h1 h2; exact absurd h1 (by omega)
    | succ u ih =>
      intro j h1 h2 x5 M2 i1 i2 i3 i4 i5 i6
      refine a_iload X dX6_pass_45 rfl ?_
      refine a_iload_n X dX6_pass_47 rfl ?_
      refine a_icmp_gt (tgt := 149) X dX6_pass_48 (by decide) (fun h_48 => ?_) (fun h_48 => ?_)
      · refine a_vret X hr dX6_pass_149 ⟨by decide, by decide⟩ ?_
        subst hF
        exact ⟨M2, rfl, rfl, i1, i2, i6⟩
      · refine a_aload_n X dX6_pass_51 rfl ?_
        refine a_getr X lf6_31 (by assumption) rfl (by omega) dX6_pass_52 ?_
        refine a_aload_n X dX6_pass_55 rfl ?_
        refine a_getr X lf6_24 (by assumption) rfl (by omega) dX6_pass_56 ?_
        refine a_callVu X dX6_pass_59 miX2_gather lm6_57 (c_gather0 (by assumption) (by assumption) (by assumption) (by assumption) (by assumption) (by omega)) (by assumption) rfl rfl rfl (Nat.le_of_ble_eq_true rfl) ⟨by decide, by decide, by decide, by decide⟩ ?_
        refine a_aload_n X dX6_pass_62 rfl ?_
        refine a_getr X lf6_38 (by assumption) rfl (by omega) dX6_pass_63 ?_
        refine a_aload_n X dX6_pass_66 rfl ?_
        refine a_getr X lf6_31 (by assumption) rfl (by omega) dX6_pass_67 ?_
        refine a_iload_n X dX6_pass_70 rfl ?_
        refine a_iload X dX6_pass_71 rfl ?_
        refine a_iadd X dX6_pass_73 ?_
        refine a_iconst (v := 1) X dX6_pass_74 (by decide) ?_
        refine a_isub X dX6_pass_75 ?_
        refine a_callVu X dX6_pass_76 miX5_bySeed lm6_60 (c_bySeed0 (by assumption) (by assumption) (by simp [zu]) (by simp [zu]) (by simp [zu])) (by assumption) rfl rfl rfl (Nat.le_of_ble_eq_true rfl) ⟨by decide, by decide, by decide, by decide⟩ ?_
        refine a_aload_n X dX6_pass_79 rfl ?_
        refine a_dup X dX6_pass_80 rfl ?_
        refine a_geti X lf6_42 (by assumption) rfl dX6_pass_81 ?_
        refine a_aload_n X dX6_pass_84 rfl ?_
        refine a_getr X lf6_38 (by assumption) rfl (by omega) dX6_pass_85 ?_
        refine a_aload_n X dX6_pass_88 rfl ?_
        refine a_getr X lf6_31 (by assumption) rfl (by omega) dX6_pass_89 ?_
        refine a_callVv X dX6_pass_92 miX5_tagsGiven lm6_64 (c_tagsGiven0 (by assumption) (by assumption) (by simp [zu]) (by simp [zu]) (by simp [zu])) (by assumption) rfl rfl rfl (Nat.le_of_ble_eq_true rfl) ⟨by decide, by decide, by decide, by decide⟩ ?_
        refine a_iadd X dX6_pass_95 ?_
        refine a_puti X lf6_42 (by assumption) rfl dX6_pass_96 ?_
        refine a_iconst (v := 0) X dX6_pass_99 (by decide) ?_
        refine a_istore X dX6_pass_100 (by decide) ?_
        refine a_iload X dX6_pass_102 rfl ?_
        refine a_aload_n X dX6_pass_104 rfl ?_
        refine a_getr X lf6_24 (by assumption) rfl (by omega) dX6_pass_105 ?_
        refine a_geti X lf6_68 (by assumption) rfl dX6_pass_108 ?_
        refine a_icmp_ge (tgt := 128) X dX6_pass_111 (by decide) (fun h_111 => ?_) (fun h_111 => absurd (by show zu (zu (zu (zu (zu M2 (P + 12) 0 0) (P + 12) 3 0) (P + 12) 1 0) (P + 12) 2 0) P 0 ((zu (zu (zu (zu M2 (P + 12) 0 0) (P + 12) 3 0) (P + 12) 1 0) (P + 12) 2 0) P 0 + 0) (P + 4) 1 ≤ 0; simp [zu, i4]) h_111)
        refine a_aload_n X dX6_pass_128 rfl ?_
        refine a_getr X lf6_24 (by assumption) rfl (by omega) dX6_pass_129 ?_
        refine a_aload_n X dX6_pass_132 rfl ?_
        refine a_getr X lf6_31 (by assumption) rfl (by omega) dX6_pass_133 ?_
        refine a_aload_n X dX6_pass_136 rfl ?_
        refine a_getr X lf6_38 (by assumption) rfl (by omega) dX6_pass_137 ?_
        refine a_callVu X dX6_pass_140 miX4_live lm6_75 (c_live0 (by assumption) (by simp [zu, i4])) (by assumption) rfl rfl rfl (Nat.le_of_ble_eq_true rfl) ⟨by decide, by decide, by decide, by decide⟩ ?_
        refine a_iinc (v := nI (j + 1)) X dX6_pass_143 (by decide) rfl (nI_1 j) ?_
        refine a_goto (tgt := 45) X dX6_pass_146 (by decide) ?_
        exact Zw.to (ih (j + 1) (by omega) (by have : ¬ k < j := fun q => h_48 ((nI_ltI (by omega) (by omega)).mpr q); omega) _ _ (by simp [zu, i1]) (by simp [zu, i2]) (by simp [zu, i3]) (by simp [zu, i4]) (by simp [zu, i5]) (((((i6.zu (by omega) (by omega)).zu (by omega) (by omega)).zu (by omega) (by omega)).zu (by omega) (by omega)).zu (by omega) (by omega))) rfl rfl
  refine a_aload_n X dX6_pass_0 rfl ?_
  refine a_iconst (v := 0) X dX6_pass_1 (by decide) ?_
  refine a_puti X lf6_42 (by assumption) rfl dX6_pass_2 ?_
  refine a_aload_n X dX6_pass_5 rfl ?_
  refine a_iconst (v := 0) X dX6_pass_6 (by decide) ?_
  refine a_puti X lf6_46 (by assumption) rfl dX6_pass_7 ?_
  refine a_aload_n X dX6_pass_10 rfl ?_
  refine a_getr X lf6_9 (by assumption) rfl (by omega) dX6_pass_11 ?_
  refine a_iconst (v := 0) X dX6_pass_14 (by decide) ?_
  refine a_callSNu X dX6_pass_15 miX7_fill lm6_49 (c_fill (by assumption) (by decide)) rfl rfl (Nat.le_of_ble_eq_true rfl) ⟨by decide, by decide, by decide, by decide⟩ ?_
  refine a_aload_n X dX6_pass_18 rfl ?_
  refine a_getr X lf6_15 (by assumption) rfl (by omega) dX6_pass_19 ?_
  refine a_iconst (v := 0) X dX6_pass_22 (by decide) ?_
  refine a_callSNu X dX6_pass_23 miX7_fill lm6_49 (c_fill (by assumption) (by decide)) rfl rfl (Nat.le_of_ble_eq_true rfl) ⟨by decide, by decide, by decide, by decide⟩ ?_
  refine a_aload_n X dX6_pass_26 rfl ?_
  refine a_getr X lf6_18 (by assumption) rfl (by omega) dX6_pass_27 ?_
  refine a_iconst (v := 0) X dX6_pass_30 (by decide) ?_
  refine a_callSNu X dX6_pass_31 miX7_fill lm6_49 (c_fill (by assumption) (by decide)) rfl rfl (Nat.le_of_ble_eq_true rfl) ⟨by decide, by decide, by decide, by decide⟩ ?_
  refine a_aload_n X dX6_pass_34 rfl ?_
  refine a_getr X lf6_24 (by assumption) rfl (by omega) dX6_pass_35 ?_
  refine a_aload_n X dX6_pass_38 rfl ?_
  refine a_callVx X dX6_pass_39 miX4_take lm6_53 (c_take (by assumption) hQ9 (by omega)) (by assumption) rfl rfl rfl (Nat.le_of_ble_eq_true rfl) ⟨by decide, by decide, by decide, by decide⟩ (fun r_39 S_39 q_39 => ?_)
  obtain ⟨M_39, rfl, rfl, q0_39, q1_39, q2_39, q3_39, q4_39, q5_39, q6_39, q7_39, _⟩ := q_39
  refine a_iconst (v := 1) X dX6_pass_42 (by decide) ?_
  refine a_istore X dX6_pass_43 (by decide) ?_
  exact Zw.to (L (k + 2) 1 (by omega) (by omega) none _ (by rw [q0_39 P (Or.inl (by omega))]; simp [zfil, zu]) (by rw [q0_39 P (Or.inl (by omega))]; simp [zfil, zu]) (by rw [q1_39]; simp [zfil, zu, n0, n1, n2, n3, hu]) (by rw [q2_39]; simp [zfil, zu, n0, n1, n2, n3, hh]) (by rw [q3_39]; simp [zfil, zu, n0, n1, n2, n3, hp]) (zout.trans (((((zout.rf.zu (by omega) (by omega)).zu (by omega) (by omega)).zfil (by omega) (by omega)).zfil (by omega) (by omega)).zfil (by omega) (by omega)) (q0_39.mono (by omega) (by omega)))) rfl rfl
set_option maxRecDepth 100000 in
theorem c_unserved0 {l : Launch} {G : zG} {b : Nat} {S : zS} {P : Nat} {hh : Int32} (hz : hh = 0) : zM l G b yX6_unserved cX6_unserved 4 (some .int) 0 0 0 [.ref P, .int hh] S (fun r z => r = some (.int 0) ∧ z = S) := by
  refine zM.of miX6_unserved (Nat.le_of_ble_eq_true rfl) ?_
  intro p e s m args below meth c X hr hname
  generalize hF : ((fun r z => r = some (.int 0) ∧ z = S) : Option Value → zS → Prop) = FQ
  change Zw p l e { frames := 0, cells := 0, slots := 0, locals := 80 * 0 } s m args below meth c G b 4 (MQ below (zQ G b FQ) args s 0 0 (fun q : Nat => b ≤ q)) 0 0 0 [some (.ref P), some (.int hh), none, none] [] S
  refine a_iconst (v := 0) X dX6_unserved_0 (by decide) ?_
  refine a_istore_n X dX6_unserved_1 (by decide) ?_
  refine a_iconst (v := 0) X dX6_unserved_2 (by decide) ?_
  refine a_istore_n X dX6_unserved_3 (by decide) ?_
  refine a_iload_n X dX6_unserved_4 rfl ?_
  refine a_iload_n X dX6_unserved_5 rfl ?_
  refine a_icmp_ge (tgt := 36) X dX6_unserved_6 (by decide) (fun h_6 => ?_) (fun h_6 => absurd (by rw [hz]; decide) h_6)
  refine a_iload_n X dX6_unserved_36 rfl ?_
  refine a_iret X hr dX6_unserved_37 ⟨by decide, by decide⟩ ?_
  subst hF
  exact ⟨rfl, rfl⟩
set_option maxRecDepth 100000 in
theorem c_forget {l : Launch} {G : zG} {b : Nat} {S : zS} {P : Nat} (hP : LX1 S.1 P) : zM l G b yX1_forget cX1_forget 1 none 0 0 0 [.ref P] S (fun r z => r = none ∧ z = (S.1, zu S.2.1 P 0 0, S.2.2)) := by
  refine zM.of miX1_forget (Nat.le_of_ble_eq_true rfl) ?_
  intro p e s m args below meth c X hr hname
  generalize hF : ((fun r z => r = none ∧ z = (S.1, zu S.2.1 P 0 0, S.2.2)) : Option Value → zS → Prop) = FQ
  change Zw p l e { frames := 0, cells := 0, slots := 0, locals := 80 * 0 } s m args below meth c G b 1 (MQ below (zQ G b FQ) args s 0 0 (fun q : Nat => b ≤ q)) 0 0 0 [some (.ref P)] [] S
  obtain ⟨plt, po, pstood, pstood0, pstood1, pstood2, pstood3, pstood4, pstood5, pstood6, pstood7⟩ := id hP
  refine a_aload_n X dX1_forget_0 rfl ?_
  refine a_iconst (v := 0) X dX1_forget_1 (by decide) ?_
  refine a_puti X lf1_18 (by assumption) rfl dX1_forget_2 ?_
  refine a_vret X hr dX1_forget_5 ⟨by decide, by decide⟩ ?_
  subst hF
  exact ⟨rfl, rfl⟩
set_option maxRecDepth 100000 in
theorem c_newestStood {l : Launch} {G : zG} {b : Nat} {S : zS} {P k : Nat} (hP : LX1 S.1 P) (hk : S.2.1 P 1 = nI k) (hk8 : k < 8) : zM l G b yX1_newestStood cX1_newestStood 1 (some (.object "TagDraw$Register")) 0 0 0 [.ref P] S (fun r z => r = some (.ref (P + 2 + 8 * k)) ∧ z = S) := by
  refine zM.of miX1_newestStood (Nat.le_of_ble_eq_true rfl) ?_
  intro p e s m args below meth c X hr hname
  generalize hF : ((fun r z => r = some (.ref (P + 2 + 8 * k)) ∧ z = S) : Option Value → zS → Prop) = FQ
  change Zw p l e { frames := 0, cells := 0, slots := 0, locals := 80 * 0 } s m args below meth c G b 1 (MQ below (zQ G b FQ) args s 0 0 (fun q : Nat => b ≤ q)) 0 0 0 [some (.ref P)] [] S
  obtain ⟨plt, po, pstood, pstood0, pstood1, pstood2, pstood3, pstood4, pstood5, pstood6, pstood7⟩ := id hP
  have hc : (nI k).toNatClampNeg = k := nI_clamp (by omega)
  refine a_aload_n X dX1_newestStood_0 rfl ?_
  refine a_geti X lf1_22 (by assumption) rfl dX1_newestStood_1 ?_
  refine a_if_lt (tgt := 31) X dX1_newestStood_4 (by decide) (fun h_4 => absurd h_4 (by show ¬ S.2.1 P 1 < 0; rw [hk]; exact nI_pos (by omega))) (fun h_4 => ?_)
  refine a_aload_n X dX1_newestStood_7 rfl ?_
  refine a_geti X lf1_22 (by assumption) rfl dX1_newestStood_8 ?_
  refine a_aload_n X dX1_newestStood_11 rfl ?_
  refine a_getr X lf1_11 (by assumption) rfl (by omega) dX1_newestStood_12 ?_
  refine a_alen X (by assumption) (by decide) dX1_newestStood_15 ?_
  refine a_icmp_ge (tgt := 31) X dX1_newestStood_16 (by decide) (fun h_16 => absurd h_16 (by show ¬ nI 8 ≤ S.2.1 P 1; rw [hk, nI_leI (by decide) (by omega)]; omega)) (fun h_16 => ?_)
  refine a_aload_n X dX1_newestStood_19 rfl ?_
  refine a_getr X lf1_11 (by assumption) rfl (by omega) dX1_newestStood_20 ?_
  refine a_aload_n X dX1_newestStood_23 rfl ?_
  refine a_geti X lf1_22 (by assumption) rfl dX1_newestStood_24 ?_
  refine a_aaload X (by assumption) (by show vp_in (S.2.1 P 1) 8; rw [hk]; exact vp_in_nI hk8 (by decide)) (by show _ = some (2, P + 2 + 8 * k); rw [hk, hc]; match k, hk8 with | 0, _ => rfl | 1, _ => rfl | 2, _ => rfl | 3, _ => rfl | 4, _ => rfl | 5, _ => rfl | 6, _ => rfl | 7, _ => rfl) (by omega) dX1_newestStood_27 ?_
  refine a_goto (tgt := 32) X dX1_newestStood_28 (by decide) ?_
  refine a_aret X hr (Or.inl ⟨_, rfl⟩) (by first | exact Or.inl rfl | exact Or.inr ⟨_, rfl⟩) dX1_newestStood_32 ⟨by decide, by decide⟩ ?_
  subst hF
  exact ⟨rfl, rfl⟩
set_option maxRecDepth 100000 in
theorem c_keep {l : Launch} {G : zG} {b : Nat} {S : zS} {P Q k : Nat} (hP : LX1 S.1 P) (hQ : LX4 S.1 Q) (hPQ : Q + 8 ≤ P ∨ P + 66 ≤ Q) (hk : S.2.1 P 1 = nI k) (hk8 : k < 8) : zM l G b yX1_keep cX1_keep 3 none 3 0 0 [.ref P, .ref Q] S (fun r z => ∃ M', r = none ∧ z = (S.1, M', S.2.2) ∧ zout S.2.1 M' P (P + 66)) := by
  refine zM.of miX1_keep (Nat.le_of_ble_eq_true rfl) ?_
  intro p e s m args below meth c X hr hname
  generalize hF : ((fun r z => ∃ M', r = none ∧ z = (S.1, M', S.2.2) ∧ zout S.2.1 M' P (P + 66)) : Option Value → zS → Prop) = FQ
  change Zw p l e { frames := 3, cells := 0, slots := 0, locals := 80 * 3 } s m args below meth c G b 3 (MQ below (zQ G b FQ) args s 0 0 (fun q : Nat => b ≤ q)) 0 0 0 [some (.ref P), some (.ref Q), none] [] S
  have hP9 := hP
  obtain ⟨plt, po, pstood, pstood0, pstood1, pstood2, pstood3, pstood4, pstood5, pstood6, pstood7⟩ := id hP
  have hst : ∀ k : Nat, k < 8 → LX4 S.1 (P + 2 + 8 * k) := fun k hk => by match k, hk with | 0, _ => exact pstood0 | 1, _ => exact pstood1 | 2, _ => exact pstood2 | 3, _ => exact pstood3 | 4, _ => exact pstood4 | 5, _ => exact pstood5 | 6, _ => exact pstood6 | 7, _ => exact pstood7
  have J : ∀ k : Nat, k < 8 → Zw p l e { frames := 3, cells := 0, slots := 0, locals := 80 * 3 } s m args below meth c G b 3 (MQ below (zQ G b FQ) args s 0 0 (fun q : Nat => b ≤ q)) 0 0 22 [some (.ref P), some (.ref Q), none] [.int (nI k), .ref P] S := by
    intro k hk8
    refine a_puti X lf1_22 (by assumption) rfl dX1_keep_22 ?_
    refine a_aload_n X dX1_keep_25 rfl ?_
    refine a_callVv X dX1_keep_26 miX1_newestStood lm1_25 (c_newestStood (k := k) hP9 (by simp [zu]) hk8) (by assumption) rfl rfl rfl (Nat.le_of_ble_eq_true rfl) ⟨by decide, by decide, by decide, by decide⟩ ?_
    refine a_astore_n X dX1_keep_29 (by decide) ?_
    refine a_aload_n X dX1_keep_30 rfl ?_
    refine a_ifnonnull (tgt := 35) X dX1_keep_31 (by decide) ?_
    refine a_aload_n X dX1_keep_35 rfl ?_
    refine a_aload_n X dX1_keep_36 rfl ?_
    refine a_callVx X dX1_keep_37 miX4_take lm1_29 (c_take (hst k hk8) hQ (by omega)) ((hst k hk8).2.1) rfl rfl rfl (Nat.le_of_ble_eq_true rfl) ⟨by decide, by decide, by decide, by decide⟩ (fun r_37 S_37 q_37 => ?_)
    obtain ⟨M_37, rfl, rfl, q0_37, _⟩ := q_37
    refine a_aload_n X dX1_keep_40 rfl ?_
    refine a_aload_n X dX1_keep_41 rfl ?_
    refine a_geti X lf1_18 (by assumption) rfl dX1_keep_42 ?_
    refine a_iconst (v := 1) X dX1_keep_45 (by decide) ?_
    refine a_iadd X dX1_keep_46 ?_
    refine a_bipush (v := 8) X dX1_keep_47 (by decide) ?_
    refine a_mmin X lm1_33 zmath2 zmath0 zmathc2 ⟨by decide, Nat.le_of_ble_eq_true rfl, by decide, by decide⟩ dX1_keep_49 ?_
    refine a_puti X lf1_18 (by assumption) rfl dX1_keep_52 ?_
    refine a_vret X hr dX1_keep_55 ⟨by decide, by decide⟩ ?_
    subst hF
    exact ⟨_, rfl, rfl, ((zout.trans (zout.rf.zu (by omega) (by omega)) (q0_37.mono (by omega) (by omega))).zu (by omega) (by omega))⟩
  refine a_aload_n X dX1_keep_0 rfl ?_
  refine a_aload_n X dX1_keep_1 rfl ?_
  refine a_geti X lf1_22 (by assumption) rfl dX1_keep_2 ?_
  refine a_iconst (v := 1) X dX1_keep_5 (by decide) ?_
  refine a_iadd X dX1_keep_6 ?_
  refine a_bipush (v := 8) X dX1_keep_7 (by decide) ?_
  refine a_icmp_ge (tgt := 21) X dX1_keep_9 (by decide) (fun h_9 => ?_) (fun h_9 => ?_)
  · refine a_iconst (v := 0) X dX1_keep_21 (by decide) ?_
    first | exact Zw.to2 (J (k + 1) (Nat.not_le.mp (fun q => h_9 (by show nI 8 ≤ S.2.1 P 1 + 1; rw [hk, nI_1]; exact (nI_leI (by decide) (by omega)).mpr q)))) rfl (by rw [← nI_1, ← hk]) rfl | exact J 0 (by decide)
  · refine a_aload_n X dX1_keep_12 rfl ?_
    refine a_geti X lf1_22 (by assumption) rfl dX1_keep_13 ?_
    refine a_iconst (v := 1) X dX1_keep_16 (by decide) ?_
    refine a_iadd X dX1_keep_17 ?_
    refine a_goto (tgt := 22) X dX1_keep_18 (by decide) ?_
    first | exact Zw.to2 (J (k + 1) (Nat.not_le.mp (fun q => h_9 (by show nI 8 ≤ S.2.1 P 1 + 1; rw [hk, nI_1]; exact (nI_leI (by decide) (by omega)).mpr q)))) rfl (by rw [← nI_1, ← hk]) rfl | exact J 0 (by decide)
set_option maxRecDepth 100000 in
theorem c_giveBack0 {l : Launch} {G : zG} {b : Nat} {S : zS} {P Q k : Nat} (hP : LX1 S.1 P) (hk : S.2.1 P 1 = nI k) (hk8 : k < 8) (h0 : S.2.1 P 0 = 0) : zM l G b yX1_giveBack cX1_giveBack 3 (some .boolean) 1 0 0 [.ref P, .ref Q] S (fun r z => r = some (.int 0) ∧ z = S) := by
  refine zM.of miX1_giveBack (Nat.le_of_ble_eq_true rfl) ?_
  intro p e s m args below meth c X hr hname
  generalize hF : ((fun r z => r = some (.int 0) ∧ z = S) : Option Value → zS → Prop) = FQ
  change Zw p l e { frames := 1, cells := 0, slots := 0, locals := 80 * 1 } s m args below meth c G b 3 (MQ below (zQ G b FQ) args s 0 0 (fun q : Nat => b ≤ q)) 0 0 0 [some (.ref P), some (.ref Q), none] [] S
  have hP9 := hP
  obtain ⟨plt, po, pstood, pstood0, pstood1, pstood2, pstood3, pstood4, pstood5, pstood6, pstood7⟩ := id hP
  refine a_aload_n X dX1_giveBack_0 rfl ?_
  refine a_callVv X dX1_giveBack_1 miX1_newestStood lm1_25 (c_newestStood hP9 hk hk8) (by assumption) rfl rfl rfl (Nat.le_of_ble_eq_true rfl) ⟨by decide, by decide, by decide, by decide⟩ ?_
  refine a_astore_n X dX1_giveBack_4 (by decide) ?_
  refine a_aload_n X dX1_giveBack_5 rfl ?_
  refine a_geti X lf1_18 (by assumption) rfl dX1_giveBack_6 ?_
  refine a_if_eq (tgt := 16) X dX1_giveBack_9 (by decide) (fun h_9 => ?_) (fun h_9 => absurd h0 h_9)
  refine a_iconst (v := 0) X dX1_giveBack_16 (by decide) ?_
  refine a_zret X (by first | exact Or.inl rfl | exact Or.inr rfl | assumption) hr dX1_giveBack_17 ⟨by decide, by decide⟩ ?_
  subst hF
  exact ⟨rfl, rfl⟩
set_option maxRecDepth 100000 in
theorem c_step0 {l : Launch} {G : zG} {b : Nat} {S : zS} {P : Nat} (hP : LX3 S.1 P) (hn : S.2.1 P 5 = 0) (hl : S.2.1 P 4 = 0) : zM l G b yX3_step cX3_step 2 none 1 0 0 [.ref P] S (fun r z => r = none ∧ z = (S.1, zu (zu S.2.1 P 7 0) P 6 0, S.2.2)) := by
  refine zM.of miX3_step (Nat.le_of_ble_eq_true rfl) ?_
  intro p e s m args below meth c X hr hname
  generalize hF : ((fun r z => r = none ∧ z = (S.1, zu (zu S.2.1 P 7 0) P 6 0, S.2.2)) : Option Value → zS → Prop) = FQ
  change Zw p l e { frames := 1, cells := 0, slots := 0, locals := 80 * 1 } s m args below meth c G b 2 (MQ below (zQ G b FQ) args s 0 0 (fun q : Nat => b ≤ q)) 0 0 0 [some (.ref P), none] [] S
  obtain ⟨plt, po, pdraft, ptext, punitNames, phunterNames, ppartyNames, pasked⟩ := id hP
  refine a_aload_n X dX3_step_0 rfl ?_
  refine a_geti X lf3_55 (by assumption) rfl dX3_step_1 ?_
  refine a_aload_n X dX3_step_4 rfl ?_
  refine a_geti X lf3_52 (by assumption) rfl dX3_step_5 ?_
  refine a_icmp_ge (tgt := 41) X dX3_step_8 (by decide) (fun h_8 => ?_) (fun h_8 => absurd (by show S.2.1 P 4 ≤ S.2.1 P 5; rw [hn, hl]; decide) h_8)
  refine a_aload_n X dX3_step_41 rfl ?_
  refine a_aload_n X dX3_step_42 rfl ?_
  refine a_geti X lf3_55 (by assumption) rfl dX3_step_43 ?_
  refine a_puti X lf3_89 (by assumption) rfl dX3_step_46 ?_
  refine a_aload_n X dX3_step_49 rfl ?_
  refine a_getr X lf3_25 (by assumption) rfl (by omega) dX3_step_50 ?_
  refine a_aload_n X dX3_step_53 rfl ?_
  refine a_geti X lf3_55 (by assumption) rfl dX3_step_54 ?_
  refine a_callSNv X dX3_step_57 miX7_cell lm3_81 (c_cell (by assumption) (by decide)) rfl rfl (Nat.le_of_ble_eq_true rfl) ⟨by decide, by decide, by decide, by decide⟩ ?_
  refine a_istore_n X dX3_step_60 (by decide) ?_
  refine a_aload_n X dX3_step_61 rfl ?_
  refine a_geti X lf3_55 (by assumption) rfl dX3_step_62 ?_
  refine a_aload_n X dX3_step_65 rfl ?_
  refine a_geti X lf3_52 (by assumption) rfl dX3_step_66 ?_
  refine a_icmp_lt (tgt := 80) X dX3_step_69 (by decide) (fun h_69 => absurd h_69 (by show ¬ zu S.2.1 P 7 (S.2.1 P 5) P 5 < zu S.2.1 P 7 (S.2.1 P 5) P 4; simp [zu, hn, hl])) (fun h_69 => ?_)
  refine a_aload_n X dX3_step_72 rfl ?_
  refine a_iconst (v := 0) X dX3_step_73 (by decide) ?_
  refine a_puti X lf3_74 (by assumption) rfl dX3_step_74 ?_
  refine a_goto (tgt := 137) X dX3_step_77 (by decide) ?_
  refine a_vret X hr dX3_step_137 ⟨by decide, by decide⟩ ?_
  subst hF
  exact ⟨rfl, by rw [← hn]⟩
set_option maxRecDepth 100000 in
theorem c_read0 {l : Launch} {G : zG} {b : Nat} {S : zS} {P Q : Nat} (hP : LX3 S.1 P) (hQ : S.1[Q]? = some (1, 700, [])) (hPQ : Q < P ∨ P + 14 ≤ Q) : zM l G b yX3_read cX3_read 4 (some .boolean) 2 0 0 [.ref P, .ref Q, .int 0] S (fun r z => ∃ M', r = some (.int 1) ∧ z = (S.1, M', S.2.2) ∧ zout S.2.1 M' P (P + 14) ∧ M' (P + 1) 0 = 0 ∧ M' (P + 1) 1 = 0 ∧ M' (P + 1) 2 = 0) := by
  refine zM.of miX3_read (Nat.le_of_ble_eq_true rfl) ?_
  intro p e s m args below meth c X hr hname
  generalize hF : ((fun r z => ∃ M', r = some (.int 1) ∧ z = (S.1, M', S.2.2) ∧ zout S.2.1 M' P (P + 14) ∧ M' (P + 1) 0 = 0 ∧ M' (P + 1) 1 = 0 ∧ M' (P + 1) 2 = 0) : Option Value → zS → Prop) = FQ
  change Zw p l e { frames := 2, cells := 0, slots := 0, locals := 80 * 2 } s m args below meth c G b 4 (MQ below (zQ G b FQ) args s 0 0 (fun q : Nat => b ≤ q)) 0 0 0 [some (.ref P), some (.ref Q), some (.int 0), none] [] S
  have hP9 := hP
  obtain ⟨plt, po, pdraft, ptext, punitNames, phunterNames, ppartyNames, pasked⟩ := id hP
  have hdr := pdraft
  obtain ⟨dr_lt, dr_o, dr_quota, dr_score, dr_guest, dr_party, dr_wishCount, dr_wishes, dr_has⟩ := id hdr
  refine a_aload_n X dX3_read_0 rfl ?_
  refine a_aload_n X dX3_read_1 rfl ?_
  refine a_getr X lf3_25 (by assumption) rfl (by omega) dX3_read_2 ?_
  refine a_callSNu X dX3_read_5 miX7_copy lm3_42 (c_copy (by assumption) (by assumption) (by decide) (by decide) (by omega)) rfl rfl (Nat.le_of_ble_eq_true rfl) ⟨by decide, by decide, by decide, by decide⟩ ?_
  refine a_aload_n X dX3_read_8 rfl ?_
  refine a_iload_n X dX3_read_9 rfl ?_
  refine a_sipush (v := 700) X dX3_read_10 (by decide) ?_
  refine a_mmin X lm3_46 zmath2 zmath0 zmathc2 ⟨by decide, Nat.le_of_ble_eq_true rfl, by decide, by decide⟩ dX3_read_13 ?_
  refine a_puti X lf3_52 (by assumption) rfl dX3_read_16 ?_
  refine a_aload_n X dX3_read_19 rfl ?_
  refine a_iconst (v := 0) X dX3_read_20 (by decide) ?_
  refine a_puti X lf3_55 (by assumption) rfl dX3_read_21 ?_
  refine a_aload_n X dX3_read_24 rfl ?_
  refine a_iconst (v := 0) X dX3_read_25 (by decide) ?_
  refine a_putz X (by first | exact Or.inl rfl | exact Or.inr rfl | assumption) lf3_58 (by assumption) rfl dX3_read_26 ?_
  refine a_aload_n X dX3_read_29 rfl ?_
  refine a_iconst (v := 0) X dX3_read_30 (by decide) ?_
  refine a_putz X (by first | exact Or.inl rfl | exact Or.inr rfl | assumption) lf3_62 (by assumption) rfl dX3_read_31 ?_
  refine a_aload_n X dX3_read_34 rfl ?_
  refine a_iconst (v := 0) X dX3_read_35 (by decide) ?_
  refine a_putz X (by first | exact Or.inl rfl | exact Or.inr rfl | assumption) lf3_65 (by assumption) rfl dX3_read_36 ?_
  refine a_aload_n X dX3_read_39 rfl ?_
  refine a_getr X lf3_12 (by assumption) rfl (by omega) dX3_read_40 ?_
  refine a_callVx X dX3_read_43 miX4_clear lm3_68 (c_clear (by assumption)) (by assumption) rfl rfl rfl (Nat.le_of_ble_eq_true rfl) ⟨by decide, by decide, by decide, by decide⟩ (fun r_43 S_43 q_43 => ?_)
  obtain ⟨M_43, rfl, rfl, h0_43, h1_43, h2_43, h3_43, h4_43, h5_43, h6_43, h7_43, g1_43, g2_43, g3_43, g4_43, g5_43, g6_43, g7_43⟩ := q_43
  refine a_aload_n X dX3_read_46 rfl ?_
  refine a_iconst (v := 0) X dX3_read_47 (by decide) ?_
  refine a_puti X lf3_18 (by assumption) rfl dX3_read_48 ?_
  refine a_aload_n X dX3_read_51 rfl ?_
  refine a_iconst (v := -1) X dX3_read_52 (by decide) ?_
  refine a_puti X lf3_22 (by assumption) rfl dX3_read_53 ?_
  refine a_aload_n X dX3_read_56 rfl ?_
  refine a_callVu X dX3_read_57 miX3_step lm3_71 (c_step0 hP9 (by simp [zu, h0_43 P (Or.inl (by omega))]) (by simp [zu, h0_43 P (Or.inl (by omega)), zcpy])) (by assumption) rfl rfl rfl (Nat.le_of_ble_eq_true rfl) ⟨by decide, by decide, by decide, by decide⟩ ?_
  refine a_iconst (v := 0) X dX3_read_60 (by decide) ?_
  refine a_istore_n X dX3_read_61 (by decide) ?_
  refine a_iload_n X dX3_read_62 rfl ?_
  refine a_sipush (v := 700) X dX3_read_63 (by decide) ?_
  refine a_icmp_ge (tgt := 91) X dX3_read_66 (by decide) (fun h_66 => absurd h_66 (by decide)) (fun h_66 => ?_)
  refine a_aload_n X dX3_read_69 rfl ?_
  refine a_geti X lf3_74 (by assumption) rfl dX3_read_70 ?_
  refine a_if_eq (tgt := 91) X dX3_read_73 (by decide) (fun h_73 => ?_) (fun h_73 => absurd (by show zu _ P 6 0 P 6 = 0; exact zu_eq) h_73)
  refine a_iconst (v := 1) X dX3_read_91 (by decide) ?_
  refine a_zret X (by first | exact Or.inl rfl | exact Or.inr rfl | assumption) hr dX3_read_92 ⟨by decide, by decide⟩ ?_
  subst hF
  exact ⟨_, rfl, rfl, (((((zout.trans (((((((zout.rf.zcpy (by omega) (by omega)).zu (by omega) (by omega)).zu (by omega) (by omega)).zu (by omega) (by omega)).zu (by omega) (by omega)).zu (by omega) (by omega))) (h0_43.mono (by omega) (by omega))).zu (by omega) (by omega)).zu (by omega) (by omega)).zu (by omega) (by omega)).zu (by omega) (by omega)), by simp [zu, h1_43], by simp [zu, h2_43], by simp [zu, h3_43]⟩
