theorem wf_nA_M0_6 {P a j : Nat} (h : (a = P + 1 ∨ (a = P ∧ j = 8))) : ¬ (a = P ∧ j = 6) := by omega
def WM_X8_refuse (P : Nat) (a j : Nat) : Prop := (a = P ∧ (j = 6 ∨ j = 12))
theorem wq_X8_refuse_M0_6 {P a j : Nat} (h : ¬ WM_X8_refuse P a j) : ¬ (a = P ∧ j = 6) := by unfold WM_X8_refuse at h; omega
theorem wq_X8_refuse_M0_12 {P a j : Nat} (h : ¬ WM_X8_refuse P a j) : ¬ (a = P ∧ j = 12) := by unfold WM_X8_refuse at h; omega
theorem wf_nA_M0_12 {P a j : Nat} (h : (a = P + 1 ∨ (a = P ∧ j = 8))) : ¬ (a = P ∧ j = 12) := by omega
set_option maxRecDepth 100000 in
set_option maxHeartbeats 4000000 in
theorem v_X8_refuse {P : Nat} {v0 : Int32} {M0 : zMt}  : ∃ r, D_X8_refuse P v0 M0 = some r ∧ ((∀ a j, ¬ WM_X8_refuse P a j → r.2 a j = M0 a j)) := by
  unfold D_X8_refuse
  refine vLm (W := WM_X8_refuse P) (fun a j h => (zu_ne (wq_X8_refuse_M0_6 h))) (fun M_2 f_2 k_2 => ?_)
  have c7_2 : Int32.toInt (M_2 P 7) = Int32.toInt (M0 P 7) := congrArg Int32.toInt ((congrFun (congrFun f_2.symm P) 7).trans (zu_ne (fun z => absurd z.2 (by decide))))
  have c8_2 : Int32.toInt (M_2 P 8) = Int32.toInt (M0 P 8) := congrArg Int32.toInt ((congrFun (congrFun f_2.symm P) 8).trans (zu_ne (fun z => absurd z.2 (by decide))))
  have c33_2 : Int32.toInt (M_2 P 33) = Int32.toInt (M0 P 33) := congrArg Int32.toInt ((congrFun (congrFun f_2.symm P) 33).trans (zu_ne (fun z => absurd z.2 (by decide))))
  have n_2 : nA P M_2 = nA P M0 := nA_congr (fun a j h => (congrFun (congrFun f_2.symm a) j).trans (zu_ne (wf_nA_M0_6 h)))
  refine vLm (W := WM_X8_refuse P) (fun a j h => (zu_ne (wq_X8_refuse_M0_12 h)).trans (k_2 a j h)) (fun M_7 f_7 k_7 => ?_)
  have c7_7 : Int32.toInt (M_7 P 7) = Int32.toInt (M_2 P 7) := congrArg Int32.toInt ((congrFun (congrFun f_7.symm P) 7).trans (zu_ne (fun z => absurd z.2 (by decide))))
  have c8_7 : Int32.toInt (M_7 P 8) = Int32.toInt (M_2 P 8) := congrArg Int32.toInt ((congrFun (congrFun f_7.symm P) 8).trans (zu_ne (fun z => absurd z.2 (by decide))))
  have c33_7 : Int32.toInt (M_7 P 33) = Int32.toInt (M_2 P 33) := congrArg Int32.toInt ((congrFun (congrFun f_7.symm P) 33).trans (zu_ne (fun z => absurd z.2 (by decide))))
  have n_7 : nA P M_7 = nA P M_2 := nA_congr (fun a j h => (congrFun (congrFun f_7.symm a) j).trans (zu_ne (wf_nA_M0_12 h)))
  exact ⟨_, rfl, k_7⟩
def WM_X8_gives (P : Nat) (a j : Nat) : Prop := (a = P ∧ (j = 6 ∨ j = 12))
theorem wq_X8_gives_M0_6 {P a j : Nat} (h : ¬ WM_X8_gives P a j) : ¬ (a = P ∧ j = 6) := by unfold WM_X8_gives at h; omega
theorem wq_X8_gives_M0_12 {P a j : Nat} (h : ¬ WM_X8_gives P a j) : ¬ (a = P ∧ j = 12) := by unfold WM_X8_gives at h; omega
set_option maxRecDepth 100000 in
set_option maxHeartbeats 4000000 in
theorem v_X8_gives {P : Nat} {v0 : Int32} {M0 : zMt}  : ∃ r, D_X8_gives P v0 M0 = some r ∧ ((∀ a j, ¬ WM_X8_gives P a j → r.2 a j = M0 a j)) := by
  unfold D_X8_gives
  refine vLm (W := WM_X8_gives P) (fun a j h => (zu_ne (wq_X8_gives_M0_6 h))) (fun M_2 f_2 k_2 => ?_)
  have c7_2 : Int32.toInt (M_2 P 7) = Int32.toInt (M0 P 7) := congrArg Int32.toInt ((congrFun (congrFun f_2.symm P) 7).trans (zu_ne (fun z => absurd z.2 (by decide))))
  have c8_2 : Int32.toInt (M_2 P 8) = Int32.toInt (M0 P 8) := congrArg Int32.toInt ((congrFun (congrFun f_2.symm P) 8).trans (zu_ne (fun z => absurd z.2 (by decide))))
  have c33_2 : Int32.toInt (M_2 P 33) = Int32.toInt (M0 P 33) := congrArg Int32.toInt ((congrFun (congrFun f_2.symm P) 33).trans (zu_ne (fun z => absurd z.2 (by decide))))
  have n_2 : nA P M_2 = nA P M0 := nA_congr (fun a j h => (congrFun (congrFun f_2.symm a) j).trans (zu_ne (wf_nA_M0_6 h)))
  refine vLm (W := WM_X8_gives P) (fun a j h => (zu_ne (wq_X8_gives_M0_12 h)).trans (k_2 a j h)) (fun M_7 f_7 k_7 => ?_)
  have c7_7 : Int32.toInt (M_7 P 7) = Int32.toInt (M_2 P 7) := congrArg Int32.toInt ((congrFun (congrFun f_7.symm P) 7).trans (zu_ne (fun z => absurd z.2 (by decide))))
  have c8_7 : Int32.toInt (M_7 P 8) = Int32.toInt (M_2 P 8) := congrArg Int32.toInt ((congrFun (congrFun f_7.symm P) 8).trans (zu_ne (fun z => absurd z.2 (by decide))))
  have c33_7 : Int32.toInt (M_7 P 33) = Int32.toInt (M_2 P 33) := congrArg Int32.toInt ((congrFun (congrFun f_7.symm P) 33).trans (zu_ne (fun z => absurd z.2 (by decide))))
  have n_7 : nA P M_7 = nA P M_2 := nA_congr (fun a j h => (congrFun (congrFun f_7.symm a) j).trans (zu_ne (wf_nA_M0_12 h)))
  exact ⟨_, rfl, k_7⟩
theorem z_toN {x : Int32} (h0 : 0 ≤ x.toInt) : x = nI x.toInt.toNat := Int32.toInt_inj.mp (by rw [nI_toInt (by have := Int32.toInt_lt x; omega)]; omega)
theorem wq_pne0 {P k : Nat} (h : 0 < k) : ¬ P = P + k := by omega
theorem l_modr {x y : Int64} (hx : 0 ≤ x.toInt) (hy : 0 < y.toInt) : 0 ≤ (x - x / y * y).toInt ∧ (x - x / y * y).toInt < y.toInt := by
  have e : (x - x / y * y) = x % y := by
    rw [← Int64.toInt_inj]
    rw [Int64.toInt_sub, Int64.toInt_mul, Int64.toInt_div, Int64.toInt_mod]
    have h1 := Int.tmod_add_tdiv_mul x.toInt y.toInt
    rw [Int.bmod_mul_bmod, Int.sub_bmod_bmod]
    rw [show x.toInt - x.toInt.tdiv y.toInt * y.toInt = x.toInt.tmod y.toInt by omega]
    rw [← Int64.toInt_mod]
    exact Int64.toInt_bmod_size _
  rw [e, Int64.toInt_mod, Int.tmod_eq_emod_of_nonneg hx]
  exact ⟨Int.emod_nonneg _ (by omega), Int.emod_lt_of_pos _ hy⟩
theorem l_div0 {x : Int64} (hx : 0 ≤ x.toInt) : 0 ≤ (x / 65536).toInt := by
  rw [Int64.toInt_div, Int.tdiv_eq_ediv_of_nonneg hx, show (65536 : Int64).toInt = 65536 by decide, Int.bmod_def]
  have := Int64.toInt_lt x
  omega
/-- tickets, and how many, of those below n that are not in b -/
def St (t : Nat → Int32) (b : Int32) : Nat → Int
  | 0 => 0
  | n + 1 => St t b n + (if ((b >>> (nI n &&& 31)) &&& 1) = 1 then 0 else (t n).toInt)
def cn (b : Int32) : Nat → Nat
  | 0 => 0
  | n + 1 => cn b n + (if ((b >>> (nI n &&& 31)) &&& 1) = 1 then 1 else 0)
theorem bit_or {x y : Int32} {h : Nat} (hh : h < 10) : (((x ||| y) >>> (nI h &&& 31)) &&& 1) = 1 ↔ ((x >>> (nI h &&& 31)) &&& 1) = 1 ∨ ((y >>> (nI h &&& 31)) &&& 1) = 1 := bitAt_or hh
theorem St_or {t : Nat → Int32} {b : Int32} {a : Nat} (ha : a < 10) (hb : ¬ ((b >>> (nI a &&& 31)) &&& 1) = 1) : ∀ n : Nat, n ≤ 10 → St t (b ||| (1 : Int32) <<< (nI a &&& 31)) n = St t b n - (if a < n then (t a).toInt else 0)
  | 0, _ => rfl
  | n + 1, hn => by
    have ih := St_or (t := t) ha hb n (by omega)
    show St t (b ||| (1 : Int32) <<< (nI a &&& 31)) n + _ = St t b n + _ - _
    rw [ih]
    have ho := bit_or (x := b) (y := (1 : Int32) <<< (nI a &&& 31)) (h := n) (by omega)
    have h1 := bitAt_one a ha n (by omega)
    rw [h1] at ho
    by_cases q : a = n
    · subst q
      rw [if_pos (ho.mpr (Or.inr rfl)), if_neg hb, if_neg (by omega), if_pos (by omega)]
      omega
    · by_cases z : ((b >>> (nI n &&& 31)) &&& 1) = 1
      · rw [if_pos (ho.mpr (Or.inl z)), if_pos z]
        by_cases w : a < n
        · rw [if_pos w, if_pos (by omega)]; omega
        · rw [if_neg w, if_neg (by omega)]; omega
      · rw [if_neg (fun y => (ho.mp y).elim z q), if_neg z]
        by_cases w : a < n
        · rw [if_pos w, if_pos (by omega)]; omega
        · rw [if_neg w, if_neg (by omega)]; omega
theorem cn_or {b : Int32} {a : Nat} (ha : a < 10) (hb : ¬ ((b >>> (nI a &&& 31)) &&& 1) = 1) : ∀ n : Nat, n ≤ 10 → cn (b ||| (1 : Int32) <<< (nI a &&& 31)) n = cn b n + (if a < n then 1 else 0)
  | 0, _ => rfl
  | n + 1, hn => by
    have ih := cn_or ha hb n (by omega)
    show cn (b ||| (1 : Int32) <<< (nI a &&& 31)) n + _ = cn b n + _ + _
    rw [ih]
    have ho := bit_or (x := b) (y := (1 : Int32) <<< (nI a &&& 31)) (h := n) (by omega)
    have h1 := bitAt_one a ha n (by omega)
    rw [h1] at ho
    by_cases q : a = n
    · subst q
      rw [if_pos (ho.mpr (Or.inr rfl)), if_neg hb, if_neg (by omega), if_pos (by omega)]
    · by_cases z : ((b >>> (nI n &&& 31)) &&& 1) = 1
      · rw [if_pos (ho.mpr (Or.inl z)), if_pos z]
        by_cases w : a < n
        · rw [if_pos w, if_pos (by omega)]
        · rw [if_neg w, if_neg (by omega)]
      · rw [if_neg (fun y => (ho.mp y).elim z q), if_neg z]
        by_cases w : a < n
        · rw [if_pos w, if_pos (by omega)]
        · rw [if_neg w, if_neg (by omega)]
theorem bit_0 {h : Nat} : ¬ (((0 : Int32) >>> (nI h &&& 31)) &&& 1) = 1 := bitAt_0
theorem cn_0 : ∀ n, cn 0 n = 0
  | 0 => rfl
  | n + 1 => by
    show cn 0 n + _ = 0
    rw [cn_0 n, if_neg bit_0]
theorem St_ge {t : Nat → Int32} {b : Int32} : ∀ n : Nat, (∀ a, a < n → 1 ≤ (t a).toInt) → (n : Int) - cn b n ≤ St t b n
  | 0, _ => by show ((0 : Nat) : Int) - (0 : Nat) ≤ 0; omega
  | n + 1, h => by
    have ih := St_ge (b := b) n (fun a ha => h a (by omega))
    have := h n (by omega)
    show ((n + 1 : Nat) : Int) - ((cn b n + _ : Nat) : Int) ≤ St t b n + _
    split <;> omega
theorem St_le {t : Nat → Int32} {b : Int32} : ∀ n : Nat, (∀ a, a < n → 1 ≤ (t a).toInt ∧ (t a).toInt ≤ 401) → 0 ≤ St t b n ∧ St t b n ≤ 401 * n
  | 0, _ => by show (0 : Int) ≤ 0 ∧ (0 : Int) ≤ 401 * ((0 : Nat) : Int); omega
  | n + 1, h => by
    have ih := St_le (b := b) n (fun a ha => h a (by omega))
    have := h n (by omega)
    show 0 ≤ St t b n + _ ∧ St t b n + _ ≤ 401 * ((n + 1 : Nat) : Int)
    split <;> omega
theorem St_mono {t : Nat → Int32} {b : Int32} {m : Nat} (h : ∀ a, a < m → 1 ≤ (t a).toInt) : ∀ n : Nat, n ≤ m → St t b n ≤ St t b m := by
  intro n
  induction m with
  | zero => intro hn; rw [show n = 0 by omega]; exact Int.le_refl _
  | succ m ih =>
    intro hn
    by_cases q : n = m + 1
    · subst q; exact Int.le_refl _
    · have := ih (fun a ha => h a (by omega)) (by omega)
      have h2 := h m (by omega)
      show _ ≤ St t b m + _
      split <;> omega
