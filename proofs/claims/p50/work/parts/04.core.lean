/-! THE WHOLE WORLD: positions 0, 1, .. are the cells that the run has made, in their order; position k lies at the address b + k.
A layout says what each cell is, two tables of numbers what its ints and longs are; references never change behind the constructors. -/
/-- a layout's cell: kind (0 object, 1 int[], 2 boolean[], 3 long[], 4 Register[]), class or length, fields or elements ((0,_) int, (1,_) long, (2,k) the cell k, else null) -/
abbrev zC : Type := Nat × Nat × List (Nat × Nat)
abbrev zS : Type := List zC × (Nat → Nat → Int32) × (Nat → Nat → Int64)
abbrev zG : Type := va_G × (Nat → ClassId)
def zv (b : Nat) : Value → Value
  | .ref k => .ref (if k < 1000000 then b + k else k - 1000000)
  | v => v
def zF (b : Nat) (S : zS) (k : Nat) (j : Nat) (f : Nat × Nat) : Value := match f.1 with
  | 0 => .int (S.2.1 k j)
  | 1 => .long (S.2.2 k j)
  | 2 => .ref (b + f.2)
  | _ => .null
def zrf (b : Nat) (fs : List (Nat × Nat)) (i : Nat) : Option Nat := (fs[i]?).bind (fun f => if f.1 = 2 then some (b + f.2) else none)
def zE1 (G : zG) (b : Nat) (S : zS) (k : Nat) (q : zC) : va_E := match q.1 with
  | 0 => .inr (q.2.1, q.2.2.mapIdx (zF b S k))
  | 1 => .inl (G.2 1, q.2.1, .inl (S.2.1 k))
  | 2 => .inl (G.2 2, q.2.1, .inl (S.2.1 k))
  | 3 => .inl (G.2 3, q.2.1, .inr (.inl (S.2.2 k)))
  | _ => .inl (G.2 4, q.2.1, .inr (.inr (.inr (.inr (zrf b q.2.2)))))
def zW (G : zG) (b : Nat) (S : zS) : va_W := S.1.mapIdx (fun k q => (b + k, zE1 G b S k q))
theorem zW_get {G : zG} {b : Nat} {S : zS} {k : Nat} {q : zC} (h : S.1[k]? = some q) : (zW G b S)[k]? = some (b + k, zE1 G b S k q) := by
  unfold zW
  rw [List.getElem?_mapIdx, h]
  rfl
theorem zW_len (G : zG) (b : Nat) (S : zS) : (zW G b S).length = S.1.length := by
  unfold zW
  rw [List.length_mapIdx]
theorem zW_inv {G : zG} {b : Nat} {S : zS} {k : Nat} {x : Nat × va_E} (h : (zW G b S)[k]? = some x) : x.1 = b + k ∧ k < S.1.length := by
  have hl : k < (zW G b S).length := (List.getElem?_eq_some_iff.mp h).1
  rw [zW_len] at hl
  refine ⟨?_, hl⟩
  rw [zW_get (List.getElem?_eq_getElem hl)] at h
  cases h
  rfl
theorem zD (G : zG) (b : Nat) (S : zS) : va_D (fun q : Nat => b ≤ q) (zW G b S) := by
  refine ⟨fun i j p q hi hj hpq => ?_, fun k q hk => ?_⟩
  · have h1 := (zW_inv hi).1
    have h2 := (zW_inv hj).1
    omega
  · rw [(zW_inv hk).1]
    exact Nat.le_add_right _ _
def zH (G : zG) (b : Nat) (S : zS) (H : Heap) : Prop := H.size = b + S.1.length ∧ S.1.length < 1000000 ∧ va_P G.1 vwCl (zW G b S) H
/-- one cell has changed -/
theorem zW_set {G : zG} {b : Nat} {S S' : zS} {k : Nat} {q q' : zC} {e : va_E} (hq : S.1[k]? = some q) (hl : S'.1 = S.1.set k q') (ho : ∀ a : Nat, a ≠ k → S'.2.1 a = S.2.1 a ∧ S'.2.2 a = S.2.2 a) (he : zE1 G b S' k q' = e) : (zW G b S).set k (b + k, e) = zW G b S' := by
  apply List.ext_getElem?
  intro i
  have hk : k < S.1.length := (List.getElem?_eq_some_iff.mp hq).1
  by_cases hi : i = k
  · subst hi
    rw [List.getElem?_set_self (by rw [zW_len]; exact hk)]
    have h2 : S'.1[i]? = some q' := by rw [hl, List.getElem?_set_self hk]
    rw [zW_get h2, he]
  · rw [List.getElem?_set_ne (Ne.symm hi)]
    unfold zW
    rw [List.getElem?_mapIdx, List.getElem?_mapIdx, hl, List.getElem?_set_ne (Ne.symm hi)]
    obtain ⟨h1, h2⟩ := ho i hi
    cases S.1[i]? with
    | none => rfl
    | some r =>
      obtain ⟨r1, r2, r3⟩ := r
      have hF : ∀ (j : Nat) (f : Nat × Nat), zF b S i j f = zF b S' i j f := fun j f => by unfold zF; rw [h1, h2]
      have hf : zF b S i = zF b S' i := by funext j f; exact hF j f
      show some (b + i, zE1 G b S i (r1, r2, r3)) = some (b + i, zE1 G b S' i (r1, r2, r3))
      unfold zE1
      simp only [h1, h2, hf]
def zu {α : Type} (M : Nat → Nat → α) (k i : Nat) (v : α) : Nat → Nat → α := fun a j => if a = k ∧ j = i then v else M a j
theorem zu_row {α : Type} {M : Nat → Nat → α} {k i a : Nat} {v : α} (h : a ≠ k) : zu M k i v a = M a := by
  funext j
  exact if_neg (fun q => h q.1)
/-- locals -/
def zk (ls : List (Option Value)) : Nat → List (Option Value)
  | 0 => ls
  | j + 1 => match ls[j]? with
    | some (some v) => if v.category = 2 then ls.set j none else ls
    | _ => ls
theorem zk_s (ls : List (Option Value)) (k : Nat) : zk ls (k + 1) = match ls[k]? with
    | some (some v) => if v.category = 2 then ls.set k none else ls
    | _ => ls := rfl
def zs1 (ls : List (Option Value)) (i : Nat) (v : Value) : List (Option Value) := (zk ls i).set i (some v)
def zs2 (ls : List (Option Value)) (i : Nat) (v : Value) : List (Option Value) := ((zk ls i).set i (some v)).set (i + 1) none
def zL (b n : Nat) (ls : List (Option Value)) (la : Array Slot) : Prop := la.size = n ∧ lv_wf la ∧ ∀ (i : Nat) (v : Value), ls[i]? = some (some v) → la[i]? = some (.val (zv b v))
theorem zv_cat (b : Nat) (v : Value) : (zv b v).category = v.category := by cases v <;> rfl
def zas (b : Nat) (ls : List (Option Value)) : List (Nat × Value) := (List.range ls.length).filterMap fun i => match ls[i]? with
  | some (some v) => some (i, zv b v)
  | _ => none
theorem zas_mem {b : Nat} {ls : List (Option Value)} {i : Nat} {v : Value} (h : ls[i]? = some (some v)) : (i, zv b v) ∈ zas b ls := by
  refine List.mem_filterMap.mpr ⟨i, List.mem_range.mpr (List.getElem?_eq_some_iff.mp h).1, ?_⟩
  rw [h]
theorem zas_inv {b : Nat} {ls : List (Option Value)} {q : Nat × Value} (h : q ∈ zas b ls) : ∃ v, ls[q.1]? = some (some v) ∧ q.2 = zv b v := by
  obtain ⟨i, -, hi⟩ := List.mem_filterMap.mp h
  split at hi
  · rename_i v hv
    cases hi
    exact ⟨v, hv, rfl⟩
  · cases hi
theorem zL.has {b n : Nat} {ls : List (Option Value)} {la : Array Slot} (h : zL b n ls la) : lv_has la n (zas b ls) := by
  refine ⟨h.1, h.2.1, fun q hq => ?_⟩
  obtain ⟨v, h1, h2⟩ := zas_inv hq
  rw [h2]
  exact h.2.2 _ _ h1
theorem zk_get {ls : List (Option Value)} {i j : Nat} {w : Value} (h : (zk ls i)[j]? = some (some w)) : ls[j]? = some (some w) ∧ ¬ (j + 1 = i ∧ w.category = 2) := by
  cases i with
  | zero => exact ⟨h, by omega⟩
  | succ k =>
    rw [zk_s] at h
    split at h
    · rename_i v hv
      split at h
      · rename_i hc
        by_cases hjk : j = k
        · subst hjk
          rw [List.getElem?_set_self (List.getElem?_eq_some_iff.mp hv).1] at h
          cases h
        · rw [List.getElem?_set_ne (fun q => hjk q.symm)] at h
          exact ⟨h, by omega⟩
      · rename_i hc
        refine ⟨h, fun q => ?_⟩
        have : j = k := by omega
        subst this
        rw [hv] at h
        cases h
        exact hc q.2
    · rename_i hx
      refine ⟨h, fun q => ?_⟩
      have : j = k := by omega
      subst this
      exact hx w h
theorem zk_len (ls : List (Option Value)) (i : Nat) : (zk ls i).length = ls.length := by
  cases i with
  | zero => rfl
  | succ k =>
    rw [zk_s]
    split
    · split
      · exact List.length_set
      · rfl
    · rfl
theorem zL.st1 {b n : Nat} {ls : List (Option Value)} {la : Array Slot} {i : Nat} {v : Value} (h : lv_has la n ((i, zv b v) :: (zas b ls).filter (fun q => !(q.1 == i) && !(q.1 + 1 == i && q.2.category == 2)))) : zL b n (zs1 ls i v) la := by
  refine ⟨h.1, h.2.1, fun j w hw => ?_⟩
  unfold zs1 at hw
  by_cases hj : j = i
  · subst hj
    have hl := (List.getElem?_eq_some_iff.mp hw).1
    rw [List.length_set] at hl
    rw [List.getElem?_set_self hl] at hw
    cases hw
    exact h.2.2 _ List.mem_cons_self
  · rw [List.getElem?_set_ne (fun q => hj q.symm)] at hw
    obtain ⟨h1, h2⟩ := zk_get hw
    refine h.2.2 (j, zv b w) (List.mem_cons_of_mem _ (List.mem_filter.mpr ⟨zas_mem h1, ?_⟩))
    simp only [zv_cat, Bool.and_eq_true, Bool.not_eq_true', beq_eq_false_iff_ne, ne_eq, Bool.and_eq_false_iff]
    refine ⟨hj, ?_⟩
    by_cases q : j + 1 = i
    · exact Or.inr (fun z => h2 ⟨q, z⟩)
    · exact Or.inl q
theorem zL.st2 {b n : Nat} {ls : List (Option Value)} {la : Array Slot} {i : Nat} {v : Value} (h : lv_has la n ((i, zv b v) :: (zas b ls).filter (fun q => !(q.1 == i) && (!(q.1 == i + 1) && !(q.1 + 1 == i && q.2.category == 2))))) : zL b n (zs2 ls i v) la := by
  refine ⟨h.1, h.2.1, fun j w hw => ?_⟩
  unfold zs2 at hw
  by_cases hj2 : j = i + 1
  · subst hj2
    have hl := (List.getElem?_eq_some_iff.mp hw).1
    rw [List.length_set] at hl
    rw [List.getElem?_set_self hl] at hw
    cases hw
  · rw [List.getElem?_set_ne (fun q => hj2 q.symm)] at hw
    by_cases hj : j = i
    · subst hj
      have hl := (List.getElem?_eq_some_iff.mp hw).1
      rw [List.length_set] at hl
      rw [List.getElem?_set_self hl] at hw
      cases hw
      exact h.2.2 _ List.mem_cons_self
    · rw [List.getElem?_set_ne (fun q => hj q.symm)] at hw
      obtain ⟨h1, h2⟩ := zk_get hw
      refine h.2.2 (j, zv b w) (List.mem_cons_of_mem _ (List.mem_filter.mpr ⟨zas_mem h1, ?_⟩))
      simp only [zv_cat, Bool.and_eq_true, Bool.not_eq_true', beq_eq_false_iff_ne, ne_eq, Bool.and_eq_false_iff]
      refine ⟨hj, hj2, ?_⟩
      by_cases q : j + 1 = i
      · exact Or.inr (fun z => h2 ⟨q, z⟩)
      · exact Or.inl q
/-- a method's locals at its entry -/
def zfl : List Value → List (Option Value)
  | [] => []
  | v :: r => if v.category = 2 then some v :: none :: zfl r else some v :: zfl r
theorem zfl_c (v : Value) (r : List Value) : zfl (v :: r) = if v.category = 2 then some v :: none :: zfl r else some v :: zfl r := rfl
def zA (n : Nat) (av : List Value) : List (Option Value) := zfl av ++ List.replicate (n - (zfl av).length) none
theorem zfl_args (b : Nat) : ∀ (av : List Value) (k i : Nat) (v : Value), (zfl av)[i]? = some (some v) → (k + i, zv b v) ∈ lv_args k (av.map (zv b)) := by
  intro av
  induction av with
  | nil => intro k i v h; simp [zfl] at h
  | cons a r ih =>
    intro k i v h
    rw [List.map_cons, lv_args, zv_cat]
    rw [zfl_c] at h
    split at h
    · rename_i hc
      rw [if_pos hc]
      match i, h with
      | 0, h =>
        cases h
        exact List.mem_cons_self
      | 1, h => simp at h
      | j + 2, h =>
        have h2 := ih (k + 2) j v (by simpa using h)
        rw [show k + (j + 2) = k + 2 + j by omega]
        exact List.mem_cons_of_mem _ h2
    · rename_i hc
      rw [if_neg hc]
      match i, h with
      | 0, h =>
        cases h
        exact List.mem_cons_self
      | j + 1, h =>
        have h2 := ih (k + 1) j v (by simpa using h)
        rw [show k + (j + 1) = k + 1 + j by omega]
        exact List.mem_cons_of_mem _ h2
theorem zA_entry {b n : Nat} {av : List Value} {la : Array Slot} (h : lv_has la n (lv_args 0 (av.map (zv b)))) : zL b n (zA n av) la := by
  refine ⟨h.1, h.2.1, fun i v hv => ?_⟩
  unfold zA at hv
  by_cases hl : i < (zfl av).length
  · rw [List.getElem?_append_left hl] at hv
    have := zfl_args b av 0 i v hv
    rw [Nat.zero_add] at this
    exact h.2.2 _ this
  · rw [List.getElem?_append_right (by omega), List.getElem?_replicate] at hv
    split at hv <;> cases hv
theorem zfl_sl (b : Nat) : ∀ av : List Value, (lg_sl (av.map (zv b))).length = (zfl av).length := by
  intro av
  induction av with
  | nil => rfl
  | cons a r ih =>
    unfold lg_sl at ih ⊢
    rw [List.map_cons, List.flatMap_cons, List.length_append, ih, zv_cat, zfl_c]
    split
    · simp only [List.length_cons, List.length_nil]; omega
    · simp only [List.length_cons, List.length_nil]; omega
theorem zv_far {b sb : Nat} : zv b (.ref (1000000 + sb)) = .ref sb := by
  show Value.ref (if 1000000 + sb < 1000000 then _ else _) = _
  rw [if_neg (by omega), Nat.add_sub_cancel_left]
