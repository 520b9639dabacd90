/-! THE WHOLE WORLD: positions 0, 1, .. are the cells that the run has made, in their order; position k lies at the address b + k.
A layout says what each cell is, two tables of numbers what its ints and longs are; references never change behind the constructors. -/
/-- a layout's cell: kind (0 object, 1 int[], 2 boolean[], 3 long[], 4 Register[]), class or length, fields or elements ((0,_) int, (1,_) long, (2,k) the cell k, else null) -/
abbrev zC : Type := Nat × Nat × List (Nat × Nat)
abbrev zS : Type := List zC × (Nat → Nat → Int32) × (Nat → Nat → Int64)
abbrev zG : Type := va_G × (Nat → ClassId)
def zv (b : Nat) : Value → Value
  | .ref k => .ref (if k < 1000000 then b + k else k - 1000000)
  | v => v
def zF (b : Nat) (S : zS) (k : Nat) (j : Nat) (f : Nat × Nat) : Value := match f.1 with
  | 0 => .int (S.2.1 k j)
  | 1 => .long (S.2.2 k j)
  | 2 => .ref (b + f.2)
  | _ => .null
def zrf (b : Nat) (fs : List (Nat × Nat)) (i : Nat) : Option Nat := (fs[i]?).bind (fun f => if f.1 = 2 then some (b + f.2) else none)
def zE1 (G : zG) (b : Nat) (S : zS) (k : Nat) (q : zC) : va_E := match q.1 with
  | 0 => .inr (q.2.1, q.2.2.mapIdx (zF b S k))
  | 1 => .inl (G.2 1, q.2.1, .inl (S.2.1 k))
  | 2 => .inl (G.2 2, q.2.1, .inl (S.2.1 k))
  | 3 => .inl (G.2 3, q.2.1, .inr (.inl (S.2.2 k)))
  | _ => .inl (G.2 4, q.2.1, .inr (.inr (.inr (.inr (zrf b q.2.2)))))
def zW (G : zG) (b : Nat) (S : zS) : va_W := S.1.mapIdx (fun k q => (b + k, zE1 G b S k q))
theorem zW_get {G : zG} {b : Nat} {S : zS} {k : Nat} {q : zC} (h : S.1[k]? = some q) : (zW G b S)[k]? = some (b + k, zE1 G b S k q) := by
  unfold zW
  rw [List.getElem?_mapIdx, h]
  rfl
theorem zW_len (G : zG) (b : Nat) (S : zS) : (zW G b S).length = S.1.length := by
  unfold zW
  rw [List.length_mapIdx]
theorem zW_inv {G : zG} {b : Nat} {S : zS} {k : Nat} {x : Nat × va_E} (h : (zW G b S)[k]? = some x) : x.1 = b + k ∧ k < S.1.length := by
  have hl : k < (zW G b S).length := (List.getElem?_eq_some_iff.mp h).1
  rw [zW_len] at hl
  refine ⟨?_, hl⟩
  rw [zW_get (List.getElem?_eq_getElem hl)] at h
  cases h
  rfl
theorem zD (G : zG) (b : Nat) (S : zS) : va_D (fun q : Nat => b ≤ q) (zW G b S) := by
  refine ⟨fun i j p q hi hj hpq => ?_, fun k q hk => ?_⟩
  · have h1 := (zW_inv hi).1
    have h2 := (zW_inv hj).1
    omega
  · rw [(zW_inv hk).1]
    exact Nat.le_add_right _ _
def zH (G : zG) (b : Nat) (S : zS) (H : Heap) : Prop := H.size = b + S.1.length ∧ S.1.length < 1000000 ∧ va_P G.1 vwCl (zW G b S) H
/-- one cell has changed -/
theorem zW_set {G : zG} {b : Nat} {S S' : zS} {k : Nat} {q q' : zC} {e : va_E} (hq : S.1[k]? = some q) (hl : S'.1 = S.1.set k q') (ho : ∀ a : Nat, a ≠ k → S'.2.1 a = S.2.1 a ∧ S'.2.2 a = S.2.2 a) (he : zE1 G b S' k q' = e) : (zW G b S).set k (b + k, e) = zW G b S' := by
  apply List.ext_getElem?
  intro i
  have hk : k < S.1.length := (List.getElem?_eq_some_iff.mp hq).1
  by_cases hi : i = k
  · subst hi
    rw [List.getElem?_set_self (by rw [zW_len]; exact hk)]
    have h2 : S'.1[i]? = some q' := by rw [hl, List.getElem?_set_self hk]
    rw [zW_get h2, he]
  · rw [List.getElem?_set_ne (Ne.symm hi)]
    unfold zW
    rw [List.getElem?_mapIdx, List.getElem?_mapIdx, hl, List.getElem?_set_ne (Ne.symm hi)]
    obtain ⟨h1, h2⟩ := ho i hi
    cases S.1[i]? with
    | none => rfl
    | some r =>
      obtain ⟨r1, r2, r3⟩ := r
      have hF : ∀ (j : Nat) (f : Nat × Nat), zF b S i j f = zF b S' i j f := fun j f => by unfold zF; rw [h1, h2]
      have hf : zF b S i = zF b S' i := by funext j f; exact hF j f
      show some (b + i, zE1 G b S i (r1, r2, r3)) = some (b + i, zE1 G b S' i (r1, r2, r3))
      unfold zE1
      simp only [h1, h2, hf]
def zu {α : Type} (M : Nat → Nat → α) (k i : Nat) (v : α) : Nat → Nat → α := fun a j => if a = k ∧ j = i then v else M a j
theorem zu_row {α : Type} {M : Nat → Nat → α} {k i a : Nat} {v : α} (h : a ≠ k) : zu M k i v a = M a := by
  funext j
  exact if_neg (fun q => h q.1)
/-- locals -/
def zk (ls : List (Option Value)) : Nat → List (Option Value)
  | 0 => ls
  | j + 1 => match ls[j]? with
    | some (some v) => if v.category = 2 then ls.set j none else ls
    | _ => ls
theorem zk_s (ls : List (Option Value)) (k : Nat) : zk ls (k + 1) = match ls[k]? with
    | some (some v) => if v.category = 2 then ls.set k none else ls
    | _ => ls := rfl
def zs1 (ls : List (Option Value)) (i : Nat) (v : Value) : List (Option Value) := (zk ls i).set i (some v)
def zs2 (ls : List (Option Value)) (i : Nat) (v : Value) : List (Option Value) := ((zk ls i).set i (some v)).set (i + 1) none
def zL (b n : Nat) (ls : List (Option Value)) (la : Array Slot) : Prop := la.size = n ∧ lv_wf la ∧ ∀ (i : Nat) (v : Value), ls[i]? = some (some v) → la[i]? = some (.val (zv b v))
theorem zv_cat (b : Nat) (v : Value) : (zv b v).category = v.category := by cases v <;> rfl
def zas (b : Nat) (ls : List (Option Value)) : List (Nat × Value) := (List.range ls.length).filterMap fun i => match ls[i]? with
  | some (some v) => some (i, zv b v)
  | _ => none
theorem zas_mem {b : Nat} {ls : List (Option Value)} {i : Nat} {v : Value} (h : ls[i]? = some (some v)) : (i, zv b v) ∈ zas b ls := by
  refine List.mem_filterMap.mpr ⟨i, List.mem_range.mpr (List.getElem?_eq_some_iff.mp h).1, ?_⟩
  rw [h]
theorem zas_inv {b : Nat} {ls : List (Option Value)} {q : Nat × Value} (h : q ∈ zas b ls) : ∃ v, ls[q.1]? = some (some v) ∧ q.2 = zv b v := by
  obtain ⟨i, -, hi⟩ := List.mem_filterMap.mp h
  split at hi
  · rename_i v hv
    cases hi
    exact ⟨v, hv, rfl⟩
  · cases hi
theorem zL.has {b n : Nat} {ls : List (Option Value)} {la : Array Slot} (h : zL b n ls la) : lv_has la n (zas b ls) := by
  refine ⟨h.1, h.2.1, fun q hq => ?_⟩
  obtain ⟨v, h1, h2⟩ := zas_inv hq
  rw [h2]
  exact h.2.2 _ _ h1
theorem zk_get {ls : List (Option Value)} {i j : Nat} {w : Value} (h : (zk ls i)[j]? = some (some w)) : ls[j]? = some (some w) ∧ ¬ (j + 1 = i ∧ w.category = 2) := by
  cases i with
  | zero => exact ⟨h, by omega⟩
  | succ k =>
    rw [zk_s] at h
    split at h
    · rename_i v hv
      split at h
      · rename_i hc
        by_cases hjk : j = k
        · subst hjk
          rw [List.getElem?_set_self (List.getElem?_eq_some_iff.mp hv).1] at h
          cases h
        · rw [List.getElem?_set_ne (fun q => hjk q.symm)] at h
          exact ⟨h, by omega⟩
      · rename_i hc
        refine ⟨h, fun q => ?_⟩
        have : j = k := by omega
        subst this
        rw [hv] at h
        cases h
        exact hc q.2
    · rename_i hx
      refine ⟨h, fun q => ?_⟩
      have : j = k := by omega
      subst this
      exact hx w h
theorem zk_len (ls : List (Option Value)) (i : Nat) : (zk ls i).length = ls.length := by
  cases i with
  | zero => rfl
  | succ k =>
    rw [zk_s]
    split
    · split
      · exact List.length_set
      · rfl
    · rfl
theorem zL.st1 {b n : Nat} {ls : List (Option Value)} {la : Array Slot} {i : Nat} {v : Value} (h : lv_has la n ((i, zv b v) :: (zas b ls).filter (fun q => !(q.1 == i) && !(q.1 + 1 == i && q.2.category == 2)))) : zL b n (zs1 ls i v) la := by
  refine ⟨h.1, h.2.1, fun j w hw => ?_⟩
  unfold zs1 at hw
  by_cases hj : j = i
  · subst hj
    have hl := (List.getElem?_eq_some_iff.mp hw).1
    rw [List.length_set] at hl
    rw [List.getElem?_set_self hl] at hw
    cases hw
    exact h.2.2 _ List.mem_cons_self
  · rw [List.getElem?_set_ne (fun q => hj q.symm)] at hw
    obtain ⟨h1, h2⟩ := zk_get hw
    refine h.2.2 (j, zv b w) (List.mem_cons_of_mem _ (List.mem_filter.mpr ⟨zas_mem h1, ?_⟩))
    simp only [zv_cat, Bool.and_eq_true, Bool.not_eq_true', beq_eq_false_iff_ne, ne_eq, Bool.and_eq_false_iff]
    refine ⟨hj, ?_⟩
    by_cases q : j + 1 = i
    · exact Or.inr (fun z => h2 ⟨q, z⟩)
    · exact Or.inl q
theorem zL.st2 {b n : Nat} {ls : List (Option Value)} {la : Array Slot} {i : Nat} {v : Value} (h : lv_has la n ((i, zv b v) :: (zas b ls).filter (fun q => !(q.1 == i) && (!(q.1 == i + 1) && !(q.1 + 1 == i && q.2.category == 2))))) : zL b n (zs2 ls i v) la := by
  refine ⟨h.1, h.2.1, fun j w hw => ?_⟩
  unfold zs2 at hw
  by_cases hj2 : j = i + 1
  · subst hj2
    have hl := (List.getElem?_eq_some_iff.mp hw).1
    rw [List.length_set] at hl
    rw [List.getElem?_set_self hl] at hw
    cases hw
  · rw [List.getElem?_set_ne (fun q => hj2 q.symm)] at hw
    by_cases hj : j = i
    · subst hj
      have hl := (List.getElem?_eq_some_iff.mp hw).1
      rw [List.length_set] at hl
      rw [List.getElem?_set_self hl] at hw
      cases hw
      exact h.2.2 _ List.mem_cons_self
    · rw [List.getElem?_set_ne (fun q => hj q.symm)] at hw
      obtain ⟨h1, h2⟩ := zk_get hw
      refine h.2.2 (j, zv b w) (List.mem_cons_of_mem _ (List.mem_filter.mpr ⟨zas_mem h1, ?_⟩))
      simp only [zv_cat, Bool.and_eq_true, Bool.not_eq_true', beq_eq_false_iff_ne, ne_eq, Bool.and_eq_false_iff]
      refine ⟨hj, hj2, ?_⟩
      by_cases q : j + 1 = i
      · exact Or.inr (fun z => h2 ⟨q, z⟩)
      · exact Or.inl q
/-- a method's locals at its entry -/
def zfl : List Value → List (Option Value)
  | [] => []
  | v :: r => if v.category = 2 then some v :: none :: zfl r else some v :: zfl r
theorem zfl_c (v : Value) (r : List Value) : zfl (v :: r) = if v.category = 2 then some v :: none :: zfl r else some v :: zfl r := rfl
def zA (n : Nat) (av : List Value) : List (Option Value) := zfl av ++ List.replicate (n - (zfl av).length) none
theorem zfl_args (b : Nat) : ∀ (av : List Value) (k i : Nat) (v : Value), (zfl av)[i]? = some (some v) → (k + i, zv b v) ∈ lv_args k (av.map (zv b)) := by
  intro av
  induction av with
  | nil => intro k i v h; simp [zfl] at h
  | cons a r ih =>
    intro k i v h
    rw [List.map_cons, lv_args, zv_cat]
    rw [zfl_c] at h
    split at h
    · rename_i hc
      rw [if_pos hc]
      match i, h with
      | 0, h =>
        cases h
        exact List.mem_cons_self
      | 1, h => simp at h
      | j + 2, h =>
        have h2 := ih (k + 2) j v (by simpa using h)
        rw [show k + (j + 2) = k + 2 + j by omega]
        exact List.mem_cons_of_mem _ h2
    · rename_i hc
      rw [if_neg hc]
      match i, h with
      | 0, h =>
        cases h
        exact List.mem_cons_self
      | j + 1, h =>
        have h2 := ih (k + 1) j v (by simpa using h)
        rw [show k + (j + 1) = k + 1 + j by omega]
        exact List.mem_cons_of_mem _ h2
theorem zA_entry {b n : Nat} {av : List Value} {la : Array Slot} (h : lv_has la n (lv_args 0 (av.map (zv b)))) : zL b n (zA n av) la := by
  refine ⟨h.1, h.2.1, fun i v hv => ?_⟩
  unfold zA at hv
  by_cases hl : i < (zfl av).length
  · rw [List.getElem?_append_left hl] at hv
    have := zfl_args b av 0 i v hv
    rw [Nat.zero_add] at this
    exact h.2.2 _ this
  · rw [List.getElem?_append_right (by omega), List.getElem?_replicate] at hv
    split at hv <;> cases hv
theorem zfl_sl (b : Nat) : ∀ av : List Value, (lg_sl (av.map (zv b))).length = (zfl av).length := by
  intro av
  induction av with
  | nil => rfl
  | cons a r ih =>
    unfold lg_sl at ih ⊢
    rw [List.map_cons, List.flatMap_cons, List.length_append, ih, zv_cat, zfl_c]
    split
    · simp only [List.length_cons, List.length_nil]; omega
    · simp only [List.length_cons, List.length_nil]; omega
theorem zv_far {b sb : Nat} : zv b (.ref (1000000 + sb)) = .ref sb := by
  show Value.ref (if 1000000 + sb < 1000000 then _ else _) = _
  rw [if_neg (by omega), Nat.add_sub_cancel_left]
/-- the words that every method may lean on -/
def zT : List Cond := lw_tbl.filter goodWord
theorem zin {w : Cond} (i : Nat) (h : (decide (lw_tbl[i]? = some w) && goodWord w) = true) : w ∈ zT := by
  rw [Bool.and_eq_true, decide_eq_true_eq] at h
  exact List.mem_filter.mpr ⟨List.mem_of_getElem? h.1, h.2⟩
theorem zT_good : ∀ w ∈ zT, goodWord w = true := fun _ h => (List.mem_filter.mp h).2
def zNest : List Cond := lw_tbl.filter fun w => match w with
  | .methodLinkNest .. => true
  | _ => false
theorem zNest_form {w : Cond} (h : w ∈ zNest) : ∃ a i x t, w = .methodLinkNest a i x t := by
  have h2 := (List.mem_filter.mp h).2
  cases w with
  | methodLinkNest a i x t => exact ⟨a, i, x, t, rfl⟩
  | _ => cases h2
def zty (G : zG) : List (ClassId × FieldType) := [(G.2 1, .int), (G.2 2, .boolean), (G.2 3, .long), (G.2 4, .object RX4)]
/-- the claim's String constants: whose entry, its text -/
def zLit : List (String × Nat × String) := [("TagDraw$Reader", 122, "unit"), ("TagDraw$Reader", 128, "hunter"), ("TagDraw$Reader", 130, "guest"), ("TagDraw$Reader", 132, "party"), ("TagDraw$Reader", 134, "asks"), ("TagDraw$Reader", 136, "law"), ("TagDraw$Reader", 138, "prefer"), ("TagDraw$Reader", 140, "guests"), ("TagDraw$Reader", 227, "line"), ("TagDraw$Reader", 232, "square"), ("TagDraw$Reader", 234, "plain"), ("TagDrawModel", 173, "unit hunter guest party asks law prefer guests "), ("TagDrawModel", 246, "plain line square ")]
def zLen : List Nat := [4, 6, 5, 5, 4, 3, 6, 6, 4, 6, 5, 47, 18]
def zByt : List (List Int32) := [[117, 110, 105, 116], [104, 117, 110, 116, 101, 114], [103, 117, 101, 115, 116], [112, 97, 114, 116, 121], [97, 115, 107, 115], [108, 97, 119], [112, 114, 101, 102, 101, 114], [103, 117, 101, 115, 116, 115], [108, 105, 110, 101], [115, 113, 117, 97, 114, 101], [112, 108, 97, 105, 110], [117, 110, 105, 116, 32, 104, 117, 110, 116, 101, 114, 32, 103, 117, 101, 115, 116, 32, 112, 97, 114, 116, 121, 32, 97, 115, 107, 115, 32, 108, 97, 119, 32, 112, 114, 101, 102, 101, 114, 32, 103, 117, 101, 115, 116, 115, 32], [112, 108, 97, 105, 110, 32, 108, 105, 110, 101, 32, 115, 113, 117, 97, 114, 101, 32]]
/-- the address of a literal, and of its bytes -/
def zKa (G : zG) (i : Nat) : Nat := G.2 (100 + i)
def zVa (G : zG) (i : Nat) : Nat := G.2 (200 + i)
def zStr (G : zG) (b : Nat) (U : State) : Prop := vk_S 13 zLen zByt (zKa G) (zVa G) (fun q : Nat => b ≤ q) U U.heap ∧ (∀ (i : Nat) (q : String × Nat × String), zLit[i]? = some q → vk_R q.1 q.2.1 q.2.2 (zKa G i) U) ∧
  va_Z "java/lang/String" "COMPACT_STRINGS" "Z" (.int 1) (fun q : Nat => b ≤ q) U U.heap ∧ va_Zq "jdk/internal/util/Preconditions" "SIOOBE_FORMATTER" "Ljava/util/function/BiFunction;" (fun q : Nat => b ≤ q) U U.heap
theorem zStr.warm {G : zG} {b : Nat} {s U : State} (hW : s.WarmedH U.vm) (hq : ∀ q : Nat, q < s.heap.size → ¬ b ≤ q → U.heap[q]? = s.heap[q]?) (h : zStr G b s) : zStr G b U :=
  ⟨(h.1.moved hW.alike).kept hq, fun i q hi => (h.2.1 i q hi).warm hW, (h.2.2.1.moved hW.alike).kept hq, (h.2.2.2.moved hW.alike).kept hq⟩
/-- what is said of the tables beside the words, and of the JDK's cells that lie below b -/
def zEx (G : zG) (b : Nat) (U : State) : Prop := (∀ w ∈ zNest, va_Nw w U) ∧ va_AO RX4 U ∧ zStr G b U
theorem zEx.warm {G : zG} {b : Nat} {s U : State} (hW : s.WarmedH U.vm) (hq : ∀ q : Nat, q < s.heap.size → ¬ b ≤ q → U.heap[q]? = s.heap[q]?) (h : zEx G b s) : zEx G b U := by
  refine ⟨fun w hw => ?_, h.2.1.moved hW.alike, h.2.2.warm hW hq⟩
  obtain ⟨a, i, x, t, rfl⟩ := zNest_form hw
  exact va_Nw.warmM hW (h.1 _ hw)
/-- a class of the system -/
def zCl (ci : Nat) (C : String) (T : u_T) (N : Nat) (ty : Nat → FieldType) : Prop := vwCl[ci]? = some (C, T, N) ∧ (∀ w ∈ u_ws C T N, w ∈ zT) ∧ (∀ k, k < N → parseFieldDescriptor (T k).2.2.1 = some (ty k)) ∧ ∀ a, a < N → ∀ b, b < N → a ≠ b → (T a).2.1 ≠ (T b).2.1
/-- a field's link: from the class own, entry idx, to slot k of class ci, of type ty -/
def zFl (own : String) (idx ci k : Nat) (ty : FieldType) (fin : Bool) : Prop := ∃ (C : String) (T : u_T) (N : Nat) (t0 : Nat → FieldType), zCl ci C T N t0 ∧ k < N ∧ Cond.fieldLink own idx (T k).1 (T k).2.1 (T k).2.2.1 ∈ zT ∧ t0 k = ty ∧ (T k).2.2.2 = fin ∧ (T k).1 = C
/-- a final field's link, in the class's own constructor -/
def zFf (own : String) (idx ci k : Nat) (ty : FieldType) : Prop := ∃ (T : u_T) (N : Nat) (t0 : Nat → FieldType), zCl ci own T N t0 ∧ k < N ∧ Cond.fieldLink own idx (T k).1 (T k).2.1 (T k).2.2.1 ∈ zT ∧ t0 k = ty ∧ (T k).2.2.2 = true ∧ (T k).1 = own
/-- a method: its code stands in the words -/
def zMi (y : MethodName) (cc : ByteArray) (nL : Nat) (ret : Option FieldType) (n : Nat) : Prop := Cond.code y cc nL ret ∈ zT ∧ Cond.initialized y.cls ∈ zT ∧ (y.cls ≠ "java/lang/invoke/MethodHandle" ∧ y.cls ≠ "java/lang/invoke/VarHandle") ∧ (parseMethodDescriptor y.desc).map (fun d => d.parameters.length) = some n ∧ plainName y.cls = true
/-- links to methods: virtual, static, constructors; across the nest -/
def zLv (own : String) (idx : Nat) (y : MethodName) : Prop := Cond.methodLink own idx y ∈ zT ∧ Cond.instanceMethod y ∈ zT ∧ Cond.selects y.cls y y ∈ zT
def zLs (own : String) (idx : Nat) (y : MethodName) : Prop := Cond.methodLink own idx y ∈ zT ∧ Cond.static y ∈ zT
def zLsn (own : String) (idx : Nat) (y : MethodName) : Prop := (∃ h, Cond.methodLinkNest own idx y h ∈ zNest) ∧ Cond.static y ∈ zT
def zLi (own : String) (idx : Nat) (y : MethodName) : Prop := Cond.methodLink own idx y ∈ zT ∧ Cond.instanceMethod y ∈ zT ∧ y.name = "<init>"
def zLin (own : String) (idx : Nat) (y : MethodName) : Prop := (∃ h, Cond.methodLinkNest own idx y h ∈ zNest) ∧ Cond.instanceMethod y ∈ zT ∧ y.name = "<init>"
