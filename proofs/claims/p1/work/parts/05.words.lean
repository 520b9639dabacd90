/-- the words that every method may lean on -/
def zT : List Cond := lw_tbl.filter goodWord
theorem zin {w : Cond} (i : Nat) (h : (decide (lw_tbl[i]? = some w) && goodWord w) = true) : w ∈ zT := by
  rw [Bool.and_eq_true, decide_eq_true_eq] at h
  exact List.mem_filter.mpr ⟨List.mem_of_getElem? h.1, h.2⟩
theorem zT_good : ∀ w ∈ zT, goodWord w = true := fun _ h => (List.mem_filter.mp h).2
def zNest : List Cond := lw_tbl.filter fun w => match w with
  | .methodLinkNest .. => true
  | _ => false
theorem zNest_form {w : Cond} (h : w ∈ zNest) : ∃ a i x t, w = .methodLinkNest a i x t := by
  have h2 := (List.mem_filter.mp h).2
  cases w with
  | methodLinkNest a i x t => exact ⟨a, i, x, t, rfl⟩
  | _ => cases h2
def zty (G : zG) : List (ClassId × FieldType) := [(G.2 1, .int), (G.2 2, .boolean), (G.2 3, .long), (G.2 4, .object RX4)]
/-- what is said of the tables beside the words -/
def zEx (b : Nat) (U : State) : Prop := (∀ w ∈ zNest, va_Nw w U) ∧ va_AO RX4 U
theorem zEx.warm {b : Nat} {s U : State} (hW : s.WarmedH U.vm) (h : zEx b s) : zEx b U := by
  refine ⟨fun w hw => ?_, h.2.moved hW.alike⟩
  obtain ⟨a, i, x, t, rfl⟩ := zNest_form hw
  exact va_Nw.warmM hW (h.1 _ hw)
/-- a class of the system -/
def zCl (ci : Nat) (C : String) (T : u_T) (N : Nat) (ty : Nat → FieldType) : Prop := vwCl[ci]? = some (C, T, N) ∧ (∀ w ∈ u_ws C T N, w ∈ zT) ∧ (∀ k, k < N → parseFieldDescriptor (T k).2.2.1 = some (ty k)) ∧ ∀ a, a < N → ∀ b, b < N → a ≠ b → (T a).2.1 ≠ (T b).2.1
/-- a field's link: from the class own, entry idx, to slot k of class ci, of type ty -/
def zFl (own : String) (idx ci k : Nat) (ty : FieldType) (fin : Bool) : Prop := ∃ (C : String) (T : u_T) (N : Nat) (t0 : Nat → FieldType), zCl ci C T N t0 ∧ k < N ∧ Cond.fieldLink own idx (T k).1 (T k).2.1 (T k).2.2.1 ∈ zT ∧ t0 k = ty ∧ (T k).2.2.2 = fin ∧ (T k).1 = C
/-- a final field's link, in the class's own constructor -/
def zFf (own : String) (idx ci k : Nat) (ty : FieldType) : Prop := ∃ (T : u_T) (N : Nat) (t0 : Nat → FieldType), zCl ci own T N t0 ∧ k < N ∧ Cond.fieldLink own idx (T k).1 (T k).2.1 (T k).2.2.1 ∈ zT ∧ t0 k = ty ∧ (T k).2.2.2 = true ∧ (T k).1 = own
/-- a method: its code stands in the words -/
def zMi (y : MethodName) (cc : ByteArray) (nL : Nat) (ret : Option FieldType) (n : Nat) : Prop := Cond.code y cc nL ret ∈ zT ∧ Cond.initialized y.cls ∈ zT ∧ (y.cls ≠ "java/lang/invoke/MethodHandle" ∧ y.cls ≠ "java/lang/invoke/VarHandle") ∧ (parseMethodDescriptor y.desc).map (fun d => d.parameters.length) = some n ∧ plainName y.cls = true
/-- links to methods: virtual, static, constructors; across the nest -/
def zLv (own : String) (idx : Nat) (y : MethodName) : Prop := Cond.methodLink own idx y ∈ zT ∧ Cond.instanceMethod y ∈ zT ∧ Cond.selects y.cls y y ∈ zT
def zLs (own : String) (idx : Nat) (y : MethodName) : Prop := Cond.methodLink own idx y ∈ zT ∧ Cond.static y ∈ zT
def zLsn (own : String) (idx : Nat) (y : MethodName) : Prop := (∃ h, Cond.methodLinkNest own idx y h ∈ zNest) ∧ Cond.static y ∈ zT
def zLi (own : String) (idx : Nat) (y : MethodName) : Prop := Cond.methodLink own idx y ∈ zT ∧ Cond.instanceMethod y ∈ zT ∧ y.name = "<init>"
def zLin (own : String) (idx : Nat) (y : MethodName) : Prop := (∃ h, Cond.methodLinkNest own idx y h ∈ zNest) ∧ Cond.instanceMethod y ∈ zT ∧ y.name = "<init>"
