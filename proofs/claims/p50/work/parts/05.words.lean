/-- the words that every method may lean on -/
def zT : List Cond := lw_tbl.filter goodWord
theorem zin {w : Cond} (i : Nat) (h : (decide (lw_tbl[i]? = some w) && goodWord w) = true) : w ∈ zT := by
  rw [Bool.and_eq_true, decide_eq_true_eq] at h
  exact List.mem_filter.mpr ⟨List.mem_of_getElem? h.1, h.2⟩
theorem zT_good : ∀ w ∈ zT, goodWord w = true := fun _ h => (List.mem_filter.mp h).2
def zNest : List Cond := lw_tbl.filter fun w => match w with
  | .methodLinkNest .. => true
  | _ => false
theorem zNest_form {w : Cond} (h : w ∈ zNest) : ∃ a i x t, w = .methodLinkNest a i x t := by
  have h2 := (List.mem_filter.mp h).2
  cases w with
  | methodLinkNest a i x t => exact ⟨a, i, x, t, rfl⟩
  | _ => cases h2
def zty (G : zG) : List (ClassId × FieldType) := [(G.2 1, .int), (G.2 2, .boolean), (G.2 3, .long), (G.2 4, .object RX4)]
/-- the claim's String constants: whose entry, its text -/
def zLit : List (String × Nat × String) := [("TagDraw$Reader", 122, "unit"), ("TagDraw$Reader", 128, "hunter"), ("TagDraw$Reader", 130, "guest"), ("TagDraw$Reader", 132, "party"), ("TagDraw$Reader", 134, "asks"), ("TagDraw$Reader", 136, "law"), ("TagDraw$Reader", 138, "prefer"), ("TagDraw$Reader", 140, "guests"), ("TagDraw$Reader", 227, "line"), ("TagDraw$Reader", 232, "square"), ("TagDraw$Reader", 234, "plain"), ("TagDrawModel", 173, "unit hunter guest party asks law prefer guests "), ("TagDrawModel", 246, "plain line square ")]
def zLen : List Nat := [4, 6, 5, 5, 4, 3, 6, 6, 4, 6, 5, 47, 18]
def zByt : List (List Int32) := [[117, 110, 105, 116], [104, 117, 110, 116, 101, 114], [103, 117, 101, 115, 116], [112, 97, 114, 116, 121], [97, 115, 107, 115], [108, 97, 119], [112, 114, 101, 102, 101, 114], [103, 117, 101, 115, 116, 115], [108, 105, 110, 101], [115, 113, 117, 97, 114, 101], [112, 108, 97, 105, 110], [117, 110, 105, 116, 32, 104, 117, 110, 116, 101, 114, 32, 103, 117, 101, 115, 116, 32, 112, 97, 114, 116, 121, 32, 97, 115, 107, 115, 32, 108, 97, 119, 32, 112, 114, 101, 102, 101, 114, 32, 103, 117, 101, 115, 116, 115, 32], [112, 108, 97, 105, 110, 32, 108, 105, 110, 101, 32, 115, 113, 117, 97, 114, 101, 32]]
/-- the address of a literal, and of its bytes -/
def zKa (G : zG) (i : Nat) : Nat := G.2 (100 + i)
def zVa (G : zG) (i : Nat) : Nat := G.2 (200 + i)
def zStr (G : zG) (b : Nat) (U : State) : Prop := vk_S 13 zLen zByt (zKa G) (zVa G) (fun q : Nat => b ≤ q) U U.heap ∧ (∀ (i : Nat) (q : String × Nat × String), zLit[i]? = some q → vk_R q.1 q.2.1 q.2.2 (zKa G i) U) ∧
  va_Z "java/lang/String" "COMPACT_STRINGS" "Z" (.int 1) (fun q : Nat => b ≤ q) U U.heap ∧ va_Zq "jdk/internal/util/Preconditions" "SIOOBE_FORMATTER" "Ljava/util/function/BiFunction;" (fun q : Nat => b ≤ q) U U.heap
theorem zStr.warm {G : zG} {b : Nat} {s U : State} (hW : s.WarmedH U.vm) (hq : ∀ q : Nat, q < s.heap.size → ¬ b ≤ q → U.heap[q]? = s.heap[q]?) (h : zStr G b s) : zStr G b U :=
  ⟨(h.1.moved hW.alike).kept hq, fun i q hi => (h.2.1 i q hi).warm hW, (h.2.2.1.moved hW.alike).kept hq, (h.2.2.2.moved hW.alike).kept hq⟩
/-- what is said of the tables beside the words, and of the JDK's cells that lie below b -/
def zEx (G : zG) (b : Nat) (U : State) : Prop := (∀ w ∈ zNest, va_Nw w U) ∧ va_AO RX4 U ∧ zStr G b U
theorem zEx.warm {G : zG} {b : Nat} {s U : State} (hW : s.WarmedH U.vm) (hq : ∀ q : Nat, q < s.heap.size → ¬ b ≤ q → U.heap[q]? = s.heap[q]?) (h : zEx G b s) : zEx G b U := by
  refine ⟨fun w hw => ?_, h.2.1.moved hW.alike, h.2.2.warm hW hq⟩
  obtain ⟨a, i, x, t, rfl⟩ := zNest_form hw
  exact va_Nw.warmM hW (h.1 _ hw)
/-- a class of the system -/
def zCl (ci : Nat) (C : String) (T : u_T) (N : Nat) (ty : Nat → FieldType) : Prop := vwCl[ci]? = some (C, T, N) ∧ (∀ w ∈ u_ws C T N, w ∈ zT) ∧ (∀ k, k < N → parseFieldDescriptor (T k).2.2.1 = some (ty k)) ∧ ∀ a, a < N → ∀ b, b < N → a ≠ b → (T a).2.1 ≠ (T b).2.1
/-- a field's link: from the class own, entry idx, to slot k of class ci, of type ty -/
def zFl (own : String) (idx ci k : Nat) (ty : FieldType) (fin : Bool) : Prop := ∃ (C : String) (T : u_T) (N : Nat) (t0 : Nat → FieldType), zCl ci C T N t0 ∧ k < N ∧ Cond.fieldLink own idx (T k).1 (T k).2.1 (T k).2.2.1 ∈ zT ∧ t0 k = ty ∧ (T k).2.2.2 = fin ∧ (T k).1 = C
/-- a final field's link, in the class's own constructor -/
def zFf (own : String) (idx ci k : Nat) (ty : FieldType) : Prop := ∃ (T : u_T) (N : Nat) (t0 : Nat → FieldType), zCl ci own T N t0 ∧ k < N ∧ Cond.fieldLink own idx (T k).1 (T k).2.1 (T k).2.2.1 ∈ zT ∧ t0 k = ty ∧ (T k).2.2.2 = true ∧ (T k).1 = own
/-- a method: its code stands in the words -/
def zMi (y : MethodName) (cc : ByteArray) (nL : Nat) (ret : Option FieldType) (n : Nat) : Prop := Cond.code y cc nL ret ∈ zT ∧ Cond.initialized y.cls ∈ zT ∧ (y.cls ≠ "java/lang/invoke/MethodHandle" ∧ y.cls ≠ "java/lang/invoke/VarHandle") ∧ (parseMethodDescriptor y.desc).map (fun d => d.parameters.length) = some n ∧ plainName y.cls = true
/-- links to methods: virtual, static, constructors; across the nest -/
def zLv (own : String) (idx : Nat) (y : MethodName) : Prop := Cond.methodLink own idx y ∈ zT ∧ Cond.instanceMethod y ∈ zT ∧ Cond.selects y.cls y y ∈ zT
def zLs (own : String) (idx : Nat) (y : MethodName) : Prop := Cond.methodLink own idx y ∈ zT ∧ Cond.static y ∈ zT
def zLsn (own : String) (idx : Nat) (y : MethodName) : Prop := (∃ h, Cond.methodLinkNest own idx y h ∈ zNest) ∧ Cond.static y ∈ zT
def zLi (own : String) (idx : Nat) (y : MethodName) : Prop := Cond.methodLink own idx y ∈ zT ∧ Cond.instanceMethod y ∈ zT ∧ y.name = "<init>"
def zLin (own : String) (idx : Nat) (y : MethodName) : Prop := (∃ h, Cond.methodLinkNest own idx y h ∈ zNest) ∧ Cond.instanceMethod y ∈ zT ∧ y.name = "<init>"
