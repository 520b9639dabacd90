section
/-- what stays through a method's body -/
def zOK (p : Program) (s : State) (m : MethodId) (args : Array Value) (meth : Method) (c : Code) (G : zG) (b : Nat) (own : String) (cc : ByteArray) (nL : Nat) : Prop :=
  p.tables.exec = Jvm.exec ∧ c.code = cc ∧ c.maxLocals = nL ∧ s.vm.findClass own = some m.cls ∧ (∀ w ∈ zT, w.before args s = true) ∧ va_K G.1 vwCl (zty G) s ∧ zEx G b s ∧ meth.locks = false ∧ b ≤ s.heap.size
def Zw (p : Program) (l : Launch) (e : Env) (R : Room) (s : State) (m : MethodId) (args : Array Value) (below : List Frame) (meth : Method) (c : Code) (G : zG) (b : Nat) (nL : Nat) (Q : State → Prop) (nc ns : Nat) (pc : Nat) (ls : List (Option Value)) (st : List Value) (S : zS) : Prop :=
  ∀ (H : Heap) (locs : List Loc) (la : Array Slot), zH G b S H → va_S (fun q : Nat => b ≤ q) s.heap H locs → zL b nL ls la → W p l e R s m args below meth c H locs nc ns Q (F0 m pc la (st.map (zv b)))
/-- a method's end, over the whole world -/
def zQ (G : zG) (b : Nat) (Q : Option Value → zS → Prop) : Array Value → State → Outcome → State → Prop := fun _ st o t => (∃ (r : Option Value) (S' : zS), o = .returned (r.map (zv b)) ∧ Q r S' ∧ zH G b S' t.heap) ∧ va_F (fun q : Nat => b ≤ q) st t
/-- a method's contract: from S, with these arguments, it returns, and Q holds of its answer and of what S has become; at most mc cells of ms slots are made; d: how deep its calls go -/
def zM (l : Launch) (G : zG) (b : Nat) (y : MethodName) (cc : ByteArray) (nL : Nat) (ret : Option FieldType) (d mc ms : Nat) (av : List Value) (S : zS) (Q : Option Value → zS → Prop) : Prop :=
  Met l y (.code y cc nL ret :: zT) { frames := d, cells := mc, slots := ms, locals := 80 * d } (va_Pc (av.map (zv b)) (fun U => zH G b S U.heap ∧ va_K G.1 vwCl (zty G) U ∧ zEx G b U)) (zQ G b Q) mc ms (fun q : Nat => b ≤ q)
section ZR
variable {p : Program} {l : Launch} {e : Env} {R : Room} {s : State} {m : MethodId} {args : Array Value} {below : List Frame} {meth : Method} {c : Code} {G : zG} {b : Nat} {Q : State → Prop} {nc ns : Nat}
variable {cc : ByteArray} {pc nL : Nat} {own : String} {ls : List (Option Value)} {st : List Value} {S : zS}

theorem a_iconst (X : zOK p s m args meth c G b own cc nL) {n : Int} {v : Int32} (hd : decode cc pc = .ok (.iconst n, 1)) (hv : Int32.ofInt n = v) (kk : Zw p l e R s m args below meth c G b nL Q nc ns (pc + 1) ls (.int v :: st) S) : Zw p l e R s m args below meth c G b nL Q nc ns pc ls st S :=
  fun H locs la hH hS hL => lv_iconst X.1 X.2.1 hd hv (kk H locs la hH hS hL)
theorem a_bipush (X : zOK p s m args meth c G b own cc nL) {n : Int} {v : Int32} (hd : decode cc pc = .ok (.bipush n, 2)) (hv : (Int8.ofInt n).toInt32 = v) (kk : Zw p l e R s m args below meth c G b nL Q nc ns (pc + 2) ls (.int v :: st) S) : Zw p l e R s m args below meth c G b nL Q nc ns pc ls st S :=
  fun H locs la hH hS hL => lv_bipush X.1 X.2.1 hd hv (kk H locs la hH hS hL)
theorem a_sipush (X : zOK p s m args meth c G b own cc nL) {n : Int} {v : Int32} (hd : decode cc pc = .ok (.sipush n, 3)) (hv : (Int16.ofInt n).toInt32 = v) (kk : Zw p l e R s m args below meth c G b nL Q nc ns (pc + 3) ls (.int v :: st) S) : Zw p l e R s m args below meth c G b nL Q nc ns pc ls st S :=
  fun H locs la hH hS hL => lv_sipush X.1 X.2.1 hd hv (kk H locs la hH hS hL)
theorem a_lconst (X : zOK p s m args meth c G b own cc nL) {n : Fin 2} {v : Int64} (hd : decode cc pc = .ok (.lconst n, 1)) (hv : Int64.ofNat (n : Nat) = v) (kk : Zw p l e R s m args below meth c G b nL Q nc ns (pc + 1) ls (.long v :: st) S) : Zw p l e R s m args below meth c G b nL Q nc ns pc ls st S :=
  fun H locs la hH hS hL => lv_lconst X.1 X.2.1 hd hv (kk H locs la hH hS hL)
theorem a_ldc (X : zOK p s m args meth c G b own cc nL) {i : Nat} {v : Int32} (hd : decode cc pc = .ok (.ldc i, 2)) (hw : Cond.constant own i v ∈ zT) (kk : Zw p l e R s m args below meth c G b nL Q nc ns (pc + 2) ls (.int v :: st) S) : Zw p l e R s m args below meth c G b nL Q nc ns pc ls st S :=
  fun H locs la hH hS hL => lv_ldc X.1 X.2.1 X.2.2.2.1 (X.2.2.2.2.1 _ hw) hd (kk H locs la hH hS hL)
theorem a_ldcw (X : zOK p s m args meth c G b own cc nL) {i : Nat} {v : Int32} (hd : decode cc pc = .ok (.ldc_w i, 3)) (hw : Cond.constant own i v ∈ zT) (kk : Zw p l e R s m args below meth c G b nL Q nc ns (pc + 3) ls (.int v :: st) S) : Zw p l e R s m args below meth c G b nL Q nc ns pc ls st S :=
  fun H locs la hH hS hL => lv_ldcw X.1 X.2.1 X.2.2.2.1 (X.2.2.2.2.1 _ hw) hd (kk H locs la hH hS hL)
theorem a_ldc2 (X : zOK p s m args meth c G b own cc nL) {i : Nat} {v : Int64} (hd : decode cc pc = .ok (.ldc2_w i, 3)) (hw : Cond.constantLong own i v ∈ zT) (kk : Zw p l e R s m args below meth c G b nL Q nc ns (pc + 3) ls (.long v :: st) S) : Zw p l e R s m args below meth c G b nL Q nc ns pc ls st S :=
  fun H locs la hH hS hL => lv_ldc2 X.1 X.2.1 X.2.2.2.1 (X.2.2.2.2.1 _ hw) hd (kk H locs la hH hS hL)
theorem a_iload_n (X : zOK p s m args meth c G b own cc nL) {k : Fin 4} {x : Int32} (hd : decode cc pc = .ok (.iload_n k, 1)) (hl : ls[(k : Nat)]? = some (some (.int x))) (kk : Zw p l e R s m args below meth c G b nL Q nc ns (pc + 1) ls (.int x :: st) S) : Zw p l e R s m args below meth c G b nL Q nc ns pc ls st S :=
  fun H locs la hH hS hL => lv_iload_n X.1 X.2.1 hd rfl (hL.2.2 _ _ hl) (kk H locs la hH hS hL)
theorem a_iload (X : zOK p s m args meth c G b own cc nL) {i : Nat} {x : Int32} (hd : decode cc pc = .ok (.iload i, 2)) (hl : ls[i]? = some (some (.int x))) (kk : Zw p l e R s m args below meth c G b nL Q nc ns (pc + 2) ls (.int x :: st) S) : Zw p l e R s m args below meth c G b nL Q nc ns pc ls st S :=
  fun H locs la hH hS hL => lv_iload X.1 X.2.1 hd (hL.2.2 _ _ hl) (kk H locs la hH hS hL)
theorem a_lload_n (X : zOK p s m args meth c G b own cc nL) {k : Fin 4} {x : Int64} (hd : decode cc pc = .ok (.lload_n k, 1)) (hl : ls[(k : Nat)]? = some (some (.long x))) (kk : Zw p l e R s m args below meth c G b nL Q nc ns (pc + 1) ls (.long x :: st) S) : Zw p l e R s m args below meth c G b nL Q nc ns pc ls st S :=
  fun H locs la hH hS hL => lv_lload_n X.1 X.2.1 hd rfl (hL.2.2 _ _ hl) (kk H locs la hH hS hL)
theorem a_lload (X : zOK p s m args meth c G b own cc nL) {i : Nat} {x : Int64} (hd : decode cc pc = .ok (.lload i, 2)) (hl : ls[i]? = some (some (.long x))) (kk : Zw p l e R s m args below meth c G b nL Q nc ns (pc + 2) ls (.long x :: st) S) : Zw p l e R s m args below meth c G b nL Q nc ns pc ls st S :=
  fun H locs la hH hS hL => lv_lload X.1 X.2.1 hd (hL.2.2 _ _ hl) (kk H locs la hH hS hL)
theorem a_aload_n (X : zOK p s m args meth c G b own cc nL) {k : Fin 4} {x : Nat} (hd : decode cc pc = .ok (.aload_n k, 1)) (hl : ls[(k : Nat)]? = some (some (.ref x))) (kk : Zw p l e R s m args below meth c G b nL Q nc ns (pc + 1) ls (.ref x :: st) S) : Zw p l e R s m args below meth c G b nL Q nc ns pc ls st S :=
  fun H locs la hH hS hL => lv_aload_n X.1 X.2.1 hd rfl (hL.2.2 _ _ hl) (kk H locs la hH hS hL)
theorem a_aload (X : zOK p s m args meth c G b own cc nL) {i : Nat} {x : Nat} (hd : decode cc pc = .ok (.aload i, 2)) (hl : ls[i]? = some (some (.ref x))) (kk : Zw p l e R s m args below meth c G b nL Q nc ns (pc + 2) ls (.ref x :: st) S) : Zw p l e R s m args below meth c G b nL Q nc ns pc ls st S :=
  fun H locs la hH hS hL => lv_aload X.1 X.2.1 hd (hL.2.2 _ _ hl) (kk H locs la hH hS hL)
theorem a_aload_nN (X : zOK p s m args meth c G b own cc nL) {k : Fin 4} (hd : decode cc pc = .ok (.aload_n k, 1)) (hl : ls[(k : Nat)]? = some (some .null)) (kk : Zw p l e R s m args below meth c G b nL Q nc ns (pc + 1) ls (.null :: st) S) : Zw p l e R s m args below meth c G b nL Q nc ns pc ls st S :=
  fun H locs la hH hS hL => lv_aload_nN X.1 X.2.1 hd rfl (hL.2.2 _ _ hl) (kk H locs la hH hS hL)
theorem a_istore_n (X : zOK p s m args meth c G b own cc nL) {k : Fin 4} {x : Int32} (hd : decode cc pc = .ok (.istore_n k, 1)) (hn : (k : Nat) < nL) (kk : Zw p l e R s m args below meth c G b nL Q nc ns (pc + 1) (zs1 ls (k : Nat) (.int x)) st S) : Zw p l e R s m args below meth c G b nL Q nc ns pc ls ((.int x) :: st) S :=
  fun H locs la hH hS hL => lv_istore_n X.1 X.2.1 hd rfl hL.has hn rfl (fun la2 h2 => kk H locs la2 hH hS (zL.st1 h2))
theorem a_istore (X : zOK p s m args meth c G b own cc nL) {i : Nat} {x : Int32} (hd : decode cc pc = .ok (.istore i, 2)) (hn : i < nL) (kk : Zw p l e R s m args below meth c G b nL Q nc ns (pc + 2) (zs1 ls i (.int x)) st S) : Zw p l e R s m args below meth c G b nL Q nc ns pc ls ((.int x) :: st) S :=
  fun H locs la hH hS hL => lv_istore X.1 X.2.1 hd hL.has hn rfl (fun la2 h2 => kk H locs la2 hH hS (zL.st1 h2))
theorem a_lstore_n (X : zOK p s m args meth c G b own cc nL) {k : Fin 4} {x : Int64} (hd : decode cc pc = .ok (.lstore_n k, 1)) (hn : (k : Nat) + 1 < nL) (kk : Zw p l e R s m args below meth c G b nL Q nc ns (pc + 1) (zs2 ls (k : Nat) (.long x)) st S) : Zw p l e R s m args below meth c G b nL Q nc ns pc ls ((.long x) :: st) S :=
  fun H locs la hH hS hL => lv_lstore_n X.1 X.2.1 hd rfl hL.has hn rfl (fun la2 h2 => kk H locs la2 hH hS (zL.st2 h2))
theorem a_lstore (X : zOK p s m args meth c G b own cc nL) {i : Nat} {x : Int64} (hd : decode cc pc = .ok (.lstore i, 2)) (hn : i + 1 < nL) (kk : Zw p l e R s m args below meth c G b nL Q nc ns (pc + 2) (zs2 ls i (.long x)) st S) : Zw p l e R s m args below meth c G b nL Q nc ns pc ls ((.long x) :: st) S :=
  fun H locs la hH hS hL => lv_lstore X.1 X.2.1 hd hL.has hn rfl (fun la2 h2 => kk H locs la2 hH hS (zL.st2 h2))
theorem a_astore_n (X : zOK p s m args meth c G b own cc nL) {k : Fin 4} {x : Nat} (hd : decode cc pc = .ok (.astore_n k, 1)) (hn : (k : Nat) < nL) (kk : Zw p l e R s m args below meth c G b nL Q nc ns (pc + 1) (zs1 ls (k : Nat) (.ref x)) st S) : Zw p l e R s m args below meth c G b nL Q nc ns pc ls ((.ref x) :: st) S :=
  fun H locs la hH hS hL => lv_astore_n X.1 X.2.1 hd rfl hL.has hn rfl (fun la2 h2 => kk H locs la2 hH hS (zL.st1 h2))
theorem a_astore (X : zOK p s m args meth c G b own cc nL) {i : Nat} {x : Nat} (hd : decode cc pc = .ok (.astore i, 2)) (hn : i < nL) (kk : Zw p l e R s m args below meth c G b nL Q nc ns (pc + 2) (zs1 ls i (.ref x)) st S) : Zw p l e R s m args below meth c G b nL Q nc ns pc ls ((.ref x) :: st) S :=
  fun H locs la hH hS hL => lv_astore X.1 X.2.1 hd hL.has hn rfl (fun la2 h2 => kk H locs la2 hH hS (zL.st1 h2))
theorem a_astore_nN (X : zOK p s m args meth c G b own cc nL) {k : Fin 4} (hd : decode cc pc = .ok (.astore_n k, 1)) (hn : (k : Nat) < nL) (kk : Zw p l e R s m args below meth c G b nL Q nc ns (pc + 1) (zs1 ls (k : Nat) .null) st S) : Zw p l e R s m args below meth c G b nL Q nc ns pc ls (.null :: st) S :=
  fun H locs la hH hS hL => lv_astore_nN X.1 X.2.1 hd rfl hL.has hn rfl (fun la2 h2 => kk H locs la2 hH hS (zL.st1 h2))
theorem a_iinc (X : zOK p s m args meth c G b own cc nL) {i : Nat} {n : Int} {x v : Int32} (hd : decode cc pc = .ok (.iinc i n, 3)) (hn : i < nL) (hl : ls[i]? = some (some (.int x))) (hv : x + Int32.ofInt n = v) (kk : Zw p l e R s m args below meth c G b nL Q nc ns (pc + 3) (zs1 ls i (.int v)) st S) : Zw p l e R s m args below meth c G b nL Q nc ns pc ls st S := by
  intro H locs la hH hS hL
  obtain ⟨j, hj⟩ := List.getElem?_of_mem (zas_mem (b := b) hl)
  exact lv_iinc X.1 X.2.1 hd hL.has hj hv hn rfl (fun la2 h2 => kk H locs la2 hH hS (zL.st1 (v := .int v) h2))
theorem a_iadd (X : zOK p s m args meth c G b own cc nL) {x y : Int32} (hd : decode cc pc = .ok (.iadd, 1)) (kk : Zw p l e R s m args below meth c G b nL Q nc ns (pc + 1) ls (.int (x + y) :: st) S) : Zw p l e R s m args below meth c G b nL Q nc ns pc ls (.int y :: .int x :: st) S :=
  fun H locs la hH hS hL => lv_iadd X.1 X.2.1 hd (kk H locs la hH hS hL)
theorem a_isub (X : zOK p s m args meth c G b own cc nL) {x y : Int32} (hd : decode cc pc = .ok (.isub, 1)) (kk : Zw p l e R s m args below meth c G b nL Q nc ns (pc + 1) ls (.int (x - y) :: st) S) : Zw p l e R s m args below meth c G b nL Q nc ns pc ls (.int y :: .int x :: st) S :=
  fun H locs la hH hS hL => lv_isub X.1 X.2.1 hd (kk H locs la hH hS hL)
theorem a_imul (X : zOK p s m args meth c G b own cc nL) {x y : Int32} (hd : decode cc pc = .ok (.imul, 1)) (kk : Zw p l e R s m args below meth c G b nL Q nc ns (pc + 1) ls (.int (x * y) :: st) S) : Zw p l e R s m args below meth c G b nL Q nc ns pc ls (.int y :: .int x :: st) S :=
  fun H locs la hH hS hL => lv_imul X.1 X.2.1 hd (kk H locs la hH hS hL)
theorem a_iand (X : zOK p s m args meth c G b own cc nL) {x y : Int32} (hd : decode cc pc = .ok (.iand, 1)) (kk : Zw p l e R s m args below meth c G b nL Q nc ns (pc + 1) ls (.int (x &&& y) :: st) S) : Zw p l e R s m args below meth c G b nL Q nc ns pc ls (.int y :: .int x :: st) S :=
  fun H locs la hH hS hL => lv_iand X.1 X.2.1 hd (kk H locs la hH hS hL)
theorem a_ior (X : zOK p s m args meth c G b own cc nL) {x y : Int32} (hd : decode cc pc = .ok (.ior, 1)) (kk : Zw p l e R s m args below meth c G b nL Q nc ns (pc + 1) ls (.int (x ||| y) :: st) S) : Zw p l e R s m args below meth c G b nL Q nc ns pc ls (.int y :: .int x :: st) S :=
  fun H locs la hH hS hL => lv_ior X.1 X.2.1 hd (kk H locs la hH hS hL)
theorem a_ixor (X : zOK p s m args meth c G b own cc nL) {x y : Int32} (hd : decode cc pc = .ok (.ixor, 1)) (kk : Zw p l e R s m args below meth c G b nL Q nc ns (pc + 1) ls (.int (x ^^^ y) :: st) S) : Zw p l e R s m args below meth c G b nL Q nc ns pc ls (.int y :: .int x :: st) S :=
  fun H locs la hH hS hL => lv_ixor X.1 X.2.1 hd (kk H locs la hH hS hL)
theorem a_ishl (X : zOK p s m args meth c G b own cc nL) {x y : Int32} (hd : decode cc pc = .ok (.ishl, 1)) (kk : Zw p l e R s m args below meth c G b nL Q nc ns (pc + 1) ls (.int (x <<< (y &&& 31)) :: st) S) : Zw p l e R s m args below meth c G b nL Q nc ns pc ls (.int y :: .int x :: st) S :=
  fun H locs la hH hS hL => lv_ishl X.1 X.2.1 hd (kk H locs la hH hS hL)
theorem a_ishr (X : zOK p s m args meth c G b own cc nL) {x y : Int32} (hd : decode cc pc = .ok (.ishr, 1)) (kk : Zw p l e R s m args below meth c G b nL Q nc ns (pc + 1) ls (.int (x >>> (y &&& 31)) :: st) S) : Zw p l e R s m args below meth c G b nL Q nc ns pc ls (.int y :: .int x :: st) S :=
  fun H locs la hH hS hL => lv_ishr X.1 X.2.1 hd (kk H locs la hH hS hL)
theorem a_idiv (X : zOK p s m args meth c G b own cc nL) {x y : Int32} (hd : decode cc pc = .ok (.idiv, 1)) (hne : ¬ y = 0) (kk : Zw p l e R s m args below meth c G b nL Q nc ns (pc + 1) ls (.int (x / y) :: st) S) : Zw p l e R s m args below meth c G b nL Q nc ns pc ls (.int y :: .int x :: st) S :=
  fun H locs la hH hS hL => lv_idiv X.1 X.2.1 hd hne (kk H locs la hH hS hL)
theorem a_irem (X : zOK p s m args meth c G b own cc nL) {x y : Int32} (hd : decode cc pc = .ok (.irem, 1)) (hne : ¬ y = 0) (kk : Zw p l e R s m args below meth c G b nL Q nc ns (pc + 1) ls (.int (x - x / y * y) :: st) S) : Zw p l e R s m args below meth c G b nL Q nc ns pc ls (.int y :: .int x :: st) S :=
  fun H locs la hH hS hL => lv_irem X.1 X.2.1 hd hne (kk H locs la hH hS hL)
theorem a_ladd (X : zOK p s m args meth c G b own cc nL) {x y : Int64} (hd : decode cc pc = .ok (.ladd, 1)) (kk : Zw p l e R s m args below meth c G b nL Q nc ns (pc + 1) ls (.long (x + y) :: st) S) : Zw p l e R s m args below meth c G b nL Q nc ns pc ls (.long y :: .long x :: st) S :=
  fun H locs la hH hS hL => lv_ladd X.1 X.2.1 hd (kk H locs la hH hS hL)
theorem a_lsub (X : zOK p s m args meth c G b own cc nL) {x y : Int64} (hd : decode cc pc = .ok (.lsub, 1)) (kk : Zw p l e R s m args below meth c G b nL Q nc ns (pc + 1) ls (.long (x - y) :: st) S) : Zw p l e R s m args below meth c G b nL Q nc ns pc ls (.long y :: .long x :: st) S :=
  fun H locs la hH hS hL => lv_lsub X.1 X.2.1 hd (kk H locs la hH hS hL)
theorem a_lmul (X : zOK p s m args meth c G b own cc nL) {x y : Int64} (hd : decode cc pc = .ok (.lmul, 1)) (kk : Zw p l e R s m args below meth c G b nL Q nc ns (pc + 1) ls (.long (x * y) :: st) S) : Zw p l e R s m args below meth c G b nL Q nc ns pc ls (.long y :: .long x :: st) S :=
  fun H locs la hH hS hL => lv_lmul X.1 X.2.1 hd (kk H locs la hH hS hL)
theorem a_lor (X : zOK p s m args meth c G b own cc nL) {x y : Int64} (hd : decode cc pc = .ok (.lor, 1)) (kk : Zw p l e R s m args below meth c G b nL Q nc ns (pc + 1) ls (.long (x ||| y) :: st) S) : Zw p l e R s m args below meth c G b nL Q nc ns pc ls (.long y :: .long x :: st) S :=
  fun H locs la hH hS hL => lv_lor X.1 X.2.1 hd (kk H locs la hH hS hL)
theorem a_ldiv (X : zOK p s m args meth c G b own cc nL) {x y : Int64} (hd : decode cc pc = .ok (.ldiv, 1)) (hne : ¬ y = 0) (kk : Zw p l e R s m args below meth c G b nL Q nc ns (pc + 1) ls (.long (x / y) :: st) S) : Zw p l e R s m args below meth c G b nL Q nc ns pc ls (.long y :: .long x :: st) S :=
  fun H locs la hH hS hL => lv_ldiv X.1 X.2.1 hd hne (kk H locs la hH hS hL)
theorem a_lrem (X : zOK p s m args meth c G b own cc nL) {x y : Int64} (hd : decode cc pc = .ok (.lrem, 1)) (hne : ¬ y = 0) (kk : Zw p l e R s m args below meth c G b nL Q nc ns (pc + 1) ls (.long (x - x / y * y) :: st) S) : Zw p l e R s m args below meth c G b nL Q nc ns pc ls (.long y :: .long x :: st) S :=
  fun H locs la hH hS hL => lv_lrem X.1 X.2.1 hd hne (kk H locs la hH hS hL)
theorem a_ineg (X : zOK p s m args meth c G b own cc nL) {x : Int32} (hd : decode cc pc = .ok (.ineg, 1)) (kk : Zw p l e R s m args below meth c G b nL Q nc ns (pc + 1) ls (.int (-x) :: st) S) : Zw p l e R s m args below meth c G b nL Q nc ns pc ls (.int x :: st) S :=
  fun H locs la hH hS hL => lv_ineg X.1 X.2.1 hd (kk H locs la hH hS hL)
theorem a_iushr (X : zOK p s m args meth c G b own cc nL) {x y : Int32} (hd : decode cc pc = .ok (.iushr, 1)) (kk : Zw p l e R s m args below meth c G b nL Q nc ns (pc + 1) ls (.int (x.toUInt32 >>> (y.toUInt32 &&& Int32.toUInt32 31)).toInt32 :: st) S) : Zw p l e R s m args below meth c G b nL Q nc ns pc ls (.int y :: .int x :: st) S :=
  fun H locs la hH hS hL => lv_iushr X.1 X.2.1 hd rfl (kk H locs la hH hS hL)
theorem a_lshl (X : zOK p s m args meth c G b own cc nL) {x : Int64} {y : Int32} (hd : decode cc pc = .ok (.lshl, 1)) (kk : Zw p l e R s m args below meth c G b nL Q nc ns (pc + 1) ls (.long (x <<< (y.toInt64 &&& 63)) :: st) S) : Zw p l e R s m args below meth c G b nL Q nc ns pc ls (.int y :: .long x :: st) S :=
  fun H locs la hH hS hL => lv_lshl X.1 X.2.1 hd rfl (kk H locs la hH hS hL)
theorem a_i2l (X : zOK p s m args meth c G b own cc nL) {x : Int32} (hd : decode cc pc = .ok (.i2l, 1)) (kk : Zw p l e R s m args below meth c G b nL Q nc ns (pc + 1) ls (.long x.toInt64 :: st) S) : Zw p l e R s m args below meth c G b nL Q nc ns pc ls (.int x :: st) S :=
  fun H locs la hH hS hL => lv_i2l X.1 X.2.1 hd rfl (kk H locs la hH hS hL)
theorem a_l2i (X : zOK p s m args meth c G b own cc nL) {x : Int64} (hd : decode cc pc = .ok (.l2i, 1)) (kk : Zw p l e R s m args below meth c G b nL Q nc ns (pc + 1) ls (.int x.toInt32 :: st) S) : Zw p l e R s m args below meth c G b nL Q nc ns pc ls (.long x :: st) S :=
  fun H locs la hH hS hL => lv_l2i X.1 X.2.1 hd rfl (kk H locs la hH hS hL)
theorem a_lcmp (X : zOK p s m args meth c G b own cc nL) {x y : Int64} (hd : decode cc pc = .ok (.lcmp, 1)) (kk : Zw p l e R s m args below meth c G b nL Q nc ns (pc + 1) ls (.int (lg_cmp x y) :: st) S) : Zw p l e R s m args below meth c G b nL Q nc ns pc ls (.long y :: .long x :: st) S :=
  fun H locs la hH hS hL => W.lcmp X.1 X.2.1 hd (kk H locs la hH hS hL)
theorem a_dup (X : zOK p s m args meth c G b own cc nL) {v : Value} (hd : decode cc pc = .ok (.dup, 1)) (hc : v.category = 1) (kk : Zw p l e R s m args below meth c G b nL Q nc ns (pc + 1) ls (v :: v :: st) S) : Zw p l e R s m args below meth c G b nL Q nc ns pc ls (v :: st) S :=
  fun H locs la hH hS hL => lv_dup X.1 X.2.1 hd (by rw [zv_cat]; exact hc) (kk H locs la hH hS hL)
theorem a_pop (X : zOK p s m args meth c G b own cc nL) {v : Value} (hd : decode cc pc = .ok (.pop, 1)) (hc : v.category = 1) (kk : Zw p l e R s m args below meth c G b nL Q nc ns (pc + 1) ls st S) : Zw p l e R s m args below meth c G b nL Q nc ns pc ls (v :: st) S :=
  fun H locs la hH hS hL => lv_pop X.1 X.2.1 hd (by rw [zv_cat]; exact hc) (kk H locs la hH hS hL)
theorem a_dup2 (X : zOK p s m args meth c G b own cc nL) {v w : Value} (hd : decode cc pc = .ok (.dup2, 1)) (hc : v.category = 1) (hc2 : w.category = 1) (kk : Zw p l e R s m args below meth c G b nL Q nc ns (pc + 1) ls (v :: w :: v :: w :: st) S) : Zw p l e R s m args below meth c G b nL Q nc ns pc ls (v :: w :: st) S :=
  fun H locs la hH hS hL => lv_dup2_11 X.1 X.2.1 hd (by rw [zv_cat]; exact hc) (by rw [zv_cat]; exact hc2) (kk H locs la hH hS hL)
theorem a_null (X : zOK p s m args meth c G b own cc nL) (hd : decode cc pc = .ok (.aconst_null, 1)) (kk : Zw p l e R s m args below meth c G b nL Q nc ns (pc + 1) ls (.null :: st) S) : Zw p l e R s m args below meth c G b nL Q nc ns pc ls st S :=
  fun H locs la hH hS hL => lv_null X.1 X.2.1 hd (kk H locs la hH hS hL)
theorem a_if_eq (X : zOK p s m args meth c G b own cc nL) {x : Int32} {off : Int} {tgt : Nat} (hd : decode cc pc = .ok (.ifCond .eq off, 3)) (ht : (pc : Int) + off = (tgt : Int)) (kt : x = 0 → Zw p l e R s m args below meth c G b nL Q nc ns tgt ls st S) (kf : ¬ x = 0 → Zw p l e R s m args below meth c G b nL Q nc ns (pc + 3) ls st S) : Zw p l e R s m args below meth c G b nL Q nc ns pc ls (.int x :: st) S :=
  fun H locs la hH hS hL => lv_if_eq X.1 X.2.1 hd ht (fun h => kt h H locs la hH hS hL) (fun h => kf h H locs la hH hS hL)
theorem a_if_ne (X : zOK p s m args meth c G b own cc nL) {x : Int32} {off : Int} {tgt : Nat} (hd : decode cc pc = .ok (.ifCond .ne off, 3)) (ht : (pc : Int) + off = (tgt : Int)) (kt : ¬ x = 0 → Zw p l e R s m args below meth c G b nL Q nc ns tgt ls st S) (kf : x = 0 → Zw p l e R s m args below meth c G b nL Q nc ns (pc + 3) ls st S) : Zw p l e R s m args below meth c G b nL Q nc ns pc ls (.int x :: st) S :=
  fun H locs la hH hS hL => lv_if_ne X.1 X.2.1 hd ht (fun h => kt h H locs la hH hS hL) (fun h => kf h H locs la hH hS hL)
theorem a_if_lt (X : zOK p s m args meth c G b own cc nL) {x : Int32} {off : Int} {tgt : Nat} (hd : decode cc pc = .ok (.ifCond .lt off, 3)) (ht : (pc : Int) + off = (tgt : Int)) (kt : x < 0 → Zw p l e R s m args below meth c G b nL Q nc ns tgt ls st S) (kf : ¬ x < 0 → Zw p l e R s m args below meth c G b nL Q nc ns (pc + 3) ls st S) : Zw p l e R s m args below meth c G b nL Q nc ns pc ls (.int x :: st) S :=
  fun H locs la hH hS hL => lv_if_lt X.1 X.2.1 hd ht (fun h => kt h H locs la hH hS hL) (fun h => kf h H locs la hH hS hL)
theorem a_if_ge (X : zOK p s m args meth c G b own cc nL) {x : Int32} {off : Int} {tgt : Nat} (hd : decode cc pc = .ok (.ifCond .ge off, 3)) (ht : (pc : Int) + off = (tgt : Int)) (kt : 0 ≤ x → Zw p l e R s m args below meth c G b nL Q nc ns tgt ls st S) (kf : ¬ 0 ≤ x → Zw p l e R s m args below meth c G b nL Q nc ns (pc + 3) ls st S) : Zw p l e R s m args below meth c G b nL Q nc ns pc ls (.int x :: st) S :=
  fun H locs la hH hS hL => lv_if_ge X.1 X.2.1 hd ht (fun h => kt h H locs la hH hS hL) (fun h => kf h H locs la hH hS hL)
theorem a_if_gt (X : zOK p s m args meth c G b own cc nL) {x : Int32} {off : Int} {tgt : Nat} (hd : decode cc pc = .ok (.ifCond .gt off, 3)) (ht : (pc : Int) + off = (tgt : Int)) (kt : 0 < x → Zw p l e R s m args below meth c G b nL Q nc ns tgt ls st S) (kf : ¬ 0 < x → Zw p l e R s m args below meth c G b nL Q nc ns (pc + 3) ls st S) : Zw p l e R s m args below meth c G b nL Q nc ns pc ls (.int x :: st) S :=
  fun H locs la hH hS hL => lv_if_gt X.1 X.2.1 hd ht (fun h => kt h H locs la hH hS hL) (fun h => kf h H locs la hH hS hL)
theorem a_if_le (X : zOK p s m args meth c G b own cc nL) {x : Int32} {off : Int} {tgt : Nat} (hd : decode cc pc = .ok (.ifCond .le off, 3)) (ht : (pc : Int) + off = (tgt : Int)) (kt : x ≤ 0 → Zw p l e R s m args below meth c G b nL Q nc ns tgt ls st S) (kf : ¬ x ≤ 0 → Zw p l e R s m args below meth c G b nL Q nc ns (pc + 3) ls st S) : Zw p l e R s m args below meth c G b nL Q nc ns pc ls (.int x :: st) S :=
  fun H locs la hH hS hL => lv_if_le X.1 X.2.1 hd ht (fun h => kt h H locs la hH hS hL) (fun h => kf h H locs la hH hS hL)
theorem a_icmp_eq (X : zOK p s m args meth c G b own cc nL) {x y : Int32} {off : Int} {tgt : Nat} (hd : decode cc pc = .ok (.if_icmp .eq off, 3)) (ht : (pc : Int) + off = (tgt : Int)) (kt : x = y → Zw p l e R s m args below meth c G b nL Q nc ns tgt ls st S) (kf : ¬ x = y → Zw p l e R s m args below meth c G b nL Q nc ns (pc + 3) ls st S) : Zw p l e R s m args below meth c G b nL Q nc ns pc ls (.int y :: .int x :: st) S :=
  fun H locs la hH hS hL => lv_icmp_eq X.1 X.2.1 hd ht (fun h => kt h H locs la hH hS hL) (fun h => kf h H locs la hH hS hL)
theorem a_icmp_ne (X : zOK p s m args meth c G b own cc nL) {x y : Int32} {off : Int} {tgt : Nat} (hd : decode cc pc = .ok (.if_icmp .ne off, 3)) (ht : (pc : Int) + off = (tgt : Int)) (kt : ¬ x = y → Zw p l e R s m args below meth c G b nL Q nc ns tgt ls st S) (kf : x = y → Zw p l e R s m args below meth c G b nL Q nc ns (pc + 3) ls st S) : Zw p l e R s m args below meth c G b nL Q nc ns pc ls (.int y :: .int x :: st) S :=
  fun H locs la hH hS hL => lv_icmp_ne X.1 X.2.1 hd ht (fun h => kt h H locs la hH hS hL) (fun h => kf h H locs la hH hS hL)
theorem a_icmp_lt (X : zOK p s m args meth c G b own cc nL) {x y : Int32} {off : Int} {tgt : Nat} (hd : decode cc pc = .ok (.if_icmp .lt off, 3)) (ht : (pc : Int) + off = (tgt : Int)) (kt : x < y → Zw p l e R s m args below meth c G b nL Q nc ns tgt ls st S) (kf : ¬ x < y → Zw p l e R s m args below meth c G b nL Q nc ns (pc + 3) ls st S) : Zw p l e R s m args below meth c G b nL Q nc ns pc ls (.int y :: .int x :: st) S :=
  fun H locs la hH hS hL => lv_icmp_lt X.1 X.2.1 hd ht (fun h => kt h H locs la hH hS hL) (fun h => kf h H locs la hH hS hL)
theorem a_icmp_ge (X : zOK p s m args meth c G b own cc nL) {x y : Int32} {off : Int} {tgt : Nat} (hd : decode cc pc = .ok (.if_icmp .ge off, 3)) (ht : (pc : Int) + off = (tgt : Int)) (kt : y ≤ x → Zw p l e R s m args below meth c G b nL Q nc ns tgt ls st S) (kf : ¬ y ≤ x → Zw p l e R s m args below meth c G b nL Q nc ns (pc + 3) ls st S) : Zw p l e R s m args below meth c G b nL Q nc ns pc ls (.int y :: .int x :: st) S :=
  fun H locs la hH hS hL => lv_icmp_ge X.1 X.2.1 hd ht (fun h => kt h H locs la hH hS hL) (fun h => kf h H locs la hH hS hL)
theorem a_icmp_gt (X : zOK p s m args meth c G b own cc nL) {x y : Int32} {off : Int} {tgt : Nat} (hd : decode cc pc = .ok (.if_icmp .gt off, 3)) (ht : (pc : Int) + off = (tgt : Int)) (kt : y < x → Zw p l e R s m args below meth c G b nL Q nc ns tgt ls st S) (kf : ¬ y < x → Zw p l e R s m args below meth c G b nL Q nc ns (pc + 3) ls st S) : Zw p l e R s m args below meth c G b nL Q nc ns pc ls (.int y :: .int x :: st) S :=
  fun H locs la hH hS hL => lv_icmp_gt X.1 X.2.1 hd ht (fun h => kt h H locs la hH hS hL) (fun h => kf h H locs la hH hS hL)
theorem a_icmp_le (X : zOK p s m args meth c G b own cc nL) {x y : Int32} {off : Int} {tgt : Nat} (hd : decode cc pc = .ok (.if_icmp .le off, 3)) (ht : (pc : Int) + off = (tgt : Int)) (kt : x ≤ y → Zw p l e R s m args below meth c G b nL Q nc ns tgt ls st S) (kf : ¬ x ≤ y → Zw p l e R s m args below meth c G b nL Q nc ns (pc + 3) ls st S) : Zw p l e R s m args below meth c G b nL Q nc ns pc ls (.int y :: .int x :: st) S :=
  fun H locs la hH hS hL => lv_icmp_le X.1 X.2.1 hd ht (fun h => kt h H locs la hH hS hL) (fun h => kf h H locs la hH hS hL)
theorem a_goto (X : zOK p s m args meth c G b own cc nL) {off : Int} {tgt : Nat} (hd : decode cc pc = .ok (.goto off, 3)) (ht : (pc : Int) + off = (tgt : Int)) (kk : Zw p l e R s m args below meth c G b nL Q nc ns tgt ls st S) : Zw p l e R s m args below meth c G b nL Q nc ns pc ls st S :=
  fun H locs la hH hS hL => lv_goto X.1 X.2.1 hd ht (kk H locs la hH hS hL)
theorem a_ifnull (X : zOK p s m args meth c G b own cc nL) {x : Nat} {off : Int} (hd : decode cc pc = .ok (.ifnull off, 3)) (kk : Zw p l e R s m args below meth c G b nL Q nc ns (pc + 3) ls st S) : Zw p l e R s m args below meth c G b nL Q nc ns pc ls (.ref x :: st) S :=
  fun H locs la hH hS hL => lv_ifnull X.1 X.2.1 hd (kk H locs la hH hS hL)
theorem a_ifnullN (X : zOK p s m args meth c G b own cc nL) {off : Int} {tgt : Nat} (hd : decode cc pc = .ok (.ifnull off, 3)) (ht : (pc : Int) + off = (tgt : Int)) (kk : Zw p l e R s m args below meth c G b nL Q nc ns tgt ls st S) : Zw p l e R s m args below meth c G b nL Q nc ns pc ls (.null :: st) S :=
  fun H locs la hH hS hL => lv_ifnullN X.1 X.2.1 hd ht (kk H locs la hH hS hL)
theorem a_ifnonnull (X : zOK p s m args meth c G b own cc nL) {x : Nat} {off : Int} {tgt : Nat} (hd : decode cc pc = .ok (.ifnonnull off, 3)) (ht : (pc : Int) + off = (tgt : Int)) (kk : Zw p l e R s m args below meth c G b nL Q nc ns tgt ls st S) : Zw p l e R s m args below meth c G b nL Q nc ns pc ls (.ref x :: st) S :=
  fun H locs la hH hS hL => lv_ifnonnull X.1 X.2.1 hd ht (kk H locs la hH hS hL)
theorem a_ifnonnullN (X : zOK p s m args meth c G b own cc nL) {off : Int} (hd : decode cc pc = .ok (.ifnonnull off, 3)) (kk : Zw p l e R s m args below meth c G b nL Q nc ns (pc + 3) ls st S) : Zw p l e R s m args below meth c G b nL Q nc ns pc ls (.null :: st) S :=
  fun H locs la hH hS hL => lv_ifnonnullN X.1 X.2.1 hd (kk H locs la hH hS hL)
theorem a_tsw (X : zOK p s m args meth c G b own cc nL) {dflt lo hi : Int} {offs : Array Int} {len : Nat} {x : Int32} {tg : List Nat} {td : Nat} (hd : decode cc pc = .ok (.tableswitch dflt lo hi offs, len)) (htg : offs.toList.map (fun o => (pc : Int) + o) = tg.map (fun t : Nat => (t : Int))) (hsz : (tg.length : Int) = hi - lo + 1) (htd : (pc : Int) + dflt = (td : Int))
    (kin : ∀ (k t : Nat), tg[k]? = some t → x.toInt = lo + k → Zw p l e R s m args below meth c G b nL Q nc ns t ls st S) (kout : x.toInt < lo ∨ hi < x.toInt → Zw p l e R s m args below meth c G b nL Q nc ns td ls st S) : Zw p l e R s m args below meth c G b nL Q nc ns pc ls (.int x :: st) S := by
  intro H locs la hH hS hL
  by_cases h : x.toInt < lo ∨ hi < x.toInt
  · exact lv_tableOut X.1 X.2.1 hd h htd (kout h H locs la hH hS hL)
  · have h1 : ¬ x.toInt < lo := fun q => h (Or.inl q)
    have h2 : ¬ hi < x.toInt := fun q => h (Or.inr q)
    have hk : (x.toInt - lo).toNat < tg.length := by omega
    have hlen : offs.toList.length = tg.length := by
      have := congrArg List.length htg
      rwa [List.length_map, List.length_map] at this
    have hko : (x.toInt - lo).toNat < offs.toList.length := by omega
    have ho : offs[(x.toInt - lo).toNat]? = some (offs.toList[(x.toInt - lo).toNat]'hko) := by
      rw [← Array.getElem?_toList, List.getElem?_eq_getElem hko]
    have ht : tg[(x.toInt - lo).toNat]? = some (tg[(x.toInt - lo).toNat]'hk) := List.getElem?_eq_getElem hk
    have hto : (pc : Int) + offs.toList[(x.toInt - lo).toNat]'hko = ((tg[(x.toInt - lo).toNat]'hk : Nat) : Int) := by
      have h5 := congrArg (fun z : List Int => z[(x.toInt - lo).toNat]?) htg
      simp only [List.getElem?_map, List.getElem?_eq_getElem hko, List.getElem?_eq_getElem hk, Option.map_some] at h5
      exact Option.some.inj h5
    exact lv_tableIn X.1 X.2.1 hd h1 h2 ho hto (kin _ _ ht (by omega) H locs la hH hS hL)
theorem zv_ref {b k : Nat} (h : k < 1000000) : zv b (.ref k) = .ref (b + k) := by
  show Value.ref (if k < 1000000 then b + k else k - 1000000) = _
  rw [if_pos h]
theorem zH_lt {H : Heap} {k : Nat} {q : zC} (hH : zH G b S H) (hq : S.1[k]? = some q) : k < 1000000 := Nat.lt_trans (List.getElem?_eq_some_iff.mp hq).1 hH.2.1
theorem a_getv (X : zOK p s m args meth c G b own cc nL) {idx ci k P : Nat} {ty : FieldType} {fin : Bool} {fs : List (Nat × Nat)} {f : Nat × Nat} {v : Value} (hf : zFl own idx ci k ty fin) (hq : S.1[P]? = some (0, ci, fs)) (hk : fs[k]? = some f) (hv : zF b S P k f = zv b v) (hd : decode cc pc = .ok (.getfield idx, 3)) (kk : Zw p l e R s m args below meth c G b nL Q nc ns (pc + 3) ls (v :: st) S) : Zw p l e R s m args below meth c G b nL Q nc ns pc ls (.ref P :: st) S := by
  intro H locs la hH hS hL
  obtain ⟨C, T, N, t0, ⟨hc, hin, -, -⟩, hkN, hlink, -, -, hC⟩ := hf
  have hlt := zH_lt hH hq
  show W p l e R s m args below meth c H locs nc ns Q (F0 m pc la (zv b (.ref P) :: st.map (zv b)))
  rw [zv_ref hlt]
  refine va_get (D := G.1) (ci := ci) (fs := fs.mapIdx (zF b S P)) (C := C) (T := T) (N := N) X.1 X.2.1 X.2.2.2.2.1 hin X.2.2.2.1 X.2.2.2.2.2.1 hH.2.2 P (zW_get hq) hc k hkN (X.2.2.2.2.1 _ hlink) (fun _ h9 => h9) (v := zv b v) ?_ hd (kk H locs la hH hS hL)
  rw [List.getElem?_mapIdx, hk]
  exact congrArg some hv
theorem a_geti (X : zOK p s m args meth c G b own cc nL) {idx ci k P z : Nat} {ty : FieldType} {fin : Bool} {fs : List (Nat × Nat)} (hf : zFl own idx ci k ty fin) (hq : S.1[P]? = some (0, ci, fs)) (hk : fs[k]? = some (0, z)) (hd : decode cc pc = .ok (.getfield idx, 3)) (kk : Zw p l e R s m args below meth c G b nL Q nc ns (pc + 3) ls (.int (S.2.1 P k) :: st) S) : Zw p l e R s m args below meth c G b nL Q nc ns pc ls (.ref P :: st) S := a_getv X hf hq hk rfl hd kk
theorem a_getl (X : zOK p s m args meth c G b own cc nL) {idx ci k P z : Nat} {ty : FieldType} {fin : Bool} {fs : List (Nat × Nat)} (hf : zFl own idx ci k ty fin) (hq : S.1[P]? = some (0, ci, fs)) (hk : fs[k]? = some (1, z)) (hd : decode cc pc = .ok (.getfield idx, 3)) (kk : Zw p l e R s m args below meth c G b nL Q nc ns (pc + 3) ls (.long (S.2.2 P k) :: st) S) : Zw p l e R s m args below meth c G b nL Q nc ns pc ls (.ref P :: st) S := a_getv X hf hq hk rfl hd kk
theorem a_getr (X : zOK p s m args meth c G b own cc nL) {idx ci k P z : Nat} {ty : FieldType} {fin : Bool} {fs : List (Nat × Nat)} (hf : zFl own idx ci k ty fin) (hq : S.1[P]? = some (0, ci, fs)) (hk : fs[k]? = some (2, z)) (hz : z < 1000000) (hd : decode cc pc = .ok (.getfield idx, 3)) (kk : Zw p l e R s m args below meth c G b nL Q nc ns (pc + 3) ls (.ref z :: st) S) : Zw p l e R s m args below meth c G b nL Q nc ns pc ls (.ref P :: st) S := a_getv X hf hq hk (zv_ref hz).symm hd kk
theorem zH_set {S' : zS} {H1 : Heap} {H : Heap} {k : Nat} {q q' : zC} {e : va_E} (hH : zH G b S H) (hz : H1.size = H.size) (hP : va_P G.1 vwCl ((zW G b S).set k (b + k, e)) H1) (hq : S.1[k]? = some q) (hl : S'.1 = S.1.set k q') (ho : ∀ a : Nat, a ≠ k → S'.2.1 a = S.2.1 a ∧ S'.2.2 a = S.2.2 a) (he : zE1 G b S' k q' = e) : zH G b S' H1 := by
  rw [zW_set hq hl ho he] at hP
  refine ⟨?_, ?_, hP⟩
  · rw [hz, hl, List.length_set]
    exact hH.1
  · rw [hl, List.length_set]
    exact hH.2.1
theorem zset_self {α : Type} {l : List α} {k : Nat} {q : α} (h : l[k]? = some q) : l = l.set k q := by
  apply List.ext_getElem?
  intro i
  by_cases hi : i = k
  · subst hi
    rw [List.getElem?_set_self (List.getElem?_eq_some_iff.mp h).1, h]
  · rw [List.getElem?_set_ne (Ne.symm hi)]
theorem zmap_set {α : Type} {g g' : Nat → Nat × Nat → α} {fs fs' : List (Nat × Nat)} {k : Nat} {v : α} (hlen : fs'.length = fs.length) (hv : ∀ f, fs'[k]? = some f → g' k f = v) (ho : ∀ j : Nat, j ≠ k → fs'[j]? = fs[j]? ∧ ∀ f, g' j f = g j f) : fs'.mapIdx g' = (fs.mapIdx g).set k v := by
  apply List.ext_getElem?
  intro i
  by_cases hi : i = k
  · subst hi
    by_cases hl : i < fs.length
    · rw [List.getElem?_set_self (by rw [List.length_mapIdx]; exact hl), List.getElem?_mapIdx]
      have hl' : i < fs'.length := by omega
      rw [List.getElem?_eq_getElem hl']
      exact congrArg some (hv _ (List.getElem?_eq_getElem hl'))
    · rw [List.getElem?_eq_none (by rw [List.length_mapIdx]; omega), List.getElem?_eq_none (by rw [List.length_set, List.length_mapIdx]; omega)]
  · rw [List.getElem?_set_ne (Ne.symm hi), List.getElem?_mapIdx, List.getElem?_mapIdx, (ho i hi).1]
    cases fs[i]? with
    | none => rfl
    | some f => exact congrArg some ((ho i hi).2 f)
theorem a_putv (X : zOK p s m args meth c G b own cc nL) {idx ci k P : Nat} {ty : FieldType} {fs fs' : List (Nat × Nat)} {v : Value} {S' : zS} (hf : zFl own idx ci k ty false) (hq : S.1[P]? = some (0, ci, fs)) (hk : k < fs.length) (hn : narrow ty (zv b v) = zv b v) (hfit : fits ty (zv b v) = true) (hl : S'.1 = S.1.set P (0, ci, fs')) (ho : ∀ a : Nat, a ≠ P → S'.2.1 a = S.2.1 a ∧ S'.2.2 a = S.2.2 a) (he : fs'.mapIdx (zF b S' P) = (fs.mapIdx (zF b S P)).set k (zv b v))
    (hd : decode cc pc = .ok (.putfield idx, 3)) (kk : Zw p l e R s m args below meth c G b nL Q nc ns (pc + 3) ls st S') : Zw p l e R s m args below meth c G b nL Q nc ns pc ls (v :: .ref P :: st) S := by
  intro H locs la hH hS hL
  obtain ⟨C, T, N, t0, ⟨hc, hin, hty, hnm⟩, hkN, hlink, ht0, hfin, hC⟩ := hf
  have hlt := zH_lt hH hq
  show W p l e R s m args below meth c H locs nc ns Q (F0 m pc la (zv b v :: zv b (.ref P) :: st.map (zv b)))
  rw [zv_ref hlt]
  have hK := X.2.2.2.2.2.1
  have hts := X.2.2.2.2.1
  have hap := va_apart (own := own) hts hin t0 hty hnm hK hc
  obtain ⟨r, h1, cell, q1, q2, q3, q4⟩ := hH.2.2 P _ (zW_get hq)
  have hr : r = (C, T, N) := Option.some.inj (h1.symm.trans hc)
  subst hr
  obtain ⟨hSl, hfc, kC, hkC, hkind⟩ := hK.1 ci _ hc
  obtain ⟨cf, kf, fi, f, hi, hsl⟩ := hSl k hkN
  have hlay := hts _ (hin _ (u_in_lay hkN))
  unfold u_lay at hlay
  rw [if_neg (by rw [hfin]; decide)] at hlay
  have hst := (u_facts hfc hkC (u_lays hts hin hkN) hi).1
  have h6 := u_store hfc hkC hkind hlay hi (hty k hkN) (by rw [ht0]; exact hn) (by rw [ht0]; exact hfit)
  refine W.putK X.1 X.2.1 (f := f) ⟨X.2.2.2.1, hts _ hlink, ⟨_, _, _, hi⟩, hst⟩ (by rw [q2]; exact h6) q1 q3 (by rw [hsl]; exact k2_hasslot (q4 k hkN)) rfl rfl hd fun H' e1 e2 e3 => ?_
  rw [hsl] at e1 ⊢
  refine kk H' _ la (zH_set hH e2 (hH.2.2.set (zD G b S) (zW_get hq) (e := .inr (ci, (fs.mapIdx (zF b S P)).set k (zv b v))) ⟨_, hc, t_OB.to (V := updV (vp_V (fs.mapIdx (zF b S P))) k (zv b v)) ⟨_, e1, q2, q3, t_set q4 hap hkN (zv b v)⟩ (fun j _ => vp_updV_set (by rw [List.length_mapIdx]; exact hk) (zv b v) j)⟩ e3) hq hl ho ?_) (hS.put e2 e3 (Nat.le_add_right b P)) hL
  show Sum.inr (ci, fs'.mapIdx (zF b S' P)) = _
  rw [he]
theorem a_puti (X : zOK p s m args meth c G b own cc nL) {idx ci k P z : Nat} {fs : List (Nat × Nat)} {x : Int32} (hf : zFl own idx ci k .int false) (hq : S.1[P]? = some (0, ci, fs)) (hk : fs[k]? = some (0, z)) (hd : decode cc pc = .ok (.putfield idx, 3)) (kk : Zw p l e R s m args below meth c G b nL Q nc ns (pc + 3) ls st (S.1, zu S.2.1 P k x, S.2.2)) : Zw p l e R s m args below meth c G b nL Q nc ns pc ls (.int x :: .ref P :: st) S := by
  refine a_putv (S' := (S.1, zu S.2.1 P k x, S.2.2)) X hf hq (List.getElem?_eq_some_iff.mp hk).1 rfl rfl (zset_self hq) (fun a ha => ⟨zu_row ha, rfl⟩) (zmap_set rfl (fun f h => ?_) (fun j hj => ⟨rfl, fun f => ?_⟩)) hd kk
  · rw [hk] at h
    cases h
    show Value.int (zu S.2.1 P k x P k) = .int x
    unfold zu
    rw [if_pos ⟨rfl, rfl⟩]
  · unfold zF
    show (match f.1 with | 0 => Value.int (zu S.2.1 P k x P j) | 1 => _ | 2 => _ | _ => _) = _
    rw [show zu S.2.1 P k x P j = S.2.1 P j from if_neg (fun q => hj q.2)]
    rfl
theorem a_putz (X : zOK p s m args meth c G b own cc nL) {idx ci k P z : Nat} {fs : List (Nat × Nat)} {x : Int32} (hx : x = 0 ∨ x = 1) (hf : zFl own idx ci k .boolean false) (hq : S.1[P]? = some (0, ci, fs)) (hk : fs[k]? = some (0, z)) (hd : decode cc pc = .ok (.putfield idx, 3)) (kk : Zw p l e R s m args below meth c G b nL Q nc ns (pc + 3) ls st (S.1, zu S.2.1 P k x, S.2.2)) : Zw p l e R s m args below meth c G b nL Q nc ns pc ls (.int x :: .ref P :: st) S := by
  refine a_putv (S' := (S.1, zu S.2.1 P k x, S.2.2)) X hf hq (List.getElem?_eq_some_iff.mp hk).1 (by rcases hx with rfl | rfl <;> rfl) (by rcases hx with rfl | rfl <;> rfl) (zset_self hq) (fun a ha => ⟨zu_row ha, rfl⟩) (zmap_set rfl (fun f h => ?_) (fun j hj => ⟨rfl, fun f => ?_⟩)) hd kk
  · rw [hk] at h
    cases h
    show Value.int (zu S.2.1 P k x P k) = .int x
    unfold zu
    rw [if_pos ⟨rfl, rfl⟩]
  · unfold zF
    show (match f.1 with | 0 => Value.int (zu S.2.1 P k x P j) | 1 => _ | 2 => _ | _ => _) = _
    rw [show zu S.2.1 P k x P j = S.2.1 P j from if_neg (fun q => hj q.2)]
    rfl
theorem a_putl (X : zOK p s m args meth c G b own cc nL) {idx ci k P z : Nat} {fs : List (Nat × Nat)} {x : Int64} (hf : zFl own idx ci k .long false) (hq : S.1[P]? = some (0, ci, fs)) (hk : fs[k]? = some (1, z)) (hd : decode cc pc = .ok (.putfield idx, 3)) (kk : Zw p l e R s m args below meth c G b nL Q nc ns (pc + 3) ls st (S.1, S.2.1, zu S.2.2 P k x)) : Zw p l e R s m args below meth c G b nL Q nc ns pc ls (.long x :: .ref P :: st) S := by
  refine a_putv (S' := (S.1, S.2.1, zu S.2.2 P k x)) X hf hq (List.getElem?_eq_some_iff.mp hk).1 rfl rfl (zset_self hq) (fun a ha => ⟨rfl, zu_row ha⟩) (zmap_set rfl (fun f h => ?_) (fun j hj => ⟨rfl, fun f => ?_⟩)) hd kk
  · rw [hk] at h
    cases h
    show Value.long (zu S.2.2 P k x P k) = .long x
    unfold zu
    rw [if_pos ⟨rfl, rfl⟩]
  · unfold zF
    show (match f.1 with | 0 => _ | 1 => Value.long (zu S.2.2 P k x P j) | 2 => _ | _ => _) = _
    rw [show zu S.2.2 P k x P j = S.2.2 P j from if_neg (fun q => hj q.2)]
    rfl
theorem a_iaload (X : zOK p s m args meth c G b own cc nL) {P n : Nat} {fs : List (Nat × Nat)} {i : Int32} (hq : S.1[P]? = some (1, n, fs)) (hin : vp_in i n) (hd : decode cc pc = .ok (.iaload, 1)) (kk : Zw p l e R s m args below meth c G b nL Q nc ns (pc + 1) ls (.int (S.2.1 P i.toNatClampNeg) :: st) S) : Zw p l e R s m args below meth c G b nL Q nc ns pc ls (.int i :: .ref P :: st) S := by
  intro H locs la hH hS hL
  show W p l e R s m args below meth c H locs nc ns Q (F0 m pc la (.int i :: zv b (.ref P) :: st.map (zv b)))
  rw [zv_ref (zH_lt hH hq)]
  exact va_iald (D := G.1) X.1 X.2.1 X.2.2.2.2.2.1 hH.2.2 P 0 (zW_get hq) rfl hin hd (kk H locs la hH hS hL)
theorem a_baload (X : zOK p s m args meth c G b own cc nL) {P n : Nat} {fs : List (Nat × Nat)} {i : Int32} (hq : S.1[P]? = some (2, n, fs)) (hin : vp_in i n) (hd : decode cc pc = .ok (.baload, 1)) (kk : Zw p l e R s m args below meth c G b nL Q nc ns (pc + 1) ls (.int (S.2.1 P i.toNatClampNeg) :: st) S) : Zw p l e R s m args below meth c G b nL Q nc ns pc ls (.int i :: .ref P :: st) S := by
  intro H locs la hH hS hL
  show W p l e R s m args below meth c H locs nc ns Q (F0 m pc la (.int i :: zv b (.ref P) :: st.map (zv b)))
  rw [zv_ref (zH_lt hH hq)]
  exact va_zald (D := G.1) X.1 X.2.1 X.2.2.2.2.2.1 hH.2.2 P 1 (zW_get hq) rfl hin hd (kk H locs la hH hS hL)
theorem a_laload (X : zOK p s m args meth c G b own cc nL) {P n : Nat} {fs : List (Nat × Nat)} {i : Int32} (hq : S.1[P]? = some (3, n, fs)) (hin : vp_in i n) (hd : decode cc pc = .ok (.laload, 1)) (kk : Zw p l e R s m args below meth c G b nL Q nc ns (pc + 1) ls (.long (S.2.2 P i.toNatClampNeg) :: st) S) : Zw p l e R s m args below meth c G b nL Q nc ns pc ls (.int i :: .ref P :: st) S := by
  intro H locs la hH hS hL
  show W p l e R s m args below meth c H locs nc ns Q (F0 m pc la (.int i :: zv b (.ref P) :: st.map (zv b)))
  rw [zv_ref (zH_lt hH hq)]
  exact va_lald (D := G.1) X.1 X.2.1 X.2.2.2.2.2.1 hH.2.2 P 2 (zW_get hq) rfl hin hd (kk H locs la hH hS hL)
theorem a_aaload (X : zOK p s m args meth c G b own cc nL) {P n z : Nat} {fs : List (Nat × Nat)} {i : Int32} (hq : S.1[P]? = some (4, n, fs)) (hin : vp_in i n) (hz : fs[i.toNatClampNeg]? = some (2, z)) (hz2 : z < 1000000) (hd : decode cc pc = .ok (.aaload, 1)) (kk : Zw p l e R s m args below meth c G b nL Q nc ns (pc + 1) ls (.ref z :: st) S) : Zw p l e R s m args below meth c G b nL Q nc ns pc ls (.int i :: .ref P :: st) S := by
  intro H locs la hH hS hL
  show W p l e R s m args below meth c H locs nc ns Q (F0 m pc la (.int i :: zv b (.ref P) :: st.map (zv b)))
  rw [zv_ref (zH_lt hH hq)]
  refine va_aldq (D := G.1) (C := RX4) X.1 X.2.1 X.2.2.2.2.2.1 hH.2.2 P 3 (zW_get hq) rfl hin hd ?_
  have h := kk H locs la hH hS hL
  rw [List.map_cons, zv_ref hz2] at h
  rw [show zrf b fs i.toNatClampNeg = some (b + z) by unfold zrf; rw [hz]; rfl]
  exact h
theorem a_alen (X : zOK p s m args meth c G b own cc nL) {P k n : Nat} {fs : List (Nat × Nat)} (hq : S.1[P]? = some (k, n, fs)) (hk : k = 1 ∨ k = 2 ∨ k = 3 ∨ k = 4) (hd : decode cc pc = .ok (.arraylength, 1)) (kk : Zw p l e R s m args below meth c G b nL Q nc ns (pc + 1) ls (.int (Int32.ofNat n) :: st) S) : Zw p l e R s m args below meth c G b nL Q nc ns pc ls (.ref P :: st) S := by
  intro H locs la hH hS hL
  show W p l e R s m args below meth c H locs nc ns Q (F0 m pc la (zv b (.ref P) :: st.map (zv b)))
  rw [zv_ref (zH_lt hH hq)]
  rcases hk with rfl | rfl | rfl | rfl
  · exact va_alen (D := G.1) X.1 X.2.1 X.2.2.2.2.2.1 hH.2.2 P 0 (zW_get hq) rfl rfl hd (kk H locs la hH hS hL)
  · exact va_alen (D := G.1) X.1 X.2.1 X.2.2.2.2.2.1 hH.2.2 P 1 (zW_get hq) rfl rfl hd (kk H locs la hH hS hL)
  · exact va_alen (D := G.1) X.1 X.2.1 X.2.2.2.2.2.1 hH.2.2 P 2 (zW_get hq) rfl rfl hd (kk H locs la hH hS hL)
  · exact va_alen (D := G.1) X.1 X.2.1 X.2.2.2.2.2.1 hH.2.2 P 3 (zW_get hq) rfl rfl hd (kk H locs la hH hS hL)
theorem a_iastore (X : zOK p s m args meth c G b own cc nL) {P n : Nat} {fs : List (Nat × Nat)} {i x : Int32} (hq : S.1[P]? = some (1, n, fs)) (hin : vp_in i n) (hd : decode cc pc = .ok (.iastore, 1)) (kk : Zw p l e R s m args below meth c G b nL Q nc ns (pc + 1) ls st (S.1, zu S.2.1 P i.toNatClampNeg x, S.2.2)) : Zw p l e R s m args below meth c G b nL Q nc ns pc ls (.int x :: .int i :: .ref P :: st) S := by
  intro H locs la hH hS hL
  show W p l e R s m args below meth c H locs nc ns Q (F0 m pc la (.int x :: .int i :: zv b (.ref P) :: st.map (zv b)))
  rw [zv_ref (zH_lt hH hq)]
  refine W.iast X.1 X.2.1 (hH.2.2 P _ (zW_get hq)) ((X.2.2.2.2.2.1.2 0 _ rfl).1 n (fun j => .int (S.2.1 P j))) (fun q => by cases q) (by show ¬ (i < 0 ∨ (arrV _ _ _).slots.size ≤ _); rw [arrV_size]; exact hin) rfl rfl hd fun H1 e1 z oq => ?_
  refine kk H1 _ la (zH_set hH z (hH.2.2.set (zD G b S) (zW_get hq) (e := .inl (G.2 1, n, .inl (upd (S.2.1 P) i.toNatClampNeg x))) ?_ oq) hq (zset_self hq) (fun a ha => ⟨zu_row ha, rfl⟩) ?_) (hS.put z oq (Nat.le_add_right b P)) hL
  · show H1[b + P]? = some (vp_cell _ _)
    rw [e1]
    show some ((arrV (G.2 1) n (fun j => .int (S.2.1 P j))).setSlot i.toNatClampNeg (.int x)) = some (vp_cell _ _)
    rw [vp_cell_i, arrV_store]
    congr 2
    funext q
    by_cases hq2 : q = i.toNatClampNeg
    · subst hq2
      simp [updV, upd]
    · simp [updV, upd, hq2]
  · show Sum.inl (G.2 1, n, Sum.inl (zu S.2.1 P i.toNatClampNeg x P)) = _
    rw [show zu S.2.1 P i.toNatClampNeg x P = upd (S.2.1 P) i.toNatClampNeg x from ?_]
    funext j
    by_cases hj : j = i.toNatClampNeg
    · subst hj
      simp [zu, upd]
    · simp [zu, upd, hj]
theorem a_lastore (X : zOK p s m args meth c G b own cc nL) {P n : Nat} {fs : List (Nat × Nat)} {i : Int32} {x : Int64} (hq : S.1[P]? = some (3, n, fs)) (hin : vp_in i n) (hd : decode cc pc = .ok (.lastore, 1)) (kk : Zw p l e R s m args below meth c G b nL Q nc ns (pc + 1) ls st (S.1, S.2.1, zu S.2.2 P i.toNatClampNeg x)) : Zw p l e R s m args below meth c G b nL Q nc ns pc ls (.long x :: .int i :: .ref P :: st) S := by
  intro H locs la hH hS hL
  show W p l e R s m args below meth c H locs nc ns Q (F0 m pc la (.long x :: .int i :: zv b (.ref P) :: st.map (zv b)))
  rw [zv_ref (zH_lt hH hq)]
  refine W.last X.1 X.2.1 (hH.2.2 P _ (zW_get hq)) ((X.2.2.2.2.2.1.2 2 _ rfl).1 n (fun j => .long (S.2.2 P j))) (fun q => by cases q) (by show ¬ (i < 0 ∨ (arrV _ _ _).slots.size ≤ _); rw [arrV_size]; exact hin) rfl rfl hd fun H1 e1 z oq => ?_
  refine kk H1 _ la (zH_set hH z (hH.2.2.set (zD G b S) (zW_get hq) (e := .inl (G.2 3, n, .inr (.inl (vp_updL (S.2.2 P) i.toNatClampNeg x)))) ?_ oq) hq (zset_self hq) (fun a ha => ⟨rfl, zu_row ha⟩) ?_) (hS.put z oq (Nat.le_add_right b P)) hL
  · show H1[b + P]? = some (vp_cell _ _)
    rw [e1]
    show some ((arrV (G.2 3) n (fun j => .long (S.2.2 P j))).setSlot i.toNatClampNeg (.long x)) = some (vp_cell _ _)
    rw [vp_cell_l, arrV_store]
    congr 2
    funext q
    by_cases hq2 : q = i.toNatClampNeg
    · subst hq2
      simp [updV, vp_updL]
    · simp [updV, vp_updL, hq2]
  · show Sum.inl (G.2 3, n, Sum.inr (Sum.inl (zu S.2.2 P i.toNatClampNeg x P))) = _
    rw [show zu S.2.2 P i.toNatClampNeg x P = vp_updL (S.2.2 P) i.toNatClampNeg x from ?_]
    funext j
    by_cases hj : j = i.toNatClampNeg
    · subst hj
      simp [zu, vp_updL]
    · simp [zu, vp_updL, hj]
theorem a_bastore (X : zOK p s m args meth c G b own cc nL) {P n : Nat} {fs : List (Nat × Nat)} {i x : Int32} (hx : x = 0 ∨ x = 1) (hq : S.1[P]? = some (2, n, fs)) (hin : vp_in i n) (hd : decode cc pc = .ok (.bastore, 1)) (kk : Zw p l e R s m args below meth c G b nL Q nc ns (pc + 1) ls st (S.1, zu S.2.1 P i.toNatClampNeg x, S.2.2)) : Zw p l e R s m args below meth c G b nL Q nc ns pc ls (.int x :: .int i :: .ref P :: st) S := by
  intro H locs la hH hS hL
  show W p l e R s m args below meth c H locs nc ns Q (F0 m pc la (.int x :: .int i :: zv b (.ref P) :: st.map (zv b)))
  rw [zv_ref (zH_lt hH hq)]
  have hnar : narrow .boolean (.int x) = .int x := by rcases hx with rfl | rfl <;> decide
  refine W.zast X.1 X.2.1 (hH.2.2 P _ (zW_get hq)) ((X.2.2.2.2.2.1.2 1 _ rfl).1 n (fun j => .int (S.2.1 P j))) (fun q => by cases q) (by show ¬ (i < 0 ∨ (arrV _ _ _).slots.size ≤ _); rw [arrV_size]; exact hin) rfl rfl hd fun H1 e1 z oq => ?_
  refine kk H1 _ la (zH_set hH z (hH.2.2.set (zD G b S) (zW_get hq) (e := .inl (G.2 2, n, .inl (upd (S.2.1 P) i.toNatClampNeg x))) ?_ oq) hq (zset_self hq) (fun a ha => ⟨zu_row ha, rfl⟩) ?_) (hS.put z oq (Nat.le_add_right b P)) hL
  · show H1[b + P]? = some (vp_cell _ _)
    rw [e1]
    show some ((arrV (G.2 2) n (fun j => .int (S.2.1 P j))).setSlot i.toNatClampNeg _) = some (vp_cell _ _)
    rw [vp_cell_i, arrV_store]
    congr 2
    funext q
    by_cases hq2 : q = i.toNatClampNeg
    · subst hq2
      simp [updV, upd, hnar]
    · simp [updV, upd, hq2]
  · show Sum.inl (G.2 2, n, Sum.inl (zu S.2.1 P i.toNatClampNeg x P)) = _
    rw [show zu S.2.1 P i.toNatClampNeg x P = upd (S.2.1 P) i.toNatClampNeg x from ?_]
    funext j
    by_cases hj : j = i.toNatClampNeg
    · subst hj
      simp [zu, upd]
    · simp [zu, upd, hj]
theorem zM.blind {l : Launch} {av : List Value} {S : zS} : FrameBlind (va_Pc (av.map (zv b)) (fun U => zH G b S U.heap ∧ va_K G.1 vwCl (zty G) U ∧ zEx G b U)) :=
  fun a U g mk q => ⟨q.1, q.2.1, va_K.moved (u := U) (U := U.calling g mk a) (Vm.Alike.refl U.vm) q.2.2.1, zEx.warm (s := U) (U := U.calling g mk a) (State.WarmedH.refl U) (fun _ _ _ => rfl) q.2.2.2⟩
theorem z_run {H : Heap} {locs : List Loc} {la : Array Slot} {st0 rest : List Value} {a : Array Value} {mc ms : Nat} {Q' : Option Value → zS → Prop} (hr : va_Run p l e R s m args below meth c H locs nc ns mc ms (F0 m pc la st0) (rest.map (zv b)) (zQ G b Q' a) (fun q : Nat => b ≤ q)) (hb : b ≤ H.size) (hS : va_S (fun q : Nat => b ≤ q) s.heap H locs) (hL : zL b nL ls la)
    (kk : ∀ (r : Option Value) (S' : zS), Q' r S' → Zw p l e R s m args below meth c G b nL Q (nc + mc) (ns + ms) (pc + 3) ls (r.toList ++ rest) S') : W p l e R s m args below meth c H locs nc ns Q (F0 m pc la st0) := by
  intro T hT X
  obtain ⟨v, st₀, t, T', L, h0, X', hL', e1, e2, ⟨⟨r, S', hv, hp, hh⟩, hz, hk⟩, st⟩ := hr T hT X
  have hv' : v = r.map (zv b) := Outcome.returned.inj hv
  subst hv'
  rw [h0] at hz hk
  obtain ⟨t2, a1, b1⟩ := kk r S' hp T'.heap (locs ++ L) la (by rw [e1]; exact hh) ⟨Nat.le_trans hS.1 (by rw [e1]; exact hz), fun q h1 h2 => by rw [e1, hk q (Nat.lt_of_lt_of_le h1 hS.1) h2]; exact hS.2.1 q h1 h2, fun q hq => by
      rcases List.mem_append.mp hq with h | h
      · exact hS.2.2 q h
      · exact hL' q h⟩ hL T' rfl X'
  refine ⟨t2, st t2 ?_, b1⟩
  have he : (r.toList ++ rest).map (zv b) = (r.map (zv b)).toList ++ rest.map (zv b) := by cases r <;> rfl
  rw [he] at a1
  exact a1
theorem z_good {y : MethodName} {cy : ByteArray} {nM : Nat} {rt : Option FieldType} {n : Nat} (hM : zMi y cy nM rt n) : GoodIn zT (.code y cy nM rt :: zT) := fun w h => by
  rcases List.mem_cons.mp h with rfl | h
  · exact ⟨hM.1, good_of_word (zT_good _ hM.1)⟩
  · exact ⟨h, good_of_word (zT_good _ h)⟩
theorem z_len {y : MethodName} {n : Nat} (h : (parseMethodDescriptor y.desc).map (fun d => d.parameters.length) = some n) (sig : MethodDescriptor) (hs : parseMethodDescriptor y.desc = some sig) : n = sig.parameters.length := by
  rw [hs] at h
  exact (Option.some.inj h).symm
theorem z_sum (b : Nat) (rest : List Value) : ((rest.map (zv b)).map fun v => v.category).sum = (rest.map fun v => v.category).sum := by
  rw [List.map_map]
  congr 1
  apply List.map_congr_left
  intro v _
  exact zv_cat b v
section ZC
variable {y : MethodName} {cy : ByteArray} {nM : Nat} {rt : Option FieldType} {n d mc ms idx : Nat} {As rest : List Value} {Q' : Option Value → zS → Prop}
theorem a_invV (X : zOK p s m args meth c G b own cc nL) (hM : zMi y cy nM rt n) (hLk : zLv own idx y) {P ci : Nat} {fs : List (Nat × Nat)} {T : u_T} {N : Nat} (hq : S.1[P]? = some (0, ci, fs)) (hci : vwCl[ci]? = some (y.cls, T, N)) (hn : As.length = n) (hst : st = As.reverse ++ .ref P :: rest) (hw : (rest.map fun v => v.category).sum ≤ 8) (hroom : d + 1 ≤ R.frames ∧ 8 + (nM + 11) + 80 * d ≤ R.locals ∧ nc + mc ≤ R.cells ∧ ns + ms ≤ R.slots)
    (hd : decode cc pc = .ok (.invokevirtual idx, 3)) (hZ : zM l G b y cy nM rt d mc ms (.ref P :: As) S Q') (kk : ∀ (r : Option Value) (S2 : zS), Q' r S2 → Zw p l e R s m args below meth c G b nL Q (nc + mc) (ns + ms) (pc + 3) ls (r.toList ++ rest) S2) : Zw p l e R s m args below meth c G b nL Q nc ns pc ls st S := by
  subst hst
  intro H locs la hH hS hL
  have hbH : b ≤ H.size := by have := hH.1; omega
  have hlt := zH_lt hH hq
  have hrev : (As.reverse ++ .ref P :: rest).map (zv b) = (As.map (zv b)).reverse ++ .ref (b + P) :: rest.map (zv b) := by rw [List.map_append, List.map_reverse, List.map_cons, zv_ref hlt]
  rw [hrev]
  unfold zM at hZ
  rw [List.map_cons, zv_ref hlt] at hZ
  have blk := zM.blind (b := b) (G := G) (l := l) (av := .ref P :: As) (S := S)
  rw [List.map_cons, zv_ref hlt] at blk
  refine z_run (a := _) (va_runV (As := As.map (zv b)) (rest := rest.map (zv b)) (cc := cc) (nL := nL) (own := own) ⟨X.1, X.2.1, X.2.2.1, X.2.2.2.1, X.2.2.2.2.1⟩ hZ ⟨⟨rfl, rfl, hroom.1, hroom.2.1, pay_in X.2.2.2.2.1 (z_good hM), List.mem_cons_self, X.2.2.2.2.1 _ hM.1, X.2.2.2.2.1 _ hM.2.1, hM.2.2.1, z_len hM.2.2.2.1, X.2.2.2.2.1 _ hLk.1⟩, X.2.2.2.2.1 _ hLk.2.1, X.2.2.2.2.1 _ hLk.2.2⟩ ⟨blk, va_recv X.2.2.2.2.2.1 hH.2.2 hci (zW_get hq), fun U hU hW => ⟨rfl, by rw [hU]; exact hH, X.2.2.2.2.2.1.moved hW.alike, X.2.2.2.2.2.2.1.warm hW (fun q h1 h2 => by rw [hU]; exact hS.2.1 q h1 h2)⟩⟩ rfl (by rw [List.length_map]; exact hn) (hL.1) rfl (by rw [z_sum]; show 2 * 0 + _ ≤ 8; omega) hd hroom.2.2) hbH hS hL kk
theorem a_invS (X : zOK p s m args meth c G b own cc nL) (hM : zMi y cy nM rt n) (hLk : zLs own idx y) (hn : As.length = n) (hst : st = As.reverse ++ rest) (hw : (rest.map fun v => v.category).sum ≤ 8) (hroom : d + 1 ≤ R.frames ∧ 8 + (nM + 11) + 80 * d ≤ R.locals ∧ nc + mc ≤ R.cells ∧ ns + ms ≤ R.slots)
    (hd : decode cc pc = .ok (.invokestatic idx, 3)) (hZ : zM l G b y cy nM rt d mc ms (As) S Q') (kk : ∀ (r : Option Value) (S2 : zS), Q' r S2 → Zw p l e R s m args below meth c G b nL Q (nc + mc) (ns + ms) (pc + 3) ls (r.toList ++ rest) S2) : Zw p l e R s m args below meth c G b nL Q nc ns pc ls st S := by
  subst hst
  intro H locs la hH hS hL
  have hbH : b ≤ H.size := by have := hH.1; omega
  have hrev : (As.reverse ++ rest).map (zv b) = (As.map (zv b)).reverse ++ rest.map (zv b) := by rw [List.map_append, List.map_reverse]
  rw [hrev]
  unfold zM at hZ
  have blk := zM.blind (b := b) (G := G) (l := l) (av := As) (S := S)
  refine z_run (a := _) (va_runS (As := As.map (zv b)) (rest := rest.map (zv b)) (cc := cc) (nL := nL) (own := own) ⟨X.1, X.2.1, X.2.2.1, X.2.2.2.1, X.2.2.2.2.1⟩ hZ ⟨⟨rfl, rfl, hroom.1, hroom.2.1, pay_in X.2.2.2.2.1 (z_good hM), List.mem_cons_self, X.2.2.2.2.1 _ hM.1, X.2.2.2.2.1 _ hM.2.1, hM.2.2.1, z_len hM.2.2.2.1, X.2.2.2.2.1 _ hLk.1⟩, X.2.2.2.2.1 _ hLk.2⟩ ⟨blk, fun U hU hW => ⟨rfl, by rw [hU]; exact hH, X.2.2.2.2.2.1.moved hW.alike, X.2.2.2.2.2.2.1.warm hW (fun q h1 h2 => by rw [hU]; exact hS.2.1 q h1 h2)⟩⟩ rfl (by rw [List.length_map]; exact hn) (hL.1) rfl (by rw [z_sum]; show 2 * 0 + _ ≤ 8; omega) hd hroom.2.2) hbH hS hL kk
theorem a_invSN (X : zOK p s m args meth c G b own cc nL) (hM : zMi y cy nM rt n) (hLk : zLsn own idx y) (hn : As.length = n) (hst : st = As.reverse ++ rest) (hw : (rest.map fun v => v.category).sum ≤ 8) (hroom : d + 1 ≤ R.frames ∧ 8 + (nM + 11) + 80 * d ≤ R.locals ∧ nc + mc ≤ R.cells ∧ ns + ms ≤ R.slots)
    (hd : decode cc pc = .ok (.invokestatic idx, 3)) (hZ : zM l G b y cy nM rt d mc ms (As) S Q') (kk : ∀ (r : Option Value) (S2 : zS), Q' r S2 → Zw p l e R s m args below meth c G b nL Q (nc + mc) (ns + ms) (pc + 3) ls (r.toList ++ rest) S2) : Zw p l e R s m args below meth c G b nL Q nc ns pc ls st S := by
  subst hst
  intro H locs la hH hS hL
  have hbH : b ≤ H.size := by have := hH.1; omega
  obtain ⟨⟨hst2, hh⟩, hs2⟩ := id hLk
  have hrev : (As.reverse ++ rest).map (zv b) = (As.map (zv b)).reverse ++ rest.map (zv b) := by rw [List.map_append, List.map_reverse]
  rw [hrev]
  unfold zM at hZ
  have blk := zM.blind (b := b) (G := G) (l := l) (av := As) (S := S)
  refine z_run (a := _) (va_runSN (As := As.map (zv b)) (rest := rest.map (zv b)) (cc := cc) (nL := nL) (own := own) ⟨X.1, X.2.1, X.2.2.1, X.2.2.2.1, X.2.2.2.2.1⟩ hZ ⟨⟨⟨rfl, rfl, hroom.1, hroom.2.1, pay_in X.2.2.2.2.1 (z_good hM), List.mem_cons_self⟩, X.2.2.2.2.1 _ hM.1, X.2.2.2.2.1 _ hM.2.1, hM.2.2.1, z_len hM.2.2.2.1, va_Nw.use rfl (X.2.2.2.2.2.2.1.1 _ hh)⟩, X.2.2.2.2.1 _ hLk.2, trivial⟩ ⟨blk, fun U hU hW => ⟨rfl, by rw [hU]; exact hH, X.2.2.2.2.2.1.moved hW.alike, X.2.2.2.2.2.2.1.warm hW (fun q h1 h2 => by rw [hU]; exact hS.2.1 q h1 h2)⟩⟩ rfl (by rw [List.length_map]; exact hn) (hL.1) rfl (by rw [z_sum]; show 2 * 0 + _ ≤ 8; omega) hd hroom.2.2) hbH hS hL kk
theorem a_invI (X : zOK p s m args meth c G b own cc nL) (hM : zMi y cy nM none n) (hLk : zLi own idx y) {P ci : Nat} {fs : List (Nat × Nat)} {T : u_T} {N : Nat} (hq : S.1[P]? = some (0, ci, fs)) (hci : vwCl[ci]? = some (y.cls, T, N)) (hn : As.length = n) (hst : st = As.reverse ++ .ref P :: rest) (hw : (rest.map fun v => v.category).sum ≤ 8) (hroom : d + 1 ≤ R.frames ∧ 8 + (nM + 11) + 80 * d ≤ R.locals ∧ nc + mc ≤ R.cells ∧ ns + ms ≤ R.slots)
    (hd : decode cc pc = .ok (.invokespecial idx, 3)) (hZ : zM l G b y cy nM none d mc ms (.ref P :: As) S Q') (kk : ∀ (r : Option Value) (S2 : zS), Q' r S2 → Zw p l e R s m args below meth c G b nL Q (nc + mc) (ns + ms) (pc + 3) ls (r.toList ++ rest) S2) : Zw p l e R s m args below meth c G b nL Q nc ns pc ls st S := by
  subst hst
  intro H locs la hH hS hL
  have hbH : b ≤ H.size := by have := hH.1; omega
  have hlt := zH_lt hH hq
  have hrev : (As.reverse ++ .ref P :: rest).map (zv b) = (As.map (zv b)).reverse ++ .ref (b + P) :: rest.map (zv b) := by rw [List.map_append, List.map_reverse, List.map_cons, zv_ref hlt]
  rw [hrev]
  unfold zM at hZ
  rw [List.map_cons, zv_ref hlt] at hZ
  have blk := zM.blind (b := b) (G := G) (l := l) (av := .ref P :: As) (S := S)
  rw [List.map_cons, zv_ref hlt] at blk
  refine z_run (a := _) (va_runI (As := As.map (zv b)) (rest := rest.map (zv b)) (cc := cc) (nL := nL) (own := own) ⟨X.1, X.2.1, X.2.2.1, X.2.2.2.1, X.2.2.2.2.1⟩ hZ ⟨⟨rfl, rfl, hroom.1, hroom.2.1, pay_in X.2.2.2.2.1 (z_good hM), List.mem_cons_self, X.2.2.2.2.1 _ hM.1, X.2.2.2.2.1 _ hM.2.1, hM.2.2.1, z_len hM.2.2.2.1, X.2.2.2.2.1 _ hLk.1⟩, hLk.2.2, X.2.2.2.2.1 _ hLk.2.1⟩ ⟨blk, fun U hU hW => ⟨rfl, by rw [hU]; exact hH, X.2.2.2.2.2.1.moved hW.alike, X.2.2.2.2.2.2.1.warm hW (fun q h1 h2 => by rw [hU]; exact hS.2.1 q h1 h2)⟩⟩ rfl (by rw [List.length_map]; exact hn) (hL.1) rfl (by rw [z_sum]; show 2 * 0 + _ ≤ 8; omega) hd hroom.2.2) hbH hS hL kk
theorem a_invIN (X : zOK p s m args meth c G b own cc nL) (hM : zMi y cy nM none n) (hLk : zLin own idx y) {P ci : Nat} {fs : List (Nat × Nat)} {T : u_T} {N : Nat} (hq : S.1[P]? = some (0, ci, fs)) (hci : vwCl[ci]? = some (y.cls, T, N)) (hn : As.length = n) (hst : st = As.reverse ++ .ref P :: rest) (hw : (rest.map fun v => v.category).sum ≤ 8) (hroom : d + 1 ≤ R.frames ∧ 8 + (nM + 11) + 80 * d ≤ R.locals ∧ nc + mc ≤ R.cells ∧ ns + ms ≤ R.slots)
    (hd : decode cc pc = .ok (.invokespecial idx, 3)) (hZ : zM l G b y cy nM none d mc ms (.ref P :: As) S Q') (kk : ∀ (r : Option Value) (S2 : zS), Q' r S2 → Zw p l e R s m args below meth c G b nL Q (nc + mc) (ns + ms) (pc + 3) ls (r.toList ++ rest) S2) : Zw p l e R s m args below meth c G b nL Q nc ns pc ls st S := by
  subst hst
  intro H locs la hH hS hL
  have hbH : b ≤ H.size := by have := hH.1; omega
  obtain ⟨⟨hst2, hh⟩, hs2⟩ := id hLk
  have hlt := zH_lt hH hq
  have hrev : (As.reverse ++ .ref P :: rest).map (zv b) = (As.map (zv b)).reverse ++ .ref (b + P) :: rest.map (zv b) := by rw [List.map_append, List.map_reverse, List.map_cons, zv_ref hlt]
  rw [hrev]
  unfold zM at hZ
  rw [List.map_cons, zv_ref hlt] at hZ
  have blk := zM.blind (b := b) (G := G) (l := l) (av := .ref P :: As) (S := S)
  rw [List.map_cons, zv_ref hlt] at blk
  refine z_run (a := _) (va_runIN (As := As.map (zv b)) (rest := rest.map (zv b)) (cc := cc) (nL := nL) (own := own) ⟨X.1, X.2.1, X.2.2.1, X.2.2.2.1, X.2.2.2.2.1⟩ hZ ⟨⟨⟨rfl, rfl, hroom.1, hroom.2.1, pay_in X.2.2.2.2.1 (z_good hM), List.mem_cons_self⟩, X.2.2.2.2.1 _ hM.1, X.2.2.2.2.1 _ hM.2.1, hM.2.2.1, z_len hM.2.2.2.1, va_Nw.use rfl (X.2.2.2.2.2.2.1.1 _ hh)⟩, hLk.2.2, X.2.2.2.2.1 _ hLk.2.1⟩ ⟨blk, fun U hU hW => ⟨rfl, by rw [hU]; exact hH, X.2.2.2.2.2.1.moved hW.alike, X.2.2.2.2.2.2.1.warm hW (fun q h1 h2 => by rw [hU]; exact hS.2.1 q h1 h2)⟩⟩ rfl (by rw [List.length_map]; exact hn) (hL.1) rfl (by rw [z_sum]; show 2 * 0 + _ ≤ 8; omega) hd hroom.2.2) hbH hS hL kk
theorem a_callVv (X : zOK p s m args meth c G b own cc nL) (hd : decode cc pc = .ok (.invokevirtual idx, 3)) {S2 : zS} {w : Value} {P ci : Nat} {fs : List (Nat × Nat)} {T : u_T} {N : Nat} (hM : zMi y cy nM rt n) (hLk : zLv own idx y) (hZ : zM l G b y cy nM rt d mc ms (.ref P :: As) S (fun r z => r = some w ∧ z = S2)) (hq : S.1[P]? = some (0, ci, fs)) (hci : vwCl[ci]? = some (y.cls, T, N)) (hn : As.length = n) (hst : st = As.reverse ++ .ref P :: rest) (hw : (rest.map fun v => v.category).sum ≤ 8) (hroom : d + 1 ≤ R.frames ∧ 8 + (nM + 11) + 80 * d ≤ R.locals ∧ nc + mc ≤ R.cells ∧ ns + ms ≤ R.slots) (kk : Zw p l e R s m args below meth c G b nL Q (nc + mc) (ns + ms) (pc + 3) ls (w :: rest) S2) : Zw p l e R s m args below meth c G b nL Q nc ns pc ls st S :=
  a_invV X hM hLk hq hci hn hst hw hroom hd hZ (fun r z h => by obtain ⟨rfl, rfl⟩ := h; exact kk)
theorem a_callVu (X : zOK p s m args meth c G b own cc nL) (hd : decode cc pc = .ok (.invokevirtual idx, 3)) {S2 : zS} {P ci : Nat} {fs : List (Nat × Nat)} {T : u_T} {N : Nat} (hM : zMi y cy nM rt n) (hLk : zLv own idx y) (hZ : zM l G b y cy nM rt d mc ms (.ref P :: As) S (fun r z => r = none ∧ z = S2)) (hq : S.1[P]? = some (0, ci, fs)) (hci : vwCl[ci]? = some (y.cls, T, N)) (hn : As.length = n) (hst : st = As.reverse ++ .ref P :: rest) (hw : (rest.map fun v => v.category).sum ≤ 8) (hroom : d + 1 ≤ R.frames ∧ 8 + (nM + 11) + 80 * d ≤ R.locals ∧ nc + mc ≤ R.cells ∧ ns + ms ≤ R.slots) (kk : Zw p l e R s m args below meth c G b nL Q (nc + mc) (ns + ms) (pc + 3) ls rest S2) : Zw p l e R s m args below meth c G b nL Q nc ns pc ls st S :=
  a_invV X hM hLk hq hci hn hst hw hroom hd hZ (fun r z h => by obtain ⟨rfl, rfl⟩ := h; exact kk)
theorem a_callVx (X : zOK p s m args meth c G b own cc nL) (hd : decode cc pc = .ok (.invokevirtual idx, 3)) {F : Option Value → zS → Prop} {P ci : Nat} {fs : List (Nat × Nat)} {T : u_T} {N : Nat} (hM : zMi y cy nM rt n) (hLk : zLv own idx y) (hZ : zM l G b y cy nM rt d mc ms (.ref P :: As) S F) (hq : S.1[P]? = some (0, ci, fs)) (hci : vwCl[ci]? = some (y.cls, T, N)) (hn : As.length = n) (hst : st = As.reverse ++ .ref P :: rest) (hw : (rest.map fun v => v.category).sum ≤ 8) (hroom : d + 1 ≤ R.frames ∧ 8 + (nM + 11) + 80 * d ≤ R.locals ∧ nc + mc ≤ R.cells ∧ ns + ms ≤ R.slots) (kk : ∀ (r : Option Value) (S2 : zS), F r S2 → Zw p l e R s m args below meth c G b nL Q (nc + mc) (ns + ms) (pc + 3) ls (r.toList ++ rest) S2) : Zw p l e R s m args below meth c G b nL Q nc ns pc ls st S :=
  a_invV X hM hLk hq hci hn hst hw hroom hd hZ kk
theorem a_callSv (X : zOK p s m args meth c G b own cc nL) (hd : decode cc pc = .ok (.invokestatic idx, 3)) {S2 : zS} {w : Value} (hM : zMi y cy nM rt n) (hLk : zLs own idx y) (hZ : zM l G b y cy nM rt d mc ms (As) S (fun r z => r = some w ∧ z = S2)) (hn : As.length = n) (hst : st = As.reverse ++ rest) (hw : (rest.map fun v => v.category).sum ≤ 8) (hroom : d + 1 ≤ R.frames ∧ 8 + (nM + 11) + 80 * d ≤ R.locals ∧ nc + mc ≤ R.cells ∧ ns + ms ≤ R.slots) (kk : Zw p l e R s m args below meth c G b nL Q (nc + mc) (ns + ms) (pc + 3) ls (w :: rest) S2) : Zw p l e R s m args below meth c G b nL Q nc ns pc ls st S :=
  a_invS X hM hLk hn hst hw hroom hd hZ (fun r z h => by obtain ⟨rfl, rfl⟩ := h; exact kk)
theorem a_callSu (X : zOK p s m args meth c G b own cc nL) (hd : decode cc pc = .ok (.invokestatic idx, 3)) {S2 : zS} (hM : zMi y cy nM rt n) (hLk : zLs own idx y) (hZ : zM l G b y cy nM rt d mc ms (As) S (fun r z => r = none ∧ z = S2)) (hn : As.length = n) (hst : st = As.reverse ++ rest) (hw : (rest.map fun v => v.category).sum ≤ 8) (hroom : d + 1 ≤ R.frames ∧ 8 + (nM + 11) + 80 * d ≤ R.locals ∧ nc + mc ≤ R.cells ∧ ns + ms ≤ R.slots) (kk : Zw p l e R s m args below meth c G b nL Q (nc + mc) (ns + ms) (pc + 3) ls rest S2) : Zw p l e R s m args below meth c G b nL Q nc ns pc ls st S :=
  a_invS X hM hLk hn hst hw hroom hd hZ (fun r z h => by obtain ⟨rfl, rfl⟩ := h; exact kk)
theorem a_callSx (X : zOK p s m args meth c G b own cc nL) (hd : decode cc pc = .ok (.invokestatic idx, 3)) (hM : zMi y cy nM rt n) (hLk : zLs own idx y) {F : Option Value → zS → Prop} (hZ : zM l G b y cy nM rt d mc ms (As) S F) (hn : As.length = n) (hst : st = As.reverse ++ rest) (hw : (rest.map fun v => v.category).sum ≤ 8) (hroom : d + 1 ≤ R.frames ∧ 8 + (nM + 11) + 80 * d ≤ R.locals ∧ nc + mc ≤ R.cells ∧ ns + ms ≤ R.slots) (kk : ∀ (r : Option Value) (S2 : zS), F r S2 → Zw p l e R s m args below meth c G b nL Q (nc + mc) (ns + ms) (pc + 3) ls (r.toList ++ rest) S2) : Zw p l e R s m args below meth c G b nL Q nc ns pc ls st S :=
  a_invS X hM hLk hn hst hw hroom hd hZ kk
theorem a_callSNv (X : zOK p s m args meth c G b own cc nL) (hd : decode cc pc = .ok (.invokestatic idx, 3)) {S2 : zS} {w : Value} (hM : zMi y cy nM rt n) (hLk : zLsn own idx y) (hZ : zM l G b y cy nM rt d mc ms (As) S (fun r z => r = some w ∧ z = S2)) (hn : As.length = n) (hst : st = As.reverse ++ rest) (hw : (rest.map fun v => v.category).sum ≤ 8) (hroom : d + 1 ≤ R.frames ∧ 8 + (nM + 11) + 80 * d ≤ R.locals ∧ nc + mc ≤ R.cells ∧ ns + ms ≤ R.slots) (kk : Zw p l e R s m args below meth c G b nL Q (nc + mc) (ns + ms) (pc + 3) ls (w :: rest) S2) : Zw p l e R s m args below meth c G b nL Q nc ns pc ls st S :=
  a_invSN X hM hLk hn hst hw hroom hd hZ (fun r z h => by obtain ⟨rfl, rfl⟩ := h; exact kk)
theorem a_callSNu (X : zOK p s m args meth c G b own cc nL) (hd : decode cc pc = .ok (.invokestatic idx, 3)) {S2 : zS} (hM : zMi y cy nM rt n) (hLk : zLsn own idx y) (hZ : zM l G b y cy nM rt d mc ms (As) S (fun r z => r = none ∧ z = S2)) (hn : As.length = n) (hst : st = As.reverse ++ rest) (hw : (rest.map fun v => v.category).sum ≤ 8) (hroom : d + 1 ≤ R.frames ∧ 8 + (nM + 11) + 80 * d ≤ R.locals ∧ nc + mc ≤ R.cells ∧ ns + ms ≤ R.slots) (kk : Zw p l e R s m args below meth c G b nL Q (nc + mc) (ns + ms) (pc + 3) ls rest S2) : Zw p l e R s m args below meth c G b nL Q nc ns pc ls st S :=
  a_invSN X hM hLk hn hst hw hroom hd hZ (fun r z h => by obtain ⟨rfl, rfl⟩ := h; exact kk)
theorem a_callSNx (X : zOK p s m args meth c G b own cc nL) (hd : decode cc pc = .ok (.invokestatic idx, 3)) (hM : zMi y cy nM rt n) (hLk : zLsn own idx y) {F : Option Value → zS → Prop} (hZ : zM l G b y cy nM rt d mc ms (As) S F) (hn : As.length = n) (hst : st = As.reverse ++ rest) (hw : (rest.map fun v => v.category).sum ≤ 8) (hroom : d + 1 ≤ R.frames ∧ 8 + (nM + 11) + 80 * d ≤ R.locals ∧ nc + mc ≤ R.cells ∧ ns + ms ≤ R.slots) (kk : ∀ (r : Option Value) (S2 : zS), F r S2 → Zw p l e R s m args below meth c G b nL Q (nc + mc) (ns + ms) (pc + 3) ls (r.toList ++ rest) S2) : Zw p l e R s m args below meth c G b nL Q nc ns pc ls st S :=
  a_invSN X hM hLk hn hst hw hroom hd hZ kk
theorem a_invVs (X : zOK p s m args meth c G b own cc nL) (hM : zMi y cy nM rt n) (hLk : zLv own idx y) {i : Nat} (hi : i < zLit.length) (hcls : y.cls = "java/lang/String") (hn : As.length = n) (hst : st = As.reverse ++ .ref (1000000 + zKa G i) :: rest) (hw : (rest.map fun v => v.category).sum ≤ 8) (hroom : d + 1 ≤ R.frames ∧ 8 + (nM + 11) + 80 * d ≤ R.locals ∧ nc + mc ≤ R.cells ∧ ns + ms ≤ R.slots)
    (hd : decode cc pc = .ok (.invokevirtual idx, 3)) (hZ : zM l G b y cy nM rt d mc ms (.ref (1000000 + zKa G i) :: As) S Q') (kk : ∀ (r : Option Value) (S2 : zS), Q' r S2 → Zw p l e R s m args below meth c G b nL Q (nc + mc) (ns + ms) (pc + 3) ls (r.toList ++ rest) S2) : Zw p l e R s m args below meth c G b nL Q nc ns pc ls st S := by
  subst hst
  intro H locs la hH hS hL
  have hbH : b ≤ H.size := by have := hH.1; omega
  have hrev : (As.reverse ++ .ref (1000000 + zKa G i) :: rest).map (zv b) = (As.map (zv b)).reverse ++ .ref (zKa G i) :: rest.map (zv b) := by rw [List.map_append, List.map_reverse, List.map_cons, zv_far]
  rw [hrev]
  unfold zM at hZ
  rw [List.map_cons, zv_far] at hZ
  have blk := zM.blind (b := b) (G := G) (l := l) (av := .ref (1000000 + zKa G i) :: As) (S := S)
  rw [List.map_cons, zv_far] at blk
  refine z_run (a := _) (va_runV (As := As.map (zv b)) (rest := rest.map (zv b)) (cc := cc) (nL := nL) (own := own) ⟨X.1, X.2.1, X.2.2.1, X.2.2.2.1, X.2.2.2.2.1⟩ hZ ⟨⟨rfl, rfl, hroom.1, hroom.2.1, pay_in X.2.2.2.2.1 (z_good hM), List.mem_cons_self, X.2.2.2.2.1 _ hM.1, X.2.2.2.2.1 _ hM.2.1, hM.2.2.1, z_len hM.2.2.2.1, X.2.2.2.2.1 _ hLk.1⟩, X.2.2.2.2.1 _ hLk.2.1, X.2.2.2.2.1 _ hLk.2.2⟩ ⟨blk, by rw [hcls]; exact vk_recv X.2.2.2.2.2.2.1.2.2.1 hi hS, fun U hU hW => ⟨rfl, by rw [hU]; exact hH, X.2.2.2.2.2.1.moved hW.alike, X.2.2.2.2.2.2.1.warm hW (fun q h1 h2 => by rw [hU]; exact hS.2.1 q h1 h2)⟩⟩ rfl (by rw [List.length_map]; exact hn) (hL.1) rfl (by rw [z_sum]; show 2 * 0 + _ ≤ 8; omega) hd hroom.2.2) hbH hS hL kk
end ZC
theorem a_iret (X : zOK p s m args meth c G b own cc nL) {mc ms : Nat} {v : Int32} {Qf : Option Value → zS → Prop} (hr : meth.sig.returnType = some .int) (hd : decode cc pc = .ok (.ireturn, 1)) (hc : nc ≤ mc ∧ ns ≤ ms) (hq : Qf (some (.int v)) S) : Zw p l e R s m args below meth c G b nL (MQ below (zQ G b Qf) args s mc ms (fun q : Nat => b ≤ q)) nc ns pc ls [.int v] S :=
  fun H locs la hH hS hL => W.widen hc.1 hc.2 (W.iret X.1 X.2.1 hr (fun t ht hW => ⟨⟨some (.int v), S, rfl, hq, by rw [ht]; exact hH⟩, hS.F ht⟩) hS.2.2 hd X.2.2.2.2.2.2.2.1)
theorem a_zret (X : zOK p s m args meth c G b own cc nL) {mc ms : Nat} {v : Int32} {Qf : Option Value → zS → Prop} (hv : v = 0 ∨ v = 1) (hr : meth.sig.returnType = some .boolean) (hd : decode cc pc = .ok (.ireturn, 1)) (hc : nc ≤ mc ∧ ns ≤ ms) (hq : Qf (some (.int v)) S) : Zw p l e R s m args below meth c G b nL (MQ below (zQ G b Qf) args s mc ms (fun q : Nat => b ≤ q)) nc ns pc ls [.int v] S :=
  fun H locs la hH hS hL => W.widen hc.1 hc.2 (W.zret X.1 X.2.1 hr (by rcases hv with rfl | rfl <;> decide) (fun t ht hW => ⟨⟨some (.int v), S, rfl, hq, by rw [ht]; exact hH⟩, hS.F ht⟩) hS.2.2 hd X.2.2.2.2.2.2.2.1)
theorem a_lret (X : zOK p s m args meth c G b own cc nL) {mc ms : Nat} {v : Int64} {Qf : Option Value → zS → Prop} (hr : meth.sig.returnType = some .long) (hd : decode cc pc = .ok (.lreturn, 1)) (hc : nc ≤ mc ∧ ns ≤ ms) (hq : Qf (some (.long v)) S) : Zw p l e R s m args below meth c G b nL (MQ below (zQ G b Qf) args s mc ms (fun q : Nat => b ≤ q)) nc ns pc ls [.long v] S :=
  fun H locs la hH hS hL => W.widen hc.1 hc.2 (W.lret X.1 X.2.1 hr (fun t ht hW => ⟨⟨some (.long v), S, rfl, hq, by rw [ht]; exact hH⟩, hS.F ht⟩) hS.2.2 hd X.2.2.2.2.2.2.2.1)
theorem a_vret (X : zOK p s m args meth c G b own cc nL) {mc ms : Nat} {Qf : Option Value → zS → Prop} (hr : meth.sig.returnType = none) (hd : decode cc pc = .ok (.return_, 1)) (hc : nc ≤ mc ∧ ns ≤ ms) (hq : Qf none S) : Zw p l e R s m args below meth c G b nL (MQ below (zQ G b Qf) args s mc ms (fun q : Nat => b ≤ q)) nc ns pc ls [] S :=
  fun H locs la hH hS hL => W.widen hc.1 hc.2 (W.vret X.1 X.2.1 hr (fun t ht hW => ⟨⟨none, S, rfl, hq, by rw [ht]; exact hH⟩, hS.F ht⟩) hS.2.2 hd X.2.2.2.2.2.2.2.1)
theorem a_aret (X : zOK p s m args meth c G b own cc nL) {mc ms : Nat} {v : Value} {rt : FieldType} {Qf : Option Value → zS → Prop} (hr : meth.sig.returnType = some rt) (hrt : (∃ n, rt = .object n) ∨ ∃ t, rt = .array t) (hv : v = .null ∨ ∃ a, v = .ref a) (hd : decode cc pc = .ok (.areturn, 1)) (hc : nc ≤ mc ∧ ns ≤ ms) (hq : Qf (some v) S) : Zw p l e R s m args below meth c G b nL (MQ below (zQ G b Qf) args s mc ms (fun q : Nat => b ≤ q)) nc ns pc ls [v] S :=
  fun H locs la hH hS hL => W.widen hc.1 hc.2 (W.aret X.1 X.2.1 hr hrt (by rcases hv with rfl | ⟨a, rfl⟩; exact Or.inl rfl; exact Or.inr ⟨_, rfl⟩) (fun t ht hW => ⟨⟨some v, S, rfl, hq, by rw [ht]; exact hH⟩, hS.F ht⟩) hS.2.2 hd X.2.2.2.2.2.2.2.1)
theorem a_mmax (X : zOK p s m args meth c G b own cc nL) {idx : Nat} {x y : Int32} (hlink : Cond.methodLink own idx Lib.Math.max.name ∈ zT) (hstat : Cond.static Lib.Math.max.name ∈ zT) (hini : Cond.initialized "java/lang/Math" ∈ zT) (hcode : Cond.code Lib.Math.max.name Lib.Math.max.code 2 (some .int) ∈ zT) (hroom : 1 ≤ R.frames ∧ (st.map fun v => v.category).sum + 13 ≤ R.locals ∧ nc ≤ R.cells ∧ ns ≤ R.slots) (hd : decode cc pc = .ok (.invokestatic idx, 3)) (kk : Zw p l e R s m args below meth c G b nL Q nc ns (pc + 3) ls (.int (if x < y then y else x) :: st) S) : Zw p l e R s m args below meth c G b nL Q nc ns pc ls (.int y :: .int x :: st) S :=
  fun H locs la hH hS hL => va_mmax X.1 X.2.1 (by rw [X.2.2.1]; exact hL.1.symm) X.2.2.2.1 (X.2.2.2.2.1 _ hlink) (X.2.2.2.2.1 _ hstat) (X.2.2.2.2.1 _ hini) (X.2.2.2.2.1 _ hcode) hroom.1 (by rw [z_sum]; exact hroom.2.1) hroom.2.2.1 hroom.2.2.2 hd (kk H locs la hH hS hL)
theorem a_mmin (X : zOK p s m args meth c G b own cc nL) {idx : Nat} {x y : Int32} (hlink : Cond.methodLink own idx Lib.Math.min.name ∈ zT) (hstat : Cond.static Lib.Math.min.name ∈ zT) (hini : Cond.initialized "java/lang/Math" ∈ zT) (hcode : Cond.code Lib.Math.min.name Lib.Math.min.code 2 (some .int) ∈ zT) (hroom : 1 ≤ R.frames ∧ (st.map fun v => v.category).sum + 13 ≤ R.locals ∧ nc ≤ R.cells ∧ ns ≤ R.slots) (hd : decode cc pc = .ok (.invokestatic idx, 3)) (kk : Zw p l e R s m args below meth c G b nL Q nc ns (pc + 3) ls (.int (if y < x then y else x) :: st) S) : Zw p l e R s m args below meth c G b nL Q nc ns pc ls (.int y :: .int x :: st) S :=
  fun H locs la hH hS hL => va_mmin X.1 X.2.1 (by rw [X.2.2.1]; exact hL.1.symm) X.2.2.2.1 (X.2.2.2.2.1 _ hlink) (X.2.2.2.2.1 _ hstat) (X.2.2.2.2.1 _ hini) (X.2.2.2.2.1 _ hcode) hroom.1 (by rw [z_sum]; exact hroom.2.1) hroom.2.2.1 hroom.2.2.2 hd (kk H locs la hH hS hL)
theorem a_mmaxl (X : zOK p s m args meth c G b own cc nL) {idx : Nat} {x y : Int64} (hlink : Cond.methodLink own idx Lib.MathLoose.max_long.x ∈ zT) (hstat : Cond.static Lib.MathLoose.max_long.x ∈ zT) (hini : Cond.initialized "java/lang/Math" ∈ zT) (hcode : Cond.code Lib.MathLoose.max_long.x Lib.MathLoose.max_long.code 4 (some .long) ∈ zT) (hroom : 1 ≤ R.frames ∧ (st.map fun v => v.category).sum + 15 ≤ R.locals ∧ nc ≤ R.cells ∧ ns ≤ R.slots) (hd : decode cc pc = .ok (.invokestatic idx, 3)) (kk : Zw p l e R s m args below meth c G b nL Q nc ns (pc + 3) ls (.long (if y < x then x else y) :: st) S) : Zw p l e R s m args below meth c G b nL Q nc ns pc ls (.long y :: .long x :: st) S :=
  fun H locs la hH hS hL => va_mmax_long X.1 X.2.1 (by rw [X.2.2.1]; exact hL.1.symm) X.2.2.2.1 (X.2.2.2.2.1 _ hlink) (X.2.2.2.2.1 _ hstat) (X.2.2.2.2.1 _ hini) (X.2.2.2.2.1 _ hcode) hroom.1 (by rw [z_sum]; exact hroom.2.1) hroom.2.2.1 hroom.2.2.2 hd (kk H locs la hH hS hL)
end ZR
/-- a contract out of the walk of its body -/
theorem zM.of {l : Launch} {G : zG} {b : Nat} {y : MethodName} {cc : ByteArray} {nL : Nat} {ret : Option FieldType} {d mc ms n : Nat} {av : List Value} {S : zS} {Q : Option Value → zS → Prop} (hM : zMi y cc nL ret n) (hfit : (zfl av).length ≤ nL)
    (body : ∀ (p : Program) (e : Env) (s : State) (m : MethodId) (args : Array Value) (below : List Frame) (meth : Method) (c : Code), zOK p s m args meth c G b y.cls cc nL → meth.sig.returnType = ret → meth.name = y.name →
      Zw p l e { frames := d, cells := mc, slots := ms, locals := 80 * d } s m args below meth c G b nL (MQ below (zQ G b Q) args s mc ms (fun q : Nat => b ≤ q)) 0 0 0 (zA nL av) [] S) : zM l G b y cc nL ret d mc ms av S Q := by
  refine Met.ofW (cc := cc) (maxL := nL) (ret := ret) hM.2.2.2.2 rfl ?_
  intro p e s m args below meth c s₁ B hml hv
  obtain ⟨rfl, hH, hK, hE⟩ := hv
  have hts := atoms_spec (ws := .code y cc nL ret :: zT) B.pre
  have X : zOK p s m (av.map (zv b)).toArray meth c G b y.cls cc nL := ⟨B.exec, B.bytes, hml, findClass_of_methodNamed B.named, fun w hw => hts w (List.mem_cons_of_mem _ hw), hK, hE, B.notSynchronized, by have := hH.1; omega⟩
  have hl := lv_entry (av.map (zv b)) (n := nL) (by rw [zfl_sl]; exact hfit)
  rw [lg_entry_eq]
  exact body p e s m _ below meth c X B.returns (name_of_methodNamed B.named B.method).1 s.heap [] _ hH va_S.rf (zA_entry hl)
/-- more room, more to say -/
theorem zM.weaken {l : Launch} {G : zG} {b : Nat} {y : MethodName} {cc : ByteArray} {nL : Nat} {ret : Option FieldType} {d mc ms : Nat} {av : List Value} {S : zS} {Q Q2 : Option Value → zS → Prop} (h : zM l G b y cc nL ret d mc ms av S Q) (hq : ∀ r S', Q r S' → Q2 r S') : zM l G b y cc nL ret d mc ms av S Q2 := by
  intro p e ha hc hk s m args below hf hap hP hK
  obtain ⟨t, o, h1, h2, h3, ⟨⟨r, S', e1, e2, e3⟩, hF⟩, h5⟩ := h p e ha hc hk s m args below hf hap hP hK
  exact ⟨t, o, h1, h2, h3, ⟨⟨r, S', e1, hq _ _ e2, e3⟩, hF⟩, h5⟩
end
section
/-! cells that are made -/
def zn {α : Type} (M : Nat → Nat → α) (n : Nat) (v : α) : Nat → Nat → α := fun a j => if a = n then v else M a j
def zS1 (S : zS) (q : zC) : zS := (S.1 ++ [q], zn S.2.1 S.1.length 0, zn S.2.2 S.1.length 0)
theorem zn_row {α : Type} {M : Nat → Nat → α} {n a : Nat} {v : α} (h : a ≠ n) : zn M n v a = M a := by
  funext j
  exact if_neg h
theorem zW_push {G : zG} {b : Nat} {S : zS} {q : zC} : zW G b (zS1 S q) = zW G b S ++ [(b + S.1.length, zE1 G b (zS1 S q) S.1.length q)] := by
  apply List.ext_getElem?
  intro i
  rcases Nat.lt_trichotomy i S.1.length with hi | hi | hi
  · rw [List.getElem?_append_left (by rw [zW_len]; exact hi)]
    have h1 : (zS1 S q).1[i]? = some S.1[i] := by
      show (S.1 ++ [q])[i]? = _
      rw [List.getElem?_append_left hi, List.getElem?_eq_getElem hi]
    have h2 : S.1[i]? = some S.1[i] := List.getElem?_eq_getElem hi
    rw [zW_get h1, zW_get h2]
    generalize S.1[i] = r
    obtain ⟨r1, r2, r3⟩ := r
    have e1 : (zS1 S q).2.1 i = S.2.1 i := zn_row (by omega)
    have e2 : (zS1 S q).2.2 i = S.2.2 i := zn_row (by omega)
    have hf : zF b (zS1 S q) i = zF b S i := by funext j f; unfold zF; rw [e1, e2]
    unfold zE1
    simp only [e1, e2, hf]
  · subst hi
    have h1 : (zS1 S q).1[S.1.length]? = some q := by
      show (S.1 ++ [q])[S.1.length]? = _
      simp
    rw [zW_get h1, List.getElem?_append_right (by rw [zW_len]; omega), zW_len, Nat.sub_self]
    rfl
  · rw [List.getElem?_eq_none (by rw [zW_len]; show (S.1 ++ [q]).length ≤ i; rw [List.length_append, List.length_singleton]; omega), List.getElem?_eq_none (by rw [List.length_append, List.length_singleton, zW_len]; omega)]
theorem zH_push {G : zG} {b : Nat} {S : zS} {q : zC} {H H1 : Heap} (hH : zH G b S H) (hl : S.1.length + 1 < 1000000) (hz : H1.size = H.size + 1) (ho : ∀ a : Nat, a < H.size → H1[a]? = H[a]?) (he : va_at G.1 vwCl (b + S.1.length, zE1 G b (zS1 S q) S.1.length q) H1) : zH G b (zS1 S q) H1 := by
  refine ⟨?_, ?_, ?_⟩
  · show _ = b + (S.1 ++ [q]).length
    rw [List.length_append, List.length_singleton, hz, hH.1]
    omega
  · show (S.1 ++ [q]).length < _
    rw [List.length_append, List.length_singleton]
    exact hl
  · rw [zW_push]
    refine va_P.app (hH.2.2.kept fun k x hx => ho x.1 ((hH.2.2 k x hx).lt)) (fun k x hx => ?_)
    have hk : k < 1 := (List.getElem?_eq_some_iff.mp hx).1
    rw [show k = 0 by omega] at hx
    cases hx
    exact he
/-- what a new object's field holds -/
def zdv (f : Nat × Nat) : Value := match f.1 with
  | 0 => .int 0
  | 1 => .long 0
  | _ => .null
section ZM
variable {p : Program} {l : Launch} {e : Env} {R : Room} {s : State} {m : MethodId} {args : Array Value} {below : List Frame} {meth : Method} {c : Code} {G : zG} {b : Nat} {Q : State → Prop} {nc ns : Nat}
variable {cc : ByteArray} {pc nL : Nat} {own : String} {ls : List (Option Value)} {st : List Value} {S : zS}
theorem a_new (X : zOK p s m args meth c G b own cc nL) {idx ci N : Nat} {C : String} {T : u_T} {t0 : Nat → FieldType} (fs : List (Nat × Nat)) (hC : zCl ci C T N t0) (hlink : Cond.classLink own idx C ∈ zT) (hinst : Cond.instantiable C N ∈ zT) (hini : Cond.initialized C ∈ zT)
    (hfs : fs.length = N ∧ (∀ f ∈ fs, f.1 ≠ 2) ∧ ∀ j, j < N → defaultValue (t0 j) = zdv (fs.getD j (3, 0))) (hl : S.1.length + 1 < 1000000) (hroom : nc + 1 ≤ R.cells ∧ ns + N ≤ R.slots) (hd : decode cc pc = .ok (.new idx, 3))
    (kk : Zw p l e R s m args below meth c G b nL Q (nc + 1) (ns + N) (pc + 3) ls (.ref S.1.length :: st) (zS1 S (0, ci, fs))) : Zw p l e R s m args below meth c G b nL Q nc ns pc ls st S := by
  intro H locs la hH hS hL
  obtain ⟨hc, hin, hty, hnm⟩ := hC
  have hts := X.2.2.2.2.1
  have hKn := X.2.2.2.2.2.1.1 ci _ hc
  refine W.newcK X.1 X.2.1 X.2.2.2.1 (hts _ hlink) (hts _ hinst) (hts _ hini) rfl hd hroom.1 hroom.2 hKn.2.1 rfl fun H1 kC hkC e1 z1 o1 => ?_
  have hs : (Value.ref H.size :: st.map (zv b)) = (Value.ref S.1.length :: st).map (zv b) := by
    rw [List.map_cons, zv_ref (by omega), hH.1]
  show W p l e R s m args below meth c H1 locs _ _ Q (F0 m (pc + 3) la (Value.ref H.size :: st.map (zv b)))
  rw [hs]
  refine kk H1 locs la (zH_push hH hl z1 o1 ⟨_, hc, ?_⟩) ⟨Nat.le_trans hS.1 (by omega), fun x h1 h2 => (o1 x (Nat.lt_of_lt_of_le h1 hS.1)).trans (hS.2.1 x h1 h2), hS.2.2⟩ hL
  have hb := u_born t0 hts hin hKn hkC e1 hty
  rw [hH.1] at hb
  refine hb.to fun j hj => ?_
  show defaultValue (t0 j) = vp_V (fs.mapIdx (zF b (zS1 S (0, ci, fs)) S.1.length)) j
  rw [hfs.2.2 j hj]
  have hjl : j < fs.length := by rw [hfs.1]; exact hj
  unfold vp_V
  simp only [List.getD_eq_getElem?_getD, List.getElem?_mapIdx, List.getElem?_eq_getElem hjl, Option.map_some, Option.getD_some]
  show zdv fs[j] = zF b (zS1 S (0, ci, fs)) S.1.length j fs[j]
  have h2 := hfs.2.1 fs[j] (List.getElem_mem hjl)
  generalize fs[j] = f at h2
  obtain ⟨f1, f2⟩ := f
  have e1 : (zS1 S (0, ci, fs)).2.1 S.1.length j = 0 := if_pos rfl
  have e2 : (zS1 S (0, ci, fs)).2.2 S.1.length j = 0 := if_pos rfl
  match f1, h2 with
  | 0, _ => show Value.int 0 = Value.int _; rw [e1]
  | 1, _ => show Value.long 0 = Value.long _; rw [e2]
  | 2, h2 => exact absurd rfl h2
  | k + 3, _ => rfl
theorem z_cls {U : State} {cA : ClassId} {ty : FieldType} (h : va_RA U cA ty) (hno : ∀ C, ty ≠ .object C) : U.vm.findClass ("[" ++ ty.toString) = some cA := by
  cases ty with
  | object C => exact absurd rfl (hno C)
  | _ => exact h
theorem a_newarray (X : zOK p s m args meth c G b own cc nL) {at_ : ArrayType} {kd n : Nat} {x : Int32} (hk : (kd = 1 ∧ newarray.typeOf at_ = .int) ∨ (kd = 2 ∧ newarray.typeOf at_ = .boolean) ∨ (kd = 3 ∧ newarray.typeOf at_ = .long)) (hw : Cond.arrayClass (newarray.typeOf at_) ∈ zT) (hx : ¬ x < 0 ∧ x.toNatClampNeg = n ∧ n ≤ 1000) (hl : S.1.length + 1 < 1000000) (hroom : nc + 1 ≤ R.cells ∧ ns + n ≤ R.slots) (hd : decode cc pc = .ok (.newarray at_, 2))
    (kk : Zw p l e R s m args below meth c G b nL Q (nc + 1) (ns + n) (pc + 2) ls (.ref S.1.length :: st) (zS1 S (kd, n, []))) : Zw p l e R s m args below meth c G b nL Q nc ns pc ls (.int x :: st) S := by
  intro H locs la hH hS hL
  have hts := X.2.2.2.2.1
  have hb8 : n * componentBytes (newarray.typeOf at_) ≤ 536870912 := by
    have : componentBytes (newarray.typeOf at_) ≤ 8 := by rcases hk with ⟨-, h⟩ | ⟨-, h⟩ | ⟨-, h⟩ <;> rw [h] <;> decide
    have h2 := Nat.mul_le_mul hx.2.2 this
    omega
  refine va_newaK X.1 X.2.1 (hts _ hw) rfl hd rfl hx.1 hx.2.1 hb8 hroom.1 hroom.2 rfl fun H1 cA e1 z1 o1 hAr hNm => ?_
  have hs : (Value.ref H.size :: st.map (zv b)) = (Value.ref S.1.length :: st).map (zv b) := by
    rw [List.map_cons, zv_ref (by omega), hH.1]
  show W p l e R s m args below meth c H1 locs _ _ Q (F0 m (pc + 2) la (Value.ref H.size :: st.map (zv b)))
  rw [hs]
  refine kk H1 locs la (zH_push hH hl z1 o1 ?_) ⟨Nat.le_trans hS.1 (by omega), fun x h1 h2 => (o1 x (Nat.lt_of_lt_of_le h1 hS.1)).trans (hS.2.1 x h1 h2), hS.2.2⟩ hL
  rw [hH.1] at e1
  have m1 : (zS1 S (kd, n, [])).2.1 S.1.length = fun _ => 0 := by funext j; exact if_pos rfl
  have m2 : (zS1 S (kd, n, [])).2.2 S.1.length = fun _ => 0 := by funext j; exact if_pos rfl
  rcases hk with ⟨rfl, h⟩ | ⟨rfl, h⟩ | ⟨rfl, h⟩
  · rw [h] at hNm e1
    have hc := z_cls (X.2.2.2.2.2.1.2 0 _ rfl).2 (fun C => by intro q; cases q)
    have : cA = G.2 1 := Option.some.inj (hNm.symm.trans hc)
    subst this
    show H1[b + S.1.length]? = some (vp_cell (G.2 1) (n, .inl ((zS1 S (1, n, [])).2.1 S.1.length)))
    rw [m1]
    exact e1
  · rw [h] at hNm e1
    have hc := z_cls (X.2.2.2.2.2.1.2 1 _ rfl).2 (fun C => by intro q; cases q)
    have : cA = G.2 2 := Option.some.inj (hNm.symm.trans hc)
    subst this
    show H1[b + S.1.length]? = some (vp_cell (G.2 2) (n, .inl ((zS1 S (2, n, [])).2.1 S.1.length)))
    rw [m1]
    exact e1
  · rw [h] at hNm e1
    have hc := z_cls (X.2.2.2.2.2.1.2 2 _ rfl).2 (fun C => by intro q; cases q)
    have : cA = G.2 3 := Option.some.inj (hNm.symm.trans hc)
    subst this
    show H1[b + S.1.length]? = some (vp_cell (G.2 3) (n, .inr (.inl ((zS1 S (3, n, [])).2.2 S.1.length))))
    rw [m2]
    exact e1
theorem a_anewarray (X : zOK p s m args meth c G b own cc nL) {idx n : Nat} {x : Int32} (hlink : Cond.classLink own idx RX4 ∈ zT) (hx : ¬ x < 0 ∧ x.toNatClampNeg = n ∧ n ≤ 1000) (hl : S.1.length + 1 < 1000000) (hroom : nc + 1 ≤ R.cells ∧ ns + n ≤ R.slots) (hd : decode cc pc = .ok (.anewarray idx, 3))
    (kk : Zw p l e R s m args below meth c G b nL Q (nc + 1) (ns + n) (pc + 3) ls (.ref S.1.length :: st) (zS1 S (4, n, List.replicate n (3, 0)))) : Zw p l e R s m args below meth c G b nL Q nc ns pc ls (.int x :: st) S := by
  intro H locs la hH hS hL
  have hts := X.2.2.2.2.1
  obtain ⟨hx1, hx2, hx3⟩ := hx
  subst hx2
  refine W.anew X.1 X.2.1 X.2.2.2.1 (hts _ hlink) (va_AO.use X.2.2.2.2.2.2.1.2.1) rfl hd rfl hx1 (by omega) hroom.1 hroom.2 fun cA kA comp f1 f2 f3 f4 => ?_
  generalize hH1 : H.push ({ cls := cA, slots := Array.replicate x.toNatClampNeg .null, vm := .none } : Cell) = H1
  have z1 : H1.size = H.size + 1 := by rw [← hH1, Array.size_push]
  have e1 : H1[H.size]? = some (arrV cA x.toNatClampNeg (fun _ => .null)) := by rw [← hH1, Array.getElem?_push_size, ← arrV_new]
  have o1 : ∀ q : Nat, q < H.size → H1[q]? = H[q]? := fun q hq => by rw [← hH1, Array.getElem?_push, if_neg (Nat.ne_of_lt hq)]
  have hs : (Value.ref H.size :: st.map (zv b)) = (Value.ref S.1.length :: st).map (zv b) := by
    rw [List.map_cons, zv_ref (by omega), hH.1]
  show W p l e R s m args below meth c H1 locs _ _ Q (F0 m (pc + 3) la (Value.ref H.size :: st.map (zv b)))
  rw [hs]
  refine kk H1 locs la (zH_push hH hl z1 o1 ?_) ⟨Nat.le_trans hS.1 (by omega), fun x h1 h2 => (o1 x (Nat.lt_of_lt_of_le h1 hS.1)).trans (hS.2.1 x h1 h2), hS.2.2⟩ hL
  rw [hH.1] at e1
  obtain ⟨kA2, comp2, g1, g2, g3, g4⟩ := (X.2.2.2.2.2.1.2 3 _ rfl).2
  have : cA = G.2 4 := Option.some.inj (f1.symm.trans g4)
  subst this
  show H1[b + S.1.length]? = some (vp_cell (G.2 4) (x.toNatClampNeg, .inr (.inr (.inr (.inr (zrf b (List.replicate x.toNatClampNeg (3, 0))))))))
  rw [e1, vp_cell_q]
  congr 2
  funext i
  unfold zrf
  rw [List.getElem?_replicate]
  split <;> rfl
theorem a_aastore (X : zOK p s m args meth c G b own cc nL) {P n z k : Nat} {fs fz : List (Nat × Nat)} {i : Int32} (hq : S.1[P]? = some (4, n, fs)) (hz : S.1[z]? = some (0, 4, fz)) (hi : ¬ i < 0 ∧ i.toNatClampNeg = k ∧ k < n ∧ fs.length = n) (hd : decode cc pc = .ok (.aastore, 1)) (kk : Zw p l e R s m args below meth c G b nL Q nc ns (pc + 1) ls st (S.1.set P (4, n, fs.set k (2, z)), S.2)) : Zw p l e R s m args below meth c G b nL Q nc ns pc ls (.ref z :: .int i :: .ref P :: st) S := by
  intro H locs la hH hS hL
  have hlt := zH_lt hH hq
  have hzt := zH_lt hH hz
  show W p l e R s m args below meth c H locs nc ns Q (F0 m pc la (zv b (.ref z) :: .int i :: zv b (.ref P) :: st.map (zv b)))
  rw [zv_ref hlt, zv_ref hzt]
  obtain ⟨h0, hi2, hkn, hfl⟩ := hi
  subst hi2
  have hK := X.2.2.2.2.2.1
  obtain ⟨r', hr', cellV, g1, g2, g3, -⟩ := hH.2.2 z _ (zW_get hz)
  have hcls := (hK.1 4 _ rfl).2
  obtain ⟨kA, comp, k1, k2, k3, -⟩ := (hK.2 3 _ rfl).2
  have hcomp : comp = G.1.1 4 := Option.some.inj (k3.symm.trans hcls.1)
  subst hcomp
  obtain ⟨kC, hkC, -⟩ := hcls.2
  refine W.aast X.1 X.2.1 (hH.2.2 P _ (zW_get hq)) (fun q h => by cases h) (fun h => by cases h) k1 k2 rfl hkC ⟨h0, by show _ < (arrV _ _ _).slots.size; rw [arrV_size]; exact hkn⟩ g1 (fun q h => by rw [g3] at h; cases h) (by rw [g2]; exact hkC) (by rw [g2]; exact va_assign hcls) rfl rfl hd fun H1 e1 z1 oq => ?_
  refine kk H1 _ la (zH_set (S' := (S.1.set P (4, n, fs.set i.toNatClampNeg (2, z)), S.2)) hH z1 (hH.2.2.set (zD G b S) (zW_get hq) (e := .inl (G.2 4, n, .inr (.inr (.inr (.inr (zrf b (fs.set i.toNatClampNeg (2, z)))))))) ?_ oq) hq rfl (fun a ha => ⟨rfl, rfl⟩) rfl) (hS.put z1 oq (Nat.le_add_right b P)) hL
  show H1[b + P]? = some (vp_cell _ _)
  rw [e1]
  show some ((arrV (G.2 4) n (fun j => va_rf (zrf b fs j))).setSlot i.toNatClampNeg (.ref (b + z))) = some (vp_cell _ _)
  rw [vp_cell_q, arrV_store]
  congr 2
  funext q
  by_cases hq2 : q = i.toNatClampNeg
  · subst hq2
    have : zrf b (fs.set i.toNatClampNeg (2, z)) i.toNatClampNeg = some (b + z) := by
      unfold zrf
      rw [List.getElem?_set_self (by rw [hfl]; exact hkn)]
      rfl
    rw [this]
    simp [updV, va_rf]
  · have : zrf b (fs.set i.toNatClampNeg (2, z)) q = zrf b fs q := by
      unfold zrf
      rw [List.getElem?_set_ne (Ne.symm hq2)]
    rw [this]
    simp [updV, hq2]
theorem a_putr (X : zOK p s m args meth c G b own cc nL) {idx ci k P z : Nat} {ty : FieldType} {fs : List (Nat × Nat)} (hname : meth.name = "<init>") (hz : z < 1000000) (hf : zFf own idx ci k ty) (hty2 : ∀ a, narrow ty (.ref a) = .ref a ∧ fits ty (.ref a) = true) (hq : S.1[P]? = some (0, ci, fs)) (hk : k < fs.length) (hd : decode cc pc = .ok (.putfield idx, 3)) (kk : Zw p l e R s m args below meth c G b nL Q nc ns (pc + 3) ls st (S.1.set P (0, ci, fs.set k (2, z)), S.2)) : Zw p l e R s m args below meth c G b nL Q nc ns pc ls (.ref z :: .ref P :: st) S := by
  intro H locs la hH hS hL
  obtain ⟨T, N, t0, ⟨hc, hin, hty, hnm⟩, hkN, hlink, ht0, hfin, hC⟩ := hf
  have hlt := zH_lt hH hq
  show W p l e R s m args below meth c H locs nc ns Q (F0 m pc la (zv b (.ref z) :: zv b (.ref P) :: st.map (zv b)))
  rw [zv_ref hlt, zv_ref hz]
  have hK := X.2.2.2.2.2.1
  have hts := X.2.2.2.2.1
  have hap := va_apart (own := own) hts hin t0 hty hnm hK hc
  obtain ⟨r, h1, cell, q1, q2, q3, q4⟩ := hH.2.2 P _ (zW_get hq)
  have hr : r = (own, T, N) := Option.some.inj (h1.symm.trans hc)
  subst hr
  obtain ⟨hSl, hfc, kC, hkC, hkind⟩ := hK.1 ci _ hc
  obtain ⟨cf, kf, fi, f, hi, hsl⟩ := hSl k hkN
  have hlay := hts _ (hin _ (u_in_lay hkN))
  unfold u_lay at hlay
  rw [if_pos hfin] at hlay
  have hst := (u_facts hfc hkC (u_lays hts hin hkN) hi).1
  have hcf : m.cls = cf := by
    obtain ⟨_, _, c', _, _, _, -, -, hf', -, -, -, hown2, -⟩ := Cond.laysFinal_spec hlay
    have e1 : c' = cf := by have := hi.symm.trans hf'; simp at this; exact this.1.symm
    rw [hC] at hown2
    rw [← e1]
    exact Option.some.inj (X.2.2.2.1.symm.trans hown2)
  have h6 := u_fits hfc hkC hkind (Or.inr hlay) hi (hty k hkN) (by rw [ht0]; exact (hty2 (b + z)).1) (by rw [ht0]; exact (hty2 (b + z)).2)
  refine W.putFinK X.1 X.2.1 X.2.2.2.1 (hts _ hlink) hi hst hcf hname (by rw [q2]; exact h6) q1 q3 (by rw [hsl]; exact k2_hasslot (q4 k hkN)) rfl rfl hd fun H' e1 e2 e3 => ?_
  rw [hsl] at e1 ⊢
  refine kk H' _ la (zH_set (S' := (S.1.set P (0, ci, fs.set k (2, z)), S.2)) hH e2 (hH.2.2.set (zD G b S) (zW_get hq) (e := .inr (ci, (fs.mapIdx (zF b S P)).set k (.ref (b + z)))) ⟨_, hc, t_OB.to (V := updV (vp_V (fs.mapIdx (zF b S P))) k (.ref (b + z))) ⟨_, e1, q2, q3, t_set q4 hap hkN (.ref (b + z))⟩ (fun j _ => vp_updV_set (by rw [List.length_mapIdx]; exact hk) (.ref (b + z)) j)⟩ e3) hq rfl (fun a ha => ⟨rfl, rfl⟩) ?_) (hS.put e2 e3 (Nat.le_add_right b P)) hL
  show Sum.inr (ci, (fs.set k (2, z)).mapIdx (zF b _ P)) = Sum.inr (ci, _)
  refine congrArg (fun x => Sum.inr (ci, x)) (zmap_set (g := zF b S P) (k := k) (v := .ref (b + z)) (fs := fs) List.length_set (fun f h => ?_) (fun j hj => ⟨List.getElem?_set_ne (Ne.symm hj), fun f => rfl⟩))
  rw [List.getElem?_set_self hk] at h
  cases h
  rfl
end ZM
section ZO
variable {p : Program} {l : Launch} {e : Env} {R : Room} {s : State} {m : MethodId} {args : Array Value} {below : List Frame} {meth : Method} {c : Code} {G : zG} {b : Nat} {Q : State → Prop} {nc ns : Nat}
variable {cc : ByteArray} {pc nL : Nat} {own : String} {ls : List (Option Value)} {st : List Value} {S : zS}
theorem a_objinit (X : zOK p s m args meth c G b own cc nL) {idx P : Nat} (hlink : Cond.methodLink own idx Lib.objectInit ∈ zT) (hroom : 1 ≤ R.frames ∧ (st.map fun v => v.category).sum + 12 ≤ R.locals) (hd : decode cc pc = .ok (.invokespecial idx, 3)) (kk : Zw p l e R s m args below meth c G b nL Q nc ns (pc + 3) ls st S) : Zw p l e R s m args below meth c G b nL Q nc ns pc ls (.ref P :: st) S :=
  fun H locs la hH hS hL => W.objInit X.1 X.2.1 X.2.2.2.1 (X.2.2.2.2.1 _ hlink) (X.2.2.2.2.1 _ zobj1) (X.2.2.2.2.1 _ zobj2) (g := F0 m pc la ((Value.ref P :: st).map (zv b))) rfl (hL.1.trans X.2.2.1.symm) rfl hd hroom.1 (by rw [z_sum]; show 2 * 0 + _ + 12 ≤ _; omega) (kk H locs la hH hS hL)
/-- the same state, told otherwise -/
theorem Zw.to {ls' : List (Option Value)} {S' : zS} (h : Zw p l e R s m args below meth c G b nL Q nc ns pc ls' st S') (hl : ls' = ls) (hS : S' = S) : Zw p l e R s m args below meth c G b nL Q nc ns pc ls st S := by
  subst hl
  subst hS
  exact h
theorem Zw.to2 {ls' : List (Option Value)} {st' : List Value} {S' : zS} (h : Zw p l e R s m args below meth c G b nL Q nc ns pc ls' st' S') (hl : ls' = ls) (hst : st' = st) (hS : S' = S) : Zw p l e R s m args below meth c G b nL Q nc ns pc ls st S := by
  subst hl
  subst hst
  subst hS
  exact h
end ZO
section ZLS
variable {p : Program} {l : Launch} {e : Env} {R : Room} {s : State} {m : MethodId} {args : Array Value} {below : List Frame} {meth : Method} {c : Code} {G : zG} {b : Nat} {Q : State → Prop} {nc ns : Nat}
variable {cc : ByteArray} {pc nL : Nat} {own : String} {ls : List (Option Value)} {st : List Value} {S : zS}
theorem a_lsw2 (X : zOK p s m args meth c G b own cc nL) {dflt : Int} {ps : Array (Int × Int)} {len : Nat} {x : Int32} {k1 o1 k2 o2 : Int} {t1 t2 td : Nat} (hd : decode cc pc = .ok (.lookupswitch dflt ps, len)) (hps : ps.toList = [(k1, o1), (k2, o2)]) (hk : k1 < k2) (h1 : (pc : Int) + o1 = (t1 : Int)) (h2 : (pc : Int) + o2 = (t2 : Int)) (hdf : (pc : Int) + dflt = (td : Int))
    (kk1 : x.toInt = k1 → Zw p l e R s m args below meth c G b nL Q nc ns t1 ls st S) (kk2 : ¬ x.toInt = k1 → x.toInt = k2 → Zw p l e R s m args below meth c G b nL Q nc ns t2 ls st S) (kk3 : ¬ x.toInt = k1 → ¬ x.toInt = k2 → Zw p l e R s m args below meth c G b nL Q nc ns td ls st S) : Zw p l e R s m args below meth c G b nL Q nc ns pc ls (.int x :: st) S := by
  intro H locs la hH hS hL
  have hp : (ps.toList.zip (ps.toList.drop 1)).all (fun (a, next) => a.1 < next.1) = true := by rw [hps]; simpa using hk
  by_cases e1 : x.toInt = k1
  · exact lv_lookup X.1 X.2.1 hd hp (off := o1) (by rw [hps, Op.lookupswitch.offset_cons, if_pos e1.symm]) h1 (kk1 e1 H locs la hH hS hL)
  · by_cases e2 : x.toInt = k2
    · exact lv_lookup X.1 X.2.1 hd hp (off := o2) (by rw [hps, Op.lookupswitch.offset_cons, if_neg (fun q => e1 q.symm), Op.lookupswitch.offset_cons, if_pos e2.symm]) h2 (kk2 e1 e2 H locs la hH hS hL)
    · exact lv_lookup X.1 X.2.1 hd hp (off := dflt) (by rw [hps, Op.lookupswitch.offset_cons, if_neg (fun q => e1 q.symm), Op.lookupswitch.offset_cons, if_neg (fun q => e2 q.symm)]; rfl) hdf (kk3 e1 e2 H locs la hH hS hL)
end ZLS
/-! pure words for the helpers -/
def zrd {α : Type} (o : α) (f : Nat → α) (n : Nat) (i : Int32) : α := if i < 0 ∨ n ≤ i.toNatClampNeg then o else f i.toNatClampNeg
def zwr {α : Type} (M : Nat → Nat → α) (P n : Nat) (i : Int32) (x : α) : Nat → Nat → α := if i < 0 ∨ n ≤ i.toNatClampNeg then M else zu M P i.toNatClampNeg x
theorem z_ge {n : Nat} {i : Int32} (hn : n < 2 ^ 31) (h0 : ¬ i < 0) : Int32.ofNat n ≤ i ↔ n ≤ i.toNatClampNeg := by
  have h1 : (Int32.ofNat n).toInt = n := nI_toInt hn
  have hc : i.toNatClampNeg = i.toInt.toNat := rfl
  have h00 : (0 : Int32).toInt = 0 := by decide
  rw [Int32.lt_iff_toInt_lt] at h0
  rw [Int32.le_iff_toInt_le, h1, hc]
  omega
theorem z_in {n : Nat} {i : Int32} (hn : n < 2 ^ 31) (h0 : ¬ i < 0) (h1 : ¬ Int32.ofNat n ≤ i) : vp_in i n := fun h => h.elim h0 (fun q => h1 ((z_ge hn h0).mpr q))
theorem zrd_a {α : Type} {o : α} {f : Nat → α} {n : Nat} {i : Int32} (h : i < 0) : zrd o f n i = o := if_pos (Or.inl h)
theorem zrd_b {α : Type} {o : α} {f : Nat → α} {n : Nat} {i : Int32} (hn : n < 2 ^ 31) (h0 : ¬ i < 0) (h1 : Int32.ofNat n ≤ i) : zrd o f n i = o := if_pos (Or.inr ((z_ge hn h0).mp h1))
theorem zrd_c {α : Type} {o : α} {f : Nat → α} {n : Nat} {i : Int32} (hn : n < 2 ^ 31) (h0 : ¬ i < 0) (h1 : ¬ Int32.ofNat n ≤ i) : zrd o f n i = f i.toNatClampNeg := if_neg (z_in hn h0 h1)
theorem zwr_a {α : Type} {M : Nat → Nat → α} {P n : Nat} {i : Int32} {x : α} (h : i < 0) : zwr M P n i x = M := if_pos (Or.inl h)
theorem zwr_b {α : Type} {M : Nat → Nat → α} {P n : Nat} {i : Int32} {x : α} (hn : n < 2 ^ 31) (h0 : ¬ i < 0) (h1 : Int32.ofNat n ≤ i) : zwr M P n i x = M := if_pos (Or.inr ((z_ge hn h0).mp h1))
theorem zwr_c {α : Type} {M : Nat → Nat → α} {P n : Nat} {i : Int32} {x : α} (hn : n < 2 ^ 31) (h0 : ¬ i < 0) (h1 : ¬ Int32.ofNat n ≤ i) : zwr M P n i x = zu M P i.toNatClampNeg x := if_neg (z_in hn h0 h1)
/-- row P filled with v up to n -/
def zfil {α : Type} (M : Nat → Nat → α) (P n : Nat) (v : α) : Nat → Nat → α := fun a j => if a = P ∧ j < n then v else M a j
theorem zfil_0 {α : Type} {M : Nat → Nat → α} {P : Nat} {v : α} : zfil M P 0 v = M := by
  funext a j
  exact if_neg (fun h => by omega)
theorem zfil_s {α : Type} {M : Nat → Nat → α} {P n : Nat} {v : α} : zu (zfil M P n v) P n v = zfil M P (n + 1) v := by
  funext a j
  unfold zu zfil
  by_cases h : a = P
  · subst h
    by_cases h2 : j = n
    · subst h2
      rw [if_pos ⟨rfl, rfl⟩, if_pos ⟨rfl, Nat.lt_succ_self _⟩]
    · rw [if_neg (fun q => h2 q.2)]
      by_cases h3 : j < n
      · rw [if_pos ⟨rfl, h3⟩, if_pos ⟨rfl, by omega⟩]
      · rw [if_neg (fun q => h3 q.2), if_neg (fun q => by omega)]
  · rw [if_neg (fun q => h q.1), if_neg (fun q => h q.1), if_neg (fun q => h q.1)]
/-- row P takes g up to n -/
def zcpy {α : Type} (M : Nat → Nat → α) (P n : Nat) (g : Nat → α) : Nat → Nat → α := fun a j => if a = P ∧ j < n then g j else M a j
theorem zcpy_0 {α : Type} {M : Nat → Nat → α} {P : Nat} {g : Nat → α} : zcpy M P 0 g = M := by
  funext a j
  exact if_neg (fun h => by omega)
theorem zcpy_s {α : Type} {M : Nat → Nat → α} {P n : Nat} {g : Nat → α} : zu (zcpy M P n g) P n (g n) = zcpy M P (n + 1) g := by
  funext a j
  unfold zu zcpy
  by_cases h : a = P
  · subst h
    by_cases h2 : j = n
    · subst h2
      rw [if_pos ⟨rfl, rfl⟩, if_pos ⟨rfl, Nat.lt_succ_self _⟩]
    · rw [if_neg (fun q => h2 q.2)]
      by_cases h3 : j < n
      · rw [if_pos ⟨rfl, h3⟩, if_pos ⟨rfl, by omega⟩]
      · rw [if_neg (fun q => h3 q.2), if_neg (fun q => by omega)]
  · rw [if_neg (fun q => h q.1), if_neg (fun q => h q.1), if_neg (fun q => h q.1)]
end
section
/-! String constants, and what the JDK says of them -/
section ZSR
variable {p : Program} {l : Launch} {e : Env} {R : Room} {s : State} {m : MethodId} {args : Array Value} {below : List Frame} {meth : Method} {c : Code} {G : zG} {b : Nat} {Q : State → Prop} {nc ns : Nat}
variable {cc : ByteArray} {pc nL idx i : Nat} {own : String} {ls : List (Option Value)} {st : List Value} {S : zS}

theorem a_ldcS (X : zOK p s m args meth c G b own cc nL) {q : String × Nat × String} (hi : zLit[i]? = some q) (hown : q.1 = own) (hidx : q.2.1 = idx) (hd : decode cc pc = .ok (.ldc idx, 2)) (kk : Zw p l e R s m args below meth c G b nL Q nc ns (pc + 2) ls (.ref (1000000 + zKa G i) :: st) S) : Zw p l e R s m args below meth c G b nL Q nc ns (pc) ls (st) S := by
  intro H locs la hH hS hL
  have k := kk H locs la hH hS hL
  subst hown
  subst hidx
  rw [List.map_cons, zv_far] at k
  exact va_ldcS X.1 X.2.1 X.2.2.2.1 (X.2.2.2.2.2.2.1.2.2.2.1 i q hi) hd k
theorem a_sval (X : zOK p s m args meth c G b own cc nL) (hi : i < zLit.length) (hw : Cond.fieldLink own idx "java/lang/String" "value" "[B" ∈ zT) (hd : decode cc pc = .ok (.getfield idx, 3)) (kk : Zw p l e R s m args below meth c G b nL Q nc ns (pc + 3) ls (.ref (1000000 + zVa G i) :: st) S) : Zw p l e R s m args below meth c G b nL Q nc ns (pc) ls (.ref (1000000 + zKa G i) :: st) S := by
  intro H locs la hH hS hL
  have k := kk H locs la hH hS hL
  rw [List.map_cons, zv_far] at k ⊢
  exact vk_getf X.1 X.2.1 (X.2.2.2.2.2.2.1.2.2.1.1 i hi).2.2.1 hS X.2.2.2.1 (X.2.2.2.2.1 _ hw) (fun _ h => h) hd k
theorem a_scod (X : zOK p s m args meth c G b own cc nL) (hi : i < zLit.length) (hw : Cond.fieldLink own idx "java/lang/String" "coder" "B" ∈ zT) (hd : decode cc pc = .ok (.getfield idx, 3)) (kk : Zw p l e R s m args below meth c G b nL Q nc ns (pc + 3) ls (.int 0 :: st) S) : Zw p l e R s m args below meth c G b nL Q nc ns (pc) ls (.ref (1000000 + zKa G i) :: st) S := by
  intro H locs la hH hS hL
  have k := kk H locs la hH hS hL
  rw [List.map_cons, zv_far]
  exact vk_getf X.1 X.2.1 (X.2.2.2.2.2.2.1.2.2.1.1 i hi).2.1 hS X.2.2.2.1 (X.2.2.2.2.1 _ hw) (fun _ h => h) hd k
theorem a_sblen (X : zOK p s m args meth c G b own cc nL) (hi : i < zLit.length) (hd : decode cc pc = .ok (.arraylength, 1)) (kk : Zw p l e R s m args below meth c G b nL Q nc ns (pc + 1) ls (.int (Int32.ofNat (zLen.getD i 0)) :: st) S) : Zw p l e R s m args below meth c G b nL Q nc ns (pc) ls (.ref (1000000 + zVa G i) :: st) S := by
  intro H locs la hH hS hL
  have k := kk H locs la hH hS hL
  rw [List.map_cons, zv_far]
  exact va_tlen X.1 X.2.1 (X.2.2.2.2.2.2.1.2.2.1.1 i hi).2.2.2 hS rfl hd k
theorem a_sbld (X : zOK p s m args meth c G b own cc nL) (hi : i < zLit.length) {j : Int32} (hin : vp_in j (zLen.getD i 0)) (hd : decode cc pc = .ok (.baload, 1)) (kk : Zw p l e R s m args below meth c G b nL Q nc ns (pc + 1) ls (.int ((zByt.getD i []).getD j.toNatClampNeg 0) :: st) S) : Zw p l e R s m args below meth c G b nL Q nc ns (pc) ls (.int j :: .ref (1000000 + zVa G i) :: st) S := by
  intro H locs la hH hS hL
  have k := kk H locs la hH hS hL
  rw [List.map_cons, List.map_cons, zv_far]
  exact va_tb X.1 X.2.1 (X.2.2.2.2.2.2.1.2.2.1.1 i hi).2.2.2 hS hin rfl hd k
theorem a_scmp (X : zOK p s m args meth c G b own cc nL) (hw : Cond.fieldLink own idx "java/lang/String" "COMPACT_STRINGS" "Z" ∈ zT) (hd : decode cc pc = .ok (.getstatic idx, 3)) (kk : Zw p l e R s m args below meth c G b nL Q nc ns (pc + 3) ls (.int 1 :: st) S) : Zw p l e R s m args below meth c G b nL Q nc ns (pc) ls (st) S := by
  intro H locs la hH hS hL
  have k := kk H locs la hH hS hL
  exact va_gets X.1 X.2.1 X.2.2.2.2.2.2.1.2.2.2.2.1 hS X.2.2.2.1 (X.2.2.2.2.1 _ hw) (fun _ h => h) hd k
theorem a_sfmt (X : zOK p s m args meth c G b own cc nL) (hw : Cond.fieldLink own idx "jdk/internal/util/Preconditions" "SIOOBE_FORMATTER" "Ljava/util/function/BiFunction;" ∈ zT) (hd : decode cc pc = .ok (.getstatic idx, 3)) (kk : ∀ v : Value, (v = .null ∨ ∃ t, v = .ref t) → Zw p l e R s m args below meth c G b nL Q nc ns (pc + 3) ls (v :: st) S) : Zw p l e R s m args below meth c G b nL Q nc ns (pc) ls (st) S := by
  intro H locs la hH hS hL
  rcases X.2.2.2.2.2.2.1.2.2.2.2.2 with h | ⟨t, h⟩
  · exact va_gets X.1 X.2.1 h hS X.2.2.2.1 (X.2.2.2.2.1 _ hw) (fun _ h => h) hd (kk .null (Or.inl rfl) H locs la hH hS hL)
  · have k := kk (.ref (1000000 + t)) (Or.inr ⟨_, rfl⟩) H locs la hH hS hL
    rw [List.map_cons, zv_far] at k
    exact va_gets X.1 X.2.1 h hS X.2.2.2.1 (X.2.2.2.2.1 _ hw) (fun _ h => h) hd k
theorem a_i2c (X : zOK p s m args meth c G b own cc nL) {x : Int32} (hd : decode cc pc = .ok (.i2c, 1)) (kk : Zw p l e R s m args below meth c G b nL Q nc ns (pc + 1) ls (.int (x.toUInt32 % 65536).toInt32 :: st) S) : Zw p l e R s m args below meth c G b nL Q nc ns (pc) ls (.int x :: st) S :=
  fun H locs la hH hS hL => lv_i2c X.1 X.2.1 hd rfl (kk H locs la hH hS hL)
theorem a_nret (X : zOK p s m args meth c G b own cc nL) {mc ms : Nat} {v : Int32} {ty : FieldType} {Qf : Option Value → zS → Prop} (hn : narrow ty (.int v) = .int v) (hr : meth.sig.returnType = some ty) (hd : decode cc pc = .ok (.ireturn, 1)) (hc : nc ≤ mc ∧ ns ≤ ms) (hq : Qf (some (.int v)) S) : Zw p l e R s m args below meth c G b nL (MQ below (zQ G b Qf) args s mc ms (fun q : Nat => b ≤ q)) nc ns pc ls [.int v] S :=
  fun H locs la hH hS hL => W.widen hc.1 hc.2 (W.zret X.1 X.2.1 hr hn (fun t ht hW => ⟨⟨some (.int v), S, rfl, hq, by rw [ht]; exact hH⟩, hS.F ht⟩) hS.2.2 hd X.2.2.2.2.2.2.2.1)
end ZSR
theorem c_coder {l : Launch} {G : zG} {b : Nat} {S : zS} {i : Nat} (hi : i < zLit.length) : zM l G b yJ0_coder_7d493 cJ0_coder_7d493 1 (some .byte) 0 0 0 [.ref (1000000 + zKa G i)] S (fun r z => r = some (.int 0) ∧ z = S) := by
  refine zM.of miJ0_coder_7d493 (Nat.le_of_ble_eq_true rfl) ?_
  intro p e s m args below meth c X hr hname
  refine a_scmp X lfJ0_38 dJ0_coder_7d493_0 ?_
  refine a_if_eq (tgt := 13) X dJ0_coder_7d493_3 (by decide) (fun h => absurd h (by decide)) (fun _ => ?_)
  refine a_aload_n X dJ0_coder_7d493_6 rfl ?_
  refine a_scod X hi lfJ0_15 dJ0_coder_7d493_7 ?_
  refine a_goto (tgt := 14) X dJ0_coder_7d493_10 (by decide) ?_
  exact a_nret X (by decide) hr dJ0_coder_7d493_14 ⟨by decide, by decide⟩ ⟨rfl, rfl⟩
theorem c_isLatin1 {l : Launch} {G : zG} {b : Nat} {S : zS} {i : Nat} (hi : i < zLit.length) : zM l G b yJ0_isLatin1_aae02 cJ0_isLatin1_aae02 1 (some .boolean) 0 0 0 [.ref (1000000 + zKa G i)] S (fun r z => r = some (.int 1) ∧ z = S) := by
  refine zM.of miJ0_isLatin1_aae02 (Nat.le_of_ble_eq_true rfl) ?_
  intro p e s m args below meth c X hr hname
  refine a_scmp X lfJ0_38 dJ0_isLatin1_aae02_0 ?_
  refine a_if_eq (tgt := 17) X dJ0_isLatin1_aae02_3 (by decide) (fun h => absurd h (by decide)) (fun _ => ?_)
  refine a_aload_n X dJ0_isLatin1_aae02_6 rfl ?_
  refine a_scod X hi lfJ0_15 dJ0_isLatin1_aae02_7 ?_
  refine a_if_ne (tgt := 17) X dJ0_isLatin1_aae02_10 (by decide) (fun h => absurd rfl h) (fun _ => ?_)
  refine a_iconst (v := 1) X dJ0_isLatin1_aae02_13 (by decide) ?_
  refine a_goto (tgt := 18) X dJ0_isLatin1_aae02_14 (by decide) ?_
  exact a_nret X (by decide) hr dJ0_isLatin1_aae02_18 ⟨by decide, by decide⟩ ⟨rfl, rfl⟩
theorem zLen_sh (i : Nat) : Int32.ofNat (zLen.getD i 0) >>> ((0 : Int32) &&& 31) = Int32.ofNat (zLen.getD i 0) := by
  rw [show ((0 : Int32) &&& 31) = 0 by decide]
  simp
theorem c_length {l : Launch} {G : zG} {b : Nat} {S : zS} {i : Nat} (hi : i < zLit.length) : zM l G b yJ0_length_8abf5 cJ0_length_8abf5 1 (some .int) 1 0 0 [.ref (1000000 + zKa G i)] S (fun r z => r = some (.int (Int32.ofNat (zLen.getD i 0))) ∧ z = S) := by
  refine zM.of miJ0_length_8abf5 (Nat.le_of_ble_eq_true rfl) ?_
  intro p e s m args below meth c X hr hname
  refine a_aload_n X dJ0_length_8abf5_0 rfl ?_
  refine a_sval X hi lfJ0_9 dJ0_length_8abf5_1 ?_
  refine a_sblen X hi dJ0_length_8abf5_4 ?_
  refine a_aload_n X dJ0_length_8abf5_5 rfl ?_
  refine a_invVs X miJ0_coder_7d493 lmJ0_335 hi rfl rfl rfl (Nat.le_of_ble_eq_true rfl) ⟨by decide, by decide, by decide, by decide⟩ dJ0_length_8abf5_6 (c_coder hi) (fun r z q => ?_)
  obtain ⟨rfl, rfl⟩ := q
  refine a_ishr X dJ0_length_8abf5_9 ?_
  exact a_iret X hr dJ0_length_8abf5_10 ⟨by decide, by decide⟩ ⟨by rw [zLen_sh], rfl⟩
theorem c_preCheck {l : Launch} {G : zG} {b : Nat} {S : zS} {k n : Int32} {v : Value} (h1 : ¬ k < 0) (h2 : k < n) (hv : v = .null ∨ ∃ t, v = .ref t) : zM l G b yJ3_checkIndex_8e157 cJ3_checkIndex_8e157 3 (some .int) 0 0 0 [.int k, .int n, v] S (fun r z => r = some (.int k) ∧ z = S) := by
  rcases hv with rfl | ⟨t, rfl⟩
  · refine zM.of miJ3_checkIndex_8e157 (Nat.le_of_ble_eq_true rfl) ?_
    intro p e s m args below meth c X hr hname
    refine a_iload_n X dJ3_checkIndex_8e157_0 rfl ?_
    refine a_if_lt (tgt := 9) X dJ3_checkIndex_8e157_1 (by decide) (fun h => absurd h h1) (fun _ => ?_)
    refine a_iload_n X dJ3_checkIndex_8e157_4 rfl ?_
    refine a_iload_n X dJ3_checkIndex_8e157_5 rfl ?_
    refine a_icmp_lt (tgt := 16) X dJ3_checkIndex_8e157_6 (by decide) (fun _ => ?_) (fun h => absurd h2 h)
    refine a_iload_n X dJ3_checkIndex_8e157_16 rfl ?_
    exact a_iret X hr dJ3_checkIndex_8e157_17 ⟨by decide, by decide⟩ ⟨rfl, rfl⟩
  · refine zM.of miJ3_checkIndex_8e157 (Nat.le_of_ble_eq_true rfl) ?_
    intro p e s m args below meth c X hr hname
    refine a_iload_n X dJ3_checkIndex_8e157_0 rfl ?_
    refine a_if_lt (tgt := 9) X dJ3_checkIndex_8e157_1 (by decide) (fun h => absurd h h1) (fun _ => ?_)
    refine a_iload_n X dJ3_checkIndex_8e157_4 rfl ?_
    refine a_iload_n X dJ3_checkIndex_8e157_5 rfl ?_
    refine a_icmp_lt (tgt := 16) X dJ3_checkIndex_8e157_6 (by decide) (fun _ => ?_) (fun h => absurd h2 h)
    refine a_iload_n X dJ3_checkIndex_8e157_16 rfl ?_
    exact a_iret X hr dJ3_checkIndex_8e157_17 ⟨by decide, by decide⟩ ⟨rfl, rfl⟩
theorem c_checkIndex {l : Launch} {G : zG} {b : Nat} {S : zS} {k n : Int32} (h1 : ¬ k < 0) (h2 : k < n) : zM l G b yJ0_checkIndex_df160 cJ0_checkIndex_df160 2 none 1 0 0 [.int k, .int n] S (fun r z => r = none ∧ z = S) := by
  refine zM.of miJ0_checkIndex_df160 (Nat.le_of_ble_eq_true rfl) ?_
  intro p e s m args below meth c X hr hname
  refine a_iload_n X dJ0_checkIndex_df160_0 rfl ?_
  refine a_iload_n X dJ0_checkIndex_df160_1 rfl ?_
  refine a_sfmt X lfJ0_1053 dJ0_checkIndex_df160_2 (fun v hv => ?_)
  refine a_callSv X dJ0_checkIndex_df160_5 miJ3_checkIndex_8e157 lmJ0_1059 (c_preCheck h1 h2 hv) rfl rfl (Nat.le_of_ble_eq_true rfl) ⟨by decide, by decide, by decide, by decide⟩ ?_
  refine a_pop X dJ0_checkIndex_df160_8 rfl ?_
  exact a_vret X hr dJ0_checkIndex_df160_9 ⟨by decide, by decide⟩ ⟨rfl, rfl⟩
def zCh (i j : Nat) : Int32 := (zByt.getD i []).getD j 0
theorem zCh_ok : ∀ i, i < zLit.length → zLen.getD i 0 < 1000 ∧ ∀ j, j < zLen.getD i 0 → ((zCh i j &&& 255).toUInt32 % 65536).toInt32 = zCh i j ∧ narrow .char (.int (zCh i j)) = .int (zCh i j) := by decide +kernel
theorem c_charAt1 {l : Launch} {G : zG} {b : Nat} {S : zS} {i j : Nat} (hi : i < zLit.length) (hj : j < zLen.getD i 0) : zM l G b yJ1_charAt_3b067 cJ1_charAt_3b067 2 (some .char) 2 0 0 [.ref (1000000 + zVa G i), .int (nI j)] S (fun r z => r = some (.int (zCh i j)) ∧ z = S) := by
  refine zM.of miJ1_charAt_3b067 (Nat.le_of_ble_eq_true rfl) ?_
  intro p e s m args below meth c X hr hname
  obtain ⟨hL, hC⟩ := zCh_ok i hi
  obtain ⟨e1, e2⟩ := hC j hj
  refine a_iload_n X dJ1_charAt_3b067_0 rfl ?_
  refine a_aload_n X dJ1_charAt_3b067_1 rfl ?_
  refine a_sblen X hi dJ1_charAt_3b067_2 ?_
  refine a_callSu X dJ1_charAt_3b067_3 miJ0_checkIndex_df160 lmJ1_9 (c_checkIndex (nI_pos (by omega)) ((nI_ltI (by omega) (by omega)).mpr hj)) rfl rfl (Nat.le_of_ble_eq_true rfl) ⟨by decide, by decide, by decide, by decide⟩ ?_
  refine a_aload_n X dJ1_charAt_3b067_6 rfl ?_
  refine a_iload_n X dJ1_charAt_3b067_7 rfl ?_
  refine a_sbld X hi (vp_in_nI hj (by omega)) dJ1_charAt_3b067_8 ?_
  refine a_sipush (v := 255) X dJ1_charAt_3b067_9 (by decide) ?_
  refine a_iand X dJ1_charAt_3b067_12 ?_
  refine a_i2c X dJ1_charAt_3b067_13 ?_
  rw [nI_clamp (by omega)]
  show Zw _ _ _ _ _ _ _ _ _ _ _ _ _ _ _ _ _ _ [.int ((zCh i j &&& 255).toUInt32 % 65536).toInt32] _
  rw [e1]
  exact a_nret X e2 hr dJ1_charAt_3b067_14 ⟨by decide, by decide⟩ ⟨rfl, rfl⟩
theorem c_charAt {l : Launch} {G : zG} {b : Nat} {S : zS} {i j : Nat} (hi : i < zLit.length) (hj : j < zLen.getD i 0) : zM l G b yJ0_charAt_5068e cJ0_charAt_5068e 2 (some .char) 3 0 0 [.ref (1000000 + zKa G i), .int (nI j)] S (fun r z => r = some (.int (zCh i j)) ∧ z = S) := by
  refine zM.of miJ0_charAt_5068e (Nat.le_of_ble_eq_true rfl) ?_
  intro p e s m args below meth c X hr hname
  refine a_aload_n X dJ0_charAt_5068e_0 rfl ?_
  refine a_invVs X miJ0_isLatin1_aae02 lmJ0_492 hi rfl rfl rfl (Nat.le_of_ble_eq_true rfl) ⟨by decide, by decide, by decide, by decide⟩ dJ0_charAt_5068e_1 (c_isLatin1 hi) (fun r z q => ?_)
  obtain ⟨rfl, rfl⟩ := q
  refine a_if_eq (tgt := 16) X dJ0_charAt_5068e_4 (by decide) (fun h => absurd h (by decide)) (fun _ => ?_)
  refine a_aload_n X dJ0_charAt_5068e_7 rfl ?_
  refine a_sval X hi lfJ0_9 dJ0_charAt_5068e_8 ?_
  refine a_iload_n X dJ0_charAt_5068e_11 rfl ?_
  refine a_callSv X dJ0_charAt_5068e_12 miJ1_charAt_3b067 lmJ0_495 (c_charAt1 hi hj) rfl rfl (Nat.le_of_ble_eq_true rfl) ⟨by decide, by decide, by decide, by decide⟩ ?_
  exact a_nret X ((zCh_ok i hi).2 j hj).2 hr dJ0_charAt_5068e_15 ⟨by decide, by decide⟩ ⟨rfl, rfl⟩
end
theorem zcpy_row {α : Type} {M : Nat → Nat → α} {P n a : Nat} {g : Nat → α} (h : a ≠ P) : zcpy M P n g a = M a := by
  funext j
  exact if_neg (fun q => h q.1)
theorem zcpy_s2 {α : Type} {M : Nat → Nat → α} {P n : Nat} {g : Nat → α} : zu (zcpy M P n g) P n (g n) = zcpy M P (n + 1) g := zcpy_s
def zsum (f : Nat → Int32) : Nat → Int32
  | 0 => 0
  | n + 1 => zsum f n + f n
theorem zsum_s (f : Nat → Int32) (n : Nat) : zsum f (n + 1) = zsum f n + f n := rfl
set_option maxRecDepth 100000 in
theorem c_cell {l : Launch} {G : zG} {b : Nat} {S : zS} {P n : Nat} {fs : List (Nat × Nat)} {i : Int32} (hP : S.1[P]? = some (1, n, fs)) (hn : n < 2 ^ 31) : zM l G b yX7_cell cX7_cell 2 (some .int) 0 0 0 [.ref P, .int i] S (fun r z => r = some (.int (zrd 0 (S.2.1 P) n i)) ∧ z = S) := by
  refine zM.of miX7_cell (Nat.le_of_ble_eq_true rfl) ?_
  intro p e s m args below meth c X hr hname
  generalize hF : ((fun r z => r = some (.int (zrd 0 (S.2.1 P) n i)) ∧ z = S) : Option Value → zS → Prop) = FQ
  change Zw p l e { frames := 0, cells := 0, slots := 0, locals := 80 * 0 } s m args below meth c G b 2 (MQ below (zQ G b FQ) args s 0 0 (fun q : Nat => b ≤ q)) 0 0 0 [some (.ref P), some (.int i)] [] S
  refine a_iload_n X dX7_cell_0 rfl ?_
  refine a_if_lt (tgt := 16) X dX7_cell_1 (by decide) (fun h_1 => ?_) (fun h_1 => ?_)
  · refine a_iconst (v := 0) X dX7_cell_16 (by decide) ?_
    refine a_iret X hr dX7_cell_17 ⟨by decide, by decide⟩ ?_
    subst hF
    first | exact ⟨by rw [zrd_a h_1], rfl⟩ | exact ⟨by rw [zrd_b hn h_1 h_7], rfl⟩ | exact ⟨by rw [zrd_c hn h_1 h_7], rfl⟩
  · refine a_iload_n X dX7_cell_4 rfl ?_
    refine a_aload_n X dX7_cell_5 rfl ?_
    refine a_alen X (by assumption) (by decide) dX7_cell_6 ?_
    refine a_icmp_ge (tgt := 16) X dX7_cell_7 (by decide) (fun h_7 => ?_) (fun h_7 => ?_)
    · refine a_iconst (v := 0) X dX7_cell_16 (by decide) ?_
      refine a_iret X hr dX7_cell_17 ⟨by decide, by decide⟩ ?_
      subst hF
      first | exact ⟨by rw [zrd_a h_1], rfl⟩ | exact ⟨by rw [zrd_b hn h_1 h_7], rfl⟩ | exact ⟨by rw [zrd_c hn h_1 h_7], rfl⟩
    · refine a_aload_n X dX7_cell_10 rfl ?_
      refine a_iload_n X dX7_cell_11 rfl ?_
      refine a_iaload X (by assumption) (z_in hn h_1 h_7) dX7_cell_12 ?_
      refine a_goto (tgt := 17) X dX7_cell_13 (by decide) ?_
      refine a_iret X hr dX7_cell_17 ⟨by decide, by decide⟩ ?_
      subst hF
      first | exact ⟨by rw [zrd_a h_1], rfl⟩ | exact ⟨by rw [zrd_b hn h_1 h_7], rfl⟩ | exact ⟨by rw [zrd_c hn h_1 h_7], rfl⟩
set_option maxRecDepth 100000 in
theorem c_bigCell {l : Launch} {G : zG} {b : Nat} {S : zS} {P n : Nat} {fs : List (Nat × Nat)} {i : Int32} (hP : S.1[P]? = some (3, n, fs)) (hn : n < 2 ^ 31) : zM l G b yX7_bigCell cX7_bigCell 2 (some .long) 0 0 0 [.ref P, .int i] S (fun r z => r = some (.long (zrd 0 (S.2.2 P) n i)) ∧ z = S) := by
  refine zM.of miX7_bigCell (Nat.le_of_ble_eq_true rfl) ?_
  intro p e s m args below meth c X hr hname
  generalize hF : ((fun r z => r = some (.long (zrd 0 (S.2.2 P) n i)) ∧ z = S) : Option Value → zS → Prop) = FQ
  change Zw p l e { frames := 0, cells := 0, slots := 0, locals := 80 * 0 } s m args below meth c G b 2 (MQ below (zQ G b FQ) args s 0 0 (fun q : Nat => b ≤ q)) 0 0 0 [some (.ref P), some (.int i)] [] S
  refine a_iload_n X dX7_bigCell_0 rfl ?_
  refine a_if_lt (tgt := 16) X dX7_bigCell_1 (by decide) (fun h_1 => ?_) (fun h_1 => ?_)
  · refine a_lconst (v := 0) X dX7_bigCell_16 (by decide) ?_
    refine a_lret X hr dX7_bigCell_17 ⟨by decide, by decide⟩ ?_
    subst hF
    first | exact ⟨by rw [zrd_a h_1], rfl⟩ | exact ⟨by rw [zrd_b hn h_1 h_7], rfl⟩ | exact ⟨by rw [zrd_c hn h_1 h_7], rfl⟩
  · refine a_iload_n X dX7_bigCell_4 rfl ?_
    refine a_aload_n X dX7_bigCell_5 rfl ?_
    refine a_alen X (by assumption) (by decide) dX7_bigCell_6 ?_
    refine a_icmp_ge (tgt := 16) X dX7_bigCell_7 (by decide) (fun h_7 => ?_) (fun h_7 => ?_)
    · refine a_lconst (v := 0) X dX7_bigCell_16 (by decide) ?_
      refine a_lret X hr dX7_bigCell_17 ⟨by decide, by decide⟩ ?_
      subst hF
      first | exact ⟨by rw [zrd_a h_1], rfl⟩ | exact ⟨by rw [zrd_b hn h_1 h_7], rfl⟩ | exact ⟨by rw [zrd_c hn h_1 h_7], rfl⟩
    · refine a_aload_n X dX7_bigCell_10 rfl ?_
      refine a_iload_n X dX7_bigCell_11 rfl ?_
      refine a_laload X (by assumption) (z_in hn h_1 h_7) dX7_bigCell_12 ?_
      refine a_goto (tgt := 17) X dX7_bigCell_13 (by decide) ?_
      refine a_lret X hr dX7_bigCell_17 ⟨by decide, by decide⟩ ?_
      subst hF
      first | exact ⟨by rw [zrd_a h_1], rfl⟩ | exact ⟨by rw [zrd_b hn h_1 h_7], rfl⟩ | exact ⟨by rw [zrd_c hn h_1 h_7], rfl⟩
set_option maxRecDepth 100000 in
theorem c_put {l : Launch} {G : zG} {b : Nat} {S : zS} {P n : Nat} {fs : List (Nat × Nat)} {i : Int32} {x : Int32} (hP : S.1[P]? = some (1, n, fs)) (hn : n < 2 ^ 31) : zM l G b yX7_put cX7_put 3 none 0 0 0 [.ref P, .int i, .int x] S (fun r z => r = none ∧ z = (S.1, zwr S.2.1 P n i x, S.2.2)) := by
  refine zM.of miX7_put (Nat.le_of_ble_eq_true rfl) ?_
  intro p e s m args below meth c X hr hname
  generalize hF : ((fun r z => r = none ∧ z = (S.1, zwr S.2.1 P n i x, S.2.2)) : Option Value → zS → Prop) = FQ
  change Zw p l e { frames := 0, cells := 0, slots := 0, locals := 80 * 0 } s m args below meth c G b 3 (MQ below (zQ G b FQ) args s 0 0 (fun q : Nat => b ≤ q)) 0 0 0 [some (.ref P), some (.int i), some (.int x)] [] S
  refine a_iload_n X dX7_put_0 rfl ?_
  refine a_if_lt (tgt := 14) X dX7_put_1 (by decide) (fun h_1 => ?_) (fun h_1 => ?_)
  · refine a_vret X hr dX7_put_14 ⟨by decide, by decide⟩ ?_
    subst hF
    first | exact ⟨rfl, by rw [zwr_a h_1]⟩ | exact ⟨rfl, by rw [zwr_b hn h_1 h_7]⟩ | exact ⟨rfl, by rw [zwr_c hn h_1 h_7]⟩
  · refine a_iload_n X dX7_put_4 rfl ?_
    refine a_aload_n X dX7_put_5 rfl ?_
    refine a_alen X (by assumption) (by decide) dX7_put_6 ?_
    refine a_icmp_ge (tgt := 14) X dX7_put_7 (by decide) (fun h_7 => ?_) (fun h_7 => ?_)
    · refine a_vret X hr dX7_put_14 ⟨by decide, by decide⟩ ?_
      subst hF
      first | exact ⟨rfl, by rw [zwr_a h_1]⟩ | exact ⟨rfl, by rw [zwr_b hn h_1 h_7]⟩ | exact ⟨rfl, by rw [zwr_c hn h_1 h_7]⟩
    · refine a_aload_n X dX7_put_10 rfl ?_
      refine a_iload_n X dX7_put_11 rfl ?_
      refine a_iload_n X dX7_put_12 rfl ?_
      refine a_iastore X (by assumption) (z_in hn h_1 h_7) dX7_put_13 ?_
      refine a_vret X hr dX7_put_14 ⟨by decide, by decide⟩ ?_
      subst hF
      first | exact ⟨rfl, by rw [zwr_a h_1]⟩ | exact ⟨rfl, by rw [zwr_b hn h_1 h_7]⟩ | exact ⟨rfl, by rw [zwr_c hn h_1 h_7]⟩
set_option maxRecDepth 100000 in
theorem c_bigPut {l : Launch} {G : zG} {b : Nat} {S : zS} {P n : Nat} {fs : List (Nat × Nat)} {i : Int32} {x : Int64} (hP : S.1[P]? = some (3, n, fs)) (hn : n < 2 ^ 31) : zM l G b yX7_bigPut cX7_bigPut 4 none 0 0 0 [.ref P, .int i, .long x] S (fun r z => r = none ∧ z = (S.1, S.2.1, zwr S.2.2 P n i x)) := by
  refine zM.of miX7_bigPut (Nat.le_of_ble_eq_true rfl) ?_
  intro p e s m args below meth c X hr hname
  generalize hF : ((fun r z => r = none ∧ z = (S.1, S.2.1, zwr S.2.2 P n i x)) : Option Value → zS → Prop) = FQ
  change Zw p l e { frames := 0, cells := 0, slots := 0, locals := 80 * 0 } s m args below meth c G b 4 (MQ below (zQ G b FQ) args s 0 0 (fun q : Nat => b ≤ q)) 0 0 0 [some (.ref P), some (.int i), some (.long x), none] [] S
  refine a_iload_n X dX7_bigPut_0 rfl ?_
  refine a_if_lt (tgt := 14) X dX7_bigPut_1 (by decide) (fun h_1 => ?_) (fun h_1 => ?_)
  · refine a_vret X hr dX7_bigPut_14 ⟨by decide, by decide⟩ ?_
    subst hF
    first | exact ⟨rfl, by rw [zwr_a h_1]⟩ | exact ⟨rfl, by rw [zwr_b hn h_1 h_7]⟩ | exact ⟨rfl, by rw [zwr_c hn h_1 h_7]⟩
  · refine a_iload_n X dX7_bigPut_4 rfl ?_
    refine a_aload_n X dX7_bigPut_5 rfl ?_
    refine a_alen X (by assumption) (by decide) dX7_bigPut_6 ?_
    refine a_icmp_ge (tgt := 14) X dX7_bigPut_7 (by decide) (fun h_7 => ?_) (fun h_7 => ?_)
    · refine a_vret X hr dX7_bigPut_14 ⟨by decide, by decide⟩ ?_
      subst hF
      first | exact ⟨rfl, by rw [zwr_a h_1]⟩ | exact ⟨rfl, by rw [zwr_b hn h_1 h_7]⟩ | exact ⟨rfl, by rw [zwr_c hn h_1 h_7]⟩
    · refine a_aload_n X dX7_bigPut_10 rfl ?_
      refine a_iload_n X dX7_bigPut_11 rfl ?_
      refine a_lload_n X dX7_bigPut_12 rfl ?_
      refine a_lastore X (by assumption) (z_in hn h_1 h_7) dX7_bigPut_13 ?_
      refine a_vret X hr dX7_bigPut_14 ⟨by decide, by decide⟩ ?_
      subst hF
      first | exact ⟨rfl, by rw [zwr_a h_1]⟩ | exact ⟨rfl, by rw [zwr_b hn h_1 h_7]⟩ | exact ⟨rfl, by rw [zwr_c hn h_1 h_7]⟩
set_option maxRecDepth 100000 in
theorem c_add {l : Launch} {G : zG} {b : Nat} {S : zS} {P n : Nat} {fs : List (Nat × Nat)} {i : Int32} {x : Int32} (hP : S.1[P]? = some (1, n, fs)) (hn : n < 2 ^ 31) : zM l G b yX7_add cX7_add 3 none 0 0 0 [.ref P, .int i, .int x] S (fun r z => r = none ∧ z = (S.1, zwr S.2.1 P n i (zrd 0 (S.2.1 P) n i + x), S.2.2)) := by
  refine zM.of miX7_add (Nat.le_of_ble_eq_true rfl) ?_
  intro p e s m args below meth c X hr hname
  generalize hF : ((fun r z => r = none ∧ z = (S.1, zwr S.2.1 P n i (zrd 0 (S.2.1 P) n i + x), S.2.2)) : Option Value → zS → Prop) = FQ
  change Zw p l e { frames := 0, cells := 0, slots := 0, locals := 80 * 0 } s m args below meth c G b 3 (MQ below (zQ G b FQ) args s 0 0 (fun q : Nat => b ≤ q)) 0 0 0 [some (.ref P), some (.int i), some (.int x)] [] S
  refine a_iload_n X dX7_add_0 rfl ?_
  refine a_if_lt (tgt := 17) X dX7_add_1 (by decide) (fun h_1 => ?_) (fun h_1 => ?_)
  · refine a_vret X hr dX7_add_17 ⟨by decide, by decide⟩ ?_
    subst hF
    first | exact ⟨rfl, by rw [zwr_a h_1]⟩ | exact ⟨rfl, by rw [zwr_b hn h_1 h_7]⟩ | exact ⟨rfl, by rw [zwr_c hn h_1 h_7, zrd_c hn h_1 h_7]⟩
  · refine a_iload_n X dX7_add_4 rfl ?_
    refine a_aload_n X dX7_add_5 rfl ?_
    refine a_alen X (by assumption) (by decide) dX7_add_6 ?_
    refine a_icmp_ge (tgt := 17) X dX7_add_7 (by decide) (fun h_7 => ?_) (fun h_7 => ?_)
    · refine a_vret X hr dX7_add_17 ⟨by decide, by decide⟩ ?_
      subst hF
      first | exact ⟨rfl, by rw [zwr_a h_1]⟩ | exact ⟨rfl, by rw [zwr_b hn h_1 h_7]⟩ | exact ⟨rfl, by rw [zwr_c hn h_1 h_7, zrd_c hn h_1 h_7]⟩
    · refine a_aload_n X dX7_add_10 rfl ?_
      refine a_iload_n X dX7_add_11 rfl ?_
      refine a_dup2 X dX7_add_12 rfl rfl ?_
      refine a_iaload X (by assumption) (z_in hn h_1 h_7) dX7_add_13 ?_
      refine a_iload_n X dX7_add_14 rfl ?_
      refine a_iadd X dX7_add_15 ?_
      refine a_iastore X (by assumption) (z_in hn h_1 h_7) dX7_add_16 ?_
      refine a_vret X hr dX7_add_17 ⟨by decide, by decide⟩ ?_
      subst hF
      first | exact ⟨rfl, by rw [zwr_a h_1]⟩ | exact ⟨rfl, by rw [zwr_b hn h_1 h_7]⟩ | exact ⟨rfl, by rw [zwr_c hn h_1 h_7, zrd_c hn h_1 h_7]⟩
set_option maxRecDepth 100000 in
theorem c_bigAdd {l : Launch} {G : zG} {b : Nat} {S : zS} {P n : Nat} {fs : List (Nat × Nat)} {i : Int32} {x : Int64} (hP : S.1[P]? = some (3, n, fs)) (hn : n < 2 ^ 31) : zM l G b yX7_bigAdd cX7_bigAdd 4 none 0 0 0 [.ref P, .int i, .long x] S (fun r z => r = none ∧ z = (S.1, S.2.1, zwr S.2.2 P n i (zrd 0 (S.2.2 P) n i + x))) := by
  refine zM.of miX7_bigAdd (Nat.le_of_ble_eq_true rfl) ?_
  intro p e s m args below meth c X hr hname
  generalize hF : ((fun r z => r = none ∧ z = (S.1, S.2.1, zwr S.2.2 P n i (zrd 0 (S.2.2 P) n i + x))) : Option Value → zS → Prop) = FQ
  change Zw p l e { frames := 0, cells := 0, slots := 0, locals := 80 * 0 } s m args below meth c G b 4 (MQ below (zQ G b FQ) args s 0 0 (fun q : Nat => b ≤ q)) 0 0 0 [some (.ref P), some (.int i), some (.long x), none] [] S
  refine a_iload_n X dX7_bigAdd_0 rfl ?_
  refine a_if_lt (tgt := 17) X dX7_bigAdd_1 (by decide) (fun h_1 => ?_) (fun h_1 => ?_)
  · refine a_vret X hr dX7_bigAdd_17 ⟨by decide, by decide⟩ ?_
    subst hF
    first | exact ⟨rfl, by rw [zwr_a h_1]⟩ | exact ⟨rfl, by rw [zwr_b hn h_1 h_7]⟩ | exact ⟨rfl, by rw [zwr_c hn h_1 h_7, zrd_c hn h_1 h_7]⟩
  · refine a_iload_n X dX7_bigAdd_4 rfl ?_
    refine a_aload_n X dX7_bigAdd_5 rfl ?_
    refine a_alen X (by assumption) (by decide) dX7_bigAdd_6 ?_
    refine a_icmp_ge (tgt := 17) X dX7_bigAdd_7 (by decide) (fun h_7 => ?_) (fun h_7 => ?_)
    · refine a_vret X hr dX7_bigAdd_17 ⟨by decide, by decide⟩ ?_
      subst hF
      first | exact ⟨rfl, by rw [zwr_a h_1]⟩ | exact ⟨rfl, by rw [zwr_b hn h_1 h_7]⟩ | exact ⟨rfl, by rw [zwr_c hn h_1 h_7, zrd_c hn h_1 h_7]⟩
    · refine a_aload_n X dX7_bigAdd_10 rfl ?_
      refine a_iload_n X dX7_bigAdd_11 rfl ?_
      refine a_dup2 X dX7_bigAdd_12 rfl rfl ?_
      refine a_laload X (by assumption) (z_in hn h_1 h_7) dX7_bigAdd_13 ?_
      refine a_lload_n X dX7_bigAdd_14 rfl ?_
      refine a_ladd X dX7_bigAdd_15 ?_
      refine a_lastore X (by assumption) (z_in hn h_1 h_7) dX7_bigAdd_16 ?_
      refine a_vret X hr dX7_bigAdd_17 ⟨by decide, by decide⟩ ?_
      subst hF
      first | exact ⟨rfl, by rw [zwr_a h_1]⟩ | exact ⟨rfl, by rw [zwr_b hn h_1 h_7]⟩ | exact ⟨rfl, by rw [zwr_c hn h_1 h_7, zrd_c hn h_1 h_7]⟩
set_option maxRecDepth 100000 in
theorem c_fill {l : Launch} {G : zG} {b : Nat} {S : zS} {P n : Nat} {fs : List (Nat × Nat)} {v : Int32} (hP : S.1[P]? = some (1, n, fs)) (hn : n < 2 ^ 31) : zM l G b yX7_fill cX7_fill 3 none 0 0 0 [.ref P, .int v] S (fun r z => r = none ∧ z = (S.1, zfil S.2.1 P n v, S.2.2)) := by
  refine zM.of miX7_fill (Nat.le_of_ble_eq_true rfl) ?_
  intro p e s m args below meth c X hr hname
  generalize hF : ((fun r z => r = none ∧ z = (S.1, zfil S.2.1 P n v, S.2.2)) : Option Value → zS → Prop) = FQ
  change Zw p l e { frames := 0, cells := 0, slots := 0, locals := 80 * 0 } s m args below meth c G b 3 (MQ below (zQ G b FQ) args s 0 0 (fun q : Nat => b ≤ q)) 0 0 0 [some (.ref P), some (.int v), none] [] S
  have L : ∀ (u j : Nat), n < j + u → j ≤ n → Zw p l e { frames := 0, cells := 0, slots := 0, locals := 80 * 0 } s m args below meth c G b 3 (MQ below (zQ G b FQ) args s 0 0 (fun q : Nat => b ≤ q)) 0 0 2 [some (.ref P), some (.int v), some (.int (nI j))] [] (S.1, zfil S.2.1 P j v, S.2.2) := by
    intro u
    induction u with
    | zero => intro j h1 h2; exact absurd h1 (by omega)
    | succ u ih =>
      intro j h1 h2
      refine a_iload_n X dX7_fill_2 rfl ?_
      refine a_aload_n X dX7_fill_3 rfl ?_
      refine a_alen X (by assumption) (by decide) dX7_fill_4 ?_
      refine a_icmp_ge (tgt := 18) X dX7_fill_5 (by decide) (fun h_5 => ?_) (fun h_5 => ?_)
      · refine a_vret X hr dX7_fill_18 ⟨by decide, by decide⟩ ?_
        have hj : j = n := by have := (nI_leI hn (by omega)).mp h_5; omega
        subst hj
        subst hF
        exact ⟨rfl, rfl⟩
      · have hj : j < n := Nat.not_le.mp (fun q => h_5 ((nI_leI hn (by omega)).mpr q))
        refine a_aload_n X dX7_fill_8 rfl ?_
        refine a_iload_n X dX7_fill_9 rfl ?_
        refine a_iload_n X dX7_fill_10 rfl ?_
        refine a_iastore X (by assumption) (vp_in_nI hj hn) dX7_fill_11 ?_
        refine a_iinc (v := nI (j + 1)) X dX7_fill_12 (by decide) rfl (nI_1 j) ?_
        refine a_goto (tgt := 2) X dX7_fill_15 (by decide) ?_
        exact Zw.to (ih (j + 1) (by omega) (by omega)) rfl (by show (S.1, zfil S.2.1 P (j + 1) v, S.2.2) = (S.1, zu (zfil S.2.1 P j v) P (nI j).toNatClampNeg v, S.2.2); rw [nI_clamp (by omega), zfil_s])
  refine a_iconst (v := 0) X dX7_fill_0 (by decide) ?_
  refine a_istore_n X dX7_fill_1 (by decide) ?_
  exact Zw.to (L (n + 1) 0 (by omega) (by omega)) rfl (by rw [zfil_0])
set_option maxRecDepth 100000 in
theorem c_bigFill {l : Launch} {G : zG} {b : Nat} {S : zS} {P n : Nat} {fs : List (Nat × Nat)} {v : Int64} (hP : S.1[P]? = some (3, n, fs)) (hn : n < 2 ^ 31) : zM l G b yX7_bigFill cX7_bigFill 4 none 0 0 0 [.ref P, .long v] S (fun r z => r = none ∧ z = (S.1, S.2.1, zfil S.2.2 P n v)) := by
  refine zM.of miX7_bigFill (Nat.le_of_ble_eq_true rfl) ?_
  intro p e s m args below meth c X hr hname
  generalize hF : ((fun r z => r = none ∧ z = (S.1, S.2.1, zfil S.2.2 P n v)) : Option Value → zS → Prop) = FQ
  change Zw p l e { frames := 0, cells := 0, slots := 0, locals := 80 * 0 } s m args below meth c G b 4 (MQ below (zQ G b FQ) args s 0 0 (fun q : Nat => b ≤ q)) 0 0 0 [some (.ref P), some (.long v), none, none] [] S
  have L : ∀ (u j : Nat), n < j + u → j ≤ n → Zw p l e { frames := 0, cells := 0, slots := 0, locals := 80 * 0 } s m args below meth c G b 4 (MQ below (zQ G b FQ) args s 0 0 (fun q : Nat => b ≤ q)) 0 0 2 [some (.ref P), some (.long v), none, some (.int (nI j))] [] (S.1, S.2.1, zfil S.2.2 P j v) := by
    intro u
    induction u with
    | zero => intro j h1 h2; exact absurd h1 (by omega)
    | succ u ih =>
      intro j h1 h2
      refine a_iload_n X dX7_bigFill_2 rfl ?_
      refine a_aload_n X dX7_bigFill_3 rfl ?_
      refine a_alen X (by assumption) (by decide) dX7_bigFill_4 ?_
      refine a_icmp_ge (tgt := 18) X dX7_bigFill_5 (by decide) (fun h_5 => ?_) (fun h_5 => ?_)
      · refine a_vret X hr dX7_bigFill_18 ⟨by decide, by decide⟩ ?_
        have hj : j = n := by have := (nI_leI hn (by omega)).mp h_5; omega
        subst hj
        subst hF
        exact ⟨rfl, rfl⟩
      · have hj : j < n := Nat.not_le.mp (fun q => h_5 ((nI_leI hn (by omega)).mpr q))
        refine a_aload_n X dX7_bigFill_8 rfl ?_
        refine a_iload_n X dX7_bigFill_9 rfl ?_
        refine a_lload_n X dX7_bigFill_10 rfl ?_
        refine a_lastore X (by assumption) (vp_in_nI hj hn) dX7_bigFill_11 ?_
        refine a_iinc (v := nI (j + 1)) X dX7_bigFill_12 (by decide) rfl (nI_1 j) ?_
        refine a_goto (tgt := 2) X dX7_bigFill_15 (by decide) ?_
        exact Zw.to (ih (j + 1) (by omega) (by omega)) rfl (by show (S.1, S.2.1, zfil S.2.2 P (j + 1) v) = (S.1, S.2.1, zu (zfil S.2.2 P j v) P (nI j).toNatClampNeg v); rw [nI_clamp (by omega), zfil_s])
  refine a_iconst (v := 0) X dX7_bigFill_0 (by decide) ?_
  refine a_istore_n X dX7_bigFill_1 (by decide) ?_
  exact Zw.to (L (n + 1) 0 (by omega) (by omega)) rfl (by rw [zfil_0])
set_option maxRecDepth 100000 in
theorem c_copy {l : Launch} {G : zG} {b : Nat} {S : zS} {F2 P n n2 : Nat} {fs f2 : List (Nat × Nat)} (hP : S.1[P]? = some (1, n, fs)) (hF2 : S.1[F2]? = some (1, n2, f2)) (hn : n < 2 ^ 31) (hn2 : n2 < 2 ^ 31) (hne : F2 ≠ P) : zM l G b yX7_copy cX7_copy 3 none 1 0 0 [.ref F2, .ref P] S (fun r z => r = none ∧ z = (S.1, zcpy S.2.1 P n (fun j => zrd 0 (S.2.1 F2) n2 (nI j)), S.2.2)) := by
  refine zM.of miX7_copy (Nat.le_of_ble_eq_true rfl) ?_
  intro p e s m args below meth c X hr hname
  generalize hF : ((fun r z => r = none ∧ z = (S.1, zcpy S.2.1 P n (fun j => zrd 0 (S.2.1 F2) n2 (nI j)), S.2.2)) : Option Value → zS → Prop) = FQ
  change Zw p l e { frames := 1, cells := 0, slots := 0, locals := 80 * 1 } s m args below meth c G b 3 (MQ below (zQ G b FQ) args s 0 0 (fun q : Nat => b ≤ q)) 0 0 0 [some (.ref F2), some (.ref P), none] [] S
  have L : ∀ (u j : Nat), n < j + u → j ≤ n → Zw p l e { frames := 1, cells := 0, slots := 0, locals := 80 * 1 } s m args below meth c G b 3 (MQ below (zQ G b FQ) args s 0 0 (fun q : Nat => b ≤ q)) 0 0 2 [some (.ref F2), some (.ref P), some (.int (nI j))] [] (S.1, zcpy S.2.1 P j (fun j => zrd 0 (S.2.1 F2) n2 (nI j)), S.2.2) := by
    intro u
    induction u with
    | zero => intro j h1 h2; exact absurd h1 (by omega)
    | succ u ih =>
      intro j h1 h2
      refine a_iload_n X dX7_copy_2 rfl ?_
      refine a_aload_n X dX7_copy_3 rfl ?_
      refine a_alen X (by assumption) (by decide) dX7_copy_4 ?_
      refine a_icmp_ge (tgt := 22) X dX7_copy_5 (by decide) (fun h_5 => ?_) (fun h_5 => ?_)
      · refine a_vret X hr dX7_copy_22 ⟨by decide, by decide⟩ ?_
        have hj : j = n := by have := (nI_leI hn (by omega)).mp h_5; omega
        subst hj
        subst hF
        exact ⟨rfl, rfl⟩
      · have hj : j < n := Nat.not_le.mp (fun q => h_5 ((nI_leI hn (by omega)).mpr q))
        refine a_aload_n X dX7_copy_8 rfl ?_
        refine a_iload_n X dX7_copy_9 rfl ?_
        refine a_aload_n X dX7_copy_10 rfl ?_
        refine a_iload_n X dX7_copy_11 rfl ?_
        refine a_callSv X dX7_copy_12 miX7_cell lm7_175 (c_cell hF2 hn2) rfl rfl (Nat.le_of_ble_eq_true rfl) ⟨by decide, by decide, by decide, by decide⟩ ?_
        refine a_iastore X (by assumption) (vp_in_nI hj hn) dX7_copy_15 ?_
        refine a_iinc (v := nI (j + 1)) X dX7_copy_16 (by decide) rfl (nI_1 j) ?_
        refine a_goto (tgt := 2) X dX7_copy_19 (by decide) ?_
        exact Zw.to (ih (j + 1) (by omega) (by omega)) rfl (by show (S.1, zcpy S.2.1 P (j + 1) (fun j => zrd 0 (S.2.1 F2) n2 (nI j)), S.2.2) = (S.1, zu (zcpy S.2.1 P j (fun j => zrd 0 (S.2.1 F2) n2 (nI j))) P (nI j).toNatClampNeg (zrd 0 (zcpy S.2.1 P j (fun j => zrd 0 (S.2.1 F2) n2 (nI j)) F2) n2 (nI j)), S.2.2); rw [nI_clamp (by omega), zcpy_row hne, zcpy_s2])
  refine a_iconst (v := 0) X dX7_copy_0 (by decide) ?_
  refine a_istore_n X dX7_copy_1 (by decide) ?_
  exact Zw.to (L (n + 1) 0 (by omega) (by omega)) rfl (by rw [zcpy_0])
set_option maxRecDepth 100000 in
theorem c_sum {l : Launch} {G : zG} {b : Nat} {S : zS} {P n : Nat} {fs : List (Nat × Nat)} (hP : S.1[P]? = some (1, n, fs)) (hn : n < 2 ^ 31) : zM l G b yX7_sum cX7_sum 3 (some .int) 0 0 0 [.ref P] S (fun r z => r = some (.int (zsum (S.2.1 P) n)) ∧ z = S) := by
  refine zM.of miX7_sum (Nat.le_of_ble_eq_true rfl) ?_
  intro p e s m args below meth c X hr hname
  generalize hF : ((fun r z => r = some (.int (zsum (S.2.1 P) n)) ∧ z = S) : Option Value → zS → Prop) = FQ
  change Zw p l e { frames := 0, cells := 0, slots := 0, locals := 80 * 0 } s m args below meth c G b 3 (MQ below (zQ G b FQ) args s 0 0 (fun q : Nat => b ≤ q)) 0 0 0 [some (.ref P), none, none] [] S
  have L : ∀ (u j : Nat), n < j + u → j ≤ n → Zw p l e { frames := 0, cells := 0, slots := 0, locals := 80 * 0 } s m args below meth c G b 3 (MQ below (zQ G b FQ) args s 0 0 (fun q : Nat => b ≤ q)) 0 0 4 [some (.ref P), some (.int (zsum (S.2.1 P) j)), some (.int (nI j))] [] S := by
    intro u
    induction u with
    | zero => intro j h1 h2; exact absurd h1 (by omega)
    | succ u ih =>
      intro j h1 h2
      refine a_iload_n X dX7_sum_4 rfl ?_
      refine a_aload_n X dX7_sum_5 rfl ?_
      refine a_alen X (by assumption) (by decide) dX7_sum_6 ?_
      refine a_icmp_ge (tgt := 22) X dX7_sum_7 (by decide) (fun h_7 => ?_) (fun h_7 => ?_)
      · refine a_iload_n X dX7_sum_22 rfl ?_
        refine a_iret X hr dX7_sum_23 ⟨by decide, by decide⟩ ?_
        have hj : j = n := by have := (nI_leI hn (by omega)).mp h_7; omega
        subst hj
        subst hF
        exact ⟨rfl, rfl⟩
      · have hj : j < n := Nat.not_le.mp (fun q => h_7 ((nI_leI hn (by omega)).mpr q))
        refine a_iload_n X dX7_sum_10 rfl ?_
        refine a_aload_n X dX7_sum_11 rfl ?_
        refine a_iload_n X dX7_sum_12 rfl ?_
        refine a_iaload X (by assumption) (vp_in_nI hj hn) dX7_sum_13 ?_
        refine a_iadd X dX7_sum_14 ?_
        refine a_istore_n X dX7_sum_15 (by decide) ?_
        refine a_iinc (v := nI (j + 1)) X dX7_sum_16 (by decide) rfl (nI_1 j) ?_
        refine a_goto (tgt := 4) X dX7_sum_19 (by decide) ?_
        exact Zw.to (ih (j + 1) (by omega) (by omega)) (by show [some (Value.ref P), some (Value.int (zsum (S.2.1 P) j + S.2.1 P j)), some (Value.int (nI (j + 1)))] = [some (Value.ref P), some (Value.int (zsum (S.2.1 P) j + S.2.1 P (nI j).toNatClampNeg)), some (Value.int (nI (j + 1)))]; rw [nI_clamp (by omega)]) rfl
  refine a_iconst (v := 0) X dX7_sum_0 (by decide) ?_
  refine a_istore_n X dX7_sum_1 (by decide) ?_
  refine a_iconst (v := 0) X dX7_sum_2 (by decide) ?_
  refine a_istore_n X dX7_sum_3 (by decide) ?_
  exact Zw.to (L (n + 1) 0 (by omega) (by omega)) rfl rfl
/-- nothing has changed but in rows lo .. hi - 1 -/
def zout {α : Type} (M M' : Nat → Nat → α) (lo hi : Nat) : Prop := ∀ a : Nat, a < lo ∨ hi ≤ a → M' a = M a
theorem zout.rf {α : Type} {M : Nat → Nat → α} {lo hi : Nat} : zout M M lo hi := fun _ _ => rfl
theorem zout.zu {α : Type} {M M' : Nat → Nat → α} {lo hi P k : Nat} {v : α} (h : zout M M' lo hi) (h1 : lo ≤ P) (h2 : P < hi) : zout M (zu M' P k v) lo hi := fun a ha => (zu_row (by omega)).trans (h a ha)
theorem zfil_row {α : Type} {M : Nat → Nat → α} {P n a : Nat} {v : α} (h : a ≠ P) : zfil M P n v a = M a := by
  funext j
  exact if_neg (fun q => h q.1)
theorem zout.zfil {α : Type} {M M' : Nat → Nat → α} {lo hi P n : Nat} {v : α} (h : zout M M' lo hi) (h1 : lo ≤ P) (h2 : P < hi) : zout M (zfil M' P n v) lo hi := fun a ha => (zfil_row (by omega)).trans (h a ha)
theorem zout.zcpy {α : Type} {M M' : Nat → Nat → α} {lo hi P n : Nat} {g : Nat → α} (h : zout M M' lo hi) (h1 : lo ≤ P) (h2 : P < hi) : zout M (zcpy M' P n g) lo hi := fun a ha => (zcpy_row (by omega)).trans (h a ha)
theorem zout.zwr {α : Type} {M M' : Nat → Nat → α} {lo hi P n : Nat} {i : Int32} {v : α} (h : zout M M' lo hi) (h1 : lo ≤ P) (h2 : P < hi) : zout M (zwr M' P n i v) lo hi := by
  unfold _root_.Jvm.Pilot.@@N@@.zwr
  split
  · exact h
  · exact h.zu h1 h2
theorem zwr_row {α : Type} {M : Nat → Nat → α} {P n a : Nat} {i : Int32} {v : α} (h : a ≠ P) : zwr M P n i v a = M a := by
  unfold zwr
  split
  · rfl
  · exact zu_row h
theorem zout.mono {α : Type} {M M' : Nat → Nat → α} {lo hi lo2 hi2 : Nat} (h : zout M M' lo hi) (h1 : lo2 ≤ lo) (h2 : hi ≤ hi2) : zout M M' lo2 hi2 := fun a ha => h a (by omega)
theorem zout.trans {α : Type} {M M' M2 : Nat → Nat → α} {lo hi : Nat} (h : zout M M' lo hi) (h' : zout M' M2 lo hi) : zout M M2 lo hi := fun a ha => (h' a ha).trans (h a ha)
theorem zu_eq {α : Type} {M : Nat → Nat → α} {P k : Nat} {v : α} : zu M P k v P k = v := if_pos ⟨rfl, rfl⟩
theorem zu_ne {α : Type} {M : Nat → Nat → α} {P k a j : Nat} {v : α} (h : ¬ (a = P ∧ j = k)) : zu M P k v a j = M a j := if_neg h
theorem zrd_nI {α : Type} {o : α} {f : Nat → α} {n j : Nat} (h : j < n) (hn : n < 2 ^ 31) : zrd o f n (nI j) = f j := by
  unfold zrd
  rw [if_neg (vp_in_nI h hn), nI_clamp (by omega)]
theorem zwr_nI {α : Type} {M : Nat → Nat → α} {P n j : Nat} {x : α} (h : j < n) (hn : n < 2 ^ 31) : zwr M P n (nI j) x = zu M P j x := by
  unfold zwr
  rw [if_neg (vp_in_nI h hn), nI_clamp (by omega)]
def zand (f : Nat → Int32) : Nat → Int32
  | 0 => 127
  | j + 1 => if f j = 1 then zand f j &&& nI j else zand f j
def zor (f : Nat → Int32) : Nat → Int32
  | 0 => 0
  | j + 1 => if f j = 1 then zor f j ||| nI j else zor f j
def zfew (f g : Nat → Int32) : Nat → Int32
  | 0 => 10
  | j + 1 => if f j = 1 then (if g j < zfew f g j then g j else zfew f g j) else zfew f g j
def zmost (f g : Nat → Int32) : Nat → Int32
  | 0 => 0
  | j + 1 => if f j = 1 then (if zmost f g j < g j then g j else zmost f g j) else zmost f g j
def LX4 (L : List zC) (P : Nat) : Prop := P + 9 < 1000000 ∧ L[P]? = some (0, 4, [(0, 0), (0, 0), (0, 0), (0, 0), (0, 0), (0, 0), (0, 0), (2, P + 1), (2, P + 2), (2, P + 3), (2, P + 4), (2, P + 5), (2, P + 6), (2, P + 7)]) ∧ L[P + 1]? = some (1, 5, []) ∧ L[P + 2]? = some (1, 10, []) ∧ L[P + 3]? = some (1, 10, []) ∧ L[P + 4]? = some (1, 10, []) ∧ L[P + 5]? = some (1, 10, []) ∧ L[P + 6]? = some (1, 30, []) ∧ L[P + 7]? = some (1, 10, [])
def LX2 (L : List zC) (P : Nat) : Prop := P + 14 < 1000000 ∧ L[P]? = some (0, 2, [(0, 0), (0, 0), (0, 0), (0, 0), (2, P + 1), (2, P + 2), (2, P + 3), (2, P + 4), (2, P + 5), (2, P + 6), (2, P + 7), (2, P + 8), (2, P + 9), (2, P + 10), (2, P + 11), (2, P + 12)]) ∧ L[P + 1]? = some (1, 5, []) ∧ L[P + 2]? = some (1, 5, []) ∧ L[P + 3]? = some (1, 5, []) ∧ L[P + 4]? = some (1, 10, []) ∧ L[P + 5]? = some (1, 10, []) ∧ L[P + 6]? = some (1, 10, []) ∧ L[P + 7]? = some (1, 10, []) ∧ L[P + 8]? = some (1, 10, []) ∧ L[P + 9]? = some (1, 10, []) ∧ L[P + 10]? = some (1, 10, []) ∧ L[P + 11]? = some (1, 10, []) ∧ L[P + 12]? = some (1, 30, [])
def LX5 (L : List zC) (P : Nat) : Prop := P + 9 < 1000000 ∧ L[P]? = some (0, 5, [(2, P + 1), (2, P + 2), (2, P + 3), (2, P + 4), (2, P + 5), (2, P + 6), (2, P + 7)]) ∧ L[P + 1]? = some (1, 10, []) ∧ L[P + 2]? = some (1, 10, []) ∧ L[P + 3]? = some (1, 10, []) ∧ L[P + 4]? = some (1, 5, []) ∧ L[P + 5]? = some (1, 5, []) ∧ L[P + 6]? = some (1, 5, []) ∧ L[P + 7]? = some (1, 10, [])
def LX0 (L : List zC) (P : Nat) : Prop := P + 14 < 1000000 ∧ L[P]? = some (0, 0, [(2, P + 1), (2, P + 2), (2, P + 3), (2, P + 4), (2, P + 5)]) ∧ L[P + 1]? = some (3, 128, []) ∧ L[P + 2]? = some (1, 128, []) ∧ L[P + 3]? = some (3, 35, []) ∧ L[P + 4]? = some (3, 7, []) ∧ LX5 L (P + 5)
def LX6 (L : List zC) (P : Nat) : Prop := P + 34 < 1000000 ∧ L[P]? = some (0, 6, [(0, 0), (0, 0), (2, P + 1), (2, P + 2), (2, P + 3), (2, P + 4), (2, P + 12), (2, P + 25)]) ∧ L[P + 1]? = some (1, 10, []) ∧ L[P + 2]? = some (1, 10, []) ∧ L[P + 3]? = some (1, 10, []) ∧ LX4 L (P + 4) ∧ LX2 L (P + 12) ∧ LX5 L (P + 25)
def LX3 (L : List zC) (P : Nat) : Prop := P + 15 < 1000000 ∧ L[P]? = some (0, 3, [(2, P + 1), (0, 0), (0, 0), (2, P + 9), (0, 0), (0, 0), (0, 0), (0, 0), (1, 0), (0, 0), (1, 0), (0, 0), (0, 0), (0, 0), (2, P + 10), (2, P + 11), (2, P + 12), (2, P + 13)]) ∧ LX4 L (P + 1) ∧ L[P + 9]? = some (1, 700, []) ∧ L[P + 10]? = some (3, 5, []) ∧ L[P + 11]? = some (3, 10, []) ∧ L[P + 12]? = some (3, 4, []) ∧ L[P + 13]? = some (1, 3, [])
def LX1 (L : List zC) (P : Nat) : Prop := P + 67 < 1000000 ∧ L[P]? = some (0, 1, [(0, 0), (0, 0), (2, P + 1)]) ∧ L[P + 1]? = some (4, 8, [(2, P + 2), (2, P + 10), (2, P + 18), (2, P + 26), (2, P + 34), (2, P + 42), (2, P + 50), (2, P + 58)]) ∧ LX4 L (P + 2) ∧ LX4 L (P + 10) ∧ LX4 L (P + 18) ∧ LX4 L (P + 26) ∧ LX4 L (P + 34) ∧ LX4 L (P + 42) ∧ LX4 L (P + 50) ∧ LX4 L (P + 58)
def LX7 (L : List zC) (P : Nat) : Prop := P + 201 < 1000000 ∧ L[P]? = some (0, 7, [(0, 0), (0, 0), (0, 0), (0, 0), (2, P + 1), (2, P + 2), (2, P + 3), (2, P + 17), (2, P + 25), (2, P + 91), (2, P + 104), (2, P + 112), (2, P + 125), (2, P + 158), (2, P + 166), (2, P + 179), (2, P + 187)]) ∧ L[P + 1]? = some (1, 700, []) ∧ L[P + 2]? = some (1, 50, []) ∧ LX3 L (P + 3) ∧ LX4 L (P + 17) ∧ LX1 L (P + 25) ∧ LX2 L (P + 91) ∧ LX5 L (P + 104) ∧ LX0 L (P + 112) ∧ LX6 L (P + 125) ∧ LX4 L (P + 158) ∧ LX2 L (P + 166) ∧ LX5 L (P + 179) ∧ LX0 L (P + 187)
def LX8 (L : List zC) (P : Nat) : Prop := P + 34 < 1000000 ∧ L[P]? = some (0, 8, [(2, P + 1), (2, P + 2), (2, P + 3), (2, P + 4), (2, P + 5), (2, P + 6), (0, 0), (0, 0), (0, 0), (0, 0), (2, P + 7), (0, 0), (0, 0), (0, 0), (0, 0), (0, 0), (0, 0), (0, 0), (0, 0), (0, 0), (0, 0), (0, 0), (0, 0), (0, 0), (1, 0), (2, P + 8), (2, P + 9), (2, P + 10), (0, 0), (0, 0), (0, 0), (0, 0), (1, 0), (0, 0), (2, P + 11), (2, P + 12), (2, P + 13), (2, P + 14), (2, P + 15), (2, P + 16), (2, P + 17), (2, P + 18), (2, P + 19), (2, P + 20), (2, P + 21), (2, P + 22), (1, 0), (2, P + 23), (2, P + 24), (2, P + 25), (2, P + 26), (2, P + 27), (2, P + 28), (2, P + 29), (0, 0), (0, 0), (0, 0), (0, 0), (0, 0), (1, 0), (1, 0), (2, P + 30), (2, P + 31), (2, P + 32), (0, 0)]) ∧ L[P + 1]? = some (1, 82, []) ∧ L[P + 2]? = some (1, 82, []) ∧ L[P + 3]? = some (1, 82, []) ∧ L[P + 4]? = some (1, 656, []) ∧ L[P + 5]? = some (2, 10, []) ∧ L[P + 6]? = some (2, 10, []) ∧ L[P + 7]? = some (1, 700, []) ∧ L[P + 8]? = some (3, 5, []) ∧ L[P + 9]? = some (3, 10, []) ∧ L[P + 10]? = some (3, 4, []) ∧ L[P + 11]? = some (1, 10, []) ∧ L[P + 12]? = some (1, 10, []) ∧ L[P + 13]? = some (1, 10, []) ∧ L[P + 14]? = some (1, 10, []) ∧ L[P + 15]? = some (1, 10, []) ∧ L[P + 16]? = some (1, 10, []) ∧ L[P + 17]? = some (1, 10, []) ∧ L[P + 18]? = some (1, 10, []) ∧ L[P + 19]? = some (1, 10, []) ∧ L[P + 20]? = some (1, 10, []) ∧ L[P + 21]? = some (1, 5, []) ∧ L[P + 22]? = some (1, 5, []) ∧ L[P + 23]? = some (1, 10, []) ∧ L[P + 24]? = some (3, 35, []) ∧ L[P + 25]? = some (3, 7, []) ∧ L[P + 26]? = some (3, 7, []) ∧ L[P + 27]? = some (3, 49, []) ∧ L[P + 28]? = some (3, 5, []) ∧ L[P + 29]? = some (2, 128, []) ∧ L[P + 30]? = some (1, 10, []) ∧ L[P + 31]? = some (1, 10, []) ∧ L[P + 32]? = some (1, 64, [])
set_option maxRecDepth 100000 in
theorem c_clear {l : Launch} {G : zG} {b : Nat} {S : zS} {P : Nat} (hP : LX4 S.1 P) : zM l G b yX4_clear cX4_clear 1 none 1 0 0 [.ref P] S (fun r z => ∃ M', r = none ∧ z = (S.1, M', S.2.2) ∧ zout S.2.1 M' P (P + 8) ∧ M' P 0 = 0 ∧ M' P 1 = 0 ∧ M' P 2 = 0 ∧ M' P 3 = 0 ∧ M' P 4 = 0 ∧ M' P 5 = 100 ∧ M' P 6 = 0 ∧ (∀ j, j < 5 → M' (P + 1) j = 0) ∧ (∀ j, j < 10 → M' (P + 2) j = 0) ∧ (∀ j, j < 10 → M' (P + 3) j = 0) ∧ (∀ j, j < 10 → M' (P + 4) j = -1) ∧ (∀ j, j < 10 → M' (P + 5) j = 0) ∧ (∀ j, j < 30 → M' (P + 6) j = -1) ∧ (∀ j, j < 10 → M' (P + 7) j = -1)) := by
  refine zM.of miX4_clear (Nat.le_of_ble_eq_true rfl) ?_
  intro p e s m args below meth c X hr hname
  generalize hF : ((fun r z => ∃ M', r = none ∧ z = (S.1, M', S.2.2) ∧ zout S.2.1 M' P (P + 8) ∧ M' P 0 = 0 ∧ M' P 1 = 0 ∧ M' P 2 = 0 ∧ M' P 3 = 0 ∧ M' P 4 = 0 ∧ M' P 5 = 100 ∧ M' P 6 = 0 ∧ (∀ j, j < 5 → M' (P + 1) j = 0) ∧ (∀ j, j < 10 → M' (P + 2) j = 0) ∧ (∀ j, j < 10 → M' (P + 3) j = 0) ∧ (∀ j, j < 10 → M' (P + 4) j = -1) ∧ (∀ j, j < 10 → M' (P + 5) j = 0) ∧ (∀ j, j < 30 → M' (P + 6) j = -1) ∧ (∀ j, j < 10 → M' (P + 7) j = -1)) : Option Value → zS → Prop) = FQ
  change Zw p l e { frames := 1, cells := 0, slots := 0, locals := 80 * 1 } s m args below meth c G b 1 (MQ below (zQ G b FQ) args s 0 0 (fun q : Nat => b ≤ q)) 0 0 0 [some (.ref P)] [] S
  obtain ⟨lt, o, quota, score, guest, party, wishCount, wishes, has⟩ := id hP
  refine a_aload_n X dX4_clear_0 rfl ?_
  refine a_iconst (v := 0) X dX4_clear_1 (by decide) ?_
  refine a_puti X lf4_33 (by assumption) rfl dX4_clear_2 ?_
  refine a_aload_n X dX4_clear_5 rfl ?_
  refine a_iconst (v := 0) X dX4_clear_6 (by decide) ?_
  refine a_puti X lf4_37 (by assumption) rfl dX4_clear_7 ?_
  refine a_aload_n X dX4_clear_10 rfl ?_
  refine a_iconst (v := 0) X dX4_clear_11 (by decide) ?_
  refine a_puti X lf4_40 (by assumption) rfl dX4_clear_12 ?_
  refine a_aload_n X dX4_clear_15 rfl ?_
  refine a_iconst (v := 0) X dX4_clear_16 (by decide) ?_
  refine a_puti X lf4_43 (by assumption) rfl dX4_clear_17 ?_
  refine a_aload_n X dX4_clear_20 rfl ?_
  refine a_iconst (v := 0) X dX4_clear_21 (by decide) ?_
  refine a_puti X lf4_46 (by assumption) rfl dX4_clear_22 ?_
  refine a_aload_n X dX4_clear_25 rfl ?_
  refine a_bipush (v := 100) X dX4_clear_26 (by decide) ?_
  refine a_puti X lf4_49 (by assumption) rfl dX4_clear_28 ?_
  refine a_aload_n X dX4_clear_31 rfl ?_
  refine a_iconst (v := 0) X dX4_clear_32 (by decide) ?_
  refine a_puti X lf4_52 (by assumption) rfl dX4_clear_33 ?_
  refine a_aload_n X dX4_clear_36 rfl ?_
  refine a_getr X lf4_9 (by assumption) rfl (by omega) dX4_clear_37 ?_
  refine a_iconst (v := 0) X dX4_clear_40 (by decide) ?_
  refine a_callSNu X dX4_clear_41 miX7_fill lm4_55 (c_fill (by assumption) (by decide)) rfl rfl (Nat.le_of_ble_eq_true rfl) ⟨by decide, by decide, by decide, by decide⟩ ?_
  refine a_aload_n X dX4_clear_44 rfl ?_
  refine a_getr X lf4_15 (by assumption) rfl (by omega) dX4_clear_45 ?_
  refine a_iconst (v := 0) X dX4_clear_48 (by decide) ?_
  refine a_callSNu X dX4_clear_49 miX7_fill lm4_55 (c_fill (by assumption) (by decide)) rfl rfl (Nat.le_of_ble_eq_true rfl) ⟨by decide, by decide, by decide, by decide⟩ ?_
  refine a_aload_n X dX4_clear_52 rfl ?_
  refine a_getr X lf4_18 (by assumption) rfl (by omega) dX4_clear_53 ?_
  refine a_iconst (v := 0) X dX4_clear_56 (by decide) ?_
  refine a_callSNu X dX4_clear_57 miX7_fill lm4_55 (c_fill (by assumption) (by decide)) rfl rfl (Nat.le_of_ble_eq_true rfl) ⟨by decide, by decide, by decide, by decide⟩ ?_
  refine a_aload_n X dX4_clear_60 rfl ?_
  refine a_getr X lf4_21 (by assumption) rfl (by omega) dX4_clear_61 ?_
  refine a_iconst (v := -1) X dX4_clear_64 (by decide) ?_
  refine a_callSNu X dX4_clear_65 miX7_fill lm4_55 (c_fill (by assumption) (by decide)) rfl rfl (Nat.le_of_ble_eq_true rfl) ⟨by decide, by decide, by decide, by decide⟩ ?_
  refine a_aload_n X dX4_clear_68 rfl ?_
  refine a_getr X lf4_24 (by assumption) rfl (by omega) dX4_clear_69 ?_
  refine a_iconst (v := 0) X dX4_clear_72 (by decide) ?_
  refine a_callSNu X dX4_clear_73 miX7_fill lm4_55 (c_fill (by assumption) (by decide)) rfl rfl (Nat.le_of_ble_eq_true rfl) ⟨by decide, by decide, by decide, by decide⟩ ?_
  refine a_aload_n X dX4_clear_76 rfl ?_
  refine a_getr X lf4_27 (by assumption) rfl (by omega) dX4_clear_77 ?_
  refine a_iconst (v := -1) X dX4_clear_80 (by decide) ?_
  refine a_callSNu X dX4_clear_81 miX7_fill lm4_55 (c_fill (by assumption) (by decide)) rfl rfl (Nat.le_of_ble_eq_true rfl) ⟨by decide, by decide, by decide, by decide⟩ ?_
  refine a_aload_n X dX4_clear_84 rfl ?_
  refine a_getr X lf4_30 (by assumption) rfl (by omega) dX4_clear_85 ?_
  refine a_iconst (v := -1) X dX4_clear_88 (by decide) ?_
  refine a_callSNu X dX4_clear_89 miX7_fill lm4_55 (c_fill (by assumption) (by decide)) rfl rfl (Nat.le_of_ble_eq_true rfl) ⟨by decide, by decide, by decide, by decide⟩ ?_
  refine a_vret X hr dX4_clear_92 ⟨by decide, by decide⟩ ?_
  subst hF
  exact ⟨_, rfl, rfl, ((((((((((((((zout.rf.zu (by omega) (by omega)).zu (by omega) (by omega)).zu (by omega) (by omega)).zu (by omega) (by omega)).zu (by omega) (by omega)).zu (by omega) (by omega)).zu (by omega) (by omega)).zfil (by omega) (by omega)).zfil (by omega) (by omega)).zfil (by omega) (by omega)).zfil (by omega) (by omega)).zfil (by omega) (by omega)).zfil (by omega) (by omega)).zfil (by omega) (by omega)), by simp [zfil, zu], by simp [zfil, zu], by simp [zfil, zu], by simp [zfil, zu], by simp [zfil, zu], by simp [zfil, zu], by simp [zfil, zu], fun j hj => by simp [zfil, zu, hj], fun j hj => by simp [zfil, zu, hj], fun j hj => by simp [zfil, zu, hj], fun j hj => by simp [zfil, zu, hj], fun j hj => by simp [zfil, zu, hj], fun j hj => by simp [zfil, zu, hj], fun j hj => by simp [zfil, zu, hj]⟩
set_option maxRecDepth 100000 in
theorem c_take {l : Launch} {G : zG} {b : Nat} {S : zS} {P F : Nat} (hP : LX4 S.1 P) (hF0 : LX4 S.1 F) (hne : F + 8 ≤ P ∨ P + 8 ≤ F) : zM l G b yX4_take cX4_take 2 none 2 0 0 [.ref P, .ref F] S (fun r z => ∃ M', r = none ∧ z = (S.1, M', S.2.2) ∧ zout S.2.1 M' P (P + 8) ∧ M' P 0 = S.2.1 F 0 ∧ M' P 1 = S.2.1 F 1 ∧ M' P 2 = S.2.1 F 2 ∧ M' P 3 = S.2.1 F 3 ∧ M' P 4 = S.2.1 F 4 ∧ M' P 5 = S.2.1 F 5 ∧ M' P 6 = S.2.1 F 6 ∧ (∀ j, j < 5 → M' (P + 1) j = S.2.1 (F + 1) j) ∧ (∀ j, j < 10 → M' (P + 2) j = S.2.1 (F + 2) j) ∧ (∀ j, j < 10 → M' (P + 3) j = S.2.1 (F + 3) j) ∧ (∀ j, j < 10 → M' (P + 4) j = S.2.1 (F + 4) j) ∧ (∀ j, j < 10 → M' (P + 5) j = S.2.1 (F + 5) j) ∧ (∀ j, j < 30 → M' (P + 6) j = S.2.1 (F + 6) j) ∧ (∀ j, j < 10 → M' (P + 7) j = S.2.1 (F + 7) j)) := by
  refine zM.of miX4_take (Nat.le_of_ble_eq_true rfl) ?_
  intro p e s m args below meth c X hr hname
  generalize hF : ((fun r z => ∃ M', r = none ∧ z = (S.1, M', S.2.2) ∧ zout S.2.1 M' P (P + 8) ∧ M' P 0 = S.2.1 F 0 ∧ M' P 1 = S.2.1 F 1 ∧ M' P 2 = S.2.1 F 2 ∧ M' P 3 = S.2.1 F 3 ∧ M' P 4 = S.2.1 F 4 ∧ M' P 5 = S.2.1 F 5 ∧ M' P 6 = S.2.1 F 6 ∧ (∀ j, j < 5 → M' (P + 1) j = S.2.1 (F + 1) j) ∧ (∀ j, j < 10 → M' (P + 2) j = S.2.1 (F + 2) j) ∧ (∀ j, j < 10 → M' (P + 3) j = S.2.1 (F + 3) j) ∧ (∀ j, j < 10 → M' (P + 4) j = S.2.1 (F + 4) j) ∧ (∀ j, j < 10 → M' (P + 5) j = S.2.1 (F + 5) j) ∧ (∀ j, j < 30 → M' (P + 6) j = S.2.1 (F + 6) j) ∧ (∀ j, j < 10 → M' (P + 7) j = S.2.1 (F + 7) j)) : Option Value → zS → Prop) = FQ
  change Zw p l e { frames := 2, cells := 0, slots := 0, locals := 80 * 2 } s m args below meth c G b 2 (MQ below (zQ G b FQ) args s 0 0 (fun q : Nat => b ≤ q)) 0 0 0 [some (.ref P), some (.ref F)] [] S
  obtain ⟨plt, po, pquota, pscore, pguest, pparty, pwishCount, pwishes, phas⟩ := id hP
  obtain ⟨flt, fo, fquota, fscore, fguest, fparty, fwishCount, fwishes, fhas⟩ := id hF0
  have n0 : F + 0 ≠ P := by omega
  have m0 : P + 0 ≠ F := by omega
  have n1 : F + 1 ≠ P := by omega
  have m1 : P + 1 ≠ F := by omega
  have n2 : F + 2 ≠ P := by omega
  have m2 : P + 2 ≠ F := by omega
  have n3 : F + 3 ≠ P := by omega
  have m3 : P + 3 ≠ F := by omega
  have n4 : F + 4 ≠ P := by omega
  have m4 : P + 4 ≠ F := by omega
  have n5 : F + 5 ≠ P := by omega
  have m5 : P + 5 ≠ F := by omega
  have n6 : F + 6 ≠ P := by omega
  have m6 : P + 6 ≠ F := by omega
  have n7 : F + 7 ≠ P := by omega
  have m7 : P + 7 ≠ F := by omega
  refine a_aload_n X dX4_take_0 rfl ?_
  refine a_aload_n X dX4_take_1 rfl ?_
  refine a_geti X lf4_33 (by assumption) rfl dX4_take_2 ?_
  refine a_puti X lf4_33 (by assumption) rfl dX4_take_5 ?_
  refine a_aload_n X dX4_take_8 rfl ?_
  refine a_aload_n X dX4_take_9 rfl ?_
  refine a_geti X lf4_37 (by assumption) rfl dX4_take_10 ?_
  refine a_puti X lf4_37 (by assumption) rfl dX4_take_13 ?_
  refine a_aload_n X dX4_take_16 rfl ?_
  refine a_aload_n X dX4_take_17 rfl ?_
  refine a_geti X lf4_40 (by assumption) rfl dX4_take_18 ?_
  refine a_puti X lf4_40 (by assumption) rfl dX4_take_21 ?_
  refine a_aload_n X dX4_take_24 rfl ?_
  refine a_aload_n X dX4_take_25 rfl ?_
  refine a_geti X lf4_43 (by assumption) rfl dX4_take_26 ?_
  refine a_puti X lf4_43 (by assumption) rfl dX4_take_29 ?_
  refine a_aload_n X dX4_take_32 rfl ?_
  refine a_aload_n X dX4_take_33 rfl ?_
  refine a_geti X lf4_46 (by assumption) rfl dX4_take_34 ?_
  refine a_puti X lf4_46 (by assumption) rfl dX4_take_37 ?_
  refine a_aload_n X dX4_take_40 rfl ?_
  refine a_aload_n X dX4_take_41 rfl ?_
  refine a_geti X lf4_49 (by assumption) rfl dX4_take_42 ?_
  refine a_puti X lf4_49 (by assumption) rfl dX4_take_45 ?_
  refine a_aload_n X dX4_take_48 rfl ?_
  refine a_aload_n X dX4_take_49 rfl ?_
  refine a_geti X lf4_52 (by assumption) rfl dX4_take_50 ?_
  refine a_puti X lf4_52 (by assumption) rfl dX4_take_53 ?_
  refine a_aload_n X dX4_take_56 rfl ?_
  refine a_getr X lf4_9 (by assumption) rfl (by omega) dX4_take_57 ?_
  refine a_aload_n X dX4_take_60 rfl ?_
  refine a_getr X lf4_9 (by assumption) rfl (by omega) dX4_take_61 ?_
  refine a_callSNu X dX4_take_64 miX7_copy lm4_59 (c_copy (by assumption) (by assumption) (by decide) (by decide) (by omega)) rfl rfl (Nat.le_of_ble_eq_true rfl) ⟨by decide, by decide, by decide, by decide⟩ ?_
  refine a_aload_n X dX4_take_67 rfl ?_
  refine a_getr X lf4_15 (by assumption) rfl (by omega) dX4_take_68 ?_
  refine a_aload_n X dX4_take_71 rfl ?_
  refine a_getr X lf4_15 (by assumption) rfl (by omega) dX4_take_72 ?_
  refine a_callSNu X dX4_take_75 miX7_copy lm4_59 (c_copy (by assumption) (by assumption) (by decide) (by decide) (by omega)) rfl rfl (Nat.le_of_ble_eq_true rfl) ⟨by decide, by decide, by decide, by decide⟩ ?_
  refine a_aload_n X dX4_take_78 rfl ?_
  refine a_getr X lf4_18 (by assumption) rfl (by omega) dX4_take_79 ?_
  refine a_aload_n X dX4_take_82 rfl ?_
  refine a_getr X lf4_18 (by assumption) rfl (by omega) dX4_take_83 ?_
  refine a_callSNu X dX4_take_86 miX7_copy lm4_59 (c_copy (by assumption) (by assumption) (by decide) (by decide) (by omega)) rfl rfl (Nat.le_of_ble_eq_true rfl) ⟨by decide, by decide, by decide, by decide⟩ ?_
  refine a_aload_n X dX4_take_89 rfl ?_
  refine a_getr X lf4_21 (by assumption) rfl (by omega) dX4_take_90 ?_
  refine a_aload_n X dX4_take_93 rfl ?_
  refine a_getr X lf4_21 (by assumption) rfl (by omega) dX4_take_94 ?_
  refine a_callSNu X dX4_take_97 miX7_copy lm4_59 (c_copy (by assumption) (by assumption) (by decide) (by decide) (by omega)) rfl rfl (Nat.le_of_ble_eq_true rfl) ⟨by decide, by decide, by decide, by decide⟩ ?_
  refine a_aload_n X dX4_take_100 rfl ?_
  refine a_getr X lf4_24 (by assumption) rfl (by omega) dX4_take_101 ?_
  refine a_aload_n X dX4_take_104 rfl ?_
  refine a_getr X lf4_24 (by assumption) rfl (by omega) dX4_take_105 ?_
  refine a_callSNu X dX4_take_108 miX7_copy lm4_59 (c_copy (by assumption) (by assumption) (by decide) (by decide) (by omega)) rfl rfl (Nat.le_of_ble_eq_true rfl) ⟨by decide, by decide, by decide, by decide⟩ ?_
  refine a_aload_n X dX4_take_111 rfl ?_
  refine a_getr X lf4_27 (by assumption) rfl (by omega) dX4_take_112 ?_
  refine a_aload_n X dX4_take_115 rfl ?_
  refine a_getr X lf4_27 (by assumption) rfl (by omega) dX4_take_116 ?_
  refine a_callSNu X dX4_take_119 miX7_copy lm4_59 (c_copy (by assumption) (by assumption) (by decide) (by decide) (by omega)) rfl rfl (Nat.le_of_ble_eq_true rfl) ⟨by decide, by decide, by decide, by decide⟩ ?_
  refine a_aload_n X dX4_take_122 rfl ?_
  refine a_getr X lf4_30 (by assumption) rfl (by omega) dX4_take_123 ?_
  refine a_aload_n X dX4_take_126 rfl ?_
  refine a_getr X lf4_30 (by assumption) rfl (by omega) dX4_take_127 ?_
  refine a_callSNu X dX4_take_130 miX7_copy lm4_59 (c_copy (by assumption) (by assumption) (by decide) (by decide) (by omega)) rfl rfl (Nat.le_of_ble_eq_true rfl) ⟨by decide, by decide, by decide, by decide⟩ ?_
  refine a_vret X hr dX4_take_133 ⟨by decide, by decide⟩ ?_
  subst hF
  exact ⟨_, rfl, rfl, ((((((((((((((zout.rf.zu (by omega) (by omega)).zu (by omega) (by omega)).zu (by omega) (by omega)).zu (by omega) (by omega)).zu (by omega) (by omega)).zu (by omega) (by omega)).zu (by omega) (by omega)).zcpy (by omega) (by omega)).zcpy (by omega) (by omega)).zcpy (by omega) (by omega)).zcpy (by omega) (by omega)).zcpy (by omega) (by omega)).zcpy (by omega) (by omega)).zcpy (by omega) (by omega)), by simp [zcpy, zu, n0, n1, n2, n3, n4, n5, n6, n7], by simp [zcpy, zu, n0, n1, n2, n3, n4, n5, n6, n7], by simp [zcpy, zu, n0, n1, n2, n3, n4, n5, n6, n7], by simp [zcpy, zu, n0, n1, n2, n3, n4, n5, n6, n7], by simp [zcpy, zu, n0, n1, n2, n3, n4, n5, n6, n7], by simp [zcpy, zu, n0, n1, n2, n3, n4, n5, n6, n7], by simp [zcpy, zu, n0, n1, n2, n3, n4, n5, n6, n7], fun j hj => by simp [zcpy, zu, hj, zrd_nI hj, n0, n1, n2, n3, n4, n5, n6, n7], fun j hj => by simp [zcpy, zu, hj, zrd_nI hj, n0, n1, n2, n3, n4, n5, n6, n7], fun j hj => by simp [zcpy, zu, hj, zrd_nI hj, n0, n1, n2, n3, n4, n5, n6, n7], fun j hj => by simp [zcpy, zu, hj, zrd_nI hj, n0, n1, n2, n3, n4, n5, n6, n7], fun j hj => by simp [zcpy, zu, hj, zrd_nI hj, n0, n1, n2, n3, n4, n5, n6, n7], fun j hj => by simp [zcpy, zu, hj, zrd_nI hj, n0, n1, n2, n3, n4, n5, n6, n7], fun j hj => by simp [zcpy, zu, hj, zrd_nI hj, n0, n1, n2, n3, n4, n5, n6, n7]⟩
set_option maxRecDepth 100000 in
theorem c_gatherUnits0 {l : Launch} {G : zG} {b : Nat} {S : zS} {P Q : Nat} (hP : LX2 S.1 P) (hQ : LX4 S.1 Q) (hu : S.2.1 Q 0 = 0) (hh : S.2.1 Q 1 = 0) (hp : S.2.1 Q 2 = 0) (hPQ : Q + 8 ≤ P ∨ P + 13 ≤ Q) : zM l G b yX2_gatherUnits cX2_gatherUnits 4 none 1 0 0 [.ref P, .ref Q] S (fun r z => r = none ∧ z = (S.1, zu (zu S.2.1 P 0 0) P 3 0, S.2.2)) := by
  refine zM.of miX2_gatherUnits (Nat.le_of_ble_eq_true rfl) ?_
  intro p e s m args below meth c X hr hname
  generalize hF : ((fun r z => r = none ∧ z = (S.1, zu (zu S.2.1 P 0 0) P 3 0, S.2.2)) : Option Value → zS → Prop) = FQ
  change Zw p l e { frames := 1, cells := 0, slots := 0, locals := 80 * 1 } s m args below meth c G b 4 (MQ below (zQ G b FQ) args s 0 0 (fun q : Nat => b ≤ q)) 0 0 0 [some (.ref P), some (.ref Q), none, none] [] S
  obtain ⟨plt, po, pquota, ppreferred, pforGuests, papplicantOf, psize, pguestCount, pscore, ptickets, pbits, pparty, pwishCount, pwishes⟩ := id hP
  obtain ⟨qlt, qo, qquota, qscore, qguest, qparty, qwishCount, qwishes, qhas⟩ := id hQ
  refine a_aload_n X dX2_gatherUnits_0 rfl ?_
  refine a_aload_n X dX2_gatherUnits_1 rfl ?_
  refine a_geti X lf2_87 (by assumption) rfl dX2_gatherUnits_2 ?_
  refine a_puti X lf2_90 (by assumption) rfl dX2_gatherUnits_5 ?_
  refine a_aload_n X dX2_gatherUnits_8 rfl ?_
  refine a_iconst (v := 0) X dX2_gatherUnits_9 (by decide) ?_
  refine a_putz X (by first | exact Or.inl rfl | exact Or.inr rfl | assumption) lf2_91 (by assumption) rfl dX2_gatherUnits_10 ?_
  refine a_iconst (v := 0) X dX2_gatherUnits_13 (by decide) ?_
  refine a_istore_n X dX2_gatherUnits_14 (by decide) ?_
  refine a_iload_n X dX2_gatherUnits_15 rfl ?_
  refine a_aload_n X dX2_gatherUnits_16 rfl ?_
  refine a_geti X lf2_90 (by assumption) rfl dX2_gatherUnits_17 ?_
  refine a_icmp_ge (tgt := 106) X dX2_gatherUnits_20 (by decide) (fun h_20 => ?_) (fun h_20 => absurd (by show zu (zu S.2.1 P 0 (S.2.1 Q 0)) P 3 0 P 0 ≤ 0; simp [zu, hu]) h_20)
  refine a_vret X hr dX2_gatherUnits_106 ⟨by decide, by decide⟩ ?_
  subst hF
  exact ⟨rfl, by rw [← hu]⟩
set_option maxRecDepth 100000 in
theorem c_gather0 {l : Launch} {G : zG} {b : Nat} {S : zS} {P Q : Nat} (hP : LX2 S.1 P) (hQ : LX4 S.1 Q) (hu : S.2.1 Q 0 = 0) (hh : S.2.1 Q 1 = 0) (hp : S.2.1 Q 2 = 0) (hPQ : Q + 8 ≤ P ∨ P + 13 ≤ Q) : zM l G b yX2_gather cX2_gather 4 none 2 0 0 [.ref P, .ref Q] S (fun r z => r = none ∧ z = (S.1, zu (zu (zu (zu S.2.1 P 0 0) P 3 0) P 1 0) P 2 0, S.2.2)) := by
  refine zM.of miX2_gather (Nat.le_of_ble_eq_true rfl) ?_
  intro p e s m args below meth c X hr hname
  generalize hF : ((fun r z => r = none ∧ z = (S.1, zu (zu (zu (zu S.2.1 P 0 0) P 3 0) P 1 0) P 2 0, S.2.2)) : Option Value → zS → Prop) = FQ
  change Zw p l e { frames := 2, cells := 0, slots := 0, locals := 80 * 2 } s m args below meth c G b 4 (MQ below (zQ G b FQ) args s 0 0 (fun q : Nat => b ≤ q)) 0 0 0 [some (.ref P), some (.ref Q), none, none] [] S
  have hP9 := hP
  have hQ9 := hQ
  obtain ⟨plt, po, pquota, ppreferred, pforGuests, papplicantOf, psize, pguestCount, pscore, ptickets, pbits, pparty, pwishCount, pwishes⟩ := id hP
  obtain ⟨qlt, qo, qquota, qscore, qguest, qparty, qwishCount, qwishes, qhas⟩ := id hQ
  have n0 : Q ≠ P := by omega
  refine a_aload_n X dX2_gather_0 rfl ?_
  refine a_aload_n X dX2_gather_1 rfl ?_
  refine a_callVu X dX2_gather_2 miX2_gatherUnits lm2_48 (c_gatherUnits0 hP hQ hu hh hp hPQ) (by assumption) rfl rfl rfl (Nat.le_of_ble_eq_true rfl) ⟨by decide, by decide, by decide, by decide⟩ ?_
  refine a_aload_n X dX2_gather_5 rfl ?_
  refine a_iconst (v := 0) X dX2_gather_6 (by decide) ?_
  refine a_puti X lf2_52 (by assumption) rfl dX2_gather_7 ?_
  refine a_iconst (v := 0) X dX2_gather_10 (by decide) ?_
  refine a_istore_n X dX2_gather_11 (by decide) ?_
  refine a_iload_n X dX2_gather_12 rfl ?_
  refine a_aload_n X dX2_gather_13 rfl ?_
  refine a_geti X lf2_56 (by assumption) rfl dX2_gather_14 ?_
  refine a_icmp_ge (tgt := 49) X dX2_gather_17 (by decide) (fun h_17 => ?_) (fun h_17 => absurd (by show (zu (zu (zu S.2.1 P 0 0) P 3 0) P 1 0) Q 1 ≤ 0; simp [zu, hu, hh, hp, n0]) h_17)
  refine a_iconst (v := 0) X dX2_gather_49 (by decide) ?_
  refine a_istore_n X dX2_gather_50 (by decide) ?_
  refine a_iload_n X dX2_gather_51 rfl ?_
  refine a_aload_n X dX2_gather_52 rfl ?_
  refine a_geti X lf2_74 (by assumption) rfl dX2_gather_53 ?_
  refine a_icmp_ge (tgt := 104) X dX2_gather_56 (by decide) (fun h_56 => ?_) (fun h_56 => absurd (by show (zu (zu (zu S.2.1 P 0 0) P 3 0) P 1 0) Q 2 ≤ 0; simp [zu, hu, hh, hp, n0]) h_56)
  refine a_aload_n X dX2_gather_104 rfl ?_
  refine a_iconst (v := 0) X dX2_gather_105 (by decide) ?_
  refine a_puti X lf2_77 (by assumption) rfl dX2_gather_106 ?_
  refine a_iconst (v := 0) X dX2_gather_109 (by decide) ?_
  refine a_istore_n X dX2_gather_110 (by decide) ?_
  refine a_iload_n X dX2_gather_111 rfl ?_
  refine a_aload_n X dX2_gather_112 rfl ?_
  refine a_geti X lf2_52 (by assumption) rfl dX2_gather_113 ?_
  refine a_icmp_ge (tgt := 151) X dX2_gather_116 (by decide) (fun h_116 => ?_) (fun h_116 => absurd (by show (zu (zu (zu (zu S.2.1 P 0 0) P 3 0) P 1 0) P 2 0) P 1 ≤ 0; simp [zu, hu, hh, hp, n0]) h_116)
  refine a_vret X hr dX2_gather_151 ⟨by decide, by decide⟩ ?_
  subst hF
  exact ⟨rfl, rfl⟩
set_option maxRecDepth 100000 in
theorem c_lineUp0 {l : Launch} {G : zG} {b : Nat} {S : zS} {P Q : Nat}{sd : Int32} (hP : LX5 S.1 P) (hQ : LX2 S.1 Q) (hc : S.2.1 Q 1 = 0) (hu : S.2.1 Q 0 = 0) (hn : S.2.1 Q 3 = 0) : zM l G b yX5_lineUp cX5_lineUp 9 none 0 0 0 [.ref P, .ref Q, .int sd] S (fun r z => r = none ∧ z = S) := by
  refine zM.of miX5_lineUp (Nat.le_of_ble_eq_true rfl) ?_
  intro p e s m args below meth c X hr hname
  generalize hF : ((fun r z => r = none ∧ z = S) : Option Value → zS → Prop) = FQ
  change Zw p l e { frames := 0, cells := 0, slots := 0, locals := 80 * 0 } s m args below meth c G b 9 (MQ below (zQ G b FQ) args s 0 0 (fun q : Nat => b ≤ q)) 0 0 0 [some (.ref P), some (.ref Q), some (.int sd), none, none, none, none, none, none] [] S
  obtain ⟨plt, po, pline, punitOf, proundOf, pleftTags, pleftGuests, pleftPreferred, pranked⟩ := id hP
  obtain ⟨qlt, qo, qquota, qpreferred, qforGuests, qapplicantOf, qsize, qguestCount, qscore, qtickets, qbits, qparty, qwishCount, qwishes⟩ := id hQ
  refine a_iload_n X dX5_lineUp_0 rfl ?_
  refine a_i2l X dX5_lineUp_1 ?_
  refine a_lstore_n X dX5_lineUp_2 (by decide) ?_
  refine a_aload_n X dX5_lineUp_3 rfl ?_
  refine a_geti X lf5_41 (by assumption) rfl dX5_lineUp_4 ?_
  refine a_istore X dX5_lineUp_7 (by decide) ?_
  refine a_iconst (v := 1) X dX5_lineUp_9 (by decide) ?_
  refine a_aload_n X dX5_lineUp_10 rfl ?_
  refine a_geti X lf5_47 (by assumption) rfl dX5_lineUp_11 ?_
  refine a_ishl X dX5_lineUp_14 ?_
  refine a_iconst (v := 1) X dX5_lineUp_15 (by decide) ?_
  refine a_isub X dX5_lineUp_16 ?_
  refine a_istore X dX5_lineUp_17 (by decide) ?_
  refine a_iconst (v := 0) X dX5_lineUp_19 (by decide) ?_
  refine a_istore X dX5_lineUp_20 (by decide) ?_
  refine a_iload X dX5_lineUp_22 rfl ?_
  refine a_aload_n X dX5_lineUp_24 rfl ?_
  refine a_geti X lf5_47 (by assumption) rfl dX5_lineUp_25 ?_
  refine a_icmp_ge (tgt := 110) X dX5_lineUp_28 (by decide) (fun h_28 => ?_) (fun h_28 => absurd (by show S.2.1 Q 1 ≤ 0; rw [hc]; decide) h_28)
  refine a_vret X hr dX5_lineUp_110 ⟨by decide, by decide⟩ ?_
  subst hF
  exact ⟨rfl, rfl⟩
set_option maxRecDepth 100000 in
theorem c_secondRound0 {l : Launch} {G : zG} {b : Nat} {S : zS} {P Q : Nat} (hP : LX5 S.1 P) (hQ : LX2 S.1 Q) (hc : S.2.1 Q 1 = 0) (hu : S.2.1 Q 0 = 0) (hn : S.2.1 Q 3 = 0) : zM l G b yX5_secondRound cX5_secondRound 7 none 0 0 0 [.ref P, .ref Q] S (fun r z => r = none ∧ z = S) := by
  refine zM.of miX5_secondRound (Nat.le_of_ble_eq_true rfl) ?_
  intro p e s m args below meth c X hr hname
  generalize hF : ((fun r z => r = none ∧ z = S) : Option Value → zS → Prop) = FQ
  change Zw p l e { frames := 0, cells := 0, slots := 0, locals := 80 * 0 } s m args below meth c G b 7 (MQ below (zQ G b FQ) args s 0 0 (fun q : Nat => b ≤ q)) 0 0 0 [some (.ref P), some (.ref Q), none, none, none, none, none] [] S
  obtain ⟨plt, po, pline, punitOf, proundOf, pleftTags, pleftGuests, pleftPreferred, pranked⟩ := id hP
  obtain ⟨qlt, qo, qquota, qpreferred, qforGuests, qapplicantOf, qsize, qguestCount, qscore, qtickets, qbits, qparty, qwishCount, qwishes⟩ := id hQ
  refine a_iconst (v := 0) X dX5_secondRound_0 (by decide) ?_
  refine a_istore_n X dX5_secondRound_1 (by decide) ?_
  refine a_iload_n X dX5_secondRound_2 rfl ?_
  refine a_aload_n X dX5_secondRound_3 rfl ?_
  refine a_geti X lf5_47 (by assumption) rfl dX5_secondRound_4 ?_
  refine a_icmp_ge (tgt := 114) X dX5_secondRound_7 (by decide) (fun h_7 => ?_) (fun h_7 => absurd (by show S.2.1 Q 1 ≤ 0; rw [hc]; decide) h_7)
  refine a_vret X hr dX5_secondRound_114 ⟨by decide, by decide⟩ ?_
  subst hF
  exact ⟨rfl, rfl⟩
set_option maxRecDepth 100000 in
theorem c_settle0 {l : Launch} {G : zG} {b : Nat} {S : zS} {P Q : Nat} (hP : LX5 S.1 P) (hQ : LX2 S.1 Q) (hc : S.2.1 Q 1 = 0) (hu : S.2.1 Q 0 = 0) (hn : S.2.1 Q 3 = 0) : zM l G b yX5_settle cX5_settle 3 none 1 0 0 [.ref P, .ref Q] S (fun r z => r = none ∧ z = S) := by
  refine zM.of miX5_settle (Nat.le_of_ble_eq_true rfl) ?_
  intro p e s m args below meth c X hr hname
  generalize hF : ((fun r z => r = none ∧ z = S) : Option Value → zS → Prop) = FQ
  change Zw p l e { frames := 1, cells := 0, slots := 0, locals := 80 * 1 } s m args below meth c G b 3 (MQ below (zQ G b FQ) args s 0 0 (fun q : Nat => b ≤ q)) 0 0 0 [some (.ref P), some (.ref Q), none] [] S
  obtain ⟨plt, po, pline, punitOf, proundOf, pleftTags, pleftGuests, pleftPreferred, pranked⟩ := id hP
  obtain ⟨qlt, qo, qquota, qpreferred, qforGuests, qapplicantOf, qsize, qguestCount, qscore, qtickets, qbits, qparty, qwishCount, qwishes⟩ := id hQ
  refine a_iconst (v := 0) X dX5_settle_0 (by decide) ?_
  refine a_istore_n X dX5_settle_1 (by decide) ?_
  refine a_iload_n X dX5_settle_2 rfl ?_
  refine a_aload_n X dX5_settle_3 rfl ?_
  refine a_geti X lf5_47 (by assumption) rfl dX5_settle_4 ?_
  refine a_icmp_ge (tgt := 34) X dX5_settle_7 (by decide) (fun h_7 => ?_) (fun h_7 => absurd (by show S.2.1 Q 1 ≤ 0; rw [hc]; decide) h_7)
  refine a_iconst (v := 0) X dX5_settle_34 (by decide) ?_
  refine a_istore_n X dX5_settle_35 (by decide) ?_
  refine a_iload_n X dX5_settle_36 rfl ?_
  refine a_aload_n X dX5_settle_37 rfl ?_
  refine a_geti X lf5_73 (by assumption) rfl dX5_settle_38 ?_
  refine a_icmp_ge (tgt := 98) X dX5_settle_41 (by decide) (fun h_41 => ?_) (fun h_41 => absurd (by show S.2.1 Q 0 ≤ 0; rw [hu]; decide) h_41)
  refine a_aload_n X dX5_settle_98 rfl ?_
  refine a_geti X lf5_85 (by assumption) rfl dX5_settle_99 ?_
  refine a_if_eq (tgt := 110) X dX5_settle_102 (by decide) (fun h_102 => ?_) (fun h_102 => absurd (by show S.2.1 Q 3 = 0; exact hn) h_102)
  refine a_aload_n X dX5_settle_110 rfl ?_
  refine a_aload_n X dX5_settle_111 rfl ?_
  refine a_callVu X dX5_settle_112 miX5_secondRound lm5_92 (c_secondRound0 (by assumption) (by assumption) (by assumption) (by assumption) (by assumption)) (by assumption) rfl rfl rfl (Nat.le_of_ble_eq_true rfl) ⟨by decide, by decide, by decide, by decide⟩ ?_
  refine a_vret X hr dX5_settle_115 ⟨by decide, by decide⟩ ?_
  subst hF
  exact ⟨rfl, rfl⟩
set_option maxRecDepth 100000 in
theorem c_bySeed0 {l : Launch} {G : zG} {b : Nat} {S : zS} {P Q : Nat}{sd : Int32} (hP : LX5 S.1 P) (hQ : LX2 S.1 Q) (hc : S.2.1 Q 1 = 0) (hu : S.2.1 Q 0 = 0) (hn : S.2.1 Q 3 = 0) : zM l G b yX5_bySeed cX5_bySeed 3 none 2 0 0 [.ref P, .ref Q, .int sd] S (fun r z => r = none ∧ z = S) := by
  refine zM.of miX5_bySeed (Nat.le_of_ble_eq_true rfl) ?_
  intro p e s m args below meth c X hr hname
  generalize hF : ((fun r z => r = none ∧ z = S) : Option Value → zS → Prop) = FQ
  change Zw p l e { frames := 2, cells := 0, slots := 0, locals := 80 * 2 } s m args below meth c G b 3 (MQ below (zQ G b FQ) args s 0 0 (fun q : Nat => b ≤ q)) 0 0 0 [some (.ref P), some (.ref Q), some (.int sd)] [] S
  obtain ⟨plt, po, pline, punitOf, proundOf, pleftTags, pleftGuests, pleftPreferred, pranked⟩ := id hP
  obtain ⟨qlt, qo, qquota, qpreferred, qforGuests, qapplicantOf, qsize, qguestCount, qscore, qtickets, qbits, qparty, qwishCount, qwishes⟩ := id hQ
  refine a_aload_n X dX5_bySeed_0 rfl ?_
  refine a_aload_n X dX5_bySeed_1 rfl ?_
  refine a_iload_n X dX5_bySeed_2 rfl ?_
  refine a_callVu X dX5_bySeed_3 miX5_lineUp lm5_33 (c_lineUp0 (by assumption) (by assumption) (by assumption) (by assumption) (by assumption)) (by assumption) rfl rfl rfl (Nat.le_of_ble_eq_true rfl) ⟨by decide, by decide, by decide, by decide⟩ ?_
  refine a_aload_n X dX5_bySeed_6 rfl ?_
  refine a_aload_n X dX5_bySeed_7 rfl ?_
  refine a_callVu X dX5_bySeed_8 miX5_settle lm5_37 (c_settle0 (by assumption) (by assumption) (by assumption) (by assumption) (by assumption)) (by assumption) rfl rfl rfl (Nat.le_of_ble_eq_true rfl) ⟨by decide, by decide, by decide, by decide⟩ ?_
  refine a_vret X hr dX5_bySeed_11 ⟨by decide, by decide⟩ ?_
  subst hF
  exact ⟨rfl, rfl⟩
set_option maxRecDepth 100000 in
theorem c_tagsGiven0 {l : Launch} {G : zG} {b : Nat} {S : zS} {P Q : Nat} (hP : LX5 S.1 P) (hQ : LX2 S.1 Q) (hc : S.2.1 Q 1 = 0) (hu : S.2.1 Q 0 = 0) (hn : S.2.1 Q 3 = 0) : zM l G b yX5_tagsGiven cX5_tagsGiven 4 (some .int) 0 0 0 [.ref P, .ref Q] S (fun r z => r = some (.int 0) ∧ z = S) := by
  refine zM.of miX5_tagsGiven (Nat.le_of_ble_eq_true rfl) ?_
  intro p e s m args below meth c X hr hname
  generalize hF : ((fun r z => r = some (.int 0) ∧ z = S) : Option Value → zS → Prop) = FQ
  change Zw p l e { frames := 0, cells := 0, slots := 0, locals := 80 * 0 } s m args below meth c G b 4 (MQ below (zQ G b FQ) args s 0 0 (fun q : Nat => b ≤ q)) 0 0 0 [some (.ref P), some (.ref Q), none, none] [] S
  obtain ⟨plt, po, pline, punitOf, proundOf, pleftTags, pleftGuests, pleftPreferred, pranked⟩ := id hP
  obtain ⟨qlt, qo, qquota, qpreferred, qforGuests, qapplicantOf, qsize, qguestCount, qscore, qtickets, qbits, qparty, qwishCount, qwishes⟩ := id hQ
  refine a_iconst (v := 0) X dX5_tagsGiven_0 (by decide) ?_
  refine a_istore_n X dX5_tagsGiven_1 (by decide) ?_
  refine a_iconst (v := 0) X dX5_tagsGiven_2 (by decide) ?_
  refine a_istore_n X dX5_tagsGiven_3 (by decide) ?_
  refine a_iload_n X dX5_tagsGiven_4 rfl ?_
  refine a_aload_n X dX5_tagsGiven_5 rfl ?_
  refine a_geti X lf5_47 (by assumption) rfl dX5_tagsGiven_6 ?_
  refine a_icmp_ge (tgt := 45) X dX5_tagsGiven_9 (by decide) (fun h_9 => ?_) (fun h_9 => absurd (by show S.2.1 Q 1 ≤ 0; rw [hc]; decide) h_9)
  refine a_iload_n X dX5_tagsGiven_45 rfl ?_
  refine a_iret X hr dX5_tagsGiven_46 ⟨by decide, by decide⟩ ?_
  subst hF
  exact ⟨rfl, rfl⟩
set_option maxRecDepth 100000 in
theorem c_tagsOf0 {l : Launch} {G : zG} {b : Nat} {S : zS} {Q : Nat} {k : Int32} (hQ : LX2 S.1 Q) (hc : S.2.1 Q 1 = 0) (hu : S.2.1 Q 0 = 0) (hn : S.2.1 Q 3 = 0) : zM l G b yX0_tagsOf cX0_tagsOf 4 (some .int) 0 0 0 [.ref Q, .int k] S (fun r z => r = some (.int 0) ∧ z = S) := by
  refine zM.of miX0_tagsOf (Nat.le_of_ble_eq_true rfl) ?_
  intro p e s m args below meth c X hr hname
  generalize hF : ((fun r z => r = some (.int 0) ∧ z = S) : Option Value → zS → Prop) = FQ
  change Zw p l e { frames := 0, cells := 0, slots := 0, locals := 80 * 0 } s m args below meth c G b 4 (MQ below (zQ G b FQ) args s 0 0 (fun q : Nat => b ≤ q)) 0 0 0 [some (.ref Q), some (.int k), none, none] [] S
  obtain ⟨qlt, qo, qquota, qpreferred, qforGuests, qapplicantOf, qsize, qguestCount, qscore, qtickets, qbits, qparty, qwishCount, qwishes⟩ := id hQ
  refine a_iconst (v := 0) X dX0_tagsOf_0 (by decide) ?_
  refine a_istore_n X dX0_tagsOf_1 (by decide) ?_
  refine a_iconst (v := 0) X dX0_tagsOf_2 (by decide) ?_
  refine a_istore_n X dX0_tagsOf_3 (by decide) ?_
  refine a_iload_n X dX0_tagsOf_4 rfl ?_
  refine a_aload_n X dX0_tagsOf_5 rfl ?_
  refine a_geti X lf0_40 (by assumption) rfl dX0_tagsOf_6 ?_
  refine a_icmp_ge (tgt := 42) X dX0_tagsOf_9 (by decide) (fun h_9 => ?_) (fun h_9 => absurd (by show S.2.1 Q 1 ≤ 0; rw [hc]; decide) h_9)
  refine a_iload_n X dX0_tagsOf_42 rfl ?_
  refine a_iret X hr dX0_tagsOf_43 ⟨by decide, by decide⟩ ?_
  subst hF
  exact ⟨rfl, rfl⟩
set_option maxRecDepth 100000 in
theorem c_record0 {l : Launch} {G : zG} {b : Nat} {S : zS} {P Q : Nat} {w : Int64} (hP : LX0 S.1 P) (hQ : LX2 S.1 Q) (hc : S.2.1 Q 1 = 0) (hu : S.2.1 Q 0 = 0) (hn : S.2.1 Q 3 = 0) : zM l G b yX0_record cX0_record 7 none 1 0 0 [.ref P, .ref Q, .long w] S (fun r z => r = none ∧ z = (S.1, zu S.2.1 (P + 2) 0 1, zwr S.2.2 (P + 1) 128 0 (zrd 0 (S.2.2 (P + 1)) 128 0 + w))) := by
  refine zM.of miX0_record (Nat.le_of_ble_eq_true rfl) ?_
  intro p e s m args below meth c X hr hname
  generalize hF : ((fun r z => r = none ∧ z = (S.1, zu S.2.1 (P + 2) 0 1, zwr S.2.2 (P + 1) 128 0 (zrd 0 (S.2.2 (P + 1)) 128 0 + w))) : Option Value → zS → Prop) = FQ
  change Zw p l e { frames := 1, cells := 0, slots := 0, locals := 80 * 1 } s m args below meth c G b 7 (MQ below (zQ G b FQ) args s 0 0 (fun q : Nat => b ≤ q)) 0 0 0 [some (.ref P), some (.ref Q), some (.long w), none, none, none, none] [] S
  obtain ⟨plt, po, psets, pseen, patUnit, pearly, presult⟩ := id hP
  obtain ⟨qlt, qo, qquota, qpreferred, qforGuests, qapplicantOf, qsize, qguestCount, qscore, qtickets, qbits, qparty, qwishCount, qwishes⟩ := id hQ
  refine a_iconst (v := 0) X dX0_record_0 (by decide) ?_
  refine a_istore X dX0_record_1 (by decide) ?_
  refine a_iconst (v := 0) X dX0_record_3 (by decide) ?_
  refine a_istore X dX0_record_4 (by decide) ?_
  refine a_iload X dX0_record_6 rfl ?_
  refine a_aload_n X dX0_record_8 rfl ?_
  refine a_geti X lf0_40 (by assumption) rfl dX0_record_9 ?_
  refine a_icmp_ge (tgt := 94) X dX0_record_12 (by decide) (fun h_12 => ?_) (fun h_12 => absurd (by show S.2.1 Q 1 ≤ 0; rw [hc]; decide) h_12)
  refine a_aload_n X dX0_record_94 rfl ?_
  refine a_getr X lf0_9 (by assumption) rfl (by omega) dX0_record_95 ?_
  refine a_iload X dX0_record_98 rfl ?_
  refine a_lload_n X dX0_record_100 rfl ?_
  refine a_callSNu X dX0_record_101 miX7_bigAdd lm0_80 (c_bigAdd (by assumption) (by decide)) rfl rfl (Nat.le_of_ble_eq_true rfl) ⟨by decide, by decide, by decide, by decide⟩ ?_
  refine a_aload_n X dX0_record_104 rfl ?_
  refine a_getr X lf0_15 (by assumption) rfl (by omega) dX0_record_105 ?_
  refine a_iload X dX0_record_108 rfl ?_
  refine a_iconst (v := 1) X dX0_record_110 (by decide) ?_
  refine a_callSNu X dX0_record_111 miX7_put lm0_73 (c_put (by assumption) (by decide)) rfl rfl (Nat.le_of_ble_eq_true rfl) ⟨by decide, by decide, by decide, by decide⟩ ?_
  refine a_vret X hr dX0_record_114 ⟨by decide, by decide⟩ ?_
  subst hF
  exact ⟨rfl, rfl⟩
set_option maxRecDepth 100000 in
theorem c_walk0 {l : Launch} {G : zG} {b : Nat} {S : zS} {P Q : Nat} {dp tk : Int32} {w : Int64} (hP : LX0 S.1 P) (hQ : LX2 S.1 Q) (hc : S.2.1 Q 1 = 0) (hu : S.2.1 Q 0 = 0) (hn : S.2.1 Q 3 = 0) : zM l G b yX0_walk cX0_walk 9 none 2 0 0 [.ref P, .ref Q, .int dp, .int 0, .int tk, .long w] S (fun r z => r = none ∧ z = (S.1, zu S.2.1 (P + 2) 0 1, zwr S.2.2 (P + 1) 128 0 (zrd 0 (S.2.2 (P + 1)) 128 0 + w))) := by
  refine zM.of miX0_walk (Nat.le_of_ble_eq_true rfl) ?_
  intro p e s m args below meth c X hr hname
  generalize hF : ((fun r z => r = none ∧ z = (S.1, zu S.2.1 (P + 2) 0 1, zwr S.2.2 (P + 1) 128 0 (zrd 0 (S.2.2 (P + 1)) 128 0 + w))) : Option Value → zS → Prop) = FQ
  change Zw p l e { frames := 2, cells := 0, slots := 0, locals := 80 * 2 } s m args below meth c G b 9 (MQ below (zQ G b FQ) args s 0 0 (fun q : Nat => b ≤ q)) 0 0 0 [some (.ref P), some (.ref Q), some (.int dp), some (.int 0), some (.int tk), some (.long w), none, none, none] [] S
  obtain ⟨plt, po, psets, pseen, patUnit, pearly, presult⟩ := id hP
  obtain ⟨qlt, qo, qquota, qpreferred, qforGuests, qapplicantOf, qsize, qguestCount, qscore, qtickets, qbits, qparty, qwishCount, qwishes⟩ := id hQ
  have pr := presult
  obtain ⟨rlt, ro, _⟩ := presult
  refine a_iload_n X dX0_walk_0 rfl ?_
  refine a_if_ne (tgt := 20) X dX0_walk_1 (by decide) (fun h_1 => absurd rfl h_1) (fun h_1 => ?_)
  refine a_aload_n X dX0_walk_4 rfl ?_
  refine a_getr X lf0_28 (by assumption) rfl (by omega) dX0_walk_5 ?_
  refine a_aload_n X dX0_walk_8 rfl ?_
  refine a_callVu X dX0_walk_9 miX5_settle lm0_55 (c_settle0 (by assumption) (by assumption) (by assumption) (by assumption) (by assumption)) (by assumption) rfl rfl rfl (Nat.le_of_ble_eq_true rfl) ⟨by decide, by decide, by decide, by decide⟩ ?_
  refine a_aload_n X dX0_walk_12 rfl ?_
  refine a_aload_n X dX0_walk_13 rfl ?_
  refine a_lload X dX0_walk_14 rfl ?_
  refine a_callVu X dX0_walk_16 miX0_record lm0_59 (c_record0 (by assumption) (by assumption) (by assumption) (by assumption) (by assumption)) (by assumption) rfl rfl rfl (Nat.le_of_ble_eq_true rfl) ⟨by decide, by decide, by decide, by decide⟩ ?_
  refine a_vret X hr dX0_walk_19 ⟨by decide, by decide⟩ ?_
  subst hF
  exact ⟨rfl, rfl⟩
set_option maxRecDepth 100000 in
theorem c_reckon0 {l : Launch} {G : zG} {b : Nat} {S : zS} {P Q : Nat} (hPQ : Q + 13 ≤ P ∨ P + 13 ≤ Q) (hP : LX0 S.1 P) (hQ : LX2 S.1 Q) (hc : S.2.1 Q 1 = 0) (hu : S.2.1 Q 0 = 0) (hn : S.2.1 Q 3 = 0) : zM l G b yX0_reckon cX0_reckon 2 none 3 0 0 [.ref P, .ref Q] S (fun r z => ∃ M' N', r = none ∧ z = (S.1, M', N') ∧ zout S.2.1 M' (P + 2) (P + 3) ∧ M' (P + 2) 0 = 1 ∧ ∀ j, 0 < j → j < 128 → M' (P + 2) j = 0) := by
  refine zM.of miX0_reckon (Nat.le_of_ble_eq_true rfl) ?_
  intro p e s m args below meth c X hr hname
  generalize hF : ((fun r z => ∃ M' N', r = none ∧ z = (S.1, M', N') ∧ zout S.2.1 M' (P + 2) (P + 3) ∧ M' (P + 2) 0 = 1 ∧ ∀ j, 0 < j → j < 128 → M' (P + 2) j = 0) : Option Value → zS → Prop) = FQ
  change Zw p l e { frames := 3, cells := 0, slots := 0, locals := 80 * 3 } s m args below meth c G b 2 (MQ below (zQ G b FQ) args s 0 0 (fun q : Nat => b ≤ q)) 0 0 0 [some (.ref P), some (.ref Q)] [] S
  obtain ⟨plt, po, psets, pseen, patUnit, pearly, presult⟩ := id hP
  obtain ⟨qlt, qo, qquota, qpreferred, qforGuests, qapplicantOf, qsize, qguestCount, qscore, qtickets, qbits, qparty, qwishCount, qwishes⟩ := id hQ
  have nq : ¬ Q = P + 2 := by omega
  refine a_aload_n X dX0_reckon_0 rfl ?_
  refine a_getr X lf0_9 (by assumption) rfl (by omega) dX0_reckon_1 ?_
  refine a_lconst (v := 0) X dX0_reckon_4 (by decide) ?_
  refine a_callSNu X dX0_reckon_5 miX7_bigFill lm0_32 (c_bigFill (by assumption) (by decide)) rfl rfl (Nat.le_of_ble_eq_true rfl) ⟨by decide, by decide, by decide, by decide⟩ ?_
  refine a_aload_n X dX0_reckon_8 rfl ?_
  refine a_getr X lf0_15 (by assumption) rfl (by omega) dX0_reckon_9 ?_
  refine a_iconst (v := 0) X dX0_reckon_12 (by decide) ?_
  refine a_callSNu X dX0_reckon_13 miX7_fill lm0_36 (c_fill (by assumption) (by decide)) rfl rfl (Nat.le_of_ble_eq_true rfl) ⟨by decide, by decide, by decide, by decide⟩ ?_
  refine a_aload_n X dX0_reckon_16 rfl ?_
  refine a_getr X lf0_19 (by assumption) rfl (by omega) dX0_reckon_17 ?_
  refine a_lconst (v := 0) X dX0_reckon_20 (by decide) ?_
  refine a_callSNu X dX0_reckon_21 miX7_bigFill lm0_32 (c_bigFill (by assumption) (by decide)) rfl rfl (Nat.le_of_ble_eq_true rfl) ⟨by decide, by decide, by decide, by decide⟩ ?_
  refine a_aload_n X dX0_reckon_24 rfl ?_
  refine a_getr X lf0_22 (by assumption) rfl (by omega) dX0_reckon_25 ?_
  refine a_lconst (v := 0) X dX0_reckon_28 (by decide) ?_
  refine a_callSNu X dX0_reckon_29 miX7_bigFill lm0_32 (c_bigFill (by assumption) (by decide)) rfl rfl (Nat.le_of_ble_eq_true rfl) ⟨by decide, by decide, by decide, by decide⟩ ?_
  refine a_aload_n X dX0_reckon_32 rfl ?_
  refine a_geti X lf0_40 (by assumption) rfl dX0_reckon_33 ?_
  refine a_bipush (v := 7) X dX0_reckon_36 (by decide) ?_
  refine a_icmp_gt (tgt := 62) X dX0_reckon_38 (by decide) (fun h_38 => absurd h_38 (by show ¬ 7 < zfil S.2.1 (P + 2) 128 0 Q 1; rw [zfil_row nq, hc]; decide)) (fun h_38 => ?_)
  refine a_aload_n X dX0_reckon_41 rfl ?_
  refine a_aload_n X dX0_reckon_42 rfl ?_
  refine a_iconst (v := 0) X dX0_reckon_43 (by decide) ?_
  refine a_iconst (v := 1) X dX0_reckon_44 (by decide) ?_
  refine a_aload_n X dX0_reckon_45 rfl ?_
  refine a_geti X lf0_40 (by assumption) rfl dX0_reckon_46 ?_
  refine a_ishl X dX0_reckon_49 ?_
  refine a_iconst (v := 1) X dX0_reckon_50 (by decide) ?_
  refine a_isub X dX0_reckon_51 ?_
  refine a_aload_n X dX0_reckon_52 rfl ?_
  refine a_geti X lf0_46 (by assumption) rfl dX0_reckon_53 ?_
  refine a_ldc2 X dX0_reckon_56 lk0_49 ?_
  rw [show (1 <<< (zfil S.2.1 (P + 2) 128 0 Q 1 &&& 31) - 1 : Int32) = 0 by rw [zfil_row nq, hc]; decide]
  refine a_callSu X dX0_reckon_59 miX0_walk lm0_51 (c_walk0 (w := 1000000000000) hP hQ (by show zfil S.2.1 (P + 2) 128 0 Q 1 = 0; rw [zfil_row nq, hc]) (by show zfil S.2.1 (P + 2) 128 0 Q 0 = 0; rw [zfil_row nq, hu]) (by show zfil S.2.1 (P + 2) 128 0 Q 3 = 0; rw [zfil_row nq, hn])) rfl rfl (Nat.le_of_ble_eq_true rfl) ⟨by decide, by decide, by decide, by decide⟩ ?_
  refine a_vret X hr dX0_reckon_62 ⟨by decide, by decide⟩ ?_
  subst hF
  exact ⟨_, _, rfl, rfl, (zout.rf.zfil (by omega) (by omega)).zu (by omega) (by omega), zu_eq, fun j h1 h2 => by simp [zu, zfil, h2]; omega⟩
set_option maxRecDepth 100000 in
theorem c_always {l : Launch} {G : zG} {b : Nat} {S : zS} {P : Nat} (hP : LX0 S.1 P) : zM l G b yX0_always cX0_always 3 (some .int) 1 0 0 [.ref P] S (fun r z => r = some (.int (zand (S.2.1 (P + 2)) 128)) ∧ z = S) := by
  refine zM.of miX0_always (Nat.le_of_ble_eq_true rfl) ?_
  intro p e s m args below meth c X hr hname
  generalize hF : ((fun r z => r = some (.int (zand (S.2.1 (P + 2)) 128)) ∧ z = S) : Option Value → zS → Prop) = FQ
  change Zw p l e { frames := 1, cells := 0, slots := 0, locals := 80 * 1 } s m args below meth c G b 3 (MQ below (zQ G b FQ) args s 0 0 (fun q : Nat => b ≤ q)) 0 0 0 [some (.ref P), none, none] [] S
  obtain ⟨plt, po, psets, pseen, patUnit, pearly, presult⟩ := id hP
  have L : ∀ (u j : Nat), 128 < j + u → j ≤ 128 → Zw p l e { frames := 1, cells := 0, slots := 0, locals := 80 * 1 } s m args below meth c G b 3 (MQ below (zQ G b FQ) args s 0 0 (fun q : Nat => b ≤ q)) 0 0 5 [some (.ref P), some (.int (zand (S.2.1 (P + 2)) j)), some (.int (nI j))] [] S := by
    intro u
    induction u with
    | zero => intro j h1 h2; exact absurd h1 (by omega)
    | succ u ih =>
      intro j h1 h2
      refine a_iload_n X dX0_always_5 rfl ?_
      refine a_sipush (v := 128) X dX0_always_6 (by decide) ?_
      refine a_icmp_ge (tgt := 34) X dX0_always_9 (by decide) (fun h_9 => ?_) (fun h_9 => ?_)
      · refine a_iload_n X dX0_always_34 rfl ?_
        refine a_iret X hr dX0_always_35 ⟨by decide, by decide⟩ ?_
        have hj : j = 128 := by have := (nI_leI (a := 128) (by decide) (by omega)).mp h_9; omega
        subst hj
        subst hF
        exact ⟨rfl, rfl⟩
      · have hj : j < 128 := Nat.not_le.mp (fun q => h_9 ((nI_leI (by decide) (by omega)).mpr q))
        refine a_aload_n X dX0_always_12 rfl ?_
        refine a_getr X lf0_15 (by assumption) rfl (by omega) dX0_always_13 ?_
        refine a_iload_n X dX0_always_16 rfl ?_
        refine a_callSNv X dX0_always_17 miX7_cell lm0_66 (c_cell (by assumption) (by decide)) rfl rfl (Nat.le_of_ble_eq_true rfl) ⟨by decide, by decide, by decide, by decide⟩ ?_
        refine a_iconst (v := 1) X dX0_always_20 (by decide) ?_
        refine a_icmp_ne (tgt := 28) X dX0_always_21 (by decide) (fun h_21 => ?_) (fun h_21 => ?_)
        · refine a_iinc (v := nI (j + 1)) X dX0_always_28 (by decide) rfl (nI_1 j) ?_
          refine a_goto (tgt := 5) X dX0_always_31 (by decide) ?_
          rw [zrd_nI hj (by decide)] at h_21
          exact Zw.to (ih (j + 1) (by omega) (by omega)) (by simp only [zand, h_21, if_true, if_false]; rfl) rfl
        · refine a_iload_n X dX0_always_24 rfl ?_
          refine a_iload_n X dX0_always_25 rfl ?_
          refine a_iand X dX0_always_26 ?_
          refine a_istore_n X dX0_always_27 (by decide) ?_
          refine a_iinc (v := nI (j + 1)) X dX0_always_28 (by decide) rfl (nI_1 j) ?_
          refine a_goto (tgt := 5) X dX0_always_31 (by decide) ?_
          rw [zrd_nI hj (by decide)] at h_21
          exact Zw.to (ih (j + 1) (by omega) (by omega)) (by simp only [zand, h_21, if_true, if_false]; rfl) rfl
  refine a_bipush (v := 127) X dX0_always_0 (by decide) ?_
  refine a_istore_n X dX0_always_2 (by decide) ?_
  refine a_iconst (v := 0) X dX0_always_3 (by decide) ?_
  refine a_istore_n X dX0_always_4 (by decide) ?_
  exact Zw.to (L 129 0 (by omega) (by omega)) rfl rfl
set_option maxRecDepth 100000 in
theorem c_ever {l : Launch} {G : zG} {b : Nat} {S : zS} {P : Nat} (hP : LX0 S.1 P) : zM l G b yX0_ever cX0_ever 3 (some .int) 1 0 0 [.ref P] S (fun r z => r = some (.int (zor (S.2.1 (P + 2)) 128)) ∧ z = S) := by
  refine zM.of miX0_ever (Nat.le_of_ble_eq_true rfl) ?_
  intro p e s m args below meth c X hr hname
  generalize hF : ((fun r z => r = some (.int (zor (S.2.1 (P + 2)) 128)) ∧ z = S) : Option Value → zS → Prop) = FQ
  change Zw p l e { frames := 1, cells := 0, slots := 0, locals := 80 * 1 } s m args below meth c G b 3 (MQ below (zQ G b FQ) args s 0 0 (fun q : Nat => b ≤ q)) 0 0 0 [some (.ref P), none, none] [] S
  obtain ⟨plt, po, psets, pseen, patUnit, pearly, presult⟩ := id hP
  have L : ∀ (u j : Nat), 128 < j + u → j ≤ 128 → Zw p l e { frames := 1, cells := 0, slots := 0, locals := 80 * 1 } s m args below meth c G b 3 (MQ below (zQ G b FQ) args s 0 0 (fun q : Nat => b ≤ q)) 0 0 4 [some (.ref P), some (.int (zor (S.2.1 (P + 2)) j)), some (.int (nI j))] [] S := by
    intro u
    induction u with
    | zero => intro j h1 h2; exact absurd h1 (by omega)
    | succ u ih =>
      intro j h1 h2
      refine a_iload_n X dX0_ever_4 rfl ?_
      refine a_sipush (v := 128) X dX0_ever_5 (by decide) ?_
      refine a_icmp_ge (tgt := 33) X dX0_ever_8 (by decide) (fun h_8 => ?_) (fun h_8 => ?_)
      · refine a_iload_n X dX0_ever_33 rfl ?_
        refine a_iret X hr dX0_ever_34 ⟨by decide, by decide⟩ ?_
        have hj : j = 128 := by have := (nI_leI (a := 128) (by decide) (by omega)).mp h_8; omega
        subst hj
        subst hF
        exact ⟨rfl, rfl⟩
      · have hj : j < 128 := Nat.not_le.mp (fun q => h_8 ((nI_leI (by decide) (by omega)).mpr q))
        refine a_aload_n X dX0_ever_11 rfl ?_
        refine a_getr X lf0_15 (by assumption) rfl (by omega) dX0_ever_12 ?_
        refine a_iload_n X dX0_ever_15 rfl ?_
        refine a_callSNv X dX0_ever_16 miX7_cell lm0_66 (c_cell (by assumption) (by decide)) rfl rfl (Nat.le_of_ble_eq_true rfl) ⟨by decide, by decide, by decide, by decide⟩ ?_
        refine a_iconst (v := 1) X dX0_ever_19 (by decide) ?_
        refine a_icmp_ne (tgt := 27) X dX0_ever_20 (by decide) (fun h_20 => ?_) (fun h_20 => ?_)
        · refine a_iinc (v := nI (j + 1)) X dX0_ever_27 (by decide) rfl (nI_1 j) ?_
          refine a_goto (tgt := 4) X dX0_ever_30 (by decide) ?_
          rw [zrd_nI hj (by decide)] at h_20
          exact Zw.to (ih (j + 1) (by omega) (by omega)) (by simp only [zor, h_20, if_true, if_false]; rfl) rfl
        · refine a_iload_n X dX0_ever_23 rfl ?_
          refine a_iload_n X dX0_ever_24 rfl ?_
          refine a_ior X dX0_ever_25 ?_
          refine a_istore_n X dX0_ever_26 (by decide) ?_
          refine a_iinc (v := nI (j + 1)) X dX0_ever_27 (by decide) rfl (nI_1 j) ?_
          refine a_goto (tgt := 4) X dX0_ever_30 (by decide) ?_
          rw [zrd_nI hj (by decide)] at h_20
          exact Zw.to (ih (j + 1) (by omega) (by omega)) (by simp only [zor, h_20, if_true, if_false]; rfl) rfl
  refine a_iconst (v := 0) X dX0_ever_0 (by decide) ?_
  refine a_istore_n X dX0_ever_1 (by decide) ?_
  refine a_iconst (v := 0) X dX0_ever_2 (by decide) ?_
  refine a_istore_n X dX0_ever_3 (by decide) ?_
  exact Zw.to (L 129 0 (by omega) (by omega)) rfl rfl
set_option maxRecDepth 100000 in
theorem c_fewestTags0 {l : Launch} {G : zG} {b : Nat} {S : zS} {P Q : Nat} (hP : LX0 S.1 P) (hQ : LX2 S.1 Q) (hc : S.2.1 Q 1 = 0) (hu : S.2.1 Q 0 = 0) (hn : S.2.1 Q 3 = 0) : zM l G b yX0_fewestTags cX0_fewestTags 4 (some .int) 1 0 0 [.ref P, .ref Q] S (fun r z => r = some (.int (zfew (S.2.1 (P + 2)) (fun _ => 0) 128)) ∧ z = S) := by
  refine zM.of miX0_fewestTags (Nat.le_of_ble_eq_true rfl) ?_
  intro p e s m args below meth c X hr hname
  generalize hF : ((fun r z => r = some (.int (zfew (S.2.1 (P + 2)) (fun _ => 0) 128)) ∧ z = S) : Option Value → zS → Prop) = FQ
  change Zw p l e { frames := 1, cells := 0, slots := 0, locals := 80 * 1 } s m args below meth c G b 4 (MQ below (zQ G b FQ) args s 0 0 (fun q : Nat => b ≤ q)) 0 0 0 [some (.ref P), some (.ref Q), none, none] [] S
  obtain ⟨plt, po, psets, pseen, patUnit, pearly, presult⟩ := id hP
  obtain ⟨qlt, qo, qquota, qpreferred, qforGuests, qapplicantOf, qsize, qguestCount, qscore, qtickets, qbits, qparty, qwishCount, qwishes⟩ := id hQ
  have L : ∀ (u j : Nat), 128 < j + u → j ≤ 128 → Zw p l e { frames := 1, cells := 0, slots := 0, locals := 80 * 1 } s m args below meth c G b 4 (MQ below (zQ G b FQ) args s 0 0 (fun q : Nat => b ≤ q)) 0 0 5 [some (.ref P), some (.ref Q), some (.int (zfew (S.2.1 (P + 2)) (fun _ => 0) j)), some (.int (nI j))] [] S := by
    intro u
    induction u with
    | zero => intro j h1 h2; exact absurd h1 (by omega)
    | succ u ih =>
      intro j h1 h2
      refine a_iload_n X dX0_fewestTags_5 rfl ?_
      refine a_sipush (v := 128) X dX0_fewestTags_6 (by decide) ?_
      refine a_icmp_ge (tgt := 40) X dX0_fewestTags_9 (by decide) (fun h_9 => ?_) (fun h_9 => ?_)
      · refine a_iload_n X dX0_fewestTags_40 rfl ?_
        refine a_iret X hr dX0_fewestTags_41 ⟨by decide, by decide⟩ ?_
        have hj : j = 128 := by have := (nI_leI (a := 128) (by decide) (by omega)).mp h_9; omega
        subst hj
        subst hF
        exact ⟨rfl, rfl⟩
      · have hj : j < 128 := Nat.not_le.mp (fun q => h_9 ((nI_leI (by decide) (by omega)).mpr q))
        refine a_aload_n X dX0_fewestTags_12 rfl ?_
        refine a_getr X lf0_15 (by assumption) rfl (by omega) dX0_fewestTags_13 ?_
        refine a_iload_n X dX0_fewestTags_16 rfl ?_
        refine a_callSNv X dX0_fewestTags_17 miX7_cell lm0_66 (c_cell (by assumption) (by decide)) rfl rfl (Nat.le_of_ble_eq_true rfl) ⟨by decide, by decide, by decide, by decide⟩ ?_
        refine a_iconst (v := 1) X dX0_fewestTags_20 (by decide) ?_
        refine a_icmp_ne (tgt := 34) X dX0_fewestTags_21 (by decide) (fun h_21 => ?_) (fun h_21 => ?_)
        · refine a_iinc (v := nI (j + 1)) X dX0_fewestTags_34 (by decide) rfl (nI_1 j) ?_
          refine a_goto (tgt := 5) X dX0_fewestTags_37 (by decide) ?_
          rw [zrd_nI hj (by decide)] at h_21
          exact Zw.to (ih (j + 1) (by omega) (by omega)) (by simp only [zfew, h_21, if_true, if_false]; rfl) rfl
        · refine a_iload_n X dX0_fewestTags_24 rfl ?_
          refine a_aload_n X dX0_fewestTags_25 rfl ?_
          refine a_iload_n X dX0_fewestTags_26 rfl ?_
          refine a_callSv X dX0_fewestTags_27 miX0_tagsOf lm0_95 (c_tagsOf0 (by assumption) (by assumption) (by assumption) (by assumption)) rfl rfl (Nat.le_of_ble_eq_true rfl) ⟨by decide, by decide, by decide, by decide⟩ ?_
          refine a_mmin X lm0_99 zmath2 zmath0 zmathc2 ⟨by decide, Nat.le_of_ble_eq_true rfl, by decide, by decide⟩ dX0_fewestTags_30 ?_
          refine a_istore_n X dX0_fewestTags_33 (by decide) ?_
          refine a_iinc (v := nI (j + 1)) X dX0_fewestTags_34 (by decide) rfl (nI_1 j) ?_
          refine a_goto (tgt := 5) X dX0_fewestTags_37 (by decide) ?_
          rw [zrd_nI hj (by decide)] at h_21
          exact Zw.to (ih (j + 1) (by omega) (by omega)) (by simp only [zfew, h_21, if_true, if_false]; rfl) rfl
  refine a_bipush (v := 10) X dX0_fewestTags_0 (by decide) ?_
  refine a_istore_n X dX0_fewestTags_2 (by decide) ?_
  refine a_iconst (v := 0) X dX0_fewestTags_3 (by decide) ?_
  refine a_istore_n X dX0_fewestTags_4 (by decide) ?_
  exact Zw.to (L 129 0 (by omega) (by omega)) rfl rfl
set_option maxRecDepth 100000 in
theorem c_mostTags0 {l : Launch} {G : zG} {b : Nat} {S : zS} {P Q : Nat} (hP : LX0 S.1 P) (hQ : LX2 S.1 Q) (hc : S.2.1 Q 1 = 0) (hu : S.2.1 Q 0 = 0) (hn : S.2.1 Q 3 = 0) : zM l G b yX0_mostTags cX0_mostTags 4 (some .int) 1 0 0 [.ref P, .ref Q] S (fun r z => r = some (.int (zmost (S.2.1 (P + 2)) (fun _ => 0) 128)) ∧ z = S) := by
  refine zM.of miX0_mostTags (Nat.le_of_ble_eq_true rfl) ?_
  intro p e s m args below meth c X hr hname
  generalize hF : ((fun r z => r = some (.int (zmost (S.2.1 (P + 2)) (fun _ => 0) 128)) ∧ z = S) : Option Value → zS → Prop) = FQ
  change Zw p l e { frames := 1, cells := 0, slots := 0, locals := 80 * 1 } s m args below meth c G b 4 (MQ below (zQ G b FQ) args s 0 0 (fun q : Nat => b ≤ q)) 0 0 0 [some (.ref P), some (.ref Q), none, none] [] S
  obtain ⟨plt, po, psets, pseen, patUnit, pearly, presult⟩ := id hP
  obtain ⟨qlt, qo, qquota, qpreferred, qforGuests, qapplicantOf, qsize, qguestCount, qscore, qtickets, qbits, qparty, qwishCount, qwishes⟩ := id hQ
  have L : ∀ (u j : Nat), 128 < j + u → j ≤ 128 → Zw p l e { frames := 1, cells := 0, slots := 0, locals := 80 * 1 } s m args below meth c G b 4 (MQ below (zQ G b FQ) args s 0 0 (fun q : Nat => b ≤ q)) 0 0 4 [some (.ref P), some (.ref Q), some (.int (zmost (S.2.1 (P + 2)) (fun _ => 0) j)), some (.int (nI j))] [] S := by
    intro u
    induction u with
    | zero => intro j h1 h2; exact absurd h1 (by omega)
    | succ u ih =>
      intro j h1 h2
      refine a_iload_n X dX0_mostTags_4 rfl ?_
      refine a_sipush (v := 128) X dX0_mostTags_5 (by decide) ?_
      refine a_icmp_ge (tgt := 39) X dX0_mostTags_8 (by decide) (fun h_8 => ?_) (fun h_8 => ?_)
      · refine a_iload_n X dX0_mostTags_39 rfl ?_
        refine a_iret X hr dX0_mostTags_40 ⟨by decide, by decide⟩ ?_
        have hj : j = 128 := by have := (nI_leI (a := 128) (by decide) (by omega)).mp h_8; omega
        subst hj
        subst hF
        exact ⟨rfl, rfl⟩
      · have hj : j < 128 := Nat.not_le.mp (fun q => h_8 ((nI_leI (by decide) (by omega)).mpr q))
        refine a_aload_n X dX0_mostTags_11 rfl ?_
        refine a_getr X lf0_15 (by assumption) rfl (by omega) dX0_mostTags_12 ?_
        refine a_iload_n X dX0_mostTags_15 rfl ?_
        refine a_callSNv X dX0_mostTags_16 miX7_cell lm0_66 (c_cell (by assumption) (by decide)) rfl rfl (Nat.le_of_ble_eq_true rfl) ⟨by decide, by decide, by decide, by decide⟩ ?_
        refine a_iconst (v := 1) X dX0_mostTags_19 (by decide) ?_
        refine a_icmp_ne (tgt := 33) X dX0_mostTags_20 (by decide) (fun h_20 => ?_) (fun h_20 => ?_)
        · refine a_iinc (v := nI (j + 1)) X dX0_mostTags_33 (by decide) rfl (nI_1 j) ?_
          refine a_goto (tgt := 4) X dX0_mostTags_36 (by decide) ?_
          rw [zrd_nI hj (by decide)] at h_20
          exact Zw.to (ih (j + 1) (by omega) (by omega)) (by simp only [zmost, h_20, if_true, if_false]; rfl) rfl
        · refine a_iload_n X dX0_mostTags_23 rfl ?_
          refine a_aload_n X dX0_mostTags_24 rfl ?_
          refine a_iload_n X dX0_mostTags_25 rfl ?_
          refine a_callSv X dX0_mostTags_26 miX0_tagsOf lm0_95 (c_tagsOf0 (by assumption) (by assumption) (by assumption) (by assumption)) rfl rfl (Nat.le_of_ble_eq_true rfl) ⟨by decide, by decide, by decide, by decide⟩ ?_
          refine a_mmax X lm0_105 zmath1 zmath0 zmathc1 ⟨by decide, Nat.le_of_ble_eq_true rfl, by decide, by decide⟩ dX0_mostTags_29 ?_
          refine a_istore_n X dX0_mostTags_32 (by decide) ?_
          refine a_iinc (v := nI (j + 1)) X dX0_mostTags_33 (by decide) rfl (nI_1 j) ?_
          refine a_goto (tgt := 4) X dX0_mostTags_36 (by decide) ?_
          rw [zrd_nI hj (by decide)] at h_20
          exact Zw.to (ih (j + 1) (by omega) (by omega)) (by simp only [zmost, h_20, if_true, if_false]; rfl) rfl
  refine a_iconst (v := 0) X dX0_mostTags_0 (by decide) ?_
  refine a_istore_n X dX0_mostTags_1 (by decide) ?_
  refine a_iconst (v := 0) X dX0_mostTags_2 (by decide) ?_
  refine a_istore_n X dX0_mostTags_3 (by decide) ?_
  exact Zw.to (L 129 0 (by omega) (by omega)) rfl rfl
set_option maxRecDepth 100000 in
theorem c_live0 {l : Launch} {G : zG} {b : Nat} {S : zS} {P Q C : Nat} (hP : LX4 S.1 P) (hh : S.2.1 P 1 = 0) : zM l G b yX4_live cX4_live 5 none 0 0 0 [.ref P, .ref Q, .ref C] S (fun r z => r = none ∧ z = S) := by
  refine zM.of miX4_live (Nat.le_of_ble_eq_true rfl) ?_
  intro p e s m args below meth c X hr hname
  generalize hF : ((fun r z => r = none ∧ z = S) : Option Value → zS → Prop) = FQ
  change Zw p l e { frames := 0, cells := 0, slots := 0, locals := 80 * 0 } s m args below meth c G b 5 (MQ below (zQ G b FQ) args s 0 0 (fun q : Nat => b ≤ q)) 0 0 0 [some (.ref P), some (.ref Q), some (.ref C), none, none] [] S
  obtain ⟨plt, po, pquota, pscore, pguest, pparty, pwishCount, pwishes, phas⟩ := id hP
  refine a_iconst (v := 0) X dX4_live_0 (by decide) ?_
  refine a_istore_n X dX4_live_1 (by decide) ?_
  refine a_iload_n X dX4_live_2 rfl ?_
  refine a_aload_n X dX4_live_3 rfl ?_
  refine a_geti X lf4_37 (by assumption) rfl dX4_live_4 ?_
  refine a_icmp_ge (tgt := 66) X dX4_live_7 (by decide) (fun h_7 => ?_) (fun h_7 => absurd (by show S.2.1 P 1 ≤ 0; rw [hh]; decide) h_7)
  refine a_vret X hr dX4_live_66 ⟨by decide, by decide⟩ ?_
  subst hF
  exact ⟨rfl, rfl⟩
set_option maxRecDepth 100000 in
theorem c_pass0 {l : Launch} {G : zG} {b : Nat} {S : zS} {P Q k : Nat} {sd : Int32} (hP : LX6 S.1 P) (hQ : LX4 S.1 Q) (hPQ : Q + 8 ≤ P ∨ P + 33 ≤ Q) (hu : S.2.1 Q 0 = 0) (hh : S.2.1 Q 1 = 0) (hp : S.2.1 Q 2 = 0) (hk : k < 1000) : zM l G b yX6_pass cX6_pass 6 none 3 0 0 [.ref P, .ref Q, .int sd, .int (nI k)] S (fun r z => ∃ M', r = none ∧ z = (S.1, M', S.2.2) ∧ M' P 0 = 0 ∧ M' P 1 = 0 ∧ zout S.2.1 M' P (P + 33)) := by
  refine zM.of miX6_pass (Nat.le_of_ble_eq_true rfl) ?_
  intro p e s m args below meth c X hr hname
  generalize hF : ((fun r z => ∃ M', r = none ∧ z = (S.1, M', S.2.2) ∧ M' P 0 = 0 ∧ M' P 1 = 0 ∧ zout S.2.1 M' P (P + 33)) : Option Value → zS → Prop) = FQ
  change Zw p l e { frames := 3, cells := 0, slots := 0, locals := 80 * 3 } s m args below meth c G b 6 (MQ below (zQ G b FQ) args s 0 0 (fun q : Nat => b ≤ q)) 0 0 0 [some (.ref P), some (.ref Q), some (.int sd), some (.int (nI k)), none, none] [] S
  have hQ9 := hQ
  obtain ⟨plt, po, ptimes, pfirstWish, pdry, plist, ppool, presult⟩ := id hP
  have hl := plist
  have hpo := ppool
  have hre := presult
  obtain ⟨llt, lo, lquota, lscore, lguest, lparty, lwishCount, lwishes, lhas⟩ := id hl
  obtain ⟨olt, oo, oquota, opreferred, oforGuests, oapplicantOf, osize, oguestCount, oscore, otickets, obits, oparty, owishCount, owishes⟩ := id hpo
  obtain ⟨rlt, ro, rline, runitOf, rroundOf, rleftTags, rleftGuests, rleftPreferred, rranked⟩ := id hre
  have n0 : ¬ Q = P := by omega
  have n1 : ¬ Q = P + 1 := by omega
  have n2 : ¬ Q = P + 2 := by omega
  have n3 : ¬ Q = P + 3 := by omega
  have L : ∀ (u j : Nat), k + 1 < j + u → j ≤ k + 1 → ∀ (x5 : Option Value) (M2 : Nat → Nat → Int32), M2 P 0 = 0 → M2 P 1 = 0 → M2 (P + 4) 0 = 0 → M2 (P + 4) 1 = 0 → M2 (P + 4) 2 = 0 → zout S.2.1 M2 P (P + 33) → Zw p l e { frames := 3, cells := 0, slots := 0, locals := 80 * 3 } s m args below meth c G b 6 (MQ below (zQ G b FQ) args s 0 0 (fun q : Nat => b ≤ q)) 0 0 45 [some (.ref P), some (.ref Q), some (.int sd), some (.int (nI k)), some (.int (nI j)), x5] [] (S.1, M2, S.2.2) := by
    intro u
    induction u with
    | zero => intro j h1 h2; exact absurd h1 (by omega)
    | succ u ih =>
      intro j h1 h2 x5 M2 i1 i2 i3 i4 i5 i6
      refine a_iload X dX6_pass_45 rfl ?_
      refine a_iload_n X dX6_pass_47 rfl ?_
      refine a_icmp_gt (tgt := 149) X dX6_pass_48 (by decide) (fun h_48 => ?_) (fun h_48 => ?_)
      · refine a_vret X hr dX6_pass_149 ⟨by decide, by decide⟩ ?_
        subst hF
        exact ⟨M2, rfl, rfl, i1, i2, i6⟩
      · refine a_aload_n X dX6_pass_51 rfl ?_
        refine a_getr X lf6_31 (by assumption) rfl (by omega) dX6_pass_52 ?_
        refine a_aload_n X dX6_pass_55 rfl ?_
        refine a_getr X lf6_24 (by assumption) rfl (by omega) dX6_pass_56 ?_
        refine a_callVu X dX6_pass_59 miX2_gather lm6_57 (c_gather0 (by assumption) (by assumption) (by assumption) (by assumption) (by assumption) (by omega)) (by assumption) rfl rfl rfl (Nat.le_of_ble_eq_true rfl) ⟨by decide, by decide, by decide, by decide⟩ ?_
        refine a_aload_n X dX6_pass_62 rfl ?_
        refine a_getr X lf6_38 (by assumption) rfl (by omega) dX6_pass_63 ?_
        refine a_aload_n X dX6_pass_66 rfl ?_
        refine a_getr X lf6_31 (by assumption) rfl (by omega) dX6_pass_67 ?_
        refine a_iload_n X dX6_pass_70 rfl ?_
        refine a_iload X dX6_pass_71 rfl ?_
        refine a_iadd X dX6_pass_73 ?_
        refine a_iconst (v := 1) X dX6_pass_74 (by decide) ?_
        refine a_isub X dX6_pass_75 ?_
        refine a_callVu X dX6_pass_76 miX5_bySeed lm6_60 (c_bySeed0 (by assumption) (by assumption) (by simp [zu]) (by simp [zu]) (by simp [zu])) (by assumption) rfl rfl rfl (Nat.le_of_ble_eq_true rfl) ⟨by decide, by decide, by decide, by decide⟩ ?_
        refine a_aload_n X dX6_pass_79 rfl ?_
        refine a_dup X dX6_pass_80 rfl ?_
        refine a_geti X lf6_42 (by assumption) rfl dX6_pass_81 ?_
        refine a_aload_n X dX6_pass_84 rfl ?_
        refine a_getr X lf6_38 (by assumption) rfl (by omega) dX6_pass_85 ?_
        refine a_aload_n X dX6_pass_88 rfl ?_
        refine a_getr X lf6_31 (by assumption) rfl (by omega) dX6_pass_89 ?_
        refine a_callVv X dX6_pass_92 miX5_tagsGiven lm6_64 (c_tagsGiven0 (by assumption) (by assumption) (by simp [zu]) (by simp [zu]) (by simp [zu])) (by assumption) rfl rfl rfl (Nat.le_of_ble_eq_true rfl) ⟨by decide, by decide, by decide, by decide⟩ ?_
        refine a_iadd X dX6_pass_95 ?_
        refine a_puti X lf6_42 (by assumption) rfl dX6_pass_96 ?_
        refine a_iconst (v := 0) X dX6_pass_99 (by decide) ?_
        refine a_istore X dX6_pass_100 (by decide) ?_
        refine a_iload X dX6_pass_102 rfl ?_
        refine a_aload_n X dX6_pass_104 rfl ?_
        refine a_getr X lf6_24 (by assumption) rfl (by omega) dX6_pass_105 ?_
        refine a_geti X lf6_68 (by assumption) rfl dX6_pass_108 ?_
        refine a_icmp_ge (tgt := 128) X dX6_pass_111 (by decide) (fun h_111 => ?_) (fun h_111 => absurd (by show zu (zu (zu (zu (zu M2 (P + 12) 0 0) (P + 12) 3 0) (P + 12) 1 0) (P + 12) 2 0) P 0 ((zu (zu (zu (zu M2 (P + 12) 0 0) (P + 12) 3 0) (P + 12) 1 0) (P + 12) 2 0) P 0 + 0) (P + 4) 1 ≤ 0; simp [zu, i4]) h_111)
        refine a_aload_n X dX6_pass_128 rfl ?_
        refine a_getr X lf6_24 (by assumption) rfl (by omega) dX6_pass_129 ?_
        refine a_aload_n X dX6_pass_132 rfl ?_
        refine a_getr X lf6_31 (by assumption) rfl (by omega) dX6_pass_133 ?_
        refine a_aload_n X dX6_pass_136 rfl ?_
        refine a_getr X lf6_38 (by assumption) rfl (by omega) dX6_pass_137 ?_
        refine a_callVu X dX6_pass_140 miX4_live lm6_75 (c_live0 (by assumption) (by simp [zu, i4])) (by assumption) rfl rfl rfl (Nat.le_of_ble_eq_true rfl) ⟨by decide, by decide, by decide, by decide⟩ ?_
        refine a_iinc (v := nI (j + 1)) X dX6_pass_143 (by decide) rfl (nI_1 j) ?_
        refine a_goto (tgt := 45) X dX6_pass_146 (by decide) ?_
        exact Zw.to (ih (j + 1) (by omega) (by have : ¬ k < j := fun q => h_48 ((nI_ltI (by omega) (by omega)).mpr q); omega) _ _ (by simp [zu, i1]) (by simp [zu, i2]) (by simp [zu, i3]) (by simp [zu, i4]) (by simp [zu, i5]) (((((i6.zu (by omega) (by omega)).zu (by omega) (by omega)).zu (by omega) (by omega)).zu (by omega) (by omega)).zu (by omega) (by omega))) rfl rfl
  refine a_aload_n X dX6_pass_0 rfl ?_
  refine a_iconst (v := 0) X dX6_pass_1 (by decide) ?_
  refine a_puti X lf6_42 (by assumption) rfl dX6_pass_2 ?_
  refine a_aload_n X dX6_pass_5 rfl ?_
  refine a_iconst (v := 0) X dX6_pass_6 (by decide) ?_
  refine a_puti X lf6_46 (by assumption) rfl dX6_pass_7 ?_
  refine a_aload_n X dX6_pass_10 rfl ?_
  refine a_getr X lf6_9 (by assumption) rfl (by omega) dX6_pass_11 ?_
  refine a_iconst (v := 0) X dX6_pass_14 (by decide) ?_
  refine a_callSNu X dX6_pass_15 miX7_fill lm6_49 (c_fill (by assumption) (by decide)) rfl rfl (Nat.le_of_ble_eq_true rfl) ⟨by decide, by decide, by decide, by decide⟩ ?_
  refine a_aload_n X dX6_pass_18 rfl ?_
  refine a_getr X lf6_15 (by assumption) rfl (by omega) dX6_pass_19 ?_
  refine a_iconst (v := 0) X dX6_pass_22 (by decide) ?_
  refine a_callSNu X dX6_pass_23 miX7_fill lm6_49 (c_fill (by assumption) (by decide)) rfl rfl (Nat.le_of_ble_eq_true rfl) ⟨by decide, by decide, by decide, by decide⟩ ?_
  refine a_aload_n X dX6_pass_26 rfl ?_
  refine a_getr X lf6_18 (by assumption) rfl (by omega) dX6_pass_27 ?_
  refine a_iconst (v := 0) X dX6_pass_30 (by decide) ?_
  refine a_callSNu X dX6_pass_31 miX7_fill lm6_49 (c_fill (by assumption) (by decide)) rfl rfl (Nat.le_of_ble_eq_true rfl) ⟨by decide, by decide, by decide, by decide⟩ ?_
  refine a_aload_n X dX6_pass_34 rfl ?_
  refine a_getr X lf6_24 (by assumption) rfl (by omega) dX6_pass_35 ?_
  refine a_aload_n X dX6_pass_38 rfl ?_
  refine a_callVx X dX6_pass_39 miX4_take lm6_53 (c_take (by assumption) hQ9 (by omega)) (by assumption) rfl rfl rfl (Nat.le_of_ble_eq_true rfl) ⟨by decide, by decide, by decide, by decide⟩ (fun r_39 S_39 q_39 => ?_)
  obtain ⟨M_39, rfl, rfl, q0_39, q1_39, q2_39, q3_39, q4_39, q5_39, q6_39, q7_39, _⟩ := q_39
  refine a_iconst (v := 1) X dX6_pass_42 (by decide) ?_
  refine a_istore X dX6_pass_43 (by decide) ?_
  exact Zw.to (L (k + 2) 1 (by omega) (by omega) none _ (by rw [q0_39 P (Or.inl (by omega))]; simp [zfil, zu]) (by rw [q0_39 P (Or.inl (by omega))]; simp [zfil, zu]) (by rw [q1_39]; simp [zfil, zu, n0, n1, n2, n3, hu]) (by rw [q2_39]; simp [zfil, zu, n0, n1, n2, n3, hh]) (by rw [q3_39]; simp [zfil, zu, n0, n1, n2, n3, hp]) (zout.trans (((((zout.rf.zu (by omega) (by omega)).zu (by omega) (by omega)).zfil (by omega) (by omega)).zfil (by omega) (by omega)).zfil (by omega) (by omega)) (q0_39.mono (by omega) (by omega)))) rfl rfl
set_option maxRecDepth 100000 in
theorem c_unserved0 {l : Launch} {G : zG} {b : Nat} {S : zS} {P : Nat} {hh : Int32} (hz : hh = 0) : zM l G b yX6_unserved cX6_unserved 4 (some .int) 0 0 0 [.ref P, .int hh] S (fun r z => r = some (.int 0) ∧ z = S) := by
  refine zM.of miX6_unserved (Nat.le_of_ble_eq_true rfl) ?_
  intro p e s m args below meth c X hr hname
  generalize hF : ((fun r z => r = some (.int 0) ∧ z = S) : Option Value → zS → Prop) = FQ
  change Zw p l e { frames := 0, cells := 0, slots := 0, locals := 80 * 0 } s m args below meth c G b 4 (MQ below (zQ G b FQ) args s 0 0 (fun q : Nat => b ≤ q)) 0 0 0 [some (.ref P), some (.int hh), none, none] [] S
  refine a_iconst (v := 0) X dX6_unserved_0 (by decide) ?_
  refine a_istore_n X dX6_unserved_1 (by decide) ?_
  refine a_iconst (v := 0) X dX6_unserved_2 (by decide) ?_
  refine a_istore_n X dX6_unserved_3 (by decide) ?_
  refine a_iload_n X dX6_unserved_4 rfl ?_
  refine a_iload_n X dX6_unserved_5 rfl ?_
  refine a_icmp_ge (tgt := 36) X dX6_unserved_6 (by decide) (fun h_6 => ?_) (fun h_6 => absurd (by rw [hz]; decide) h_6)
  refine a_iload_n X dX6_unserved_36 rfl ?_
  refine a_iret X hr dX6_unserved_37 ⟨by decide, by decide⟩ ?_
  subst hF
  exact ⟨rfl, rfl⟩
set_option maxRecDepth 100000 in
theorem c_forget {l : Launch} {G : zG} {b : Nat} {S : zS} {P : Nat} (hP : LX1 S.1 P) : zM l G b yX1_forget cX1_forget 1 none 0 0 0 [.ref P] S (fun r z => r = none ∧ z = (S.1, zu S.2.1 P 0 0, S.2.2)) := by
  refine zM.of miX1_forget (Nat.le_of_ble_eq_true rfl) ?_
  intro p e s m args below meth c X hr hname
  generalize hF : ((fun r z => r = none ∧ z = (S.1, zu S.2.1 P 0 0, S.2.2)) : Option Value → zS → Prop) = FQ
  change Zw p l e { frames := 0, cells := 0, slots := 0, locals := 80 * 0 } s m args below meth c G b 1 (MQ below (zQ G b FQ) args s 0 0 (fun q : Nat => b ≤ q)) 0 0 0 [some (.ref P)] [] S
  obtain ⟨plt, po, pstood, pstood0, pstood1, pstood2, pstood3, pstood4, pstood5, pstood6, pstood7⟩ := id hP
  refine a_aload_n X dX1_forget_0 rfl ?_
  refine a_iconst (v := 0) X dX1_forget_1 (by decide) ?_
  refine a_puti X lf1_18 (by assumption) rfl dX1_forget_2 ?_
  refine a_vret X hr dX1_forget_5 ⟨by decide, by decide⟩ ?_
  subst hF
  exact ⟨rfl, rfl⟩
set_option maxRecDepth 100000 in
theorem c_newestStood {l : Launch} {G : zG} {b : Nat} {S : zS} {P k : Nat} (hP : LX1 S.1 P) (hk : S.2.1 P 1 = nI k) (hk8 : k < 8) : zM l G b yX1_newestStood cX1_newestStood 1 (some (.object "TagDraw$Register")) 0 0 0 [.ref P] S (fun r z => r = some (.ref (P + 2 + 8 * k)) ∧ z = S) := by
  refine zM.of miX1_newestStood (Nat.le_of_ble_eq_true rfl) ?_
  intro p e s m args below meth c X hr hname
  generalize hF : ((fun r z => r = some (.ref (P + 2 + 8 * k)) ∧ z = S) : Option Value → zS → Prop) = FQ
  change Zw p l e { frames := 0, cells := 0, slots := 0, locals := 80 * 0 } s m args below meth c G b 1 (MQ below (zQ G b FQ) args s 0 0 (fun q : Nat => b ≤ q)) 0 0 0 [some (.ref P)] [] S
  obtain ⟨plt, po, pstood, pstood0, pstood1, pstood2, pstood3, pstood4, pstood5, pstood6, pstood7⟩ := id hP
  have hc : (nI k).toNatClampNeg = k := nI_clamp (by omega)
  refine a_aload_n X dX1_newestStood_0 rfl ?_
  refine a_geti X lf1_22 (by assumption) rfl dX1_newestStood_1 ?_
  refine a_if_lt (tgt := 31) X dX1_newestStood_4 (by decide) (fun h_4 => absurd h_4 (by show ¬ S.2.1 P 1 < 0; rw [hk]; exact nI_pos (by omega))) (fun h_4 => ?_)
  refine a_aload_n X dX1_newestStood_7 rfl ?_
  refine a_geti X lf1_22 (by assumption) rfl dX1_newestStood_8 ?_
  refine a_aload_n X dX1_newestStood_11 rfl ?_
  refine a_getr X lf1_11 (by assumption) rfl (by omega) dX1_newestStood_12 ?_
  refine a_alen X (by assumption) (by decide) dX1_newestStood_15 ?_
  refine a_icmp_ge (tgt := 31) X dX1_newestStood_16 (by decide) (fun h_16 => absurd h_16 (by show ¬ nI 8 ≤ S.2.1 P 1; rw [hk, nI_leI (by decide) (by omega)]; omega)) (fun h_16 => ?_)
  refine a_aload_n X dX1_newestStood_19 rfl ?_
  refine a_getr X lf1_11 (by assumption) rfl (by omega) dX1_newestStood_20 ?_
  refine a_aload_n X dX1_newestStood_23 rfl ?_
  refine a_geti X lf1_22 (by assumption) rfl dX1_newestStood_24 ?_
  refine a_aaload X (by assumption) (by show vp_in (S.2.1 P 1) 8; rw [hk]; exact vp_in_nI hk8 (by decide)) (by show _ = some (2, P + 2 + 8 * k); rw [hk, hc]; match k, hk8 with | 0, _ => rfl | 1, _ => rfl | 2, _ => rfl | 3, _ => rfl | 4, _ => rfl | 5, _ => rfl | 6, _ => rfl | 7, _ => rfl) (by omega) dX1_newestStood_27 ?_
  refine a_goto (tgt := 32) X dX1_newestStood_28 (by decide) ?_
  refine a_aret X hr (Or.inl ⟨_, rfl⟩) (by first | exact Or.inl rfl | exact Or.inr ⟨_, rfl⟩) dX1_newestStood_32 ⟨by decide, by decide⟩ ?_
  subst hF
  exact ⟨rfl, rfl⟩
set_option maxRecDepth 100000 in
theorem c_keep {l : Launch} {G : zG} {b : Nat} {S : zS} {P Q k : Nat} (hP : LX1 S.1 P) (hQ : LX4 S.1 Q) (hPQ : Q + 8 ≤ P ∨ P + 66 ≤ Q) (hk : S.2.1 P 1 = nI k) (hk8 : k < 8) : zM l G b yX1_keep cX1_keep 3 none 3 0 0 [.ref P, .ref Q] S (fun r z => ∃ M', r = none ∧ z = (S.1, M', S.2.2) ∧ zout S.2.1 M' P (P + 66)) := by
  refine zM.of miX1_keep (Nat.le_of_ble_eq_true rfl) ?_
  intro p e s m args below meth c X hr hname
  generalize hF : ((fun r z => ∃ M', r = none ∧ z = (S.1, M', S.2.2) ∧ zout S.2.1 M' P (P + 66)) : Option Value → zS → Prop) = FQ
  change Zw p l e { frames := 3, cells := 0, slots := 0, locals := 80 * 3 } s m args below meth c G b 3 (MQ below (zQ G b FQ) args s 0 0 (fun q : Nat => b ≤ q)) 0 0 0 [some (.ref P), some (.ref Q), none] [] S
  have hP9 := hP
  obtain ⟨plt, po, pstood, pstood0, pstood1, pstood2, pstood3, pstood4, pstood5, pstood6, pstood7⟩ := id hP
  have hst : ∀ k : Nat, k < 8 → LX4 S.1 (P + 2 + 8 * k) := fun k hk => by match k, hk with | 0, _ => exact pstood0 | 1, _ => exact pstood1 | 2, _ => exact pstood2 | 3, _ => exact pstood3 | 4, _ => exact pstood4 | 5, _ => exact pstood5 | 6, _ => exact pstood6 | 7, _ => exact pstood7
  have J : ∀ k : Nat, k < 8 → Zw p l e { frames := 3, cells := 0, slots := 0, locals := 80 * 3 } s m args below meth c G b 3 (MQ below (zQ G b FQ) args s 0 0 (fun q : Nat => b ≤ q)) 0 0 22 [some (.ref P), some (.ref Q), none] [.int (nI k), .ref P] S := by
    intro k hk8
    refine a_puti X lf1_22 (by assumption) rfl dX1_keep_22 ?_
    refine a_aload_n X dX1_keep_25 rfl ?_
    refine a_callVv X dX1_keep_26 miX1_newestStood lm1_25 (c_newestStood (k := k) hP9 (by simp [zu]) hk8) (by assumption) rfl rfl rfl (Nat.le_of_ble_eq_true rfl) ⟨by decide, by decide, by decide, by decide⟩ ?_
    refine a_astore_n X dX1_keep_29 (by decide) ?_
    refine a_aload_n X dX1_keep_30 rfl ?_
    refine a_ifnonnull (tgt := 35) X dX1_keep_31 (by decide) ?_
    refine a_aload_n X dX1_keep_35 rfl ?_
    refine a_aload_n X dX1_keep_36 rfl ?_
    refine a_callVx X dX1_keep_37 miX4_take lm1_29 (c_take (hst k hk8) hQ (by omega)) ((hst k hk8).2.1) rfl rfl rfl (Nat.le_of_ble_eq_true rfl) ⟨by decide, by decide, by decide, by decide⟩ (fun r_37 S_37 q_37 => ?_)
    obtain ⟨M_37, rfl, rfl, q0_37, _⟩ := q_37
    refine a_aload_n X dX1_keep_40 rfl ?_
    refine a_aload_n X dX1_keep_41 rfl ?_
    refine a_geti X lf1_18 (by assumption) rfl dX1_keep_42 ?_
    refine a_iconst (v := 1) X dX1_keep_45 (by decide) ?_
    refine a_iadd X dX1_keep_46 ?_
    refine a_bipush (v := 8) X dX1_keep_47 (by decide) ?_
    refine a_mmin X lm1_33 zmath2 zmath0 zmathc2 ⟨by decide, Nat.le_of_ble_eq_true rfl, by decide, by decide⟩ dX1_keep_49 ?_
    refine a_puti X lf1_18 (by assumption) rfl dX1_keep_52 ?_
    refine a_vret X hr dX1_keep_55 ⟨by decide, by decide⟩ ?_
    subst hF
    exact ⟨_, rfl, rfl, ((zout.trans (zout.rf.zu (by omega) (by omega)) (q0_37.mono (by omega) (by omega))).zu (by omega) (by omega))⟩
  refine a_aload_n X dX1_keep_0 rfl ?_
  refine a_aload_n X dX1_keep_1 rfl ?_
  refine a_geti X lf1_22 (by assumption) rfl dX1_keep_2 ?_
  refine a_iconst (v := 1) X dX1_keep_5 (by decide) ?_
  refine a_iadd X dX1_keep_6 ?_
  refine a_bipush (v := 8) X dX1_keep_7 (by decide) ?_
  refine a_icmp_ge (tgt := 21) X dX1_keep_9 (by decide) (fun h_9 => ?_) (fun h_9 => ?_)
  · refine a_iconst (v := 0) X dX1_keep_21 (by decide) ?_
    first | exact Zw.to2 (J (k + 1) (Nat.not_le.mp (fun q => h_9 (by show nI 8 ≤ S.2.1 P 1 + 1; rw [hk, nI_1]; exact (nI_leI (by decide) (by omega)).mpr q)))) rfl (by rw [← nI_1, ← hk]) rfl | exact J 0 (by decide)
  · refine a_aload_n X dX1_keep_12 rfl ?_
    refine a_geti X lf1_22 (by assumption) rfl dX1_keep_13 ?_
    refine a_iconst (v := 1) X dX1_keep_16 (by decide) ?_
    refine a_iadd X dX1_keep_17 ?_
    refine a_goto (tgt := 22) X dX1_keep_18 (by decide) ?_
    first | exact Zw.to2 (J (k + 1) (Nat.not_le.mp (fun q => h_9 (by show nI 8 ≤ S.2.1 P 1 + 1; rw [hk, nI_1]; exact (nI_leI (by decide) (by omega)).mpr q)))) rfl (by rw [← nI_1, ← hk]) rfl | exact J 0 (by decide)
set_option maxRecDepth 100000 in
theorem c_giveBack0 {l : Launch} {G : zG} {b : Nat} {S : zS} {P Q k : Nat} (hP : LX1 S.1 P) (hk : S.2.1 P 1 = nI k) (hk8 : k < 8) (h0 : S.2.1 P 0 = 0) : zM l G b yX1_giveBack cX1_giveBack 3 (some .boolean) 1 0 0 [.ref P, .ref Q] S (fun r z => r = some (.int 0) ∧ z = S) := by
  refine zM.of miX1_giveBack (Nat.le_of_ble_eq_true rfl) ?_
  intro p e s m args below meth c X hr hname
  generalize hF : ((fun r z => r = some (.int 0) ∧ z = S) : Option Value → zS → Prop) = FQ
  change Zw p l e { frames := 1, cells := 0, slots := 0, locals := 80 * 1 } s m args below meth c G b 3 (MQ below (zQ G b FQ) args s 0 0 (fun q : Nat => b ≤ q)) 0 0 0 [some (.ref P), some (.ref Q), none] [] S
  have hP9 := hP
  obtain ⟨plt, po, pstood, pstood0, pstood1, pstood2, pstood3, pstood4, pstood5, pstood6, pstood7⟩ := id hP
  refine a_aload_n X dX1_giveBack_0 rfl ?_
  refine a_callVv X dX1_giveBack_1 miX1_newestStood lm1_25 (c_newestStood hP9 hk hk8) (by assumption) rfl rfl rfl (Nat.le_of_ble_eq_true rfl) ⟨by decide, by decide, by decide, by decide⟩ ?_
  refine a_astore_n X dX1_giveBack_4 (by decide) ?_
  refine a_aload_n X dX1_giveBack_5 rfl ?_
  refine a_geti X lf1_18 (by assumption) rfl dX1_giveBack_6 ?_
  refine a_if_eq (tgt := 16) X dX1_giveBack_9 (by decide) (fun h_9 => ?_) (fun h_9 => absurd h0 h_9)
  refine a_iconst (v := 0) X dX1_giveBack_16 (by decide) ?_
  refine a_zret X (by first | exact Or.inl rfl | exact Or.inr rfl | assumption) hr dX1_giveBack_17 ⟨by decide, by decide⟩ ?_
  subst hF
  exact ⟨rfl, rfl⟩
set_option maxRecDepth 100000 in
theorem c_step0 {l : Launch} {G : zG} {b : Nat} {S : zS} {P : Nat} (hP : LX3 S.1 P) (hn : S.2.1 P 5 = 0) (hl : S.2.1 P 4 = 0) : zM l G b yX3_step cX3_step 2 none 1 0 0 [.ref P] S (fun r z => r = none ∧ z = (S.1, zu (zu S.2.1 P 7 0) P 6 0, S.2.2)) := by
  refine zM.of miX3_step (Nat.le_of_ble_eq_true rfl) ?_
  intro p e s m args below meth c X hr hname
  generalize hF : ((fun r z => r = none ∧ z = (S.1, zu (zu S.2.1 P 7 0) P 6 0, S.2.2)) : Option Value → zS → Prop) = FQ
  change Zw p l e { frames := 1, cells := 0, slots := 0, locals := 80 * 1 } s m args below meth c G b 2 (MQ below (zQ G b FQ) args s 0 0 (fun q : Nat => b ≤ q)) 0 0 0 [some (.ref P), none] [] S
  obtain ⟨plt, po, pdraft, ptext, punitNames, phunterNames, ppartyNames, pasked⟩ := id hP
  refine a_aload_n X dX3_step_0 rfl ?_
  refine a_geti X lf3_55 (by assumption) rfl dX3_step_1 ?_
  refine a_aload_n X dX3_step_4 rfl ?_
  refine a_geti X lf3_52 (by assumption) rfl dX3_step_5 ?_
  refine a_icmp_ge (tgt := 41) X dX3_step_8 (by decide) (fun h_8 => ?_) (fun h_8 => absurd (by show S.2.1 P 4 ≤ S.2.1 P 5; rw [hn, hl]; decide) h_8)
  refine a_aload_n X dX3_step_41 rfl ?_
  refine a_aload_n X dX3_step_42 rfl ?_
  refine a_geti X lf3_55 (by assumption) rfl dX3_step_43 ?_
  refine a_puti X lf3_89 (by assumption) rfl dX3_step_46 ?_
  refine a_aload_n X dX3_step_49 rfl ?_
  refine a_getr X lf3_25 (by assumption) rfl (by omega) dX3_step_50 ?_
  refine a_aload_n X dX3_step_53 rfl ?_
  refine a_geti X lf3_55 (by assumption) rfl dX3_step_54 ?_
  refine a_callSNv X dX3_step_57 miX7_cell lm3_81 (c_cell (by assumption) (by decide)) rfl rfl (Nat.le_of_ble_eq_true rfl) ⟨by decide, by decide, by decide, by decide⟩ ?_
  refine a_istore_n X dX3_step_60 (by decide) ?_
  refine a_aload_n X dX3_step_61 rfl ?_
  refine a_geti X lf3_55 (by assumption) rfl dX3_step_62 ?_
  refine a_aload_n X dX3_step_65 rfl ?_
  refine a_geti X lf3_52 (by assumption) rfl dX3_step_66 ?_
  refine a_icmp_lt (tgt := 80) X dX3_step_69 (by decide) (fun h_69 => absurd h_69 (by show ¬ zu S.2.1 P 7 (S.2.1 P 5) P 5 < zu S.2.1 P 7 (S.2.1 P 5) P 4; simp [zu, hn, hl])) (fun h_69 => ?_)
  refine a_aload_n X dX3_step_72 rfl ?_
  refine a_iconst (v := 0) X dX3_step_73 (by decide) ?_
  refine a_puti X lf3_74 (by assumption) rfl dX3_step_74 ?_
  refine a_goto (tgt := 137) X dX3_step_77 (by decide) ?_
  refine a_vret X hr dX3_step_137 ⟨by decide, by decide⟩ ?_
  subst hF
  exact ⟨rfl, by rw [← hn]⟩
set_option maxRecDepth 100000 in
theorem c_read0 {l : Launch} {G : zG} {b : Nat} {S : zS} {P Q : Nat} (hP : LX3 S.1 P) (hQ : S.1[Q]? = some (1, 700, [])) (hPQ : Q < P ∨ P + 14 ≤ Q) : zM l G b yX3_read cX3_read 4 (some .boolean) 2 0 0 [.ref P, .ref Q, .int 0] S (fun r z => ∃ M', r = some (.int 1) ∧ z = (S.1, M', S.2.2) ∧ zout S.2.1 M' P (P + 14) ∧ M' (P + 1) 0 = 0 ∧ M' (P + 1) 1 = 0 ∧ M' (P + 1) 2 = 0) := by
  refine zM.of miX3_read (Nat.le_of_ble_eq_true rfl) ?_
  intro p e s m args below meth c X hr hname
  generalize hF : ((fun r z => ∃ M', r = some (.int 1) ∧ z = (S.1, M', S.2.2) ∧ zout S.2.1 M' P (P + 14) ∧ M' (P + 1) 0 = 0 ∧ M' (P + 1) 1 = 0 ∧ M' (P + 1) 2 = 0) : Option Value → zS → Prop) = FQ
  change Zw p l e { frames := 2, cells := 0, slots := 0, locals := 80 * 2 } s m args below meth c G b 4 (MQ below (zQ G b FQ) args s 0 0 (fun q : Nat => b ≤ q)) 0 0 0 [some (.ref P), some (.ref Q), some (.int 0), none] [] S
  have hP9 := hP
  obtain ⟨plt, po, pdraft, ptext, punitNames, phunterNames, ppartyNames, pasked⟩ := id hP
  have hdr := pdraft
  obtain ⟨dr_lt, dr_o, dr_quota, dr_score, dr_guest, dr_party, dr_wishCount, dr_wishes, dr_has⟩ := id hdr
  refine a_aload_n X dX3_read_0 rfl ?_
  refine a_aload_n X dX3_read_1 rfl ?_
  refine a_getr X lf3_25 (by assumption) rfl (by omega) dX3_read_2 ?_
  refine a_callSNu X dX3_read_5 miX7_copy lm3_42 (c_copy (by assumption) (by assumption) (by decide) (by decide) (by omega)) rfl rfl (Nat.le_of_ble_eq_true rfl) ⟨by decide, by decide, by decide, by decide⟩ ?_
  refine a_aload_n X dX3_read_8 rfl ?_
  refine a_iload_n X dX3_read_9 rfl ?_
  refine a_sipush (v := 700) X dX3_read_10 (by decide) ?_
  refine a_mmin X lm3_46 zmath2 zmath0 zmathc2 ⟨by decide, Nat.le_of_ble_eq_true rfl, by decide, by decide⟩ dX3_read_13 ?_
  refine a_puti X lf3_52 (by assumption) rfl dX3_read_16 ?_
  refine a_aload_n X dX3_read_19 rfl ?_
  refine a_iconst (v := 0) X dX3_read_20 (by decide) ?_
  refine a_puti X lf3_55 (by assumption) rfl dX3_read_21 ?_
  refine a_aload_n X dX3_read_24 rfl ?_
  refine a_iconst (v := 0) X dX3_read_25 (by decide) ?_
  refine a_putz X (by first | exact Or.inl rfl | exact Or.inr rfl | assumption) lf3_58 (by assumption) rfl dX3_read_26 ?_
  refine a_aload_n X dX3_read_29 rfl ?_
  refine a_iconst (v := 0) X dX3_read_30 (by decide) ?_
  refine a_putz X (by first | exact Or.inl rfl | exact Or.inr rfl | assumption) lf3_62 (by assumption) rfl dX3_read_31 ?_
  refine a_aload_n X dX3_read_34 rfl ?_
  refine a_iconst (v := 0) X dX3_read_35 (by decide) ?_
  refine a_putz X (by first | exact Or.inl rfl | exact Or.inr rfl | assumption) lf3_65 (by assumption) rfl dX3_read_36 ?_
  refine a_aload_n X dX3_read_39 rfl ?_
  refine a_getr X lf3_12 (by assumption) rfl (by omega) dX3_read_40 ?_
  refine a_callVx X dX3_read_43 miX4_clear lm3_68 (c_clear (by assumption)) (by assumption) rfl rfl rfl (Nat.le_of_ble_eq_true rfl) ⟨by decide, by decide, by decide, by decide⟩ (fun r_43 S_43 q_43 => ?_)
  obtain ⟨M_43, rfl, rfl, h0_43, h1_43, h2_43, h3_43, h4_43, h5_43, h6_43, h7_43, g1_43, g2_43, g3_43, g4_43, g5_43, g6_43, g7_43⟩ := q_43
  refine a_aload_n X dX3_read_46 rfl ?_
  refine a_iconst (v := 0) X dX3_read_47 (by decide) ?_
  refine a_puti X lf3_18 (by assumption) rfl dX3_read_48 ?_
  refine a_aload_n X dX3_read_51 rfl ?_
  refine a_iconst (v := -1) X dX3_read_52 (by decide) ?_
  refine a_puti X lf3_22 (by assumption) rfl dX3_read_53 ?_
  refine a_aload_n X dX3_read_56 rfl ?_
  refine a_callVu X dX3_read_57 miX3_step lm3_71 (c_step0 hP9 (by simp [zu, h0_43 P (Or.inl (by omega))]) (by simp [zu, h0_43 P (Or.inl (by omega)), zcpy])) (by assumption) rfl rfl rfl (Nat.le_of_ble_eq_true rfl) ⟨by decide, by decide, by decide, by decide⟩ ?_
  refine a_iconst (v := 0) X dX3_read_60 (by decide) ?_
  refine a_istore_n X dX3_read_61 (by decide) ?_
  refine a_iload_n X dX3_read_62 rfl ?_
  refine a_sipush (v := 700) X dX3_read_63 (by decide) ?_
  refine a_icmp_ge (tgt := 91) X dX3_read_66 (by decide) (fun h_66 => absurd h_66 (by decide)) (fun h_66 => ?_)
  refine a_aload_n X dX3_read_69 rfl ?_
  refine a_geti X lf3_74 (by assumption) rfl dX3_read_70 ?_
  refine a_if_eq (tgt := 91) X dX3_read_73 (by decide) (fun h_73 => ?_) (fun h_73 => absurd (by show zu _ P 6 0 P 6 = 0; exact zu_eq) h_73)
  refine a_iconst (v := 1) X dX3_read_91 (by decide) ?_
  refine a_zret X (by first | exact Or.inl rfl | exact Or.inr rfl | assumption) hr dX3_read_92 ⟨by decide, by decide⟩ ?_
  subst hF
  exact ⟨_, rfl, rfl, (((((zout.trans (((((((zout.rf.zcpy (by omega) (by omega)).zu (by omega) (by omega)).zu (by omega) (by omega)).zu (by omega) (by omega)).zu (by omega) (by omega)).zu (by omega) (by omega))) (h0_43.mono (by omega) (by omega))).zu (by omega) (by omega)).zu (by omega) (by omega)).zu (by omega) (by omega)).zu (by omega) (by omega)), by simp [zu, h1_43], by simp [zu, h2_43], by simp [zu, h3_43]⟩
