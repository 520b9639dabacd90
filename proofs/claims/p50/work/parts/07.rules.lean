/-- what stays through a method's body -/
def zOK (p : Program) (s : State) (m : MethodId) (args : Array Value) (meth : Method) (c : Code) (G : zG) (b : Nat) (own : String) (cc : ByteArray) (nL : Nat) : Prop :=
  p.tables.exec = Jvm.exec ∧ c.code = cc ∧ c.maxLocals = nL ∧ s.vm.findClass own = some m.cls ∧ (∀ w ∈ zT, w.before args s = true) ∧ va_K G.1 vwCl (zty G) s ∧ zEx G b s ∧ meth.locks = false ∧ b ≤ s.heap.size
def Zw (p : Program) (l : Launch) (e : Env) (R : Room) (s : State) (m : MethodId) (args : Array Value) (below : List Frame) (meth : Method) (c : Code) (G : zG) (b : Nat) (nL : Nat) (Q : State → Prop) (nc ns : Nat) (pc : Nat) (ls : List (Option Value)) (st : List Value) (S : zS) : Prop :=
  ∀ (H : Heap) (locs : List Loc) (la : Array Slot), zH G b S H → va_S (fun q : Nat => b ≤ q) s.heap H locs → zL b nL ls la → W p l e R s m args below meth c H locs nc ns Q (F0 m pc la (st.map (zv b)))
/-- a method's end, over the whole world -/
def zQ (G : zG) (b : Nat) (Q : Option Value → zS → Prop) : Array Value → State → Outcome → State → Prop := fun _ st o t => (∃ (r : Option Value) (S' : zS), o = .returned (r.map (zv b)) ∧ Q r S' ∧ zH G b S' t.heap) ∧ va_F (fun q : Nat => b ≤ q) st t
/-- a method's contract: from S, with these arguments, it returns, and Q holds of its answer and of what S has become; at most mc cells of ms slots are made; d: how deep its calls go -/
def zM (l : Launch) (G : zG) (b : Nat) (y : MethodName) (cc : ByteArray) (nL : Nat) (ret : Option FieldType) (d mc ms : Nat) (av : List Value) (S : zS) (Q : Option Value → zS → Prop) : Prop :=
  Met l y (.code y cc nL ret :: zT) { frames := d, cells := mc, slots := ms, locals := 80 * d } (va_Pc (av.map (zv b)) (fun U => zH G b S U.heap ∧ va_K G.1 vwCl (zty G) U ∧ zEx G b U)) (zQ G b Q) mc ms (fun q : Nat => b ≤ q)
section ZR
variable {p : Program} {l : Launch} {e : Env} {R : Room} {s : State} {m : MethodId} {args : Array Value} {below : List Frame} {meth : Method} {c : Code} {G : zG} {b : Nat} {Q : State → Prop} {nc ns : Nat}
variable {cc : ByteArray} {pc nL : Nat} {own : String} {ls : List (Option Value)} {st : List Value} {S : zS}

theorem a_iconst (X : zOK p s m args meth c G b own cc nL) {n : Int} {v : Int32} (hd : decode cc pc = .ok (.iconst n, 1)) (hv : Int32.ofInt n = v) (kk : Zw p l e R s m args below meth c G b nL Q nc ns (pc + 1) ls (.int v :: st) S) : Zw p l e R s m args below meth c G b nL Q nc ns pc ls st S :=
  fun H locs la hH hS hL => lv_iconst X.1 X.2.1 hd hv (kk H locs la hH hS hL)
theorem a_bipush (X : zOK p s m args meth c G b own cc nL) {n : Int} {v : Int32} (hd : decode cc pc = .ok (.bipush n, 2)) (hv : (Int8.ofInt n).toInt32 = v) (kk : Zw p l e R s m args below meth c G b nL Q nc ns (pc + 2) ls (.int v :: st) S) : Zw p l e R s m args below meth c G b nL Q nc ns pc ls st S :=
  fun H locs la hH hS hL => lv_bipush X.1 X.2.1 hd hv (kk H locs la hH hS hL)
theorem a_sipush (X : zOK p s m args meth c G b own cc nL) {n : Int} {v : Int32} (hd : decode cc pc = .ok (.sipush n, 3)) (hv : (Int16.ofInt n).toInt32 = v) (kk : Zw p l e R s m args below meth c G b nL Q nc ns (pc + 3) ls (.int v :: st) S) : Zw p l e R s m args below meth c G b nL Q nc ns pc ls st S :=
  fun H locs la hH hS hL => lv_sipush X.1 X.2.1 hd hv (kk H locs la hH hS hL)
theorem a_lconst (X : zOK p s m args meth c G b own cc nL) {n : Fin 2} {v : Int64} (hd : decode cc pc = .ok (.lconst n, 1)) (hv : Int64.ofNat (n : Nat) = v) (kk : Zw p l e R s m args below meth c G b nL Q nc ns (pc + 1) ls (.long v :: st) S) : Zw p l e R s m args below meth c G b nL Q nc ns pc ls st S :=
  fun H locs la hH hS hL => lv_lconst X.1 X.2.1 hd hv (kk H locs la hH hS hL)
theorem a_ldc (X : zOK p s m args meth c G b own cc nL) {i : Nat} {v : Int32} (hd : decode cc pc = .ok (.ldc i, 2)) (hw : Cond.constant own i v ∈ zT) (kk : Zw p l e R s m args below meth c G b nL Q nc ns (pc + 2) ls (.int v :: st) S) : Zw p l e R s m args below meth c G b nL Q nc ns pc ls st S :=
  fun H locs la hH hS hL => lv_ldc X.1 X.2.1 X.2.2.2.1 (X.2.2.2.2.1 _ hw) hd (kk H locs la hH hS hL)
theorem a_ldcw (X : zOK p s m args meth c G b own cc nL) {i : Nat} {v : Int32} (hd : decode cc pc = .ok (.ldc_w i, 3)) (hw : Cond.constant own i v ∈ zT) (kk : Zw p l e R s m args below meth c G b nL Q nc ns (pc + 3) ls (.int v :: st) S) : Zw p l e R s m args below meth c G b nL Q nc ns pc ls st S :=
  fun H locs la hH hS hL => lv_ldcw X.1 X.2.1 X.2.2.2.1 (X.2.2.2.2.1 _ hw) hd (kk H locs la hH hS hL)
theorem a_ldc2 (X : zOK p s m args meth c G b own cc nL) {i : Nat} {v : Int64} (hd : decode cc pc = .ok (.ldc2_w i, 3)) (hw : Cond.constantLong own i v ∈ zT) (kk : Zw p l e R s m args below meth c G b nL Q nc ns (pc + 3) ls (.long v :: st) S) : Zw p l e R s m args below meth c G b nL Q nc ns pc ls st S :=
  fun H locs la hH hS hL => lv_ldc2 X.1 X.2.1 X.2.2.2.1 (X.2.2.2.2.1 _ hw) hd (kk H locs la hH hS hL)
theorem a_iload_n (X : zOK p s m args meth c G b own cc nL) {k : Fin 4} {x : Int32} (hd : decode cc pc = .ok (.iload_n k, 1)) (hl : ls[(k : Nat)]? = some (some (.int x))) (kk : Zw p l e R s m args below meth c G b nL Q nc ns (pc + 1) ls (.int x :: st) S) : Zw p l e R s m args below meth c G b nL Q nc ns pc ls st S :=
  fun H locs la hH hS hL => lv_iload_n X.1 X.2.1 hd rfl (hL.2.2 _ _ hl) (kk H locs la hH hS hL)
theorem a_iload (X : zOK p s m args meth c G b own cc nL) {i : Nat} {x : Int32} (hd : decode cc pc = .ok (.iload i, 2)) (hl : ls[i]? = some (some (.int x))) (kk : Zw p l e R s m args below meth c G b nL Q nc ns (pc + 2) ls (.int x :: st) S) : Zw p l e R s m args below meth c G b nL Q nc ns pc ls st S :=
  fun H locs la hH hS hL => lv_iload X.1 X.2.1 hd (hL.2.2 _ _ hl) (kk H locs la hH hS hL)
theorem a_lload_n (X : zOK p s m args meth c G b own cc nL) {k : Fin 4} {x : Int64} (hd : decode cc pc = .ok (.lload_n k, 1)) (hl : ls[(k : Nat)]? = some (some (.long x))) (kk : Zw p l e R s m args below meth c G b nL Q nc ns (pc + 1) ls (.long x :: st) S) : Zw p l e R s m args below meth c G b nL Q nc ns pc ls st S :=
  fun H locs la hH hS hL => lv_lload_n X.1 X.2.1 hd rfl (hL.2.2 _ _ hl) (kk H locs la hH hS hL)
theorem a_lload (X : zOK p s m args meth c G b own cc nL) {i : Nat} {x : Int64} (hd : decode cc pc = .ok (.lload i, 2)) (hl : ls[i]? = some (some (.long x))) (kk : Zw p l e R s m args below meth c G b nL Q nc ns (pc + 2) ls (.long x :: st) S) : Zw p l e R s m args below meth c G b nL Q nc ns pc ls st S :=
  fun H locs la hH hS hL => lv_lload X.1 X.2.1 hd (hL.2.2 _ _ hl) (kk H locs la hH hS hL)
theorem a_aload_n (X : zOK p s m args meth c G b own cc nL) {k : Fin 4} {x : Nat} (hd : decode cc pc = .ok (.aload_n k, 1)) (hl : ls[(k : Nat)]? = some (some (.ref x))) (kk : Zw p l e R s m args below meth c G b nL Q nc ns (pc + 1) ls (.ref x :: st) S) : Zw p l e R s m args below meth c G b nL Q nc ns pc ls st S :=
  fun H locs la hH hS hL => lv_aload_n X.1 X.2.1 hd rfl (hL.2.2 _ _ hl) (kk H locs la hH hS hL)
theorem a_aload (X : zOK p s m args meth c G b own cc nL) {i : Nat} {x : Nat} (hd : decode cc pc = .ok (.aload i, 2)) (hl : ls[i]? = some (some (.ref x))) (kk : Zw p l e R s m args below meth c G b nL Q nc ns (pc + 2) ls (.ref x :: st) S) : Zw p l e R s m args below meth c G b nL Q nc ns pc ls st S :=
  fun H locs la hH hS hL => lv_aload X.1 X.2.1 hd (hL.2.2 _ _ hl) (kk H locs la hH hS hL)
theorem a_aload_nN (X : zOK p s m args meth c G b own cc nL) {k : Fin 4} (hd : decode cc pc = .ok (.aload_n k, 1)) (hl : ls[(k : Nat)]? = some (some .null)) (kk : Zw p l e R s m args below meth c G b nL Q nc ns (pc + 1) ls (.null :: st) S) : Zw p l e R s m args below meth c G b nL Q nc ns pc ls st S :=
  fun H locs la hH hS hL => lv_aload_nN X.1 X.2.1 hd rfl (hL.2.2 _ _ hl) (kk H locs la hH hS hL)
theorem a_istore_n (X : zOK p s m args meth c G b own cc nL) {k : Fin 4} {x : Int32} (hd : decode cc pc = .ok (.istore_n k, 1)) (hn : (k : Nat) < nL) (kk : Zw p l e R s m args below meth c G b nL Q nc ns (pc + 1) (zs1 ls (k : Nat) (.int x)) st S) : Zw p l e R s m args below meth c G b nL Q nc ns pc ls ((.int x) :: st) S :=
  fun H locs la hH hS hL => lv_istore_n X.1 X.2.1 hd rfl hL.has hn rfl (fun la2 h2 => kk H locs la2 hH hS (zL.st1 h2))
theorem a_istore (X : zOK p s m args meth c G b own cc nL) {i : Nat} {x : Int32} (hd : decode cc pc = .ok (.istore i, 2)) (hn : i < nL) (kk : Zw p l e R s m args below meth c G b nL Q nc ns (pc + 2) (zs1 ls i (.int x)) st S) : Zw p l e R s m args below meth c G b nL Q nc ns pc ls ((.int x) :: st) S :=
  fun H locs la hH hS hL => lv_istore X.1 X.2.1 hd hL.has hn rfl (fun la2 h2 => kk H locs la2 hH hS (zL.st1 h2))
theorem a_lstore_n (X : zOK p s m args meth c G b own cc nL) {k : Fin 4} {x : Int64} (hd : decode cc pc = .ok (.lstore_n k, 1)) (hn : (k : Nat) + 1 < nL) (kk : Zw p l e R s m args below meth c G b nL Q nc ns (pc + 1) (zs2 ls (k : Nat) (.long x)) st S) : Zw p l e R s m args below meth c G b nL Q nc ns pc ls ((.long x) :: st) S :=
  fun H locs la hH hS hL => lv_lstore_n X.1 X.2.1 hd rfl hL.has hn rfl (fun la2 h2 => kk H locs la2 hH hS (zL.st2 h2))
theorem a_lstore (X : zOK p s m args meth c G b own cc nL) {i : Nat} {x : Int64} (hd : decode cc pc = .ok (.lstore i, 2)) (hn : i + 1 < nL) (kk : Zw p l e R s m args below meth c G b nL Q nc ns (pc + 2) (zs2 ls i (.long x)) st S) : Zw p l e R s m args below meth c G b nL Q nc ns pc ls ((.long x) :: st) S :=
  fun H locs la hH hS hL => lv_lstore X.1 X.2.1 hd hL.has hn rfl (fun la2 h2 => kk H locs la2 hH hS (zL.st2 h2))
theorem a_astore_n (X : zOK p s m args meth c G b own cc nL) {k : Fin 4} {x : Nat} (hd : decode cc pc = .ok (.astore_n k, 1)) (hn : (k : Nat) < nL) (kk : Zw p l e R s m args below meth c G b nL Q nc ns (pc + 1) (zs1 ls (k : Nat) (.ref x)) st S) : Zw p l e R s m args below meth c G b nL Q nc ns pc ls ((.ref x) :: st) S :=
  fun H locs la hH hS hL => lv_astore_n X.1 X.2.1 hd rfl hL.has hn rfl (fun la2 h2 => kk H locs la2 hH hS (zL.st1 h2))
theorem a_astore (X : zOK p s m args meth c G b own cc nL) {i : Nat} {x : Nat} (hd : decode cc pc = .ok (.astore i, 2)) (hn : i < nL) (kk : Zw p l e R s m args below meth c G b nL Q nc ns (pc + 2) (zs1 ls i (.ref x)) st S) : Zw p l e R s m args below meth c G b nL Q nc ns pc ls ((.ref x) :: st) S :=
  fun H locs la hH hS hL => lv_astore X.1 X.2.1 hd hL.has hn rfl (fun la2 h2 => kk H locs la2 hH hS (zL.st1 h2))
theorem a_astore_nN (X : zOK p s m args meth c G b own cc nL) {k : Fin 4} (hd : decode cc pc = .ok (.astore_n k, 1)) (hn : (k : Nat) < nL) (kk : Zw p l e R s m args below meth c G b nL Q nc ns (pc + 1) (zs1 ls (k : Nat) .null) st S) : Zw p l e R s m args below meth c G b nL Q nc ns pc ls (.null :: st) S :=
  fun H locs la hH hS hL => lv_astore_nN X.1 X.2.1 hd rfl hL.has hn rfl (fun la2 h2 => kk H locs la2 hH hS (zL.st1 h2))
theorem a_iinc (X : zOK p s m args meth c G b own cc nL) {i : Nat} {n : Int} {x v : Int32} (hd : decode cc pc = .ok (.iinc i n, 3)) (hn : i < nL) (hl : ls[i]? = some (some (.int x))) (hv : x + Int32.ofInt n = v) (kk : Zw p l e R s m args below meth c G b nL Q nc ns (pc + 3) (zs1 ls i (.int v)) st S) : Zw p l e R s m args below meth c G b nL Q nc ns pc ls st S := by
  intro H locs la hH hS hL
  obtain ⟨j, hj⟩ := List.getElem?_of_mem (zas_mem (b := b) hl)
  exact lv_iinc X.1 X.2.1 hd hL.has hj hv hn rfl (fun la2 h2 => kk H locs la2 hH hS (zL.st1 (v := .int v) h2))
theorem a_iadd (X : zOK p s m args meth c G b own cc nL) {x y : Int32} (hd : decode cc pc = .ok (.iadd, 1)) (kk : Zw p l e R s m args below meth c G b nL Q nc ns (pc + 1) ls (.int (x + y) :: st) S) : Zw p l e R s m args below meth c G b nL Q nc ns pc ls (.int y :: .int x :: st) S :=
  fun H locs la hH hS hL => lv_iadd X.1 X.2.1 hd (kk H locs la hH hS hL)
theorem a_isub (X : zOK p s m args meth c G b own cc nL) {x y : Int32} (hd : decode cc pc = .ok (.isub, 1)) (kk : Zw p l e R s m args below meth c G b nL Q nc ns (pc + 1) ls (.int (x - y) :: st) S) : Zw p l e R s m args below meth c G b nL Q nc ns pc ls (.int y :: .int x :: st) S :=
  fun H locs la hH hS hL => lv_isub X.1 X.2.1 hd (kk H locs la hH hS hL)
theorem a_imul (X : zOK p s m args meth c G b own cc nL) {x y : Int32} (hd : decode cc pc = .ok (.imul, 1)) (kk : Zw p l e R s m args below meth c G b nL Q nc ns (pc + 1) ls (.int (x * y) :: st) S) : Zw p l e R s m args below meth c G b nL Q nc ns pc ls (.int y :: .int x :: st) S :=
  fun H locs la hH hS hL => lv_imul X.1 X.2.1 hd (kk H locs la hH hS hL)
theorem a_iand (X : zOK p s m args meth c G b own cc nL) {x y : Int32} (hd : decode cc pc = .ok (.iand, 1)) (kk : Zw p l e R s m args below meth c G b nL Q nc ns (pc + 1) ls (.int (x &&& y) :: st) S) : Zw p l e R s m args below meth c G b nL Q nc ns pc ls (.int y :: .int x :: st) S :=
  fun H locs la hH hS hL => lv_iand X.1 X.2.1 hd (kk H locs la hH hS hL)
theorem a_ior (X : zOK p s m args meth c G b own cc nL) {x y : Int32} (hd : decode cc pc = .ok (.ior, 1)) (kk : Zw p l e R s m args below meth c G b nL Q nc ns (pc + 1) ls (.int (x ||| y) :: st) S) : Zw p l e R s m args below meth c G b nL Q nc ns pc ls (.int y :: .int x :: st) S :=
  fun H locs la hH hS hL => lv_ior X.1 X.2.1 hd (kk H locs la hH hS hL)
theorem a_ixor (X : zOK p s m args meth c G b own cc nL) {x y : Int32} (hd : decode cc pc = .ok (.ixor, 1)) (kk : Zw p l e R s m args below meth c G b nL Q nc ns (pc + 1) ls (.int (x ^^^ y) :: st) S) : Zw p l e R s m args below meth c G b nL Q nc ns pc ls (.int y :: .int x :: st) S :=
  fun H locs la hH hS hL => lv_ixor X.1 X.2.1 hd (kk H locs la hH hS hL)
theorem a_ishl (X : zOK p s m args meth c G b own cc nL) {x y : Int32} (hd : decode cc pc = .ok (.ishl, 1)) (kk : Zw p l e R s m args below meth c G b nL Q nc ns (pc + 1) ls (.int (x <<< (y &&& 31)) :: st) S) : Zw p l e R s m args below meth c G b nL Q nc ns pc ls (.int y :: .int x :: st) S :=
  fun H locs la hH hS hL => lv_ishl X.1 X.2.1 hd (kk H locs la hH hS hL)
theorem a_ishr (X : zOK p s m args meth c G b own cc nL) {x y : Int32} (hd : decode cc pc = .ok (.ishr, 1)) (kk : Zw p l e R s m args below meth c G b nL Q nc ns (pc + 1) ls (.int (x >>> (y &&& 31)) :: st) S) : Zw p l e R s m args below meth c G b nL Q nc ns pc ls (.int y :: .int x :: st) S :=
  fun H locs la hH hS hL => lv_ishr X.1 X.2.1 hd (kk H locs la hH hS hL)
theorem a_idiv (X : zOK p s m args meth c G b own cc nL) {x y : Int32} (hd : decode cc pc = .ok (.idiv, 1)) (hne : ¬ y = 0) (kk : Zw p l e R s m args below meth c G b nL Q nc ns (pc + 1) ls (.int (x / y) :: st) S) : Zw p l e R s m args below meth c G b nL Q nc ns pc ls (.int y :: .int x :: st) S :=
  fun H locs la hH hS hL => lv_idiv X.1 X.2.1 hd hne (kk H locs la hH hS hL)
theorem a_irem (X : zOK p s m args meth c G b own cc nL) {x y : Int32} (hd : decode cc pc = .ok (.irem, 1)) (hne : ¬ y = 0) (kk : Zw p l e R s m args below meth c G b nL Q nc ns (pc + 1) ls (.int (x - x / y * y) :: st) S) : Zw p l e R s m args below meth c G b nL Q nc ns pc ls (.int y :: .int x :: st) S :=
  fun H locs la hH hS hL => lv_irem X.1 X.2.1 hd hne (kk H locs la hH hS hL)
theorem a_ladd (X : zOK p s m args meth c G b own cc nL) {x y : Int64} (hd : decode cc pc = .ok (.ladd, 1)) (kk : Zw p l e R s m args below meth c G b nL Q nc ns (pc + 1) ls (.long (x + y) :: st) S) : Zw p l e R s m args below meth c G b nL Q nc ns pc ls (.long y :: .long x :: st) S :=
  fun H locs la hH hS hL => lv_ladd X.1 X.2.1 hd (kk H locs la hH hS hL)
theorem a_lsub (X : zOK p s m args meth c G b own cc nL) {x y : Int64} (hd : decode cc pc = .ok (.lsub, 1)) (kk : Zw p l e R s m args below meth c G b nL Q nc ns (pc + 1) ls (.long (x - y) :: st) S) : Zw p l e R s m args below meth c G b nL Q nc ns pc ls (.long y :: .long x :: st) S :=
  fun H locs la hH hS hL => lv_lsub X.1 X.2.1 hd (kk H locs la hH hS hL)
theorem a_lmul (X : zOK p s m args meth c G b own cc nL) {x y : Int64} (hd : decode cc pc = .ok (.lmul, 1)) (kk : Zw p l e R s m args below meth c G b nL Q nc ns (pc + 1) ls (.long (x * y) :: st) S) : Zw p l e R s m args below meth c G b nL Q nc ns pc ls (.long y :: .long x :: st) S :=
  fun H locs la hH hS hL => lv_lmul X.1 X.2.1 hd (kk H locs la hH hS hL)
theorem a_lor (X : zOK p s m args meth c G b own cc nL) {x y : Int64} (hd : decode cc pc = .ok (.lor, 1)) (kk : Zw p l e R s m args below meth c G b nL Q nc ns (pc + 1) ls (.long (x ||| y) :: st) S) : Zw p l e R s m args below meth c G b nL Q nc ns pc ls (.long y :: .long x :: st) S :=
  fun H locs la hH hS hL => lv_lor X.1 X.2.1 hd (kk H locs la hH hS hL)
theorem a_ldiv (X : zOK p s m args meth c G b own cc nL) {x y : Int64} (hd : decode cc pc = .ok (.ldiv, 1)) (hne : ¬ y = 0) (kk : Zw p l e R s m args below meth c G b nL Q nc ns (pc + 1) ls (.long (x / y) :: st) S) : Zw p l e R s m args below meth c G b nL Q nc ns pc ls (.long y :: .long x :: st) S :=
  fun H locs la hH hS hL => lv_ldiv X.1 X.2.1 hd hne (kk H locs la hH hS hL)
theorem a_lrem (X : zOK p s m args meth c G b own cc nL) {x y : Int64} (hd : decode cc pc = .ok (.lrem, 1)) (hne : ¬ y = 0) (kk : Zw p l e R s m args below meth c G b nL Q nc ns (pc + 1) ls (.long (x - x / y * y) :: st) S) : Zw p l e R s m args below meth c G b nL Q nc ns pc ls (.long y :: .long x :: st) S :=
  fun H locs la hH hS hL => lv_lrem X.1 X.2.1 hd hne (kk H locs la hH hS hL)
theorem a_ineg (X : zOK p s m args meth c G b own cc nL) {x : Int32} (hd : decode cc pc = .ok (.ineg, 1)) (kk : Zw p l e R s m args below meth c G b nL Q nc ns (pc + 1) ls (.int (-x) :: st) S) : Zw p l e R s m args below meth c G b nL Q nc ns pc ls (.int x :: st) S :=
  fun H locs la hH hS hL => lv_ineg X.1 X.2.1 hd (kk H locs la hH hS hL)
theorem a_iushr (X : zOK p s m args meth c G b own cc nL) {x y : Int32} (hd : decode cc pc = .ok (.iushr, 1)) (kk : Zw p l e R s m args below meth c G b nL Q nc ns (pc + 1) ls (.int (x.toUInt32 >>> (y.toUInt32 &&& Int32.toUInt32 31)).toInt32 :: st) S) : Zw p l e R s m args below meth c G b nL Q nc ns pc ls (.int y :: .int x :: st) S :=
  fun H locs la hH hS hL => lv_iushr X.1 X.2.1 hd rfl (kk H locs la hH hS hL)
theorem a_lshl (X : zOK p s m args meth c G b own cc nL) {x : Int64} {y : Int32} (hd : decode cc pc = .ok (.lshl, 1)) (kk : Zw p l e R s m args below meth c G b nL Q nc ns (pc + 1) ls (.long (x <<< (y.toInt64 &&& 63)) :: st) S) : Zw p l e R s m args below meth c G b nL Q nc ns pc ls (.int y :: .long x :: st) S :=
  fun H locs la hH hS hL => lv_lshl X.1 X.2.1 hd rfl (kk H locs la hH hS hL)
theorem a_i2l (X : zOK p s m args meth c G b own cc nL) {x : Int32} (hd : decode cc pc = .ok (.i2l, 1)) (kk : Zw p l e R s m args below meth c G b nL Q nc ns (pc + 1) ls (.long x.toInt64 :: st) S) : Zw p l e R s m args below meth c G b nL Q nc ns pc ls (.int x :: st) S :=
  fun H locs la hH hS hL => lv_i2l X.1 X.2.1 hd rfl (kk H locs la hH hS hL)
theorem a_l2i (X : zOK p s m args meth c G b own cc nL) {x : Int64} (hd : decode cc pc = .ok (.l2i, 1)) (kk : Zw p l e R s m args below meth c G b nL Q nc ns (pc + 1) ls (.int x.toInt32 :: st) S) : Zw p l e R s m args below meth c G b nL Q nc ns pc ls (.long x :: st) S :=
  fun H locs la hH hS hL => lv_l2i X.1 X.2.1 hd rfl (kk H locs la hH hS hL)
theorem a_lcmp (X : zOK p s m args meth c G b own cc nL) {x y : Int64} (hd : decode cc pc = .ok (.lcmp, 1)) (kk : Zw p l e R s m args below meth c G b nL Q nc ns (pc + 1) ls (.int (lg_cmp x y) :: st) S) : Zw p l e R s m args below meth c G b nL Q nc ns pc ls (.long y :: .long x :: st) S :=
  fun H locs la hH hS hL => W.lcmp X.1 X.2.1 hd (kk H locs la hH hS hL)
theorem a_dup (X : zOK p s m args meth c G b own cc nL) {v : Value} (hd : decode cc pc = .ok (.dup, 1)) (hc : v.category = 1) (kk : Zw p l e R s m args below meth c G b nL Q nc ns (pc + 1) ls (v :: v :: st) S) : Zw p l e R s m args below meth c G b nL Q nc ns pc ls (v :: st) S :=
  fun H locs la hH hS hL => lv_dup X.1 X.2.1 hd (by rw [zv_cat]; exact hc) (kk H locs la hH hS hL)
theorem a_pop (X : zOK p s m args meth c G b own cc nL) {v : Value} (hd : decode cc pc = .ok (.pop, 1)) (hc : v.category = 1) (kk : Zw p l e R s m args below meth c G b nL Q nc ns (pc + 1) ls st S) : Zw p l e R s m args below meth c G b nL Q nc ns pc ls (v :: st) S :=
  fun H locs la hH hS hL => lv_pop X.1 X.2.1 hd (by rw [zv_cat]; exact hc) (kk H locs la hH hS hL)
theorem a_dup2 (X : zOK p s m args meth c G b own cc nL) {v w : Value} (hd : decode cc pc = .ok (.dup2, 1)) (hc : v.category = 1) (hc2 : w.category = 1) (kk : Zw p l e R s m args below meth c G b nL Q nc ns (pc + 1) ls (v :: w :: v :: w :: st) S) : Zw p l e R s m args below meth c G b nL Q nc ns pc ls (v :: w :: st) S :=
  fun H locs la hH hS hL => lv_dup2_11 X.1 X.2.1 hd (by rw [zv_cat]; exact hc) (by rw [zv_cat]; exact hc2) (kk H locs la hH hS hL)
theorem a_null (X : zOK p s m args meth c G b own cc nL) (hd : decode cc pc = .ok (.aconst_null, 1)) (kk : Zw p l e R s m args below meth c G b nL Q nc ns (pc + 1) ls (.null :: st) S) : Zw p l e R s m args below meth c G b nL Q nc ns pc ls st S :=
  fun H locs la hH hS hL => lv_null X.1 X.2.1 hd (kk H locs la hH hS hL)
theorem a_if_eq (X : zOK p s m args meth c G b own cc nL) {x : Int32} {off : Int} {tgt : Nat} (hd : decode cc pc = .ok (.ifCond .eq off, 3)) (ht : (pc : Int) + off = (tgt : Int)) (kt : x = 0 → Zw p l e R s m args below meth c G b nL Q nc ns tgt ls st S) (kf : ¬ x = 0 → Zw p l e R s m args below meth c G b nL Q nc ns (pc + 3) ls st S) : Zw p l e R s m args below meth c G b nL Q nc ns pc ls (.int x :: st) S :=
  fun H locs la hH hS hL => lv_if_eq X.1 X.2.1 hd ht (fun h => kt h H locs la hH hS hL) (fun h => kf h H locs la hH hS hL)
theorem a_if_ne (X : zOK p s m args meth c G b own cc nL) {x : Int32} {off : Int} {tgt : Nat} (hd : decode cc pc = .ok (.ifCond .ne off, 3)) (ht : (pc : Int) + off = (tgt : Int)) (kt : ¬ x = 0 → Zw p l e R s m args below meth c G b nL Q nc ns tgt ls st S) (kf : x = 0 → Zw p l e R s m args below meth c G b nL Q nc ns (pc + 3) ls st S) : Zw p l e R s m args below meth c G b nL Q nc ns pc ls (.int x :: st) S :=
  fun H locs la hH hS hL => lv_if_ne X.1 X.2.1 hd ht (fun h => kt h H locs la hH hS hL) (fun h => kf h H locs la hH hS hL)
theorem a_if_lt (X : zOK p s m args meth c G b own cc nL) {x : Int32} {off : Int} {tgt : Nat} (hd : decode cc pc = .ok (.ifCond .lt off, 3)) (ht : (pc : Int) + off = (tgt : Int)) (kt : x < 0 → Zw p l e R s m args below meth c G b nL Q nc ns tgt ls st S) (kf : ¬ x < 0 → Zw p l e R s m args below meth c G b nL Q nc ns (pc + 3) ls st S) : Zw p l e R s m args below meth c G b nL Q nc ns pc ls (.int x :: st) S :=
  fun H locs la hH hS hL => lv_if_lt X.1 X.2.1 hd ht (fun h => kt h H locs la hH hS hL) (fun h => kf h H locs la hH hS hL)
theorem a_if_ge (X : zOK p s m args meth c G b own cc nL) {x : Int32} {off : Int} {tgt : Nat} (hd : decode cc pc = .ok (.ifCond .ge off, 3)) (ht : (pc : Int) + off = (tgt : Int)) (kt : 0 ≤ x → Zw p l e R s m args below meth c G b nL Q nc ns tgt ls st S) (kf : ¬ 0 ≤ x → Zw p l e R s m args below meth c G b nL Q nc ns (pc + 3) ls st S) : Zw p l e R s m args below meth c G b nL Q nc ns pc ls (.int x :: st) S :=
  fun H locs la hH hS hL => lv_if_ge X.1 X.2.1 hd ht (fun h => kt h H locs la hH hS hL) (fun h => kf h H locs la hH hS hL)
theorem a_if_gt (X : zOK p s m args meth c G b own cc nL) {x : Int32} {off : Int} {tgt : Nat} (hd : decode cc pc = .ok (.ifCond .gt off, 3)) (ht : (pc : Int) + off = (tgt : Int)) (kt : 0 < x → Zw p l e R s m args below meth c G b nL Q nc ns tgt ls st S) (kf : ¬ 0 < x → Zw p l e R s m args below meth c G b nL Q nc ns (pc + 3) ls st S) : Zw p l e R s m args below meth c G b nL Q nc ns pc ls (.int x :: st) S :=
  fun H locs la hH hS hL => lv_if_gt X.1 X.2.1 hd ht (fun h => kt h H locs la hH hS hL) (fun h => kf h H locs la hH hS hL)
theorem a_if_le (X : zOK p s m args meth c G b own cc nL) {x : Int32} {off : Int} {tgt : Nat} (hd : decode cc pc = .ok (.ifCond .le off, 3)) (ht : (pc : Int) + off = (tgt : Int)) (kt : x ≤ 0 → Zw p l e R s m args below meth c G b nL Q nc ns tgt ls st S) (kf : ¬ x ≤ 0 → Zw p l e R s m args below meth c G b nL Q nc ns (pc + 3) ls st S) : Zw p l e R s m args below meth c G b nL Q nc ns pc ls (.int x :: st) S :=
  fun H locs la hH hS hL => lv_if_le X.1 X.2.1 hd ht (fun h => kt h H locs la hH hS hL) (fun h => kf h H locs la hH hS hL)
theorem a_icmp_eq (X : zOK p s m args meth c G b own cc nL) {x y : Int32} {off : Int} {tgt : Nat} (hd : decode cc pc = .ok (.if_icmp .eq off, 3)) (ht : (pc : Int) + off = (tgt : Int)) (kt : x = y → Zw p l e R s m args below meth c G b nL Q nc ns tgt ls st S) (kf : ¬ x = y → Zw p l e R s m args below meth c G b nL Q nc ns (pc + 3) ls st S) : Zw p l e R s m args below meth c G b nL Q nc ns pc ls (.int y :: .int x :: st) S :=
  fun H locs la hH hS hL => lv_icmp_eq X.1 X.2.1 hd ht (fun h => kt h H locs la hH hS hL) (fun h => kf h H locs la hH hS hL)
theorem a_icmp_ne (X : zOK p s m args meth c G b own cc nL) {x y : Int32} {off : Int} {tgt : Nat} (hd : decode cc pc = .ok (.if_icmp .ne off, 3)) (ht : (pc : Int) + off = (tgt : Int)) (kt : ¬ x = y → Zw p l e R s m args below meth c G b nL Q nc ns tgt ls st S) (kf : x = y → Zw p l e R s m args below meth c G b nL Q nc ns (pc + 3) ls st S) : Zw p l e R s m args below meth c G b nL Q nc ns pc ls (.int y :: .int x :: st) S :=
  fun H locs la hH hS hL => lv_icmp_ne X.1 X.2.1 hd ht (fun h => kt h H locs la hH hS hL) (fun h => kf h H locs la hH hS hL)
theorem a_icmp_lt (X : zOK p s m args meth c G b own cc nL) {x y : Int32} {off : Int} {tgt : Nat} (hd : decode cc pc = .ok (.if_icmp .lt off, 3)) (ht : (pc : Int) + off = (tgt : Int)) (kt : x < y → Zw p l e R s m args below meth c G b nL Q nc ns tgt ls st S) (kf : ¬ x < y → Zw p l e R s m args below meth c G b nL Q nc ns (pc + 3) ls st S) : Zw p l e R s m args below meth c G b nL Q nc ns pc ls (.int y :: .int x :: st) S :=
  fun H locs la hH hS hL => lv_icmp_lt X.1 X.2.1 hd ht (fun h => kt h H locs la hH hS hL) (fun h => kf h H locs la hH hS hL)
theorem a_icmp_ge (X : zOK p s m args meth c G b own cc nL) {x y : Int32} {off : Int} {tgt : Nat} (hd : decode cc pc = .ok (.if_icmp .ge off, 3)) (ht : (pc : Int) + off = (tgt : Int)) (kt : y ≤ x → Zw p l e R s m args below meth c G b nL Q nc ns tgt ls st S) (kf : ¬ y ≤ x → Zw p l e R s m args below meth c G b nL Q nc ns (pc + 3) ls st S) : Zw p l e R s m args below meth c G b nL Q nc ns pc ls (.int y :: .int x :: st) S :=
  fun H locs la hH hS hL => lv_icmp_ge X.1 X.2.1 hd ht (fun h => kt h H locs la hH hS hL) (fun h => kf h H locs la hH hS hL)
theorem a_icmp_gt (X : zOK p s m args meth c G b own cc nL) {x y : Int32} {off : Int} {tgt : Nat} (hd : decode cc pc = .ok (.if_icmp .gt off, 3)) (ht : (pc : Int) + off = (tgt : Int)) (kt : y < x → Zw p l e R s m args below meth c G b nL Q nc ns tgt ls st S) (kf : ¬ y < x → Zw p l e R s m args below meth c G b nL Q nc ns (pc + 3) ls st S) : Zw p l e R s m args below meth c G b nL Q nc ns pc ls (.int y :: .int x :: st) S :=
  fun H locs la hH hS hL => lv_icmp_gt X.1 X.2.1 hd ht (fun h => kt h H locs la hH hS hL) (fun h => kf h H locs la hH hS hL)
theorem a_icmp_le (X : zOK p s m args meth c G b own cc nL) {x y : Int32} {off : Int} {tgt : Nat} (hd : decode cc pc = .ok (.if_icmp .le off, 3)) (ht : (pc : Int) + off = (tgt : Int)) (kt : x ≤ y → Zw p l e R s m args below meth c G b nL Q nc ns tgt ls st S) (kf : ¬ x ≤ y → Zw p l e R s m args below meth c G b nL Q nc ns (pc + 3) ls st S) : Zw p l e R s m args below meth c G b nL Q nc ns pc ls (.int y :: .int x :: st) S :=
  fun H locs la hH hS hL => lv_icmp_le X.1 X.2.1 hd ht (fun h => kt h H locs la hH hS hL) (fun h => kf h H locs la hH hS hL)
theorem a_goto (X : zOK p s m args meth c G b own cc nL) {off : Int} {tgt : Nat} (hd : decode cc pc = .ok (.goto off, 3)) (ht : (pc : Int) + off = (tgt : Int)) (kk : Zw p l e R s m args below meth c G b nL Q nc ns tgt ls st S) : Zw p l e R s m args below meth c G b nL Q nc ns pc ls st S :=
  fun H locs la hH hS hL => lv_goto X.1 X.2.1 hd ht (kk H locs la hH hS hL)
theorem a_ifnull (X : zOK p s m args meth c G b own cc nL) {x : Nat} {off : Int} (hd : decode cc pc = .ok (.ifnull off, 3)) (kk : Zw p l e R s m args below meth c G b nL Q nc ns (pc + 3) ls st S) : Zw p l e R s m args below meth c G b nL Q nc ns pc ls (.ref x :: st) S :=
  fun H locs la hH hS hL => lv_ifnull X.1 X.2.1 hd (kk H locs la hH hS hL)
theorem a_ifnullN (X : zOK p s m args meth c G b own cc nL) {off : Int} {tgt : Nat} (hd : decode cc pc = .ok (.ifnull off, 3)) (ht : (pc : Int) + off = (tgt : Int)) (kk : Zw p l e R s m args below meth c G b nL Q nc ns tgt ls st S) : Zw p l e R s m args below meth c G b nL Q nc ns pc ls (.null :: st) S :=
  fun H locs la hH hS hL => lv_ifnullN X.1 X.2.1 hd ht (kk H locs la hH hS hL)
theorem a_ifnonnull (X : zOK p s m args meth c G b own cc nL) {x : Nat} {off : Int} {tgt : Nat} (hd : decode cc pc = .ok (.ifnonnull off, 3)) (ht : (pc : Int) + off = (tgt : Int)) (kk : Zw p l e R s m args below meth c G b nL Q nc ns tgt ls st S) : Zw p l e R s m args below meth c G b nL Q nc ns pc ls (.ref x :: st) S :=
  fun H locs la hH hS hL => lv_ifnonnull X.1 X.2.1 hd ht (kk H locs la hH hS hL)
theorem a_ifnonnullN (X : zOK p s m args meth c G b own cc nL) {off : Int} (hd : decode cc pc = .ok (.ifnonnull off, 3)) (kk : Zw p l e R s m args below meth c G b nL Q nc ns (pc + 3) ls st S) : Zw p l e R s m args below meth c G b nL Q nc ns pc ls (.null :: st) S :=
  fun H locs la hH hS hL => lv_ifnonnullN X.1 X.2.1 hd (kk H locs la hH hS hL)
theorem a_tsw (X : zOK p s m args meth c G b own cc nL) {dflt lo hi : Int} {offs : Array Int} {len : Nat} {x : Int32} {tg : List Nat} {td : Nat} (hd : decode cc pc = .ok (.tableswitch dflt lo hi offs, len)) (htg : offs.toList.map (fun o => (pc : Int) + o) = tg.map (fun t : Nat => (t : Int))) (hsz : (tg.length : Int) = hi - lo + 1) (htd : (pc : Int) + dflt = (td : Int))
    (kin : ∀ (k t : Nat), tg[k]? = some t → x.toInt = lo + k → Zw p l e R s m args below meth c G b nL Q nc ns t ls st S) (kout : x.toInt < lo ∨ hi < x.toInt → Zw p l e R s m args below meth c G b nL Q nc ns td ls st S) : Zw p l e R s m args below meth c G b nL Q nc ns pc ls (.int x :: st) S := by
  intro H locs la hH hS hL
  by_cases h : x.toInt < lo ∨ hi < x.toInt
  · exact lv_tableOut X.1 X.2.1 hd h htd (kout h H locs la hH hS hL)
  · have h1 : ¬ x.toInt < lo := fun q => h (Or.inl q)
    have h2 : ¬ hi < x.toInt := fun q => h (Or.inr q)
    have hk : (x.toInt - lo).toNat < tg.length := by omega
    have hlen : offs.toList.length = tg.length := by
      have := congrArg List.length htg
      rwa [List.length_map, List.length_map] at this
    have hko : (x.toInt - lo).toNat < offs.toList.length := by omega
    have ho : offs[(x.toInt - lo).toNat]? = some (offs.toList[(x.toInt - lo).toNat]'hko) := by
      rw [← Array.getElem?_toList, List.getElem?_eq_getElem hko]
    have ht : tg[(x.toInt - lo).toNat]? = some (tg[(x.toInt - lo).toNat]'hk) := List.getElem?_eq_getElem hk
    have hto : (pc : Int) + offs.toList[(x.toInt - lo).toNat]'hko = ((tg[(x.toInt - lo).toNat]'hk : Nat) : Int) := by
      have h5 := congrArg (fun z : List Int => z[(x.toInt - lo).toNat]?) htg
      simp only [List.getElem?_map, List.getElem?_eq_getElem hko, List.getElem?_eq_getElem hk, Option.map_some] at h5
      exact Option.some.inj h5
    exact lv_tableIn X.1 X.2.1 hd h1 h2 ho hto (kin _ _ ht (by omega) H locs la hH hS hL)
theorem zv_ref {b k : Nat} (h : k < 1000000) : zv b (.ref k) = .ref (b + k) := by
  show Value.ref (if k < 1000000 then b + k else k - 1000000) = _
  rw [if_pos h]
theorem zH_lt {H : Heap} {k : Nat} {q : zC} (hH : zH G b S H) (hq : S.1[k]? = some q) : k < 1000000 := Nat.lt_trans (List.getElem?_eq_some_iff.mp hq).1 hH.2.1
theorem a_getv (X : zOK p s m args meth c G b own cc nL) {idx ci k P : Nat} {ty : FieldType} {fin : Bool} {fs : List (Nat × Nat)} {f : Nat × Nat} {v : Value} (hf : zFl own idx ci k ty fin) (hq : S.1[P]? = some (0, ci, fs)) (hk : fs[k]? = some f) (hv : zF b S P k f = zv b v) (hd : decode cc pc = .ok (.getfield idx, 3)) (kk : Zw p l e R s m args below meth c G b nL Q nc ns (pc + 3) ls (v :: st) S) : Zw p l e R s m args below meth c G b nL Q nc ns pc ls (.ref P :: st) S := by
  intro H locs la hH hS hL
  obtain ⟨C, T, N, t0, ⟨hc, hin, -, -⟩, hkN, hlink, -, -, hC⟩ := hf
  have hlt := zH_lt hH hq
  show W p l e R s m args below meth c H locs nc ns Q (F0 m pc la (zv b (.ref P) :: st.map (zv b)))
  rw [zv_ref hlt]
  refine va_get (D := G.1) (ci := ci) (fs := fs.mapIdx (zF b S P)) (C := C) (T := T) (N := N) X.1 X.2.1 X.2.2.2.2.1 hin X.2.2.2.1 X.2.2.2.2.2.1 hH.2.2 P (zW_get hq) hc k hkN (X.2.2.2.2.1 _ hlink) (fun _ h9 => h9) (v := zv b v) ?_ hd (kk H locs la hH hS hL)
  rw [List.getElem?_mapIdx, hk]
  exact congrArg some hv
theorem a_geti (X : zOK p s m args meth c G b own cc nL) {idx ci k P z : Nat} {ty : FieldType} {fin : Bool} {fs : List (Nat × Nat)} (hf : zFl own idx ci k ty fin) (hq : S.1[P]? = some (0, ci, fs)) (hk : fs[k]? = some (0, z)) (hd : decode cc pc = .ok (.getfield idx, 3)) (kk : Zw p l e R s m args below meth c G b nL Q nc ns (pc + 3) ls (.int (S.2.1 P k) :: st) S) : Zw p l e R s m args below meth c G b nL Q nc ns pc ls (.ref P :: st) S := a_getv X hf hq hk rfl hd kk
theorem a_getl (X : zOK p s m args meth c G b own cc nL) {idx ci k P z : Nat} {ty : FieldType} {fin : Bool} {fs : List (Nat × Nat)} (hf : zFl own idx ci k ty fin) (hq : S.1[P]? = some (0, ci, fs)) (hk : fs[k]? = some (1, z)) (hd : decode cc pc = .ok (.getfield idx, 3)) (kk : Zw p l e R s m args below meth c G b nL Q nc ns (pc + 3) ls (.long (S.2.2 P k) :: st) S) : Zw p l e R s m args below meth c G b nL Q nc ns pc ls (.ref P :: st) S := a_getv X hf hq hk rfl hd kk
theorem a_getr (X : zOK p s m args meth c G b own cc nL) {idx ci k P z : Nat} {ty : FieldType} {fin : Bool} {fs : List (Nat × Nat)} (hf : zFl own idx ci k ty fin) (hq : S.1[P]? = some (0, ci, fs)) (hk : fs[k]? = some (2, z)) (hz : z < 1000000) (hd : decode cc pc = .ok (.getfield idx, 3)) (kk : Zw p l e R s m args below meth c G b nL Q nc ns (pc + 3) ls (.ref z :: st) S) : Zw p l e R s m args below meth c G b nL Q nc ns pc ls (.ref P :: st) S := a_getv X hf hq hk (zv_ref hz).symm hd kk
theorem zH_set {S' : zS} {H1 : Heap} {H : Heap} {k : Nat} {q q' : zC} {e : va_E} (hH : zH G b S H) (hz : H1.size = H.size) (hP : va_P G.1 vwCl ((zW G b S).set k (b + k, e)) H1) (hq : S.1[k]? = some q) (hl : S'.1 = S.1.set k q') (ho : ∀ a : Nat, a ≠ k → S'.2.1 a = S.2.1 a ∧ S'.2.2 a = S.2.2 a) (he : zE1 G b S' k q' = e) : zH G b S' H1 := by
  rw [zW_set hq hl ho he] at hP
  refine ⟨?_, ?_, hP⟩
  · rw [hz, hl, List.length_set]
    exact hH.1
  · rw [hl, List.length_set]
    exact hH.2.1
theorem zset_self {α : Type} {l : List α} {k : Nat} {q : α} (h : l[k]? = some q) : l = l.set k q := by
  apply List.ext_getElem?
  intro i
  by_cases hi : i = k
  · subst hi
    rw [List.getElem?_set_self (List.getElem?_eq_some_iff.mp h).1, h]
  · rw [List.getElem?_set_ne (Ne.symm hi)]
theorem zmap_set {α : Type} {g g' : Nat → Nat × Nat → α} {fs fs' : List (Nat × Nat)} {k : Nat} {v : α} (hlen : fs'.length = fs.length) (hv : ∀ f, fs'[k]? = some f → g' k f = v) (ho : ∀ j : Nat, j ≠ k → fs'[j]? = fs[j]? ∧ ∀ f, g' j f = g j f) : fs'.mapIdx g' = (fs.mapIdx g).set k v := by
  apply List.ext_getElem?
  intro i
  by_cases hi : i = k
  · subst hi
    by_cases hl : i < fs.length
    · rw [List.getElem?_set_self (by rw [List.length_mapIdx]; exact hl), List.getElem?_mapIdx]
      have hl' : i < fs'.length := by omega
      rw [List.getElem?_eq_getElem hl']
      exact congrArg some (hv _ (List.getElem?_eq_getElem hl'))
    · rw [List.getElem?_eq_none (by rw [List.length_mapIdx]; omega), List.getElem?_eq_none (by rw [List.length_set, List.length_mapIdx]; omega)]
  · rw [List.getElem?_set_ne (Ne.symm hi), List.getElem?_mapIdx, List.getElem?_mapIdx, (ho i hi).1]
    cases fs[i]? with
    | none => rfl
    | some f => exact congrArg some ((ho i hi).2 f)
theorem a_putv (X : zOK p s m args meth c G b own cc nL) {idx ci k P : Nat} {ty : FieldType} {fs fs' : List (Nat × Nat)} {v : Value} {S' : zS} (hf : zFl own idx ci k ty false) (hq : S.1[P]? = some (0, ci, fs)) (hk : k < fs.length) (hn : narrow ty (zv b v) = zv b v) (hfit : fits ty (zv b v) = true) (hl : S'.1 = S.1.set P (0, ci, fs')) (ho : ∀ a : Nat, a ≠ P → S'.2.1 a = S.2.1 a ∧ S'.2.2 a = S.2.2 a) (he : fs'.mapIdx (zF b S' P) = (fs.mapIdx (zF b S P)).set k (zv b v))
    (hd : decode cc pc = .ok (.putfield idx, 3)) (kk : Zw p l e R s m args below meth c G b nL Q nc ns (pc + 3) ls st S') : Zw p l e R s m args below meth c G b nL Q nc ns pc ls (v :: .ref P :: st) S := by
  intro H locs la hH hS hL
  obtain ⟨C, T, N, t0, ⟨hc, hin, hty, hnm⟩, hkN, hlink, ht0, hfin, hC⟩ := hf
  have hlt := zH_lt hH hq
  show W p l e R s m args below meth c H locs nc ns Q (F0 m pc la (zv b v :: zv b (.ref P) :: st.map (zv b)))
  rw [zv_ref hlt]
  have hK := X.2.2.2.2.2.1
  have hts := X.2.2.2.2.1
  have hap := va_apart (own := own) hts hin t0 hty hnm hK hc
  obtain ⟨r, h1, cell, q1, q2, q3, q4⟩ := hH.2.2 P _ (zW_get hq)
  have hr : r = (C, T, N) := Option.some.inj (h1.symm.trans hc)
  subst hr
  obtain ⟨hSl, hfc, kC, hkC, hkind⟩ := hK.1 ci _ hc
  obtain ⟨cf, kf, fi, f, hi, hsl⟩ := hSl k hkN
  have hlay := hts _ (hin _ (u_in_lay hkN))
  unfold u_lay at hlay
  rw [if_neg (by rw [hfin]; decide)] at hlay
  have hst := (u_facts hfc hkC (u_lays hts hin hkN) hi).1
  have h6 := u_store hfc hkC hkind hlay hi (hty k hkN) (by rw [ht0]; exact hn) (by rw [ht0]; exact hfit)
  refine W.putK X.1 X.2.1 (f := f) ⟨X.2.2.2.1, hts _ hlink, ⟨_, _, _, hi⟩, hst⟩ (by rw [q2]; exact h6) q1 q3 (by rw [hsl]; exact k2_hasslot (q4 k hkN)) rfl rfl hd fun H' e1 e2 e3 => ?_
  rw [hsl] at e1 ⊢
  refine kk H' _ la (zH_set hH e2 (hH.2.2.set (zD G b S) (zW_get hq) (e := .inr (ci, (fs.mapIdx (zF b S P)).set k (zv b v))) ⟨_, hc, t_OB.to (V := updV (vp_V (fs.mapIdx (zF b S P))) k (zv b v)) ⟨_, e1, q2, q3, t_set q4 hap hkN (zv b v)⟩ (fun j _ => vp_updV_set (by rw [List.length_mapIdx]; exact hk) (zv b v) j)⟩ e3) hq hl ho ?_) (hS.put e2 e3 (Nat.le_add_right b P)) hL
  show Sum.inr (ci, fs'.mapIdx (zF b S' P)) = _
  rw [he]
theorem a_puti (X : zOK p s m args meth c G b own cc nL) {idx ci k P z : Nat} {fs : List (Nat × Nat)} {x : Int32} (hf : zFl own idx ci k .int false) (hq : S.1[P]? = some (0, ci, fs)) (hk : fs[k]? = some (0, z)) (hd : decode cc pc = .ok (.putfield idx, 3)) (kk : Zw p l e R s m args below meth c G b nL Q nc ns (pc + 3) ls st (S.1, zu S.2.1 P k x, S.2.2)) : Zw p l e R s m args below meth c G b nL Q nc ns pc ls (.int x :: .ref P :: st) S := by
  refine a_putv (S' := (S.1, zu S.2.1 P k x, S.2.2)) X hf hq (List.getElem?_eq_some_iff.mp hk).1 rfl rfl (zset_self hq) (fun a ha => ⟨zu_row ha, rfl⟩) (zmap_set rfl (fun f h => ?_) (fun j hj => ⟨rfl, fun f => ?_⟩)) hd kk
  · rw [hk] at h
    cases h
    show Value.int (zu S.2.1 P k x P k) = .int x
    unfold zu
    rw [if_pos ⟨rfl, rfl⟩]
  · unfold zF
    show (match f.1 with | 0 => Value.int (zu S.2.1 P k x P j) | 1 => _ | 2 => _ | _ => _) = _
    rw [show zu S.2.1 P k x P j = S.2.1 P j from if_neg (fun q => hj q.2)]
    rfl
theorem a_putz (X : zOK p s m args meth c G b own cc nL) {idx ci k P z : Nat} {fs : List (Nat × Nat)} {x : Int32} (hx : x = 0 ∨ x = 1) (hf : zFl own idx ci k .boolean false) (hq : S.1[P]? = some (0, ci, fs)) (hk : fs[k]? = some (0, z)) (hd : decode cc pc = .ok (.putfield idx, 3)) (kk : Zw p l e R s m args below meth c G b nL Q nc ns (pc + 3) ls st (S.1, zu S.2.1 P k x, S.2.2)) : Zw p l e R s m args below meth c G b nL Q nc ns pc ls (.int x :: .ref P :: st) S := by
  refine a_putv (S' := (S.1, zu S.2.1 P k x, S.2.2)) X hf hq (List.getElem?_eq_some_iff.mp hk).1 (by rcases hx with rfl | rfl <;> rfl) (by rcases hx with rfl | rfl <;> rfl) (zset_self hq) (fun a ha => ⟨zu_row ha, rfl⟩) (zmap_set rfl (fun f h => ?_) (fun j hj => ⟨rfl, fun f => ?_⟩)) hd kk
  · rw [hk] at h
    cases h
    show Value.int (zu S.2.1 P k x P k) = .int x
    unfold zu
    rw [if_pos ⟨rfl, rfl⟩]
  · unfold zF
    show (match f.1 with | 0 => Value.int (zu S.2.1 P k x P j) | 1 => _ | 2 => _ | _ => _) = _
    rw [show zu S.2.1 P k x P j = S.2.1 P j from if_neg (fun q => hj q.2)]
    rfl
theorem a_putl (X : zOK p s m args meth c G b own cc nL) {idx ci k P z : Nat} {fs : List (Nat × Nat)} {x : Int64} (hf : zFl own idx ci k .long false) (hq : S.1[P]? = some (0, ci, fs)) (hk : fs[k]? = some (1, z)) (hd : decode cc pc = .ok (.putfield idx, 3)) (kk : Zw p l e R s m args below meth c G b nL Q nc ns (pc + 3) ls st (S.1, S.2.1, zu S.2.2 P k x)) : Zw p l e R s m args below meth c G b nL Q nc ns pc ls (.long x :: .ref P :: st) S := by
  refine a_putv (S' := (S.1, S.2.1, zu S.2.2 P k x)) X hf hq (List.getElem?_eq_some_iff.mp hk).1 rfl rfl (zset_self hq) (fun a ha => ⟨rfl, zu_row ha⟩) (zmap_set rfl (fun f h => ?_) (fun j hj => ⟨rfl, fun f => ?_⟩)) hd kk
  · rw [hk] at h
    cases h
    show Value.long (zu S.2.2 P k x P k) = .long x
    unfold zu
    rw [if_pos ⟨rfl, rfl⟩]
  · unfold zF
    show (match f.1 with | 0 => _ | 1 => Value.long (zu S.2.2 P k x P j) | 2 => _ | _ => _) = _
    rw [show zu S.2.2 P k x P j = S.2.2 P j from if_neg (fun q => hj q.2)]
    rfl
theorem a_iaload (X : zOK p s m args meth c G b own cc nL) {P n : Nat} {fs : List (Nat × Nat)} {i : Int32} (hq : S.1[P]? = some (1, n, fs)) (hin : vp_in i n) (hd : decode cc pc = .ok (.iaload, 1)) (kk : Zw p l e R s m args below meth c G b nL Q nc ns (pc + 1) ls (.int (S.2.1 P i.toNatClampNeg) :: st) S) : Zw p l e R s m args below meth c G b nL Q nc ns pc ls (.int i :: .ref P :: st) S := by
  intro H locs la hH hS hL
  show W p l e R s m args below meth c H locs nc ns Q (F0 m pc la (.int i :: zv b (.ref P) :: st.map (zv b)))
  rw [zv_ref (zH_lt hH hq)]
  exact va_iald (D := G.1) X.1 X.2.1 X.2.2.2.2.2.1 hH.2.2 P 0 (zW_get hq) rfl hin hd (kk H locs la hH hS hL)
theorem a_baload (X : zOK p s m args meth c G b own cc nL) {P n : Nat} {fs : List (Nat × Nat)} {i : Int32} (hq : S.1[P]? = some (2, n, fs)) (hin : vp_in i n) (hd : decode cc pc = .ok (.baload, 1)) (kk : Zw p l e R s m args below meth c G b nL Q nc ns (pc + 1) ls (.int (S.2.1 P i.toNatClampNeg) :: st) S) : Zw p l e R s m args below meth c G b nL Q nc ns pc ls (.int i :: .ref P :: st) S := by
  intro H locs la hH hS hL
  show W p l e R s m args below meth c H locs nc ns Q (F0 m pc la (.int i :: zv b (.ref P) :: st.map (zv b)))
  rw [zv_ref (zH_lt hH hq)]
  exact va_zald (D := G.1) X.1 X.2.1 X.2.2.2.2.2.1 hH.2.2 P 1 (zW_get hq) rfl hin hd (kk H locs la hH hS hL)
theorem a_laload (X : zOK p s m args meth c G b own cc nL) {P n : Nat} {fs : List (Nat × Nat)} {i : Int32} (hq : S.1[P]? = some (3, n, fs)) (hin : vp_in i n) (hd : decode cc pc = .ok (.laload, 1)) (kk : Zw p l e R s m args below meth c G b nL Q nc ns (pc + 1) ls (.long (S.2.2 P i.toNatClampNeg) :: st) S) : Zw p l e R s m args below meth c G b nL Q nc ns pc ls (.int i :: .ref P :: st) S := by
  intro H locs la hH hS hL
  show W p l e R s m args below meth c H locs nc ns Q (F0 m pc la (.int i :: zv b (.ref P) :: st.map (zv b)))
  rw [zv_ref (zH_lt hH hq)]
  exact va_lald (D := G.1) X.1 X.2.1 X.2.2.2.2.2.1 hH.2.2 P 2 (zW_get hq) rfl hin hd (kk H locs la hH hS hL)
theorem a_aaload (X : zOK p s m args meth c G b own cc nL) {P n z : Nat} {fs : List (Nat × Nat)} {i : Int32} (hq : S.1[P]? = some (4, n, fs)) (hin : vp_in i n) (hz : fs[i.toNatClampNeg]? = some (2, z)) (hz2 : z < 1000000) (hd : decode cc pc = .ok (.aaload, 1)) (kk : Zw p l e R s m args below meth c G b nL Q nc ns (pc + 1) ls (.ref z :: st) S) : Zw p l e R s m args below meth c G b nL Q nc ns pc ls (.int i :: .ref P :: st) S := by
  intro H locs la hH hS hL
  show W p l e R s m args below meth c H locs nc ns Q (F0 m pc la (.int i :: zv b (.ref P) :: st.map (zv b)))
  rw [zv_ref (zH_lt hH hq)]
  refine va_aldq (D := G.1) (C := RX4) X.1 X.2.1 X.2.2.2.2.2.1 hH.2.2 P 3 (zW_get hq) rfl hin hd ?_
  have h := kk H locs la hH hS hL
  rw [List.map_cons, zv_ref hz2] at h
  rw [show zrf b fs i.toNatClampNeg = some (b + z) by unfold zrf; rw [hz]; rfl]
  exact h
theorem a_alen (X : zOK p s m args meth c G b own cc nL) {P k n : Nat} {fs : List (Nat × Nat)} (hq : S.1[P]? = some (k, n, fs)) (hk : k = 1 ∨ k = 2 ∨ k = 3 ∨ k = 4) (hd : decode cc pc = .ok (.arraylength, 1)) (kk : Zw p l e R s m args below meth c G b nL Q nc ns (pc + 1) ls (.int (Int32.ofNat n) :: st) S) : Zw p l e R s m args below meth c G b nL Q nc ns pc ls (.ref P :: st) S := by
  intro H locs la hH hS hL
  show W p l e R s m args below meth c H locs nc ns Q (F0 m pc la (zv b (.ref P) :: st.map (zv b)))
  rw [zv_ref (zH_lt hH hq)]
  rcases hk with rfl | rfl | rfl | rfl
  · exact va_alen (D := G.1) X.1 X.2.1 X.2.2.2.2.2.1 hH.2.2 P 0 (zW_get hq) rfl rfl hd (kk H locs la hH hS hL)
  · exact va_alen (D := G.1) X.1 X.2.1 X.2.2.2.2.2.1 hH.2.2 P 1 (zW_get hq) rfl rfl hd (kk H locs la hH hS hL)
  · exact va_alen (D := G.1) X.1 X.2.1 X.2.2.2.2.2.1 hH.2.2 P 2 (zW_get hq) rfl rfl hd (kk H locs la hH hS hL)
  · exact va_alen (D := G.1) X.1 X.2.1 X.2.2.2.2.2.1 hH.2.2 P 3 (zW_get hq) rfl rfl hd (kk H locs la hH hS hL)
theorem a_iastore (X : zOK p s m args meth c G b own cc nL) {P n : Nat} {fs : List (Nat × Nat)} {i x : Int32} (hq : S.1[P]? = some (1, n, fs)) (hin : vp_in i n) (hd : decode cc pc = .ok (.iastore, 1)) (kk : Zw p l e R s m args below meth c G b nL Q nc ns (pc + 1) ls st (S.1, zu S.2.1 P i.toNatClampNeg x, S.2.2)) : Zw p l e R s m args below meth c G b nL Q nc ns pc ls (.int x :: .int i :: .ref P :: st) S := by
  intro H locs la hH hS hL
  show W p l e R s m args below meth c H locs nc ns Q (F0 m pc la (.int x :: .int i :: zv b (.ref P) :: st.map (zv b)))
  rw [zv_ref (zH_lt hH hq)]
  refine W.iast X.1 X.2.1 (hH.2.2 P _ (zW_get hq)) ((X.2.2.2.2.2.1.2 0 _ rfl).1 n (fun j => .int (S.2.1 P j))) (fun q => by cases q) (by show ¬ (i < 0 ∨ (arrV _ _ _).slots.size ≤ _); rw [arrV_size]; exact hin) rfl rfl hd fun H1 e1 z oq => ?_
  refine kk H1 _ la (zH_set hH z (hH.2.2.set (zD G b S) (zW_get hq) (e := .inl (G.2 1, n, .inl (upd (S.2.1 P) i.toNatClampNeg x))) ?_ oq) hq (zset_self hq) (fun a ha => ⟨zu_row ha, rfl⟩) ?_) (hS.put z oq (Nat.le_add_right b P)) hL
  · show H1[b + P]? = some (vp_cell _ _)
    rw [e1]
    show some ((arrV (G.2 1) n (fun j => .int (S.2.1 P j))).setSlot i.toNatClampNeg (.int x)) = some (vp_cell _ _)
    rw [vp_cell_i, arrV_store]
    congr 2
    funext q
    by_cases hq2 : q = i.toNatClampNeg
    · subst hq2
      simp [updV, upd]
    · simp [updV, upd, hq2]
  · show Sum.inl (G.2 1, n, Sum.inl (zu S.2.1 P i.toNatClampNeg x P)) = _
    rw [show zu S.2.1 P i.toNatClampNeg x P = upd (S.2.1 P) i.toNatClampNeg x from ?_]
    funext j
    by_cases hj : j = i.toNatClampNeg
    · subst hj
      simp [zu, upd]
    · simp [zu, upd, hj]
theorem a_lastore (X : zOK p s m args meth c G b own cc nL) {P n : Nat} {fs : List (Nat × Nat)} {i : Int32} {x : Int64} (hq : S.1[P]? = some (3, n, fs)) (hin : vp_in i n) (hd : decode cc pc = .ok (.lastore, 1)) (kk : Zw p l e R s m args below meth c G b nL Q nc ns (pc + 1) ls st (S.1, S.2.1, zu S.2.2 P i.toNatClampNeg x)) : Zw p l e R s m args below meth c G b nL Q nc ns pc ls (.long x :: .int i :: .ref P :: st) S := by
  intro H locs la hH hS hL
  show W p l e R s m args below meth c H locs nc ns Q (F0 m pc la (.long x :: .int i :: zv b (.ref P) :: st.map (zv b)))
  rw [zv_ref (zH_lt hH hq)]
  refine W.last X.1 X.2.1 (hH.2.2 P _ (zW_get hq)) ((X.2.2.2.2.2.1.2 2 _ rfl).1 n (fun j => .long (S.2.2 P j))) (fun q => by cases q) (by show ¬ (i < 0 ∨ (arrV _ _ _).slots.size ≤ _); rw [arrV_size]; exact hin) rfl rfl hd fun H1 e1 z oq => ?_
  refine kk H1 _ la (zH_set hH z (hH.2.2.set (zD G b S) (zW_get hq) (e := .inl (G.2 3, n, .inr (.inl (vp_updL (S.2.2 P) i.toNatClampNeg x)))) ?_ oq) hq (zset_self hq) (fun a ha => ⟨rfl, zu_row ha⟩) ?_) (hS.put z oq (Nat.le_add_right b P)) hL
  · show H1[b + P]? = some (vp_cell _ _)
    rw [e1]
    show some ((arrV (G.2 3) n (fun j => .long (S.2.2 P j))).setSlot i.toNatClampNeg (.long x)) = some (vp_cell _ _)
    rw [vp_cell_l, arrV_store]
    congr 2
    funext q
    by_cases hq2 : q = i.toNatClampNeg
    · subst hq2
      simp [updV, vp_updL]
    · simp [updV, vp_updL, hq2]
  · show Sum.inl (G.2 3, n, Sum.inr (Sum.inl (zu S.2.2 P i.toNatClampNeg x P))) = _
    rw [show zu S.2.2 P i.toNatClampNeg x P = vp_updL (S.2.2 P) i.toNatClampNeg x from ?_]
    funext j
    by_cases hj : j = i.toNatClampNeg
    · subst hj
      simp [zu, vp_updL]
    · simp [zu, vp_updL, hj]
theorem a_bastore (X : zOK p s m args meth c G b own cc nL) {P n : Nat} {fs : List (Nat × Nat)} {i x : Int32} (hx : x = 0 ∨ x = 1) (hq : S.1[P]? = some (2, n, fs)) (hin : vp_in i n) (hd : decode cc pc = .ok (.bastore, 1)) (kk : Zw p l e R s m args below meth c G b nL Q nc ns (pc + 1) ls st (S.1, zu S.2.1 P i.toNatClampNeg x, S.2.2)) : Zw p l e R s m args below meth c G b nL Q nc ns pc ls (.int x :: .int i :: .ref P :: st) S := by
  intro H locs la hH hS hL
  show W p l e R s m args below meth c H locs nc ns Q (F0 m pc la (.int x :: .int i :: zv b (.ref P) :: st.map (zv b)))
  rw [zv_ref (zH_lt hH hq)]
  have hnar : narrow .boolean (.int x) = .int x := by rcases hx with rfl | rfl <;> decide
  refine W.zast X.1 X.2.1 (hH.2.2 P _ (zW_get hq)) ((X.2.2.2.2.2.1.2 1 _ rfl).1 n (fun j => .int (S.2.1 P j))) (fun q => by cases q) (by show ¬ (i < 0 ∨ (arrV _ _ _).slots.size ≤ _); rw [arrV_size]; exact hin) rfl rfl hd fun H1 e1 z oq => ?_
  refine kk H1 _ la (zH_set hH z (hH.2.2.set (zD G b S) (zW_get hq) (e := .inl (G.2 2, n, .inl (upd (S.2.1 P) i.toNatClampNeg x))) ?_ oq) hq (zset_self hq) (fun a ha => ⟨zu_row ha, rfl⟩) ?_) (hS.put z oq (Nat.le_add_right b P)) hL
  · show H1[b + P]? = some (vp_cell _ _)
    rw [e1]
    show some ((arrV (G.2 2) n (fun j => .int (S.2.1 P j))).setSlot i.toNatClampNeg _) = some (vp_cell _ _)
    rw [vp_cell_i, arrV_store]
    congr 2
    funext q
    by_cases hq2 : q = i.toNatClampNeg
    · subst hq2
      simp [updV, upd, hnar]
    · simp [updV, upd, hq2]
  · show Sum.inl (G.2 2, n, Sum.inl (zu S.2.1 P i.toNatClampNeg x P)) = _
    rw [show zu S.2.1 P i.toNatClampNeg x P = upd (S.2.1 P) i.toNatClampNeg x from ?_]
    funext j
    by_cases hj : j = i.toNatClampNeg
    · subst hj
      simp [zu, upd]
    · simp [zu, upd, hj]
theorem zM.blind {l : Launch} {av : List Value} {S : zS} : FrameBlind (va_Pc (av.map (zv b)) (fun U => zH G b S U.heap ∧ va_K G.1 vwCl (zty G) U ∧ zEx G b U)) :=
  fun a U g mk q => ⟨q.1, q.2.1, va_K.moved (u := U) (U := U.calling g mk a) (Vm.Alike.refl U.vm) q.2.2.1, zEx.warm (s := U) (U := U.calling g mk a) (State.WarmedH.refl U) (fun _ _ _ => rfl) q.2.2.2⟩
theorem z_run {H : Heap} {locs : List Loc} {la : Array Slot} {st0 rest : List Value} {a : Array Value} {mc ms : Nat} {Q' : Option Value → zS → Prop} (hr : va_Run p l e R s m args below meth c H locs nc ns mc ms (F0 m pc la st0) (rest.map (zv b)) (zQ G b Q' a) (fun q : Nat => b ≤ q)) (hb : b ≤ H.size) (hS : va_S (fun q : Nat => b ≤ q) s.heap H locs) (hL : zL b nL ls la)
    (kk : ∀ (r : Option Value) (S' : zS), Q' r S' → Zw p l e R s m args below meth c G b nL Q (nc + mc) (ns + ms) (pc + 3) ls (r.toList ++ rest) S') : W p l e R s m args below meth c H locs nc ns Q (F0 m pc la st0) := by
  intro T hT X
  obtain ⟨v, st₀, t, T', L, h0, X', hL', e1, e2, ⟨⟨r, S', hv, hp, hh⟩, hz, hk⟩, st⟩ := hr T hT X
  have hv' : v = r.map (zv b) := Outcome.returned.inj hv
  subst hv'
  rw [h0] at hz hk
  obtain ⟨t2, a1, b1⟩ := kk r S' hp T'.heap (locs ++ L) la (by rw [e1]; exact hh) ⟨Nat.le_trans hS.1 (by rw [e1]; exact hz), fun q h1 h2 => by rw [e1, hk q (Nat.lt_of_lt_of_le h1 hS.1) h2]; exact hS.2.1 q h1 h2, fun q hq => by
      rcases List.mem_append.mp hq with h | h
      · exact hS.2.2 q h
      · exact hL' q h⟩ hL T' rfl X'
  refine ⟨t2, st t2 ?_, b1⟩
  have he : (r.toList ++ rest).map (zv b) = (r.map (zv b)).toList ++ rest.map (zv b) := by cases r <;> rfl
  rw [he] at a1
  exact a1
theorem z_good {y : MethodName} {cy : ByteArray} {nM : Nat} {rt : Option FieldType} {n : Nat} (hM : zMi y cy nM rt n) : GoodIn zT (.code y cy nM rt :: zT) := fun w h => by
  rcases List.mem_cons.mp h with rfl | h
  · exact ⟨hM.1, good_of_word (zT_good _ hM.1)⟩
  · exact ⟨h, good_of_word (zT_good _ h)⟩
theorem z_len {y : MethodName} {n : Nat} (h : (parseMethodDescriptor y.desc).map (fun d => d.parameters.length) = some n) (sig : MethodDescriptor) (hs : parseMethodDescriptor y.desc = some sig) : n = sig.parameters.length := by
  rw [hs] at h
  exact (Option.some.inj h).symm
theorem z_sum (b : Nat) (rest : List Value) : ((rest.map (zv b)).map fun v => v.category).sum = (rest.map fun v => v.category).sum := by
  rw [List.map_map]
  congr 1
  apply List.map_congr_left
  intro v _
  exact zv_cat b v
section ZC
variable {y : MethodName} {cy : ByteArray} {nM : Nat} {rt : Option FieldType} {n d mc ms idx : Nat} {As rest : List Value} {Q' : Option Value → zS → Prop}
theorem a_invV (X : zOK p s m args meth c G b own cc nL) (hM : zMi y cy nM rt n) (hLk : zLv own idx y) {P ci : Nat} {fs : List (Nat × Nat)} {T : u_T} {N : Nat} (hq : S.1[P]? = some (0, ci, fs)) (hci : vwCl[ci]? = some (y.cls, T, N)) (hn : As.length = n) (hst : st = As.reverse ++ .ref P :: rest) (hw : (rest.map fun v => v.category).sum ≤ 8) (hroom : d + 1 ≤ R.frames ∧ 8 + (nM + 11) + 80 * d ≤ R.locals ∧ nc + mc ≤ R.cells ∧ ns + ms ≤ R.slots)
    (hd : decode cc pc = .ok (.invokevirtual idx, 3)) (hZ : zM l G b y cy nM rt d mc ms (.ref P :: As) S Q') (kk : ∀ (r : Option Value) (S2 : zS), Q' r S2 → Zw p l e R s m args below meth c G b nL Q (nc + mc) (ns + ms) (pc + 3) ls (r.toList ++ rest) S2) : Zw p l e R s m args below meth c G b nL Q nc ns pc ls st S := by
  subst hst
  intro H locs la hH hS hL
  have hbH : b ≤ H.size := by have := hH.1; omega
  have hlt := zH_lt hH hq
  have hrev : (As.reverse ++ .ref P :: rest).map (zv b) = (As.map (zv b)).reverse ++ .ref (b + P) :: rest.map (zv b) := by rw [List.map_append, List.map_reverse, List.map_cons, zv_ref hlt]
  rw [hrev]
  unfold zM at hZ
  rw [List.map_cons, zv_ref hlt] at hZ
  have blk := zM.blind (b := b) (G := G) (l := l) (av := .ref P :: As) (S := S)
  rw [List.map_cons, zv_ref hlt] at blk
  refine z_run (a := _) (va_runV (As := As.map (zv b)) (rest := rest.map (zv b)) (cc := cc) (nL := nL) (own := own) ⟨X.1, X.2.1, X.2.2.1, X.2.2.2.1, X.2.2.2.2.1⟩ hZ ⟨⟨rfl, rfl, hroom.1, hroom.2.1, pay_in X.2.2.2.2.1 (z_good hM), List.mem_cons_self, X.2.2.2.2.1 _ hM.1, X.2.2.2.2.1 _ hM.2.1, hM.2.2.1, z_len hM.2.2.2.1, X.2.2.2.2.1 _ hLk.1⟩, X.2.2.2.2.1 _ hLk.2.1, X.2.2.2.2.1 _ hLk.2.2⟩ ⟨blk, va_recv X.2.2.2.2.2.1 hH.2.2 hci (zW_get hq), fun U hU hW => ⟨rfl, by rw [hU]; exact hH, X.2.2.2.2.2.1.moved hW.alike, X.2.2.2.2.2.2.1.warm hW (fun q h1 h2 => by rw [hU]; exact hS.2.1 q h1 h2)⟩⟩ rfl (by rw [List.length_map]; exact hn) (hL.1) rfl (by rw [z_sum]; show 2 * 0 + _ ≤ 8; omega) hd hroom.2.2) hbH hS hL kk
theorem a_invS (X : zOK p s m args meth c G b own cc nL) (hM : zMi y cy nM rt n) (hLk : zLs own idx y) (hn : As.length = n) (hst : st = As.reverse ++ rest) (hw : (rest.map fun v => v.category).sum ≤ 8) (hroom : d + 1 ≤ R.frames ∧ 8 + (nM + 11) + 80 * d ≤ R.locals ∧ nc + mc ≤ R.cells ∧ ns + ms ≤ R.slots)
    (hd : decode cc pc = .ok (.invokestatic idx, 3)) (hZ : zM l G b y cy nM rt d mc ms (As) S Q') (kk : ∀ (r : Option Value) (S2 : zS), Q' r S2 → Zw p l e R s m args below meth c G b nL Q (nc + mc) (ns + ms) (pc + 3) ls (r.toList ++ rest) S2) : Zw p l e R s m args below meth c G b nL Q nc ns pc ls st S := by
  subst hst
  intro H locs la hH hS hL
  have hbH : b ≤ H.size := by have := hH.1; omega
  have hrev : (As.reverse ++ rest).map (zv b) = (As.map (zv b)).reverse ++ rest.map (zv b) := by rw [List.map_append, List.map_reverse]
  rw [hrev]
  unfold zM at hZ
  have blk := zM.blind (b := b) (G := G) (l := l) (av := As) (S := S)
  refine z_run (a := _) (va_runS (As := As.map (zv b)) (rest := rest.map (zv b)) (cc := cc) (nL := nL) (own := own) ⟨X.1, X.2.1, X.2.2.1, X.2.2.2.1, X.2.2.2.2.1⟩ hZ ⟨⟨rfl, rfl, hroom.1, hroom.2.1, pay_in X.2.2.2.2.1 (z_good hM), List.mem_cons_self, X.2.2.2.2.1 _ hM.1, X.2.2.2.2.1 _ hM.2.1, hM.2.2.1, z_len hM.2.2.2.1, X.2.2.2.2.1 _ hLk.1⟩, X.2.2.2.2.1 _ hLk.2⟩ ⟨blk, fun U hU hW => ⟨rfl, by rw [hU]; exact hH, X.2.2.2.2.2.1.moved hW.alike, X.2.2.2.2.2.2.1.warm hW (fun q h1 h2 => by rw [hU]; exact hS.2.1 q h1 h2)⟩⟩ rfl (by rw [List.length_map]; exact hn) (hL.1) rfl (by rw [z_sum]; show 2 * 0 + _ ≤ 8; omega) hd hroom.2.2) hbH hS hL kk
theorem a_invSN (X : zOK p s m args meth c G b own cc nL) (hM : zMi y cy nM rt n) (hLk : zLsn own idx y) (hn : As.length = n) (hst : st = As.reverse ++ rest) (hw : (rest.map fun v => v.category).sum ≤ 8) (hroom : d + 1 ≤ R.frames ∧ 8 + (nM + 11) + 80 * d ≤ R.locals ∧ nc + mc ≤ R.cells ∧ ns + ms ≤ R.slots)
    (hd : decode cc pc = .ok (.invokestatic idx, 3)) (hZ : zM l G b y cy nM rt d mc ms (As) S Q') (kk : ∀ (r : Option Value) (S2 : zS), Q' r S2 → Zw p l e R s m args below meth c G b nL Q (nc + mc) (ns + ms) (pc + 3) ls (r.toList ++ rest) S2) : Zw p l e R s m args below meth c G b nL Q nc ns pc ls st S := by
  subst hst
  intro H locs la hH hS hL
  have hbH : b ≤ H.size := by have := hH.1; omega
  obtain ⟨⟨hst2, hh⟩, hs2⟩ := id hLk
  have hrev : (As.reverse ++ rest).map (zv b) = (As.map (zv b)).reverse ++ rest.map (zv b) := by rw [List.map_append, List.map_reverse]
  rw [hrev]
  unfold zM at hZ
  have blk := zM.blind (b := b) (G := G) (l := l) (av := As) (S := S)
  refine z_run (a := _) (va_runSN (As := As.map (zv b)) (rest := rest.map (zv b)) (cc := cc) (nL := nL) (own := own) ⟨X.1, X.2.1, X.2.2.1, X.2.2.2.1, X.2.2.2.2.1⟩ hZ ⟨⟨⟨rfl, rfl, hroom.1, hroom.2.1, pay_in X.2.2.2.2.1 (z_good hM), List.mem_cons_self⟩, X.2.2.2.2.1 _ hM.1, X.2.2.2.2.1 _ hM.2.1, hM.2.2.1, z_len hM.2.2.2.1, va_Nw.use rfl (X.2.2.2.2.2.2.1.1 _ hh)⟩, X.2.2.2.2.1 _ hLk.2, trivial⟩ ⟨blk, fun U hU hW => ⟨rfl, by rw [hU]; exact hH, X.2.2.2.2.2.1.moved hW.alike, X.2.2.2.2.2.2.1.warm hW (fun q h1 h2 => by rw [hU]; exact hS.2.1 q h1 h2)⟩⟩ rfl (by rw [List.length_map]; exact hn) (hL.1) rfl (by rw [z_sum]; show 2 * 0 + _ ≤ 8; omega) hd hroom.2.2) hbH hS hL kk
theorem a_invI (X : zOK p s m args meth c G b own cc nL) (hM : zMi y cy nM none n) (hLk : zLi own idx y) {P ci : Nat} {fs : List (Nat × Nat)} {T : u_T} {N : Nat} (hq : S.1[P]? = some (0, ci, fs)) (hci : vwCl[ci]? = some (y.cls, T, N)) (hn : As.length = n) (hst : st = As.reverse ++ .ref P :: rest) (hw : (rest.map fun v => v.category).sum ≤ 8) (hroom : d + 1 ≤ R.frames ∧ 8 + (nM + 11) + 80 * d ≤ R.locals ∧ nc + mc ≤ R.cells ∧ ns + ms ≤ R.slots)
    (hd : decode cc pc = .ok (.invokespecial idx, 3)) (hZ : zM l G b y cy nM none d mc ms (.ref P :: As) S Q') (kk : ∀ (r : Option Value) (S2 : zS), Q' r S2 → Zw p l e R s m args below meth c G b nL Q (nc + mc) (ns + ms) (pc + 3) ls (r.toList ++ rest) S2) : Zw p l e R s m args below meth c G b nL Q nc ns pc ls st S := by
  subst hst
  intro H locs la hH hS hL
  have hbH : b ≤ H.size := by have := hH.1; omega
  have hlt := zH_lt hH hq
  have hrev : (As.reverse ++ .ref P :: rest).map (zv b) = (As.map (zv b)).reverse ++ .ref (b + P) :: rest.map (zv b) := by rw [List.map_append, List.map_reverse, List.map_cons, zv_ref hlt]
  rw [hrev]
  unfold zM at hZ
  rw [List.map_cons, zv_ref hlt] at hZ
  have blk := zM.blind (b := b) (G := G) (l := l) (av := .ref P :: As) (S := S)
  rw [List.map_cons, zv_ref hlt] at blk
  refine z_run (a := _) (va_runI (As := As.map (zv b)) (rest := rest.map (zv b)) (cc := cc) (nL := nL) (own := own) ⟨X.1, X.2.1, X.2.2.1, X.2.2.2.1, X.2.2.2.2.1⟩ hZ ⟨⟨rfl, rfl, hroom.1, hroom.2.1, pay_in X.2.2.2.2.1 (z_good hM), List.mem_cons_self, X.2.2.2.2.1 _ hM.1, X.2.2.2.2.1 _ hM.2.1, hM.2.2.1, z_len hM.2.2.2.1, X.2.2.2.2.1 _ hLk.1⟩, hLk.2.2, X.2.2.2.2.1 _ hLk.2.1⟩ ⟨blk, fun U hU hW => ⟨rfl, by rw [hU]; exact hH, X.2.2.2.2.2.1.moved hW.alike, X.2.2.2.2.2.2.1.warm hW (fun q h1 h2 => by rw [hU]; exact hS.2.1 q h1 h2)⟩⟩ rfl (by rw [List.length_map]; exact hn) (hL.1) rfl (by rw [z_sum]; show 2 * 0 + _ ≤ 8; omega) hd hroom.2.2) hbH hS hL kk
theorem a_invIN (X : zOK p s m args meth c G b own cc nL) (hM : zMi y cy nM none n) (hLk : zLin own idx y) {P ci : Nat} {fs : List (Nat × Nat)} {T : u_T} {N : Nat} (hq : S.1[P]? = some (0, ci, fs)) (hci : vwCl[ci]? = some (y.cls, T, N)) (hn : As.length = n) (hst : st = As.reverse ++ .ref P :: rest) (hw : (rest.map fun v => v.category).sum ≤ 8) (hroom : d + 1 ≤ R.frames ∧ 8 + (nM + 11) + 80 * d ≤ R.locals ∧ nc + mc ≤ R.cells ∧ ns + ms ≤ R.slots)
    (hd : decode cc pc = .ok (.invokespecial idx, 3)) (hZ : zM l G b y cy nM none d mc ms (.ref P :: As) S Q') (kk : ∀ (r : Option Value) (S2 : zS), Q' r S2 → Zw p l e R s m args below meth c G b nL Q (nc + mc) (ns + ms) (pc + 3) ls (r.toList ++ rest) S2) : Zw p l e R s m args below meth c G b nL Q nc ns pc ls st S := by
  subst hst
  intro H locs la hH hS hL
  have hbH : b ≤ H.size := by have := hH.1; omega
  obtain ⟨⟨hst2, hh⟩, hs2⟩ := id hLk
  have hlt := zH_lt hH hq
  have hrev : (As.reverse ++ .ref P :: rest).map (zv b) = (As.map (zv b)).reverse ++ .ref (b + P) :: rest.map (zv b) := by rw [List.map_append, List.map_reverse, List.map_cons, zv_ref hlt]
  rw [hrev]
  unfold zM at hZ
  rw [List.map_cons, zv_ref hlt] at hZ
  have blk := zM.blind (b := b) (G := G) (l := l) (av := .ref P :: As) (S := S)
  rw [List.map_cons, zv_ref hlt] at blk
  refine z_run (a := _) (va_runIN (As := As.map (zv b)) (rest := rest.map (zv b)) (cc := cc) (nL := nL) (own := own) ⟨X.1, X.2.1, X.2.2.1, X.2.2.2.1, X.2.2.2.2.1⟩ hZ ⟨⟨⟨rfl, rfl, hroom.1, hroom.2.1, pay_in X.2.2.2.2.1 (z_good hM), List.mem_cons_self⟩, X.2.2.2.2.1 _ hM.1, X.2.2.2.2.1 _ hM.2.1, hM.2.2.1, z_len hM.2.2.2.1, va_Nw.use rfl (X.2.2.2.2.2.2.1.1 _ hh)⟩, hLk.2.2, X.2.2.2.2.1 _ hLk.2.1⟩ ⟨blk, fun U hU hW => ⟨rfl, by rw [hU]; exact hH, X.2.2.2.2.2.1.moved hW.alike, X.2.2.2.2.2.2.1.warm hW (fun q h1 h2 => by rw [hU]; exact hS.2.1 q h1 h2)⟩⟩ rfl (by rw [List.length_map]; exact hn) (hL.1) rfl (by rw [z_sum]; show 2 * 0 + _ ≤ 8; omega) hd hroom.2.2) hbH hS hL kk
theorem a_callVv (X : zOK p s m args meth c G b own cc nL) (hd : decode cc pc = .ok (.invokevirtual idx, 3)) {S2 : zS} {w : Value} {P ci : Nat} {fs : List (Nat × Nat)} {T : u_T} {N : Nat} (hM : zMi y cy nM rt n) (hLk : zLv own idx y) (hZ : zM l G b y cy nM rt d mc ms (.ref P :: As) S (fun r z => r = some w ∧ z = S2)) (hq : S.1[P]? = some (0, ci, fs)) (hci : vwCl[ci]? = some (y.cls, T, N)) (hn : As.length = n) (hst : st = As.reverse ++ .ref P :: rest) (hw : (rest.map fun v => v.category).sum ≤ 8) (hroom : d + 1 ≤ R.frames ∧ 8 + (nM + 11) + 80 * d ≤ R.locals ∧ nc + mc ≤ R.cells ∧ ns + ms ≤ R.slots) (kk : Zw p l e R s m args below meth c G b nL Q (nc + mc) (ns + ms) (pc + 3) ls (w :: rest) S2) : Zw p l e R s m args below meth c G b nL Q nc ns pc ls st S :=
  a_invV X hM hLk hq hci hn hst hw hroom hd hZ (fun r z h => by obtain ⟨rfl, rfl⟩ := h; exact kk)
theorem a_callVu (X : zOK p s m args meth c G b own cc nL) (hd : decode cc pc = .ok (.invokevirtual idx, 3)) {S2 : zS} {P ci : Nat} {fs : List (Nat × Nat)} {T : u_T} {N : Nat} (hM : zMi y cy nM rt n) (hLk : zLv own idx y) (hZ : zM l G b y cy nM rt d mc ms (.ref P :: As) S (fun r z => r = none ∧ z = S2)) (hq : S.1[P]? = some (0, ci, fs)) (hci : vwCl[ci]? = some (y.cls, T, N)) (hn : As.length = n) (hst : st = As.reverse ++ .ref P :: rest) (hw : (rest.map fun v => v.category).sum ≤ 8) (hroom : d + 1 ≤ R.frames ∧ 8 + (nM + 11) + 80 * d ≤ R.locals ∧ nc + mc ≤ R.cells ∧ ns + ms ≤ R.slots) (kk : Zw p l e R s m args below meth c G b nL Q (nc + mc) (ns + ms) (pc + 3) ls rest S2) : Zw p l e R s m args below meth c G b nL Q nc ns pc ls st S :=
  a_invV X hM hLk hq hci hn hst hw hroom hd hZ (fun r z h => by obtain ⟨rfl, rfl⟩ := h; exact kk)
theorem a_callVx (X : zOK p s m args meth c G b own cc nL) (hd : decode cc pc = .ok (.invokevirtual idx, 3)) {F : Option Value → zS → Prop} {P ci : Nat} {fs : List (Nat × Nat)} {T : u_T} {N : Nat} (hM : zMi y cy nM rt n) (hLk : zLv own idx y) (hZ : zM l G b y cy nM rt d mc ms (.ref P :: As) S F) (hq : S.1[P]? = some (0, ci, fs)) (hci : vwCl[ci]? = some (y.cls, T, N)) (hn : As.length = n) (hst : st = As.reverse ++ .ref P :: rest) (hw : (rest.map fun v => v.category).sum ≤ 8) (hroom : d + 1 ≤ R.frames ∧ 8 + (nM + 11) + 80 * d ≤ R.locals ∧ nc + mc ≤ R.cells ∧ ns + ms ≤ R.slots) (kk : ∀ (r : Option Value) (S2 : zS), F r S2 → Zw p l e R s m args below meth c G b nL Q (nc + mc) (ns + ms) (pc + 3) ls (r.toList ++ rest) S2) : Zw p l e R s m args below meth c G b nL Q nc ns pc ls st S :=
  a_invV X hM hLk hq hci hn hst hw hroom hd hZ kk
theorem a_callSv (X : zOK p s m args meth c G b own cc nL) (hd : decode cc pc = .ok (.invokestatic idx, 3)) {S2 : zS} {w : Value} (hM : zMi y cy nM rt n) (hLk : zLs own idx y) (hZ : zM l G b y cy nM rt d mc ms (As) S (fun r z => r = some w ∧ z = S2)) (hn : As.length = n) (hst : st = As.reverse ++ rest) (hw : (rest.map fun v => v.category).sum ≤ 8) (hroom : d + 1 ≤ R.frames ∧ 8 + (nM + 11) + 80 * d ≤ R.locals ∧ nc + mc ≤ R.cells ∧ ns + ms ≤ R.slots) (kk : Zw p l e R s m args below meth c G b nL Q (nc + mc) (ns + ms) (pc + 3) ls (w :: rest) S2) : Zw p l e R s m args below meth c G b nL Q nc ns pc ls st S :=
  a_invS X hM hLk hn hst hw hroom hd hZ (fun r z h => by obtain ⟨rfl, rfl⟩ := h; exact kk)
theorem a_callSu (X : zOK p s m args meth c G b own cc nL) (hd : decode cc pc = .ok (.invokestatic idx, 3)) {S2 : zS} (hM : zMi y cy nM rt n) (hLk : zLs own idx y) (hZ : zM l G b y cy nM rt d mc ms (As) S (fun r z => r = none ∧ z = S2)) (hn : As.length = n) (hst : st = As.reverse ++ rest) (hw : (rest.map fun v => v.category).sum ≤ 8) (hroom : d + 1 ≤ R.frames ∧ 8 + (nM + 11) + 80 * d ≤ R.locals ∧ nc + mc ≤ R.cells ∧ ns + ms ≤ R.slots) (kk : Zw p l e R s m args below meth c G b nL Q (nc + mc) (ns + ms) (pc + 3) ls rest S2) : Zw p l e R s m args below meth c G b nL Q nc ns pc ls st S :=
  a_invS X hM hLk hn hst hw hroom hd hZ (fun r z h => by obtain ⟨rfl, rfl⟩ := h; exact kk)
theorem a_callSx (X : zOK p s m args meth c G b own cc nL) (hd : decode cc pc = .ok (.invokestatic idx, 3)) (hM : zMi y cy nM rt n) (hLk : zLs own idx y) {F : Option Value → zS → Prop} (hZ : zM l G b y cy nM rt d mc ms (As) S F) (hn : As.length = n) (hst : st = As.reverse ++ rest) (hw : (rest.map fun v => v.category).sum ≤ 8) (hroom : d + 1 ≤ R.frames ∧ 8 + (nM + 11) + 80 * d ≤ R.locals ∧ nc + mc ≤ R.cells ∧ ns + ms ≤ R.slots) (kk : ∀ (r : Option Value) (S2 : zS), F r S2 → Zw p l e R s m args below meth c G b nL Q (nc + mc) (ns + ms) (pc + 3) ls (r.toList ++ rest) S2) : Zw p l e R s m args below meth c G b nL Q nc ns pc ls st S :=
  a_invS X hM hLk hn hst hw hroom hd hZ kk
theorem a_callSNv (X : zOK p s m args meth c G b own cc nL) (hd : decode cc pc = .ok (.invokestatic idx, 3)) {S2 : zS} {w : Value} (hM : zMi y cy nM rt n) (hLk : zLsn own idx y) (hZ : zM l G b y cy nM rt d mc ms (As) S (fun r z => r = some w ∧ z = S2)) (hn : As.length = n) (hst : st = As.reverse ++ rest) (hw : (rest.map fun v => v.category).sum ≤ 8) (hroom : d + 1 ≤ R.frames ∧ 8 + (nM + 11) + 80 * d ≤ R.locals ∧ nc + mc ≤ R.cells ∧ ns + ms ≤ R.slots) (kk : Zw p l e R s m args below meth c G b nL Q (nc + mc) (ns + ms) (pc + 3) ls (w :: rest) S2) : Zw p l e R s m args below meth c G b nL Q nc ns pc ls st S :=
  a_invSN X hM hLk hn hst hw hroom hd hZ (fun r z h => by obtain ⟨rfl, rfl⟩ := h; exact kk)
theorem a_callSNu (X : zOK p s m args meth c G b own cc nL) (hd : decode cc pc = .ok (.invokestatic idx, 3)) {S2 : zS} (hM : zMi y cy nM rt n) (hLk : zLsn own idx y) (hZ : zM l G b y cy nM rt d mc ms (As) S (fun r z => r = none ∧ z = S2)) (hn : As.length = n) (hst : st = As.reverse ++ rest) (hw : (rest.map fun v => v.category).sum ≤ 8) (hroom : d + 1 ≤ R.frames ∧ 8 + (nM + 11) + 80 * d ≤ R.locals ∧ nc + mc ≤ R.cells ∧ ns + ms ≤ R.slots) (kk : Zw p l e R s m args below meth c G b nL Q (nc + mc) (ns + ms) (pc + 3) ls rest S2) : Zw p l e R s m args below meth c G b nL Q nc ns pc ls st S :=
  a_invSN X hM hLk hn hst hw hroom hd hZ (fun r z h => by obtain ⟨rfl, rfl⟩ := h; exact kk)
theorem a_callSNx (X : zOK p s m args meth c G b own cc nL) (hd : decode cc pc = .ok (.invokestatic idx, 3)) (hM : zMi y cy nM rt n) (hLk : zLsn own idx y) {F : Option Value → zS → Prop} (hZ : zM l G b y cy nM rt d mc ms (As) S F) (hn : As.length = n) (hst : st = As.reverse ++ rest) (hw : (rest.map fun v => v.category).sum ≤ 8) (hroom : d + 1 ≤ R.frames ∧ 8 + (nM + 11) + 80 * d ≤ R.locals ∧ nc + mc ≤ R.cells ∧ ns + ms ≤ R.slots) (kk : ∀ (r : Option Value) (S2 : zS), F r S2 → Zw p l e R s m args below meth c G b nL Q (nc + mc) (ns + ms) (pc + 3) ls (r.toList ++ rest) S2) : Zw p l e R s m args below meth c G b nL Q nc ns pc ls st S :=
  a_invSN X hM hLk hn hst hw hroom hd hZ kk
theorem a_invVs (X : zOK p s m args meth c G b own cc nL) (hM : zMi y cy nM rt n) (hLk : zLv own idx y) {i : Nat} (hi : i < zLit.length) (hcls : y.cls = "java/lang/String") (hn : As.length = n) (hst : st = As.reverse ++ .ref (1000000 + zKa G i) :: rest) (hw : (rest.map fun v => v.category).sum ≤ 8) (hroom : d + 1 ≤ R.frames ∧ 8 + (nM + 11) + 80 * d ≤ R.locals ∧ nc + mc ≤ R.cells ∧ ns + ms ≤ R.slots)
    (hd : decode cc pc = .ok (.invokevirtual idx, 3)) (hZ : zM l G b y cy nM rt d mc ms (.ref (1000000 + zKa G i) :: As) S Q') (kk : ∀ (r : Option Value) (S2 : zS), Q' r S2 → Zw p l e R s m args below meth c G b nL Q (nc + mc) (ns + ms) (pc + 3) ls (r.toList ++ rest) S2) : Zw p l e R s m args below meth c G b nL Q nc ns pc ls st S := by
  subst hst
  intro H locs la hH hS hL
  have hbH : b ≤ H.size := by have := hH.1; omega
  have hrev : (As.reverse ++ .ref (1000000 + zKa G i) :: rest).map (zv b) = (As.map (zv b)).reverse ++ .ref (zKa G i) :: rest.map (zv b) := by rw [List.map_append, List.map_reverse, List.map_cons, zv_far]
  rw [hrev]
  unfold zM at hZ
  rw [List.map_cons, zv_far] at hZ
  have blk := zM.blind (b := b) (G := G) (l := l) (av := .ref (1000000 + zKa G i) :: As) (S := S)
  rw [List.map_cons, zv_far] at blk
  refine z_run (a := _) (va_runV (As := As.map (zv b)) (rest := rest.map (zv b)) (cc := cc) (nL := nL) (own := own) ⟨X.1, X.2.1, X.2.2.1, X.2.2.2.1, X.2.2.2.2.1⟩ hZ ⟨⟨rfl, rfl, hroom.1, hroom.2.1, pay_in X.2.2.2.2.1 (z_good hM), List.mem_cons_self, X.2.2.2.2.1 _ hM.1, X.2.2.2.2.1 _ hM.2.1, hM.2.2.1, z_len hM.2.2.2.1, X.2.2.2.2.1 _ hLk.1⟩, X.2.2.2.2.1 _ hLk.2.1, X.2.2.2.2.1 _ hLk.2.2⟩ ⟨blk, by rw [hcls]; exact vk_recv X.2.2.2.2.2.2.1.2.2.1 hi hS, fun U hU hW => ⟨rfl, by rw [hU]; exact hH, X.2.2.2.2.2.1.moved hW.alike, X.2.2.2.2.2.2.1.warm hW (fun q h1 h2 => by rw [hU]; exact hS.2.1 q h1 h2)⟩⟩ rfl (by rw [List.length_map]; exact hn) (hL.1) rfl (by rw [z_sum]; show 2 * 0 + _ ≤ 8; omega) hd hroom.2.2) hbH hS hL kk
end ZC
theorem a_iret (X : zOK p s m args meth c G b own cc nL) {mc ms : Nat} {v : Int32} {Qf : Option Value → zS → Prop} (hr : meth.sig.returnType = some .int) (hd : decode cc pc = .ok (.ireturn, 1)) (hc : nc ≤ mc ∧ ns ≤ ms) (hq : Qf (some (.int v)) S) : Zw p l e R s m args below meth c G b nL (MQ below (zQ G b Qf) args s mc ms (fun q : Nat => b ≤ q)) nc ns pc ls [.int v] S :=
  fun H locs la hH hS hL => W.widen hc.1 hc.2 (W.iret X.1 X.2.1 hr (fun t ht hW => ⟨⟨some (.int v), S, rfl, hq, by rw [ht]; exact hH⟩, hS.F ht⟩) hS.2.2 hd X.2.2.2.2.2.2.2.1)
theorem a_zret (X : zOK p s m args meth c G b own cc nL) {mc ms : Nat} {v : Int32} {Qf : Option Value → zS → Prop} (hv : v = 0 ∨ v = 1) (hr : meth.sig.returnType = some .boolean) (hd : decode cc pc = .ok (.ireturn, 1)) (hc : nc ≤ mc ∧ ns ≤ ms) (hq : Qf (some (.int v)) S) : Zw p l e R s m args below meth c G b nL (MQ below (zQ G b Qf) args s mc ms (fun q : Nat => b ≤ q)) nc ns pc ls [.int v] S :=
  fun H locs la hH hS hL => W.widen hc.1 hc.2 (W.zret X.1 X.2.1 hr (by rcases hv with rfl | rfl <;> decide) (fun t ht hW => ⟨⟨some (.int v), S, rfl, hq, by rw [ht]; exact hH⟩, hS.F ht⟩) hS.2.2 hd X.2.2.2.2.2.2.2.1)
theorem a_lret (X : zOK p s m args meth c G b own cc nL) {mc ms : Nat} {v : Int64} {Qf : Option Value → zS → Prop} (hr : meth.sig.returnType = some .long) (hd : decode cc pc = .ok (.lreturn, 1)) (hc : nc ≤ mc ∧ ns ≤ ms) (hq : Qf (some (.long v)) S) : Zw p l e R s m args below meth c G b nL (MQ below (zQ G b Qf) args s mc ms (fun q : Nat => b ≤ q)) nc ns pc ls [.long v] S :=
  fun H locs la hH hS hL => W.widen hc.1 hc.2 (W.lret X.1 X.2.1 hr (fun t ht hW => ⟨⟨some (.long v), S, rfl, hq, by rw [ht]; exact hH⟩, hS.F ht⟩) hS.2.2 hd X.2.2.2.2.2.2.2.1)
theorem a_vret (X : zOK p s m args meth c G b own cc nL) {mc ms : Nat} {Qf : Option Value → zS → Prop} (hr : meth.sig.returnType = none) (hd : decode cc pc = .ok (.return_, 1)) (hc : nc ≤ mc ∧ ns ≤ ms) (hq : Qf none S) : Zw p l e R s m args below meth c G b nL (MQ below (zQ G b Qf) args s mc ms (fun q : Nat => b ≤ q)) nc ns pc ls [] S :=
  fun H locs la hH hS hL => W.widen hc.1 hc.2 (W.vret X.1 X.2.1 hr (fun t ht hW => ⟨⟨none, S, rfl, hq, by rw [ht]; exact hH⟩, hS.F ht⟩) hS.2.2 hd X.2.2.2.2.2.2.2.1)
theorem a_aret (X : zOK p s m args meth c G b own cc nL) {mc ms : Nat} {v : Value} {rt : FieldType} {Qf : Option Value → zS → Prop} (hr : meth.sig.returnType = some rt) (hrt : (∃ n, rt = .object n) ∨ ∃ t, rt = .array t) (hv : v = .null ∨ ∃ a, v = .ref a) (hd : decode cc pc = .ok (.areturn, 1)) (hc : nc ≤ mc ∧ ns ≤ ms) (hq : Qf (some v) S) : Zw p l e R s m args below meth c G b nL (MQ below (zQ G b Qf) args s mc ms (fun q : Nat => b ≤ q)) nc ns pc ls [v] S :=
  fun H locs la hH hS hL => W.widen hc.1 hc.2 (W.aret X.1 X.2.1 hr hrt (by rcases hv with rfl | ⟨a, rfl⟩; exact Or.inl rfl; exact Or.inr ⟨_, rfl⟩) (fun t ht hW => ⟨⟨some v, S, rfl, hq, by rw [ht]; exact hH⟩, hS.F ht⟩) hS.2.2 hd X.2.2.2.2.2.2.2.1)
theorem a_mmax (X : zOK p s m args meth c G b own cc nL) {idx : Nat} {x y : Int32} (hlink : Cond.methodLink own idx Lib.Math.max.name ∈ zT) (hstat : Cond.static Lib.Math.max.name ∈ zT) (hini : Cond.initialized "java/lang/Math" ∈ zT) (hcode : Cond.code Lib.Math.max.name Lib.Math.max.code 2 (some .int) ∈ zT) (hroom : 1 ≤ R.frames ∧ (st.map fun v => v.category).sum + 13 ≤ R.locals ∧ nc ≤ R.cells ∧ ns ≤ R.slots) (hd : decode cc pc = .ok (.invokestatic idx, 3)) (kk : Zw p l e R s m args below meth c G b nL Q nc ns (pc + 3) ls (.int (if x < y then y else x) :: st) S) : Zw p l e R s m args below meth c G b nL Q nc ns pc ls (.int y :: .int x :: st) S :=
  fun H locs la hH hS hL => va_mmax X.1 X.2.1 (by rw [X.2.2.1]; exact hL.1.symm) X.2.2.2.1 (X.2.2.2.2.1 _ hlink) (X.2.2.2.2.1 _ hstat) (X.2.2.2.2.1 _ hini) (X.2.2.2.2.1 _ hcode) hroom.1 (by rw [z_sum]; exact hroom.2.1) hroom.2.2.1 hroom.2.2.2 hd (kk H locs la hH hS hL)
theorem a_mmin (X : zOK p s m args meth c G b own cc nL) {idx : Nat} {x y : Int32} (hlink : Cond.methodLink own idx Lib.Math.min.name ∈ zT) (hstat : Cond.static Lib.Math.min.name ∈ zT) (hini : Cond.initialized "java/lang/Math" ∈ zT) (hcode : Cond.code Lib.Math.min.name Lib.Math.min.code 2 (some .int) ∈ zT) (hroom : 1 ≤ R.frames ∧ (st.map fun v => v.category).sum + 13 ≤ R.locals ∧ nc ≤ R.cells ∧ ns ≤ R.slots) (hd : decode cc pc = .ok (.invokestatic idx, 3)) (kk : Zw p l e R s m args below meth c G b nL Q nc ns (pc + 3) ls (.int (if y < x then y else x) :: st) S) : Zw p l e R s m args below meth c G b nL Q nc ns pc ls (.int y :: .int x :: st) S :=
  fun H locs la hH hS hL => va_mmin X.1 X.2.1 (by rw [X.2.2.1]; exact hL.1.symm) X.2.2.2.1 (X.2.2.2.2.1 _ hlink) (X.2.2.2.2.1 _ hstat) (X.2.2.2.2.1 _ hini) (X.2.2.2.2.1 _ hcode) hroom.1 (by rw [z_sum]; exact hroom.2.1) hroom.2.2.1 hroom.2.2.2 hd (kk H locs la hH hS hL)
theorem a_mmaxl (X : zOK p s m args meth c G b own cc nL) {idx : Nat} {x y : Int64} (hlink : Cond.methodLink own idx Lib.MathLoose.max_long.x ∈ zT) (hstat : Cond.static Lib.MathLoose.max_long.x ∈ zT) (hini : Cond.initialized "java/lang/Math" ∈ zT) (hcode : Cond.code Lib.MathLoose.max_long.x Lib.MathLoose.max_long.code 4 (some .long) ∈ zT) (hroom : 1 ≤ R.frames ∧ (st.map fun v => v.category).sum + 15 ≤ R.locals ∧ nc ≤ R.cells ∧ ns ≤ R.slots) (hd : decode cc pc = .ok (.invokestatic idx, 3)) (kk : Zw p l e R s m args below meth c G b nL Q nc ns (pc + 3) ls (.long (if y < x then x else y) :: st) S) : Zw p l e R s m args below meth c G b nL Q nc ns pc ls (.long y :: .long x :: st) S :=
  fun H locs la hH hS hL => va_mmax_long X.1 X.2.1 (by rw [X.2.2.1]; exact hL.1.symm) X.2.2.2.1 (X.2.2.2.2.1 _ hlink) (X.2.2.2.2.1 _ hstat) (X.2.2.2.2.1 _ hini) (X.2.2.2.2.1 _ hcode) hroom.1 (by rw [z_sum]; exact hroom.2.1) hroom.2.2.1 hroom.2.2.2 hd (kk H locs la hH hS hL)
end ZR
/-- a contract out of the walk of its body -/
theorem zM.of {l : Launch} {G : zG} {b : Nat} {y : MethodName} {cc : ByteArray} {nL : Nat} {ret : Option FieldType} {d mc ms n : Nat} {av : List Value} {S : zS} {Q : Option Value → zS → Prop} (hM : zMi y cc nL ret n) (hfit : (zfl av).length ≤ nL)
    (body : ∀ (p : Program) (e : Env) (s : State) (m : MethodId) (args : Array Value) (below : List Frame) (meth : Method) (c : Code), zOK p s m args meth c G b y.cls cc nL → meth.sig.returnType = ret → meth.name = y.name →
      Zw p l e { frames := d, cells := mc, slots := ms, locals := 80 * d } s m args below meth c G b nL (MQ below (zQ G b Q) args s mc ms (fun q : Nat => b ≤ q)) 0 0 0 (zA nL av) [] S) : zM l G b y cc nL ret d mc ms av S Q := by
  refine Met.ofW (cc := cc) (maxL := nL) (ret := ret) hM.2.2.2.2 rfl ?_
  intro p e s m args below meth c s₁ B hml hv
  obtain ⟨rfl, hH, hK, hE⟩ := hv
  have hts := atoms_spec (ws := .code y cc nL ret :: zT) B.pre
  have X : zOK p s m (av.map (zv b)).toArray meth c G b y.cls cc nL := ⟨B.exec, B.bytes, hml, findClass_of_methodNamed B.named, fun w hw => hts w (List.mem_cons_of_mem _ hw), hK, hE, B.notSynchronized, by have := hH.1; omega⟩
  have hl := lv_entry (av.map (zv b)) (n := nL) (by rw [zfl_sl]; exact hfit)
  rw [lg_entry_eq]
  exact body p e s m _ below meth c X B.returns (name_of_methodNamed B.named B.method).1 s.heap [] _ hH va_S.rf (zA_entry hl)
/-- more room, more to say -/
theorem zM.weaken {l : Launch} {G : zG} {b : Nat} {y : MethodName} {cc : ByteArray} {nL : Nat} {ret : Option FieldType} {d mc ms : Nat} {av : List Value} {S : zS} {Q Q2 : Option Value → zS → Prop} (h : zM l G b y cc nL ret d mc ms av S Q) (hq : ∀ r S', Q r S' → Q2 r S') : zM l G b y cc nL ret d mc ms av S Q2 := by
  intro p e ha hc hk s m args below hf hap hP hK
  obtain ⟨t, o, h1, h2, h3, ⟨⟨r, S', e1, e2, e3⟩, hF⟩, h5⟩ := h p e ha hc hk s m args below hf hap hP hK
  exact ⟨t, o, h1, h2, h3, ⟨⟨r, S', e1, hq _ _ e2, e3⟩, hF⟩, h5⟩
