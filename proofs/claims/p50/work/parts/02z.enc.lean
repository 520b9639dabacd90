/-! an instruction's bytes, and decode told by them -/
def dz_b (code : ByteArray) (pc a : Nat) : Prop := ∃ h : pc < code.size, (code[pc]'h).toNat = a
def dz_bs (code : ByteArray) : Nat → List Nat → Prop
  | _, [] => True
  | pc, a :: r => dz_b code pc a ∧ dz_bs code (pc + 1) r
theorem dz_r1 {code : ByteArray} {pc a : Nat} (h : dz_b code pc a) : (Reader.u1 : Decoder Nat) code pc = .ok (a, pc + 1) := by
  obtain ⟨h, e⟩ := h
  show ((if h : pc < code.size then (do set (pc + 1); pure (code[pc]'h).toNat : Decoder Nat) else throw (HasTruncated.truncated pc)) code pc) = _
  rw [dif_pos h]
  show Except.ok ((code[pc]'h).toNat, pc + 1) = _
  rw [e]
theorem dz_r2 {code : ByteArray} {pc a b : Nat} (h : dz_b code pc a) (k : dz_b code (pc + 1) b) : (Reader.u2 : Decoder Nat) code pc = .ok (a * 256 + b, pc + 1 + 1) := by
  show Except.bind ((Reader.u1 : Decoder Nat) code pc) (fun x => Except.bind ((Reader.u1 : Decoder Nat) code x.2) (fun y => .ok (x.1 * 256 + y.1, y.2))) = _
  rw [dz_r1 h]
  show Except.bind ((Reader.u1 : Decoder Nat) code (pc + 1)) (fun y => .ok (a * 256 + y.1, y.2)) = _
  rw [dz_r1 k]
  rfl
theorem dz_rs1 {code : ByteArray} {pc a : Nat} (h : dz_b code pc a) : (Reader.s1 : Decoder Int) code pc = .ok (Reader.signed 8 a, pc + 1) := by
  show Except.bind ((Reader.u1 : Decoder Nat) code pc) (fun x => .ok (Reader.signed 8 x.1, x.2)) = _
  rw [dz_r1 h]
  rfl
theorem dz_rs2 {code : ByteArray} {pc a b : Nat} (h : dz_b code pc a) (k : dz_b code (pc + 1) b) : (Reader.s2 : Decoder Int) code pc = .ok (Reader.signed 16 (a * 256 + b), pc + 1 + 1) := by
  show Except.bind ((Reader.u2 : Decoder Nat) code pc) (fun x => .ok (Reader.signed 16 x.1, x.2)) = _
  rw [dz_r2 h k]
  rfl
theorem dz_op {code : ByteArray} {pc a : Nat} (h : dz_b code pc a) (K : Nat → Decoder Instr) : (Reader.u1 >>= K : Decoder Instr) code pc = K a code (pc + 1) := by
  show Except.bind ((Reader.u1 : Decoder Nat) code pc) (fun x => K x.1 code x.2) = _
  rw [dz_r1 h]
  rfl
theorem dz_de {code : ByteArray} {pc n : Nat} {i : Instr} (e : Decoder.instr pc code pc = .ok (i, pc + n)) : decode code pc = .ok (i, n) := by
  show Except.bind (Decoder.instr pc code pc) (fun x => .ok (x.1, x.2 - pc)) = _
  rw [e]
  show Except.ok (i, pc + n - pc) = _
  rw [Nat.add_sub_cancel_left]
def dz_2 (o k : Nat) : List Nat := [o, k / 256, k % 256]
def dz_16 (k : Int) : Nat := (k % 65536).toNat
def dz_8 (k : Int) : Nat := (k % 256).toNat
def dz_z2 (o : Nat) (k : Int) : List Nat := if -32768 ≤ k ∧ k < 32768 then dz_2 o (dz_16 k) else []
theorem dz_16s {k : Int} (h : -32768 ≤ k ∧ k < 32768) : Reader.signed 16 (dz_16 k / 256 * 256 + dz_16 k % 256) = k := by
  rw [Nat.div_add_mod']
  unfold Reader.signed dz_16
  split <;> omega
theorem dz_8s {k : Int} (h : -128 ≤ k ∧ k < 128) : Reader.signed 8 (dz_8 k) = k := by
  unfold Reader.signed dz_8
  split <;> omega

set_option maxRecDepth 4000 in
theorem dz_d_aconst_null {code : ByteArray} {pc : Nat} (h : dz_b code pc 1) : Decoder.instr pc code pc = .ok (.aconst_null, pc + 1) := by
  unfold Decoder.instr
  exact (dz_op h _).trans rfl
set_option maxRecDepth 4000 in
theorem dz_d_iaload {code : ByteArray} {pc : Nat} (h : dz_b code pc 46) : Decoder.instr pc code pc = .ok (.iaload, pc + 1) := by
  unfold Decoder.instr
  exact (dz_op h _).trans rfl
set_option maxRecDepth 4000 in
theorem dz_d_laload {code : ByteArray} {pc : Nat} (h : dz_b code pc 47) : Decoder.instr pc code pc = .ok (.laload, pc + 1) := by
  unfold Decoder.instr
  exact (dz_op h _).trans rfl
set_option maxRecDepth 4000 in
theorem dz_d_aaload {code : ByteArray} {pc : Nat} (h : dz_b code pc 50) : Decoder.instr pc code pc = .ok (.aaload, pc + 1) := by
  unfold Decoder.instr
  exact (dz_op h _).trans rfl
set_option maxRecDepth 4000 in
theorem dz_d_baload {code : ByteArray} {pc : Nat} (h : dz_b code pc 51) : Decoder.instr pc code pc = .ok (.baload, pc + 1) := by
  unfold Decoder.instr
  exact (dz_op h _).trans rfl
set_option maxRecDepth 4000 in
theorem dz_d_caload {code : ByteArray} {pc : Nat} (h : dz_b code pc 52) : Decoder.instr pc code pc = .ok (.caload, pc + 1) := by
  unfold Decoder.instr
  exact (dz_op h _).trans rfl
set_option maxRecDepth 4000 in
theorem dz_d_iastore {code : ByteArray} {pc : Nat} (h : dz_b code pc 79) : Decoder.instr pc code pc = .ok (.iastore, pc + 1) := by
  unfold Decoder.instr
  exact (dz_op h _).trans rfl
set_option maxRecDepth 4000 in
theorem dz_d_lastore {code : ByteArray} {pc : Nat} (h : dz_b code pc 80) : Decoder.instr pc code pc = .ok (.lastore, pc + 1) := by
  unfold Decoder.instr
  exact (dz_op h _).trans rfl
set_option maxRecDepth 4000 in
theorem dz_d_aastore {code : ByteArray} {pc : Nat} (h : dz_b code pc 83) : Decoder.instr pc code pc = .ok (.aastore, pc + 1) := by
  unfold Decoder.instr
  exact (dz_op h _).trans rfl
set_option maxRecDepth 4000 in
theorem dz_d_bastore {code : ByteArray} {pc : Nat} (h : dz_b code pc 84) : Decoder.instr pc code pc = .ok (.bastore, pc + 1) := by
  unfold Decoder.instr
  exact (dz_op h _).trans rfl
set_option maxRecDepth 4000 in
theorem dz_d_castore {code : ByteArray} {pc : Nat} (h : dz_b code pc 85) : Decoder.instr pc code pc = .ok (.castore, pc + 1) := by
  unfold Decoder.instr
  exact (dz_op h _).trans rfl
set_option maxRecDepth 4000 in
theorem dz_d_pop {code : ByteArray} {pc : Nat} (h : dz_b code pc 87) : Decoder.instr pc code pc = .ok (.pop, pc + 1) := by
  unfold Decoder.instr
  exact (dz_op h _).trans rfl
set_option maxRecDepth 4000 in
theorem dz_d_pop2 {code : ByteArray} {pc : Nat} (h : dz_b code pc 88) : Decoder.instr pc code pc = .ok (.pop2, pc + 1) := by
  unfold Decoder.instr
  exact (dz_op h _).trans rfl
set_option maxRecDepth 4000 in
theorem dz_d_dup {code : ByteArray} {pc : Nat} (h : dz_b code pc 89) : Decoder.instr pc code pc = .ok (.dup, pc + 1) := by
  unfold Decoder.instr
  exact (dz_op h _).trans rfl
set_option maxRecDepth 4000 in
theorem dz_d_dup_x1 {code : ByteArray} {pc : Nat} (h : dz_b code pc 90) : Decoder.instr pc code pc = .ok (.dup_x1, pc + 1) := by
  unfold Decoder.instr
  exact (dz_op h _).trans rfl
set_option maxRecDepth 4000 in
theorem dz_d_dup2 {code : ByteArray} {pc : Nat} (h : dz_b code pc 92) : Decoder.instr pc code pc = .ok (.dup2, pc + 1) := by
  unfold Decoder.instr
  exact (dz_op h _).trans rfl
set_option maxRecDepth 4000 in
theorem dz_d_iadd {code : ByteArray} {pc : Nat} (h : dz_b code pc 96) : Decoder.instr pc code pc = .ok (.iadd, pc + 1) := by
  unfold Decoder.instr
  exact (dz_op h _).trans rfl
set_option maxRecDepth 4000 in
theorem dz_d_ladd {code : ByteArray} {pc : Nat} (h : dz_b code pc 97) : Decoder.instr pc code pc = .ok (.ladd, pc + 1) := by
  unfold Decoder.instr
  exact (dz_op h _).trans rfl
set_option maxRecDepth 4000 in
theorem dz_d_isub {code : ByteArray} {pc : Nat} (h : dz_b code pc 100) : Decoder.instr pc code pc = .ok (.isub, pc + 1) := by
  unfold Decoder.instr
  exact (dz_op h _).trans rfl
set_option maxRecDepth 4000 in
theorem dz_d_lsub {code : ByteArray} {pc : Nat} (h : dz_b code pc 101) : Decoder.instr pc code pc = .ok (.lsub, pc + 1) := by
  unfold Decoder.instr
  exact (dz_op h _).trans rfl
set_option maxRecDepth 4000 in
theorem dz_d_imul {code : ByteArray} {pc : Nat} (h : dz_b code pc 104) : Decoder.instr pc code pc = .ok (.imul, pc + 1) := by
  unfold Decoder.instr
  exact (dz_op h _).trans rfl
set_option maxRecDepth 4000 in
theorem dz_d_lmul {code : ByteArray} {pc : Nat} (h : dz_b code pc 105) : Decoder.instr pc code pc = .ok (.lmul, pc + 1) := by
  unfold Decoder.instr
  exact (dz_op h _).trans rfl
set_option maxRecDepth 4000 in
theorem dz_d_idiv {code : ByteArray} {pc : Nat} (h : dz_b code pc 108) : Decoder.instr pc code pc = .ok (.idiv, pc + 1) := by
  unfold Decoder.instr
  exact (dz_op h _).trans rfl
set_option maxRecDepth 4000 in
theorem dz_d_ldiv {code : ByteArray} {pc : Nat} (h : dz_b code pc 109) : Decoder.instr pc code pc = .ok (.ldiv, pc + 1) := by
  unfold Decoder.instr
  exact (dz_op h _).trans rfl
set_option maxRecDepth 4000 in
theorem dz_d_irem {code : ByteArray} {pc : Nat} (h : dz_b code pc 112) : Decoder.instr pc code pc = .ok (.irem, pc + 1) := by
  unfold Decoder.instr
  exact (dz_op h _).trans rfl
set_option maxRecDepth 4000 in
theorem dz_d_lrem {code : ByteArray} {pc : Nat} (h : dz_b code pc 113) : Decoder.instr pc code pc = .ok (.lrem, pc + 1) := by
  unfold Decoder.instr
  exact (dz_op h _).trans rfl
set_option maxRecDepth 4000 in
theorem dz_d_ineg {code : ByteArray} {pc : Nat} (h : dz_b code pc 116) : Decoder.instr pc code pc = .ok (.ineg, pc + 1) := by
  unfold Decoder.instr
  exact (dz_op h _).trans rfl
set_option maxRecDepth 4000 in
theorem dz_d_lneg {code : ByteArray} {pc : Nat} (h : dz_b code pc 117) : Decoder.instr pc code pc = .ok (.lneg, pc + 1) := by
  unfold Decoder.instr
  exact (dz_op h _).trans rfl
set_option maxRecDepth 4000 in
theorem dz_d_ishl {code : ByteArray} {pc : Nat} (h : dz_b code pc 120) : Decoder.instr pc code pc = .ok (.ishl, pc + 1) := by
  unfold Decoder.instr
  exact (dz_op h _).trans rfl
set_option maxRecDepth 4000 in
theorem dz_d_lshl {code : ByteArray} {pc : Nat} (h : dz_b code pc 121) : Decoder.instr pc code pc = .ok (.lshl, pc + 1) := by
  unfold Decoder.instr
  exact (dz_op h _).trans rfl
set_option maxRecDepth 4000 in
theorem dz_d_ishr {code : ByteArray} {pc : Nat} (h : dz_b code pc 122) : Decoder.instr pc code pc = .ok (.ishr, pc + 1) := by
  unfold Decoder.instr
  exact (dz_op h _).trans rfl
set_option maxRecDepth 4000 in
theorem dz_d_lshr {code : ByteArray} {pc : Nat} (h : dz_b code pc 123) : Decoder.instr pc code pc = .ok (.lshr, pc + 1) := by
  unfold Decoder.instr
  exact (dz_op h _).trans rfl
set_option maxRecDepth 4000 in
theorem dz_d_iushr {code : ByteArray} {pc : Nat} (h : dz_b code pc 124) : Decoder.instr pc code pc = .ok (.iushr, pc + 1) := by
  unfold Decoder.instr
  exact (dz_op h _).trans rfl
set_option maxRecDepth 4000 in
theorem dz_d_lushr {code : ByteArray} {pc : Nat} (h : dz_b code pc 125) : Decoder.instr pc code pc = .ok (.lushr, pc + 1) := by
  unfold Decoder.instr
  exact (dz_op h _).trans rfl
set_option maxRecDepth 4000 in
theorem dz_d_iand {code : ByteArray} {pc : Nat} (h : dz_b code pc 126) : Decoder.instr pc code pc = .ok (.iand, pc + 1) := by
  unfold Decoder.instr
  exact (dz_op h _).trans rfl
set_option maxRecDepth 4000 in
theorem dz_d_land {code : ByteArray} {pc : Nat} (h : dz_b code pc 127) : Decoder.instr pc code pc = .ok (.land, pc + 1) := by
  unfold Decoder.instr
  exact (dz_op h _).trans rfl
set_option maxRecDepth 4000 in
theorem dz_d_ior {code : ByteArray} {pc : Nat} (h : dz_b code pc 128) : Decoder.instr pc code pc = .ok (.ior, pc + 1) := by
  unfold Decoder.instr
  exact (dz_op h _).trans rfl
set_option maxRecDepth 4000 in
theorem dz_d_lor {code : ByteArray} {pc : Nat} (h : dz_b code pc 129) : Decoder.instr pc code pc = .ok (.lor, pc + 1) := by
  unfold Decoder.instr
  exact (dz_op h _).trans rfl
set_option maxRecDepth 4000 in
theorem dz_d_ixor {code : ByteArray} {pc : Nat} (h : dz_b code pc 130) : Decoder.instr pc code pc = .ok (.ixor, pc + 1) := by
  unfold Decoder.instr
  exact (dz_op h _).trans rfl
set_option maxRecDepth 4000 in
theorem dz_d_lxor {code : ByteArray} {pc : Nat} (h : dz_b code pc 131) : Decoder.instr pc code pc = .ok (.lxor, pc + 1) := by
  unfold Decoder.instr
  exact (dz_op h _).trans rfl
set_option maxRecDepth 4000 in
theorem dz_d_i2l {code : ByteArray} {pc : Nat} (h : dz_b code pc 133) : Decoder.instr pc code pc = .ok (.i2l, pc + 1) := by
  unfold Decoder.instr
  exact (dz_op h _).trans rfl
set_option maxRecDepth 4000 in
theorem dz_d_l2i {code : ByteArray} {pc : Nat} (h : dz_b code pc 136) : Decoder.instr pc code pc = .ok (.l2i, pc + 1) := by
  unfold Decoder.instr
  exact (dz_op h _).trans rfl
set_option maxRecDepth 4000 in
theorem dz_d_i2b {code : ByteArray} {pc : Nat} (h : dz_b code pc 145) : Decoder.instr pc code pc = .ok (.i2b, pc + 1) := by
  unfold Decoder.instr
  exact (dz_op h _).trans rfl
set_option maxRecDepth 4000 in
theorem dz_d_i2c {code : ByteArray} {pc : Nat} (h : dz_b code pc 146) : Decoder.instr pc code pc = .ok (.i2c, pc + 1) := by
  unfold Decoder.instr
  exact (dz_op h _).trans rfl
set_option maxRecDepth 4000 in
theorem dz_d_lcmp {code : ByteArray} {pc : Nat} (h : dz_b code pc 148) : Decoder.instr pc code pc = .ok (.lcmp, pc + 1) := by
  unfold Decoder.instr
  exact (dz_op h _).trans rfl
set_option maxRecDepth 4000 in
theorem dz_d_ireturn {code : ByteArray} {pc : Nat} (h : dz_b code pc 172) : Decoder.instr pc code pc = .ok (.ireturn, pc + 1) := by
  unfold Decoder.instr
  exact (dz_op h _).trans rfl
set_option maxRecDepth 4000 in
theorem dz_d_lreturn {code : ByteArray} {pc : Nat} (h : dz_b code pc 173) : Decoder.instr pc code pc = .ok (.lreturn, pc + 1) := by
  unfold Decoder.instr
  exact (dz_op h _).trans rfl
set_option maxRecDepth 4000 in
theorem dz_d_areturn {code : ByteArray} {pc : Nat} (h : dz_b code pc 176) : Decoder.instr pc code pc = .ok (.areturn, pc + 1) := by
  unfold Decoder.instr
  exact (dz_op h _).trans rfl
set_option maxRecDepth 4000 in
theorem dz_d_return_ {code : ByteArray} {pc : Nat} (h : dz_b code pc 177) : Decoder.instr pc code pc = .ok (.return_, pc + 1) := by
  unfold Decoder.instr
  exact (dz_op h _).trans rfl
set_option maxRecDepth 4000 in
theorem dz_d_arraylength {code : ByteArray} {pc : Nat} (h : dz_b code pc 190) : Decoder.instr pc code pc = .ok (.arraylength, pc + 1) := by
  unfold Decoder.instr
  exact (dz_op h _).trans rfl
set_option maxRecDepth 4000 in
theorem dz_d_athrow {code : ByteArray} {pc : Nat} (h : dz_b code pc 191) : Decoder.instr pc code pc = .ok (.athrow, pc + 1) := by
  unfold Decoder.instr
  exact (dz_op h _).trans rfl
set_option maxRecDepth 4000 in
theorem dz_d_iload_n0 {code : ByteArray} {pc : Nat} (h : dz_b code pc 26) : Decoder.instr pc code pc = .ok (.iload_n 0, pc + 1) := by
  unfold Decoder.instr
  exact (dz_op h _).trans rfl
set_option maxRecDepth 4000 in
theorem dz_d_iload_n1 {code : ByteArray} {pc : Nat} (h : dz_b code pc 27) : Decoder.instr pc code pc = .ok (.iload_n 1, pc + 1) := by
  unfold Decoder.instr
  exact (dz_op h _).trans rfl
set_option maxRecDepth 4000 in
theorem dz_d_iload_n2 {code : ByteArray} {pc : Nat} (h : dz_b code pc 28) : Decoder.instr pc code pc = .ok (.iload_n 2, pc + 1) := by
  unfold Decoder.instr
  exact (dz_op h _).trans rfl
set_option maxRecDepth 4000 in
theorem dz_d_iload_n3 {code : ByteArray} {pc : Nat} (h : dz_b code pc 29) : Decoder.instr pc code pc = .ok (.iload_n 3, pc + 1) := by
  unfold Decoder.instr
  exact (dz_op h _).trans rfl
set_option maxRecDepth 4000 in
theorem dz_d_lload_n0 {code : ByteArray} {pc : Nat} (h : dz_b code pc 30) : Decoder.instr pc code pc = .ok (.lload_n 0, pc + 1) := by
  unfold Decoder.instr
  exact (dz_op h _).trans rfl
set_option maxRecDepth 4000 in
theorem dz_d_lload_n1 {code : ByteArray} {pc : Nat} (h : dz_b code pc 31) : Decoder.instr pc code pc = .ok (.lload_n 1, pc + 1) := by
  unfold Decoder.instr
  exact (dz_op h _).trans rfl
set_option maxRecDepth 4000 in
theorem dz_d_lload_n2 {code : ByteArray} {pc : Nat} (h : dz_b code pc 32) : Decoder.instr pc code pc = .ok (.lload_n 2, pc + 1) := by
  unfold Decoder.instr
  exact (dz_op h _).trans rfl
set_option maxRecDepth 4000 in
theorem dz_d_lload_n3 {code : ByteArray} {pc : Nat} (h : dz_b code pc 33) : Decoder.instr pc code pc = .ok (.lload_n 3, pc + 1) := by
  unfold Decoder.instr
  exact (dz_op h _).trans rfl
set_option maxRecDepth 4000 in
theorem dz_d_aload_n0 {code : ByteArray} {pc : Nat} (h : dz_b code pc 42) : Decoder.instr pc code pc = .ok (.aload_n 0, pc + 1) := by
  unfold Decoder.instr
  exact (dz_op h _).trans rfl
set_option maxRecDepth 4000 in
theorem dz_d_aload_n1 {code : ByteArray} {pc : Nat} (h : dz_b code pc 43) : Decoder.instr pc code pc = .ok (.aload_n 1, pc + 1) := by
  unfold Decoder.instr
  exact (dz_op h _).trans rfl
set_option maxRecDepth 4000 in
theorem dz_d_aload_n2 {code : ByteArray} {pc : Nat} (h : dz_b code pc 44) : Decoder.instr pc code pc = .ok (.aload_n 2, pc + 1) := by
  unfold Decoder.instr
  exact (dz_op h _).trans rfl
set_option maxRecDepth 4000 in
theorem dz_d_aload_n3 {code : ByteArray} {pc : Nat} (h : dz_b code pc 45) : Decoder.instr pc code pc = .ok (.aload_n 3, pc + 1) := by
  unfold Decoder.instr
  exact (dz_op h _).trans rfl
set_option maxRecDepth 4000 in
theorem dz_d_istore_n0 {code : ByteArray} {pc : Nat} (h : dz_b code pc 59) : Decoder.instr pc code pc = .ok (.istore_n 0, pc + 1) := by
  unfold Decoder.instr
  exact (dz_op h _).trans rfl
set_option maxRecDepth 4000 in
theorem dz_d_istore_n1 {code : ByteArray} {pc : Nat} (h : dz_b code pc 60) : Decoder.instr pc code pc = .ok (.istore_n 1, pc + 1) := by
  unfold Decoder.instr
  exact (dz_op h _).trans rfl
set_option maxRecDepth 4000 in
theorem dz_d_istore_n2 {code : ByteArray} {pc : Nat} (h : dz_b code pc 61) : Decoder.instr pc code pc = .ok (.istore_n 2, pc + 1) := by
  unfold Decoder.instr
  exact (dz_op h _).trans rfl
set_option maxRecDepth 4000 in
theorem dz_d_istore_n3 {code : ByteArray} {pc : Nat} (h : dz_b code pc 62) : Decoder.instr pc code pc = .ok (.istore_n 3, pc + 1) := by
  unfold Decoder.instr
  exact (dz_op h _).trans rfl
set_option maxRecDepth 4000 in
theorem dz_d_lstore_n0 {code : ByteArray} {pc : Nat} (h : dz_b code pc 63) : Decoder.instr pc code pc = .ok (.lstore_n 0, pc + 1) := by
  unfold Decoder.instr
  exact (dz_op h _).trans rfl
set_option maxRecDepth 4000 in
theorem dz_d_lstore_n1 {code : ByteArray} {pc : Nat} (h : dz_b code pc 64) : Decoder.instr pc code pc = .ok (.lstore_n 1, pc + 1) := by
  unfold Decoder.instr
  exact (dz_op h _).trans rfl
set_option maxRecDepth 4000 in
theorem dz_d_lstore_n2 {code : ByteArray} {pc : Nat} (h : dz_b code pc 65) : Decoder.instr pc code pc = .ok (.lstore_n 2, pc + 1) := by
  unfold Decoder.instr
  exact (dz_op h _).trans rfl
set_option maxRecDepth 4000 in
theorem dz_d_lstore_n3 {code : ByteArray} {pc : Nat} (h : dz_b code pc 66) : Decoder.instr pc code pc = .ok (.lstore_n 3, pc + 1) := by
  unfold Decoder.instr
  exact (dz_op h _).trans rfl
set_option maxRecDepth 4000 in
theorem dz_d_astore_n0 {code : ByteArray} {pc : Nat} (h : dz_b code pc 75) : Decoder.instr pc code pc = .ok (.astore_n 0, pc + 1) := by
  unfold Decoder.instr
  exact (dz_op h _).trans rfl
set_option maxRecDepth 4000 in
theorem dz_d_astore_n1 {code : ByteArray} {pc : Nat} (h : dz_b code pc 76) : Decoder.instr pc code pc = .ok (.astore_n 1, pc + 1) := by
  unfold Decoder.instr
  exact (dz_op h _).trans rfl
set_option maxRecDepth 4000 in
theorem dz_d_astore_n2 {code : ByteArray} {pc : Nat} (h : dz_b code pc 77) : Decoder.instr pc code pc = .ok (.astore_n 2, pc + 1) := by
  unfold Decoder.instr
  exact (dz_op h _).trans rfl
set_option maxRecDepth 4000 in
theorem dz_d_astore_n3 {code : ByteArray} {pc : Nat} (h : dz_b code pc 78) : Decoder.instr pc code pc = .ok (.astore_n 3, pc + 1) := by
  unfold Decoder.instr
  exact (dz_op h _).trans rfl
set_option maxRecDepth 4000 in
theorem dz_d_iconstm {code : ByteArray} {pc : Nat} (h : dz_b code pc 2) : Decoder.instr pc code pc = .ok (.iconst (-1), pc + 1) := by
  unfold Decoder.instr
  exact (dz_op h _).trans rfl
set_option maxRecDepth 4000 in
theorem dz_d_iconst0 {code : ByteArray} {pc : Nat} (h : dz_b code pc 3) : Decoder.instr pc code pc = .ok (.iconst 0, pc + 1) := by
  unfold Decoder.instr
  exact (dz_op h _).trans rfl
set_option maxRecDepth 4000 in
theorem dz_d_iconst1 {code : ByteArray} {pc : Nat} (h : dz_b code pc 4) : Decoder.instr pc code pc = .ok (.iconst 1, pc + 1) := by
  unfold Decoder.instr
  exact (dz_op h _).trans rfl
set_option maxRecDepth 4000 in
theorem dz_d_iconst2 {code : ByteArray} {pc : Nat} (h : dz_b code pc 5) : Decoder.instr pc code pc = .ok (.iconst 2, pc + 1) := by
  unfold Decoder.instr
  exact (dz_op h _).trans rfl
set_option maxRecDepth 4000 in
theorem dz_d_iconst3 {code : ByteArray} {pc : Nat} (h : dz_b code pc 6) : Decoder.instr pc code pc = .ok (.iconst 3, pc + 1) := by
  unfold Decoder.instr
  exact (dz_op h _).trans rfl
set_option maxRecDepth 4000 in
theorem dz_d_iconst4 {code : ByteArray} {pc : Nat} (h : dz_b code pc 7) : Decoder.instr pc code pc = .ok (.iconst 4, pc + 1) := by
  unfold Decoder.instr
  exact (dz_op h _).trans rfl
set_option maxRecDepth 4000 in
theorem dz_d_iconst5 {code : ByteArray} {pc : Nat} (h : dz_b code pc 8) : Decoder.instr pc code pc = .ok (.iconst 5, pc + 1) := by
  unfold Decoder.instr
  exact (dz_op h _).trans rfl
set_option maxRecDepth 4000 in
theorem dz_diconst {code : ByteArray} {pc : Nat} {k : Int} (q : (if -1 ≤ k ∧ k ≤ 5 then [(k + 3).toNat] else []) ≠ []) (h : dz_bs code pc (if -1 ≤ k ∧ k ≤ 5 then [(k + 3).toNat] else [])) : decode code pc = .ok (.iconst k, (if -1 ≤ k ∧ k ≤ 5 then [(k + 3).toNat] else []).length) := by
  by_cases z : -1 ≤ k ∧ k ≤ 5
  · rw [if_pos z] at h ⊢
    have w : k = -1 ∨ k = 0 ∨ k = 1 ∨ k = 2 ∨ k = 3 ∨ k = 4 ∨ k = 5 := by omega
    rcases w with w | w | w | w | w | w | w <;> subst w
    · exact dz_de (dz_d_iconstm h.1)
    · exact dz_de (dz_d_iconst0 h.1)
    · exact dz_de (dz_d_iconst1 h.1)
    · exact dz_de (dz_d_iconst2 h.1)
    · exact dz_de (dz_d_iconst3 h.1)
    · exact dz_de (dz_d_iconst4 h.1)
    · exact dz_de (dz_d_iconst5 h.1)
  · rw [if_neg z] at q
    exact absurd rfl q
set_option maxRecDepth 4000 in
theorem dz_d_lconst0 {code : ByteArray} {pc : Nat} (h : dz_b code pc 9) : Decoder.instr pc code pc = .ok (.lconst 0, pc + 1) := by
  unfold Decoder.instr
  exact (dz_op h _).trans rfl
set_option maxRecDepth 4000 in
theorem dz_d_lconst1 {code : ByteArray} {pc : Nat} (h : dz_b code pc 10) : Decoder.instr pc code pc = .ok (.lconst 1, pc + 1) := by
  unfold Decoder.instr
  exact (dz_op h _).trans rfl
set_option maxRecDepth 4000 in
theorem dz_d_ldc {code : ByteArray} {pc a : Nat} (h : dz_b code pc 18) (h1 : dz_b code (pc + 1) a) : Decoder.instr pc code pc = .ok (.ldc (a), pc + 2) := by
  unfold Decoder.instr
  refine (dz_op h _).trans ?_
  show Except.bind ((Reader.u1 : Decoder Nat) code (pc + 1)) (fun x => (Except.ok (Instr.ldc (x.1), x.2) : Except DecodeError (Instr × Nat))) = _
  rw [dz_r1 h1]
  rfl
set_option maxRecDepth 4000 in
theorem dz_d_iload {code : ByteArray} {pc a : Nat} (h : dz_b code pc 21) (h1 : dz_b code (pc + 1) a) : Decoder.instr pc code pc = .ok (.iload (a), pc + 2) := by
  unfold Decoder.instr
  refine (dz_op h _).trans ?_
  show Except.bind ((Reader.u1 : Decoder Nat) code (pc + 1)) (fun x => (Except.ok (Instr.iload (x.1), x.2) : Except DecodeError (Instr × Nat))) = _
  rw [dz_r1 h1]
  rfl
set_option maxRecDepth 4000 in
theorem dz_d_lload {code : ByteArray} {pc a : Nat} (h : dz_b code pc 22) (h1 : dz_b code (pc + 1) a) : Decoder.instr pc code pc = .ok (.lload (a), pc + 2) := by
  unfold Decoder.instr
  refine (dz_op h _).trans ?_
  show Except.bind ((Reader.u1 : Decoder Nat) code (pc + 1)) (fun x => (Except.ok (Instr.lload (x.1), x.2) : Except DecodeError (Instr × Nat))) = _
  rw [dz_r1 h1]
  rfl
set_option maxRecDepth 4000 in
theorem dz_d_aload {code : ByteArray} {pc a : Nat} (h : dz_b code pc 25) (h1 : dz_b code (pc + 1) a) : Decoder.instr pc code pc = .ok (.aload (a), pc + 2) := by
  unfold Decoder.instr
  refine (dz_op h _).trans ?_
  show Except.bind ((Reader.u1 : Decoder Nat) code (pc + 1)) (fun x => (Except.ok (Instr.aload (x.1), x.2) : Except DecodeError (Instr × Nat))) = _
  rw [dz_r1 h1]
  rfl
set_option maxRecDepth 4000 in
theorem dz_d_istore {code : ByteArray} {pc a : Nat} (h : dz_b code pc 54) (h1 : dz_b code (pc + 1) a) : Decoder.instr pc code pc = .ok (.istore (a), pc + 2) := by
  unfold Decoder.instr
  refine (dz_op h _).trans ?_
  show Except.bind ((Reader.u1 : Decoder Nat) code (pc + 1)) (fun x => (Except.ok (Instr.istore (x.1), x.2) : Except DecodeError (Instr × Nat))) = _
  rw [dz_r1 h1]
  rfl
set_option maxRecDepth 4000 in
theorem dz_d_lstore {code : ByteArray} {pc a : Nat} (h : dz_b code pc 55) (h1 : dz_b code (pc + 1) a) : Decoder.instr pc code pc = .ok (.lstore (a), pc + 2) := by
  unfold Decoder.instr
  refine (dz_op h _).trans ?_
  show Except.bind ((Reader.u1 : Decoder Nat) code (pc + 1)) (fun x => (Except.ok (Instr.lstore (x.1), x.2) : Except DecodeError (Instr × Nat))) = _
  rw [dz_r1 h1]
  rfl
set_option maxRecDepth 4000 in
theorem dz_d_astore {code : ByteArray} {pc a : Nat} (h : dz_b code pc 58) (h1 : dz_b code (pc + 1) a) : Decoder.instr pc code pc = .ok (.astore (a), pc + 2) := by
  unfold Decoder.instr
  refine (dz_op h _).trans ?_
  show Except.bind ((Reader.u1 : Decoder Nat) code (pc + 1)) (fun x => (Except.ok (Instr.astore (x.1), x.2) : Except DecodeError (Instr × Nat))) = _
  rw [dz_r1 h1]
  rfl
set_option maxRecDepth 4000 in
theorem dz_d_ldc_w {code : ByteArray} {pc a b : Nat} (h : dz_b code pc 19) (h1 : dz_b code (pc + 1) a) (h2 : dz_b code (pc + 1 + 1) b) : Decoder.instr pc code pc = .ok (.ldc_w (a * 256 + b), pc + 3) := by
  unfold Decoder.instr
  refine (dz_op h _).trans ?_
  show Except.bind ((Reader.u2 : Decoder Nat) code (pc + 1)) (fun x => (Except.ok (Instr.ldc_w (x.1), x.2) : Except DecodeError (Instr × Nat))) = _
  rw [dz_r2 h1 h2]
  rfl
set_option maxRecDepth 4000 in
theorem dz_d_ldc2_w {code : ByteArray} {pc a b : Nat} (h : dz_b code pc 20) (h1 : dz_b code (pc + 1) a) (h2 : dz_b code (pc + 1 + 1) b) : Decoder.instr pc code pc = .ok (.ldc2_w (a * 256 + b), pc + 3) := by
  unfold Decoder.instr
  refine (dz_op h _).trans ?_
  show Except.bind ((Reader.u2 : Decoder Nat) code (pc + 1)) (fun x => (Except.ok (Instr.ldc2_w (x.1), x.2) : Except DecodeError (Instr × Nat))) = _
  rw [dz_r2 h1 h2]
  rfl
set_option maxRecDepth 4000 in
theorem dz_d_getstatic {code : ByteArray} {pc a b : Nat} (h : dz_b code pc 178) (h1 : dz_b code (pc + 1) a) (h2 : dz_b code (pc + 1 + 1) b) : Decoder.instr pc code pc = .ok (.getstatic (a * 256 + b), pc + 3) := by
  unfold Decoder.instr
  refine (dz_op h _).trans ?_
  show Except.bind ((Reader.u2 : Decoder Nat) code (pc + 1)) (fun x => (Except.ok (Instr.getstatic (x.1), x.2) : Except DecodeError (Instr × Nat))) = _
  rw [dz_r2 h1 h2]
  rfl
set_option maxRecDepth 4000 in
theorem dz_d_putstatic {code : ByteArray} {pc a b : Nat} (h : dz_b code pc 179) (h1 : dz_b code (pc + 1) a) (h2 : dz_b code (pc + 1 + 1) b) : Decoder.instr pc code pc = .ok (.putstatic (a * 256 + b), pc + 3) := by
  unfold Decoder.instr
  refine (dz_op h _).trans ?_
  show Except.bind ((Reader.u2 : Decoder Nat) code (pc + 1)) (fun x => (Except.ok (Instr.putstatic (x.1), x.2) : Except DecodeError (Instr × Nat))) = _
  rw [dz_r2 h1 h2]
  rfl
set_option maxRecDepth 4000 in
theorem dz_d_getfield {code : ByteArray} {pc a b : Nat} (h : dz_b code pc 180) (h1 : dz_b code (pc + 1) a) (h2 : dz_b code (pc + 1 + 1) b) : Decoder.instr pc code pc = .ok (.getfield (a * 256 + b), pc + 3) := by
  unfold Decoder.instr
  refine (dz_op h _).trans ?_
  show Except.bind ((Reader.u2 : Decoder Nat) code (pc + 1)) (fun x => (Except.ok (Instr.getfield (x.1), x.2) : Except DecodeError (Instr × Nat))) = _
  rw [dz_r2 h1 h2]
  rfl
set_option maxRecDepth 4000 in
theorem dz_d_putfield {code : ByteArray} {pc a b : Nat} (h : dz_b code pc 181) (h1 : dz_b code (pc + 1) a) (h2 : dz_b code (pc + 1 + 1) b) : Decoder.instr pc code pc = .ok (.putfield (a * 256 + b), pc + 3) := by
  unfold Decoder.instr
  refine (dz_op h _).trans ?_
  show Except.bind ((Reader.u2 : Decoder Nat) code (pc + 1)) (fun x => (Except.ok (Instr.putfield (x.1), x.2) : Except DecodeError (Instr × Nat))) = _
  rw [dz_r2 h1 h2]
  rfl
set_option maxRecDepth 4000 in
theorem dz_d_invokevirtual {code : ByteArray} {pc a b : Nat} (h : dz_b code pc 182) (h1 : dz_b code (pc + 1) a) (h2 : dz_b code (pc + 1 + 1) b) : Decoder.instr pc code pc = .ok (.invokevirtual (a * 256 + b), pc + 3) := by
  unfold Decoder.instr
  refine (dz_op h _).trans ?_
  show Except.bind ((Reader.u2 : Decoder Nat) code (pc + 1)) (fun x => (Except.ok (Instr.invokevirtual (x.1), x.2) : Except DecodeError (Instr × Nat))) = _
  rw [dz_r2 h1 h2]
  rfl
set_option maxRecDepth 4000 in
theorem dz_d_invokespecial {code : ByteArray} {pc a b : Nat} (h : dz_b code pc 183) (h1 : dz_b code (pc + 1) a) (h2 : dz_b code (pc + 1 + 1) b) : Decoder.instr pc code pc = .ok (.invokespecial (a * 256 + b), pc + 3) := by
  unfold Decoder.instr
  refine (dz_op h _).trans ?_
  show Except.bind ((Reader.u2 : Decoder Nat) code (pc + 1)) (fun x => (Except.ok (Instr.invokespecial (x.1), x.2) : Except DecodeError (Instr × Nat))) = _
  rw [dz_r2 h1 h2]
  rfl
set_option maxRecDepth 4000 in
theorem dz_d_invokestatic {code : ByteArray} {pc a b : Nat} (h : dz_b code pc 184) (h1 : dz_b code (pc + 1) a) (h2 : dz_b code (pc + 1 + 1) b) : Decoder.instr pc code pc = .ok (.invokestatic (a * 256 + b), pc + 3) := by
  unfold Decoder.instr
  refine (dz_op h _).trans ?_
  show Except.bind ((Reader.u2 : Decoder Nat) code (pc + 1)) (fun x => (Except.ok (Instr.invokestatic (x.1), x.2) : Except DecodeError (Instr × Nat))) = _
  rw [dz_r2 h1 h2]
  rfl
set_option maxRecDepth 4000 in
theorem dz_d_new {code : ByteArray} {pc a b : Nat} (h : dz_b code pc 187) (h1 : dz_b code (pc + 1) a) (h2 : dz_b code (pc + 1 + 1) b) : Decoder.instr pc code pc = .ok (.new (a * 256 + b), pc + 3) := by
  unfold Decoder.instr
  refine (dz_op h _).trans ?_
  show Except.bind ((Reader.u2 : Decoder Nat) code (pc + 1)) (fun x => (Except.ok (Instr.new (x.1), x.2) : Except DecodeError (Instr × Nat))) = _
  rw [dz_r2 h1 h2]
  rfl
set_option maxRecDepth 4000 in
theorem dz_d_anewarray {code : ByteArray} {pc a b : Nat} (h : dz_b code pc 189) (h1 : dz_b code (pc + 1) a) (h2 : dz_b code (pc + 1 + 1) b) : Decoder.instr pc code pc = .ok (.anewarray (a * 256 + b), pc + 3) := by
  unfold Decoder.instr
  refine (dz_op h _).trans ?_
  show Except.bind ((Reader.u2 : Decoder Nat) code (pc + 1)) (fun x => (Except.ok (Instr.anewarray (x.1), x.2) : Except DecodeError (Instr × Nat))) = _
  rw [dz_r2 h1 h2]
  rfl
set_option maxRecDepth 4000 in
theorem dz_d_checkcast {code : ByteArray} {pc a b : Nat} (h : dz_b code pc 192) (h1 : dz_b code (pc + 1) a) (h2 : dz_b code (pc + 1 + 1) b) : Decoder.instr pc code pc = .ok (.checkcast (a * 256 + b), pc + 3) := by
  unfold Decoder.instr
  refine (dz_op h _).trans ?_
  show Except.bind ((Reader.u2 : Decoder Nat) code (pc + 1)) (fun x => (Except.ok (Instr.checkcast (x.1), x.2) : Except DecodeError (Instr × Nat))) = _
  rw [dz_r2 h1 h2]
  rfl
theorem dz_zz {code : ByteArray} {pc o : Nat} {k : Int} {i : Instr} (q : dz_z2 o k ≠ []) (h : dz_bs code pc (dz_z2 o k)) (f : ∀ {a b : Nat}, dz_b code pc o → dz_b code (pc + 1) a → dz_b code (pc + 1 + 1) b → Reader.signed 16 (a * 256 + b) = k → Decoder.instr pc code pc = .ok (i, pc + 3)) : decode code pc = .ok (i, (dz_z2 o k).length) := by
  unfold dz_z2 at q h ⊢
  by_cases z : -32768 ≤ k ∧ k < 32768
  · rw [if_pos z] at h ⊢
    exact dz_de (f h.1 h.2.1 h.2.2.1 (dz_16s z))
  · rw [if_neg z] at q
    exact absurd rfl q
set_option maxRecDepth 4000 in
theorem dz_d_sipush {code : ByteArray} {pc a b : Nat} (h : dz_b code pc 17) (h1 : dz_b code (pc + 1) a) (h2 : dz_b code (pc + 1 + 1) b) : Decoder.instr pc code pc = .ok (.sipush (Reader.signed 16 (a * 256 + b)), pc + 3) := by
  unfold Decoder.instr
  refine (dz_op h _).trans ?_
  show Except.bind ((Reader.s2 : Decoder Int) code (pc + 1)) (fun x => (Except.ok (Instr.sipush (x.1), x.2) : Except DecodeError (Instr × Nat))) = _
  rw [dz_rs2 h1 h2]
  rfl
set_option maxRecDepth 4000 in
theorem dz_d_goto {code : ByteArray} {pc a b : Nat} (h : dz_b code pc 167) (h1 : dz_b code (pc + 1) a) (h2 : dz_b code (pc + 1 + 1) b) : Decoder.instr pc code pc = .ok (.goto (Reader.signed 16 (a * 256 + b)), pc + 3) := by
  unfold Decoder.instr
  refine (dz_op h _).trans ?_
  show Except.bind ((Reader.s2 : Decoder Int) code (pc + 1)) (fun x => (Except.ok (Instr.goto (x.1), x.2) : Except DecodeError (Instr × Nat))) = _
  rw [dz_rs2 h1 h2]
  rfl
set_option maxRecDepth 4000 in
theorem dz_d_ifnull {code : ByteArray} {pc a b : Nat} (h : dz_b code pc 198) (h1 : dz_b code (pc + 1) a) (h2 : dz_b code (pc + 1 + 1) b) : Decoder.instr pc code pc = .ok (.ifnull (Reader.signed 16 (a * 256 + b)), pc + 3) := by
  unfold Decoder.instr
  refine (dz_op h _).trans ?_
  show Except.bind ((Reader.s2 : Decoder Int) code (pc + 1)) (fun x => (Except.ok (Instr.ifnull (x.1), x.2) : Except DecodeError (Instr × Nat))) = _
  rw [dz_rs2 h1 h2]
  rfl
set_option maxRecDepth 4000 in
theorem dz_d_ifnonnull {code : ByteArray} {pc a b : Nat} (h : dz_b code pc 199) (h1 : dz_b code (pc + 1) a) (h2 : dz_b code (pc + 1 + 1) b) : Decoder.instr pc code pc = .ok (.ifnonnull (Reader.signed 16 (a * 256 + b)), pc + 3) := by
  unfold Decoder.instr
  refine (dz_op h _).trans ?_
  show Except.bind ((Reader.s2 : Decoder Int) code (pc + 1)) (fun x => (Except.ok (Instr.ifnonnull (x.1), x.2) : Except DecodeError (Instr × Nat))) = _
  rw [dz_rs2 h1 h2]
  rfl
set_option maxRecDepth 4000 in
theorem dz_d_ifCond_eq {code : ByteArray} {pc a b : Nat} (h : dz_b code pc 153) (h1 : dz_b code (pc + 1) a) (h2 : dz_b code (pc + 1 + 1) b) : Decoder.instr pc code pc = .ok (.ifCond .eq (Reader.signed 16 (a * 256 + b)), pc + 3) := by
  unfold Decoder.instr
  refine (dz_op h _).trans ?_
  show Except.bind ((Reader.s2 : Decoder Int) code (pc + 1)) (fun x => (Except.ok (Instr.ifCond .eq (x.1), x.2) : Except DecodeError (Instr × Nat))) = _
  rw [dz_rs2 h1 h2]
  rfl
set_option maxRecDepth 4000 in
theorem dz_d_ifCond_ne {code : ByteArray} {pc a b : Nat} (h : dz_b code pc 154) (h1 : dz_b code (pc + 1) a) (h2 : dz_b code (pc + 1 + 1) b) : Decoder.instr pc code pc = .ok (.ifCond .ne (Reader.signed 16 (a * 256 + b)), pc + 3) := by
  unfold Decoder.instr
  refine (dz_op h _).trans ?_
  show Except.bind ((Reader.s2 : Decoder Int) code (pc + 1)) (fun x => (Except.ok (Instr.ifCond .ne (x.1), x.2) : Except DecodeError (Instr × Nat))) = _
  rw [dz_rs2 h1 h2]
  rfl
set_option maxRecDepth 4000 in
theorem dz_d_ifCond_lt {code : ByteArray} {pc a b : Nat} (h : dz_b code pc 155) (h1 : dz_b code (pc + 1) a) (h2 : dz_b code (pc + 1 + 1) b) : Decoder.instr pc code pc = .ok (.ifCond .lt (Reader.signed 16 (a * 256 + b)), pc + 3) := by
  unfold Decoder.instr
  refine (dz_op h _).trans ?_
  show Except.bind ((Reader.s2 : Decoder Int) code (pc + 1)) (fun x => (Except.ok (Instr.ifCond .lt (x.1), x.2) : Except DecodeError (Instr × Nat))) = _
  rw [dz_rs2 h1 h2]
  rfl
set_option maxRecDepth 4000 in
theorem dz_d_ifCond_ge {code : ByteArray} {pc a b : Nat} (h : dz_b code pc 156) (h1 : dz_b code (pc + 1) a) (h2 : dz_b code (pc + 1 + 1) b) : Decoder.instr pc code pc = .ok (.ifCond .ge (Reader.signed 16 (a * 256 + b)), pc + 3) := by
  unfold Decoder.instr
  refine (dz_op h _).trans ?_
  show Except.bind ((Reader.s2 : Decoder Int) code (pc + 1)) (fun x => (Except.ok (Instr.ifCond .ge (x.1), x.2) : Except DecodeError (Instr × Nat))) = _
  rw [dz_rs2 h1 h2]
  rfl
set_option maxRecDepth 4000 in
theorem dz_d_ifCond_gt {code : ByteArray} {pc a b : Nat} (h : dz_b code pc 157) (h1 : dz_b code (pc + 1) a) (h2 : dz_b code (pc + 1 + 1) b) : Decoder.instr pc code pc = .ok (.ifCond .gt (Reader.signed 16 (a * 256 + b)), pc + 3) := by
  unfold Decoder.instr
  refine (dz_op h _).trans ?_
  show Except.bind ((Reader.s2 : Decoder Int) code (pc + 1)) (fun x => (Except.ok (Instr.ifCond .gt (x.1), x.2) : Except DecodeError (Instr × Nat))) = _
  rw [dz_rs2 h1 h2]
  rfl
set_option maxRecDepth 4000 in
theorem dz_d_ifCond_le {code : ByteArray} {pc a b : Nat} (h : dz_b code pc 158) (h1 : dz_b code (pc + 1) a) (h2 : dz_b code (pc + 1 + 1) b) : Decoder.instr pc code pc = .ok (.ifCond .le (Reader.signed 16 (a * 256 + b)), pc + 3) := by
  unfold Decoder.instr
  refine (dz_op h _).trans ?_
  show Except.bind ((Reader.s2 : Decoder Int) code (pc + 1)) (fun x => (Except.ok (Instr.ifCond .le (x.1), x.2) : Except DecodeError (Instr × Nat))) = _
  rw [dz_rs2 h1 h2]
  rfl
set_option maxRecDepth 4000 in
theorem dz_d_if_icmp_eq {code : ByteArray} {pc a b : Nat} (h : dz_b code pc 159) (h1 : dz_b code (pc + 1) a) (h2 : dz_b code (pc + 1 + 1) b) : Decoder.instr pc code pc = .ok (.if_icmp .eq (Reader.signed 16 (a * 256 + b)), pc + 3) := by
  unfold Decoder.instr
  refine (dz_op h _).trans ?_
  show Except.bind ((Reader.s2 : Decoder Int) code (pc + 1)) (fun x => (Except.ok (Instr.if_icmp .eq (x.1), x.2) : Except DecodeError (Instr × Nat))) = _
  rw [dz_rs2 h1 h2]
  rfl
set_option maxRecDepth 4000 in
theorem dz_d_if_icmp_ne {code : ByteArray} {pc a b : Nat} (h : dz_b code pc 160) (h1 : dz_b code (pc + 1) a) (h2 : dz_b code (pc + 1 + 1) b) : Decoder.instr pc code pc = .ok (.if_icmp .ne (Reader.signed 16 (a * 256 + b)), pc + 3) := by
  unfold Decoder.instr
  refine (dz_op h _).trans ?_
  show Except.bind ((Reader.s2 : Decoder Int) code (pc + 1)) (fun x => (Except.ok (Instr.if_icmp .ne (x.1), x.2) : Except DecodeError (Instr × Nat))) = _
  rw [dz_rs2 h1 h2]
  rfl
set_option maxRecDepth 4000 in
theorem dz_d_if_icmp_lt {code : ByteArray} {pc a b : Nat} (h : dz_b code pc 161) (h1 : dz_b code (pc + 1) a) (h2 : dz_b code (pc + 1 + 1) b) : Decoder.instr pc code pc = .ok (.if_icmp .lt (Reader.signed 16 (a * 256 + b)), pc + 3) := by
  unfold Decoder.instr
  refine (dz_op h _).trans ?_
  show Except.bind ((Reader.s2 : Decoder Int) code (pc + 1)) (fun x => (Except.ok (Instr.if_icmp .lt (x.1), x.2) : Except DecodeError (Instr × Nat))) = _
  rw [dz_rs2 h1 h2]
  rfl
set_option maxRecDepth 4000 in
theorem dz_d_if_icmp_ge {code : ByteArray} {pc a b : Nat} (h : dz_b code pc 162) (h1 : dz_b code (pc + 1) a) (h2 : dz_b code (pc + 1 + 1) b) : Decoder.instr pc code pc = .ok (.if_icmp .ge (Reader.signed 16 (a * 256 + b)), pc + 3) := by
  unfold Decoder.instr
  refine (dz_op h _).trans ?_
  show Except.bind ((Reader.s2 : Decoder Int) code (pc + 1)) (fun x => (Except.ok (Instr.if_icmp .ge (x.1), x.2) : Except DecodeError (Instr × Nat))) = _
  rw [dz_rs2 h1 h2]
  rfl
set_option maxRecDepth 4000 in
theorem dz_d_if_icmp_gt {code : ByteArray} {pc a b : Nat} (h : dz_b code pc 163) (h1 : dz_b code (pc + 1) a) (h2 : dz_b code (pc + 1 + 1) b) : Decoder.instr pc code pc = .ok (.if_icmp .gt (Reader.signed 16 (a * 256 + b)), pc + 3) := by
  unfold Decoder.instr
  refine (dz_op h _).trans ?_
  show Except.bind ((Reader.s2 : Decoder Int) code (pc + 1)) (fun x => (Except.ok (Instr.if_icmp .gt (x.1), x.2) : Except DecodeError (Instr × Nat))) = _
  rw [dz_rs2 h1 h2]
  rfl
set_option maxRecDepth 4000 in
theorem dz_d_if_icmp_le {code : ByteArray} {pc a b : Nat} (h : dz_b code pc 164) (h1 : dz_b code (pc + 1) a) (h2 : dz_b code (pc + 1 + 1) b) : Decoder.instr pc code pc = .ok (.if_icmp .le (Reader.signed 16 (a * 256 + b)), pc + 3) := by
  unfold Decoder.instr
  refine (dz_op h _).trans ?_
  show Except.bind ((Reader.s2 : Decoder Int) code (pc + 1)) (fun x => (Except.ok (Instr.if_icmp .le (x.1), x.2) : Except DecodeError (Instr × Nat))) = _
  rw [dz_rs2 h1 h2]
  rfl
set_option maxRecDepth 4000 in
theorem dz_d_bipush {code : ByteArray} {pc a : Nat} (h : dz_b code pc 16) (h1 : dz_b code (pc + 1) a) : Decoder.instr pc code pc = .ok (.bipush (Reader.signed 8 a), pc + 2) := by
  unfold Decoder.instr
  refine (dz_op h _).trans ?_
  show Except.bind ((Reader.s1 : Decoder Int) code (pc + 1)) (fun x => (Except.ok (Instr.bipush (x.1), x.2) : Except DecodeError (Instr × Nat))) = _
  rw [dz_rs1 h1]
  rfl
def dz_z1 (k : Int) : List Nat := if -128 ≤ k ∧ k < 128 then [16, dz_8 k] else []
theorem dz_dbipush {code : ByteArray} {pc : Nat} {k : Int} (q : dz_z1 k ≠ []) (h : dz_bs code pc (dz_z1 k)) : decode code pc = .ok (.bipush k, (dz_z1 k).length) := by
  unfold dz_z1 at q h ⊢
  by_cases z : -128 ≤ k ∧ k < 128
  · rw [if_pos z] at h ⊢
    exact dz_de ((dz_d_bipush h.1 h.2.1).trans (by rw [dz_8s z]; rfl))
  · rw [if_neg z] at q
    exact absurd rfl q
theorem dz_d_iinc {code : ByteArray} {pc a b : Nat} (h : dz_b code pc 132) (h1 : dz_b code (pc + 1) a) (h2 : dz_b code (pc + 1 + 1) b) : Decoder.instr pc code pc = .ok (.iinc a (Reader.signed 8 b), pc + 3) := by
  unfold Decoder.instr
  refine (dz_op h _).trans ?_
  show Except.bind ((Reader.u1 : Decoder Nat) code (pc + 1)) (fun x => Except.bind ((Reader.s1 : Decoder Int) code x.2) (fun y => (Except.ok (Instr.iinc x.1 y.1, y.2) : Except DecodeError (Instr × Nat)))) = _
  rw [dz_r1 h1]
  show Except.bind ((Reader.s1 : Decoder Int) code (pc + 1 + 1)) (fun y => (Except.ok (Instr.iinc a y.1, y.2) : Except DecodeError (Instr × Nat))) = _
  rw [dz_rs1 h2]
  rfl
def dz_zi (v : Nat) (k : Int) : List Nat := if -128 ≤ k ∧ k < 128 then [132, v, dz_8 k] else []
theorem dz_diinc {code : ByteArray} {pc v : Nat} {k : Int} (q : dz_zi v k ≠ []) (h : dz_bs code pc (dz_zi v k)) : decode code pc = .ok (.iinc v k, (dz_zi v k).length) := by
  unfold dz_zi at q h ⊢
  by_cases z : -128 ≤ k ∧ k < 128
  · rw [if_pos z] at h ⊢
    exact dz_de ((dz_d_iinc h.1 h.2.1 h.2.2.1).trans (by rw [dz_8s z]; rfl))
  · rw [if_neg z] at q
    exact absurd rfl q
set_option maxRecDepth 4000 in
theorem dz_d_newarray_boolean {code : ByteArray} {pc : Nat} (h : dz_b code pc 188) (h1 : dz_b code (pc + 1) 4) : Decoder.instr pc code pc = .ok (.newarray .boolean, pc + 2) := by
  unfold Decoder.instr
  refine (dz_op h _).trans ?_
  show (Decoder.newarray pc) code (pc + 1) = _
  unfold Decoder.newarray
  exact (dz_op h1 _).trans rfl
set_option maxRecDepth 4000 in
theorem dz_d_newarray_char {code : ByteArray} {pc : Nat} (h : dz_b code pc 188) (h1 : dz_b code (pc + 1) 5) : Decoder.instr pc code pc = .ok (.newarray .char, pc + 2) := by
  unfold Decoder.instr
  refine (dz_op h _).trans ?_
  show (Decoder.newarray pc) code (pc + 1) = _
  unfold Decoder.newarray
  exact (dz_op h1 _).trans rfl
set_option maxRecDepth 4000 in
theorem dz_d_newarray_byte {code : ByteArray} {pc : Nat} (h : dz_b code pc 188) (h1 : dz_b code (pc + 1) 8) : Decoder.instr pc code pc = .ok (.newarray .byte, pc + 2) := by
  unfold Decoder.instr
  refine (dz_op h _).trans ?_
  show (Decoder.newarray pc) code (pc + 1) = _
  unfold Decoder.newarray
  exact (dz_op h1 _).trans rfl
set_option maxRecDepth 4000 in
theorem dz_d_newarray_short {code : ByteArray} {pc : Nat} (h : dz_b code pc 188) (h1 : dz_b code (pc + 1) 9) : Decoder.instr pc code pc = .ok (.newarray .short, pc + 2) := by
  unfold Decoder.instr
  refine (dz_op h _).trans ?_
  show (Decoder.newarray pc) code (pc + 1) = _
  unfold Decoder.newarray
  exact (dz_op h1 _).trans rfl
set_option maxRecDepth 4000 in
theorem dz_d_newarray_int {code : ByteArray} {pc : Nat} (h : dz_b code pc 188) (h1 : dz_b code (pc + 1) 10) : Decoder.instr pc code pc = .ok (.newarray .int, pc + 2) := by
  unfold Decoder.instr
  refine (dz_op h _).trans ?_
  show (Decoder.newarray pc) code (pc + 1) = _
  unfold Decoder.newarray
  exact (dz_op h1 _).trans rfl
set_option maxRecDepth 4000 in
theorem dz_d_newarray_long {code : ByteArray} {pc : Nat} (h : dz_b code pc 188) (h1 : dz_b code (pc + 1) 11) : Decoder.instr pc code pc = .ok (.newarray .long, pc + 2) := by
  unfold Decoder.instr
  refine (dz_op h _).trans ?_
  show (Decoder.newarray pc) code (pc + 1) = _
  unfold Decoder.newarray
  exact (dz_op h1 _).trans rfl
def dz_i : Instr → List Nat
  | .aconst_null => [1]
  | .iaload => [46]
  | .laload => [47]
  | .aaload => [50]
  | .baload => [51]
  | .caload => [52]
  | .iastore => [79]
  | .lastore => [80]
  | .aastore => [83]
  | .bastore => [84]
  | .castore => [85]
  | .pop => [87]
  | .pop2 => [88]
  | .dup => [89]
  | .dup_x1 => [90]
  | .dup2 => [92]
  | .iadd => [96]
  | .ladd => [97]
  | .isub => [100]
  | .lsub => [101]
  | .imul => [104]
  | .lmul => [105]
  | .idiv => [108]
  | .ldiv => [109]
  | .irem => [112]
  | .lrem => [113]
  | .ineg => [116]
  | .lneg => [117]
  | .ishl => [120]
  | .lshl => [121]
  | .ishr => [122]
  | .lshr => [123]
  | .iushr => [124]
  | .lushr => [125]
  | .iand => [126]
  | .land => [127]
  | .ior => [128]
  | .lor => [129]
  | .ixor => [130]
  | .lxor => [131]
  | .i2l => [133]
  | .l2i => [136]
  | .i2b => [145]
  | .i2c => [146]
  | .lcmp => [148]
  | .ireturn => [172]
  | .lreturn => [173]
  | .areturn => [176]
  | .return_ => [177]
  | .arraylength => [190]
  | .athrow => [191]
  | .iload_n n => [26 + n.val]
  | .lload_n n => [30 + n.val]
  | .aload_n n => [42 + n.val]
  | .istore_n n => [59 + n.val]
  | .lstore_n n => [63 + n.val]
  | .astore_n n => [75 + n.val]
  | .iconst k => if -1 ≤ k ∧ k ≤ 5 then [(k + 3).toNat] else []
  | .lconst n => [9 + n.val]
  | .ldc k => [18, k]
  | .iload k => [21, k]
  | .lload k => [22, k]
  | .aload k => [25, k]
  | .istore k => [54, k]
  | .lstore k => [55, k]
  | .astore k => [58, k]
  | .ldc_w k => dz_2 19 k
  | .ldc2_w k => dz_2 20 k
  | .getstatic k => dz_2 178 k
  | .putstatic k => dz_2 179 k
  | .getfield k => dz_2 180 k
  | .putfield k => dz_2 181 k
  | .invokevirtual k => dz_2 182 k
  | .invokespecial k => dz_2 183 k
  | .invokestatic k => dz_2 184 k
  | .new k => dz_2 187 k
  | .anewarray k => dz_2 189 k
  | .checkcast k => dz_2 192 k
  | .sipush k => dz_z2 17 k
  | .goto k => dz_z2 167 k
  | .ifnull k => dz_z2 198 k
  | .ifnonnull k => dz_z2 199 k
  | .ifCond .eq k => dz_z2 153 k
  | .ifCond .ne k => dz_z2 154 k
  | .ifCond .lt k => dz_z2 155 k
  | .ifCond .ge k => dz_z2 156 k
  | .ifCond .gt k => dz_z2 157 k
  | .ifCond .le k => dz_z2 158 k
  | .if_icmp .eq k => dz_z2 159 k
  | .if_icmp .ne k => dz_z2 160 k
  | .if_icmp .lt k => dz_z2 161 k
  | .if_icmp .ge k => dz_z2 162 k
  | .if_icmp .gt k => dz_z2 163 k
  | .if_icmp .le k => dz_z2 164 k
  | .bipush k => dz_z1 k
  | .iinc v k => dz_zi v k
  | .newarray .boolean => [188, 4]
  | .newarray .char => [188, 5]
  | .newarray .byte => [188, 8]
  | .newarray .short => [188, 9]
  | .newarray .int => [188, 10]
  | .newarray .long => [188, 11]
  | _ => []
theorem dz_all {code : ByteArray} {pc : Nat} : ∀ i : Instr, dz_i i ≠ [] → dz_bs code pc (dz_i i) → decode code pc = .ok (i, (dz_i i).length)
  | .aconst_null, _, h => dz_de (dz_d_aconst_null h.1)
  | .iaload, _, h => dz_de (dz_d_iaload h.1)
  | .laload, _, h => dz_de (dz_d_laload h.1)
  | .aaload, _, h => dz_de (dz_d_aaload h.1)
  | .baload, _, h => dz_de (dz_d_baload h.1)
  | .caload, _, h => dz_de (dz_d_caload h.1)
  | .iastore, _, h => dz_de (dz_d_iastore h.1)
  | .lastore, _, h => dz_de (dz_d_lastore h.1)
  | .aastore, _, h => dz_de (dz_d_aastore h.1)
  | .bastore, _, h => dz_de (dz_d_bastore h.1)
  | .castore, _, h => dz_de (dz_d_castore h.1)
  | .pop, _, h => dz_de (dz_d_pop h.1)
  | .pop2, _, h => dz_de (dz_d_pop2 h.1)
  | .dup, _, h => dz_de (dz_d_dup h.1)
  | .dup_x1, _, h => dz_de (dz_d_dup_x1 h.1)
  | .dup2, _, h => dz_de (dz_d_dup2 h.1)
  | .iadd, _, h => dz_de (dz_d_iadd h.1)
  | .ladd, _, h => dz_de (dz_d_ladd h.1)
  | .isub, _, h => dz_de (dz_d_isub h.1)
  | .lsub, _, h => dz_de (dz_d_lsub h.1)
  | .imul, _, h => dz_de (dz_d_imul h.1)
  | .lmul, _, h => dz_de (dz_d_lmul h.1)
  | .idiv, _, h => dz_de (dz_d_idiv h.1)
  | .ldiv, _, h => dz_de (dz_d_ldiv h.1)
  | .irem, _, h => dz_de (dz_d_irem h.1)
  | .lrem, _, h => dz_de (dz_d_lrem h.1)
  | .ineg, _, h => dz_de (dz_d_ineg h.1)
  | .lneg, _, h => dz_de (dz_d_lneg h.1)
  | .ishl, _, h => dz_de (dz_d_ishl h.1)
  | .lshl, _, h => dz_de (dz_d_lshl h.1)
  | .ishr, _, h => dz_de (dz_d_ishr h.1)
  | .lshr, _, h => dz_de (dz_d_lshr h.1)
  | .iushr, _, h => dz_de (dz_d_iushr h.1)
  | .lushr, _, h => dz_de (dz_d_lushr h.1)
  | .iand, _, h => dz_de (dz_d_iand h.1)
  | .land, _, h => dz_de (dz_d_land h.1)
  | .ior, _, h => dz_de (dz_d_ior h.1)
  | .lor, _, h => dz_de (dz_d_lor h.1)
  | .ixor, _, h => dz_de (dz_d_ixor h.1)
  | .lxor, _, h => dz_de (dz_d_lxor h.1)
  | .i2l, _, h => dz_de (dz_d_i2l h.1)
  | .l2i, _, h => dz_de (dz_d_l2i h.1)
  | .i2b, _, h => dz_de (dz_d_i2b h.1)
  | .i2c, _, h => dz_de (dz_d_i2c h.1)
  | .lcmp, _, h => dz_de (dz_d_lcmp h.1)
  | .ireturn, _, h => dz_de (dz_d_ireturn h.1)
  | .lreturn, _, h => dz_de (dz_d_lreturn h.1)
  | .areturn, _, h => dz_de (dz_d_areturn h.1)
  | .return_, _, h => dz_de (dz_d_return_ h.1)
  | .arraylength, _, h => dz_de (dz_d_arraylength h.1)
  | .athrow, _, h => dz_de (dz_d_athrow h.1)
  | .iload_n 0, _, h => dz_de (dz_d_iload_n0 h.1)
  | .iload_n 1, _, h => dz_de (dz_d_iload_n1 h.1)
  | .iload_n 2, _, h => dz_de (dz_d_iload_n2 h.1)
  | .iload_n 3, _, h => dz_de (dz_d_iload_n3 h.1)
  | .lload_n 0, _, h => dz_de (dz_d_lload_n0 h.1)
  | .lload_n 1, _, h => dz_de (dz_d_lload_n1 h.1)
  | .lload_n 2, _, h => dz_de (dz_d_lload_n2 h.1)
  | .lload_n 3, _, h => dz_de (dz_d_lload_n3 h.1)
  | .aload_n 0, _, h => dz_de (dz_d_aload_n0 h.1)
  | .aload_n 1, _, h => dz_de (dz_d_aload_n1 h.1)
  | .aload_n 2, _, h => dz_de (dz_d_aload_n2 h.1)
  | .aload_n 3, _, h => dz_de (dz_d_aload_n3 h.1)
  | .istore_n 0, _, h => dz_de (dz_d_istore_n0 h.1)
  | .istore_n 1, _, h => dz_de (dz_d_istore_n1 h.1)
  | .istore_n 2, _, h => dz_de (dz_d_istore_n2 h.1)
  | .istore_n 3, _, h => dz_de (dz_d_istore_n3 h.1)
  | .lstore_n 0, _, h => dz_de (dz_d_lstore_n0 h.1)
  | .lstore_n 1, _, h => dz_de (dz_d_lstore_n1 h.1)
  | .lstore_n 2, _, h => dz_de (dz_d_lstore_n2 h.1)
  | .lstore_n 3, _, h => dz_de (dz_d_lstore_n3 h.1)
  | .astore_n 0, _, h => dz_de (dz_d_astore_n0 h.1)
  | .astore_n 1, _, h => dz_de (dz_d_astore_n1 h.1)
  | .astore_n 2, _, h => dz_de (dz_d_astore_n2 h.1)
  | .astore_n 3, _, h => dz_de (dz_d_astore_n3 h.1)
  | .iconst _, q, h => dz_diconst q h
  | .lconst 0, _, h => dz_de (dz_d_lconst0 h.1)
  | .lconst 1, _, h => dz_de (dz_d_lconst1 h.1)
  | .ldc _, _, h => dz_de (dz_d_ldc h.1 h.2.1)
  | .iload _, _, h => dz_de (dz_d_iload h.1 h.2.1)
  | .lload _, _, h => dz_de (dz_d_lload h.1 h.2.1)
  | .aload _, _, h => dz_de (dz_d_aload h.1 h.2.1)
  | .istore _, _, h => dz_de (dz_d_istore h.1 h.2.1)
  | .lstore _, _, h => dz_de (dz_d_lstore h.1 h.2.1)
  | .astore _, _, h => dz_de (dz_d_astore h.1 h.2.1)
  | .ldc_w k, _, h => by
    refine dz_de ((dz_d_ldc_w (a := k / 256) (b := k % 256) h.1 h.2.1 h.2.2.1).trans ?_)
    rw [Nat.div_add_mod']
    rfl
  | .ldc2_w k, _, h => by
    refine dz_de ((dz_d_ldc2_w (a := k / 256) (b := k % 256) h.1 h.2.1 h.2.2.1).trans ?_)
    rw [Nat.div_add_mod']
    rfl
  | .getstatic k, _, h => by
    refine dz_de ((dz_d_getstatic (a := k / 256) (b := k % 256) h.1 h.2.1 h.2.2.1).trans ?_)
    rw [Nat.div_add_mod']
    rfl
  | .putstatic k, _, h => by
    refine dz_de ((dz_d_putstatic (a := k / 256) (b := k % 256) h.1 h.2.1 h.2.2.1).trans ?_)
    rw [Nat.div_add_mod']
    rfl
  | .getfield k, _, h => by
    refine dz_de ((dz_d_getfield (a := k / 256) (b := k % 256) h.1 h.2.1 h.2.2.1).trans ?_)
    rw [Nat.div_add_mod']
    rfl
  | .putfield k, _, h => by
    refine dz_de ((dz_d_putfield (a := k / 256) (b := k % 256) h.1 h.2.1 h.2.2.1).trans ?_)
    rw [Nat.div_add_mod']
    rfl
  | .invokevirtual k, _, h => by
    refine dz_de ((dz_d_invokevirtual (a := k / 256) (b := k % 256) h.1 h.2.1 h.2.2.1).trans ?_)
    rw [Nat.div_add_mod']
    rfl
  | .invokespecial k, _, h => by
    refine dz_de ((dz_d_invokespecial (a := k / 256) (b := k % 256) h.1 h.2.1 h.2.2.1).trans ?_)
    rw [Nat.div_add_mod']
    rfl
  | .invokestatic k, _, h => by
    refine dz_de ((dz_d_invokestatic (a := k / 256) (b := k % 256) h.1 h.2.1 h.2.2.1).trans ?_)
    rw [Nat.div_add_mod']
    rfl
  | .new k, _, h => by
    refine dz_de ((dz_d_new (a := k / 256) (b := k % 256) h.1 h.2.1 h.2.2.1).trans ?_)
    rw [Nat.div_add_mod']
    rfl
  | .anewarray k, _, h => by
    refine dz_de ((dz_d_anewarray (a := k / 256) (b := k % 256) h.1 h.2.1 h.2.2.1).trans ?_)
    rw [Nat.div_add_mod']
    rfl
  | .checkcast k, _, h => by
    refine dz_de ((dz_d_checkcast (a := k / 256) (b := k % 256) h.1 h.2.1 h.2.2.1).trans ?_)
    rw [Nat.div_add_mod']
    rfl
  | .sipush _, q, h => dz_zz q h (fun a b c e => (dz_d_sipush a b c).trans (by rw [e]))
  | .goto _, q, h => dz_zz q h (fun a b c e => (dz_d_goto a b c).trans (by rw [e]))
  | .ifnull _, q, h => dz_zz q h (fun a b c e => (dz_d_ifnull a b c).trans (by rw [e]))
  | .ifnonnull _, q, h => dz_zz q h (fun a b c e => (dz_d_ifnonnull a b c).trans (by rw [e]))
  | .ifCond .eq _, q, h => dz_zz q h (fun a b c e => (dz_d_ifCond_eq a b c).trans (by rw [e]))
  | .ifCond .ne _, q, h => dz_zz q h (fun a b c e => (dz_d_ifCond_ne a b c).trans (by rw [e]))
  | .ifCond .lt _, q, h => dz_zz q h (fun a b c e => (dz_d_ifCond_lt a b c).trans (by rw [e]))
  | .ifCond .ge _, q, h => dz_zz q h (fun a b c e => (dz_d_ifCond_ge a b c).trans (by rw [e]))
  | .ifCond .gt _, q, h => dz_zz q h (fun a b c e => (dz_d_ifCond_gt a b c).trans (by rw [e]))
  | .ifCond .le _, q, h => dz_zz q h (fun a b c e => (dz_d_ifCond_le a b c).trans (by rw [e]))
  | .if_icmp .eq _, q, h => dz_zz q h (fun a b c e => (dz_d_if_icmp_eq a b c).trans (by rw [e]))
  | .if_icmp .ne _, q, h => dz_zz q h (fun a b c e => (dz_d_if_icmp_ne a b c).trans (by rw [e]))
  | .if_icmp .lt _, q, h => dz_zz q h (fun a b c e => (dz_d_if_icmp_lt a b c).trans (by rw [e]))
  | .if_icmp .ge _, q, h => dz_zz q h (fun a b c e => (dz_d_if_icmp_ge a b c).trans (by rw [e]))
  | .if_icmp .gt _, q, h => dz_zz q h (fun a b c e => (dz_d_if_icmp_gt a b c).trans (by rw [e]))
  | .if_icmp .le _, q, h => dz_zz q h (fun a b c e => (dz_d_if_icmp_le a b c).trans (by rw [e]))
  | .bipush _, q, h => dz_dbipush q h
  | .iinc _ _, q, h => dz_diinc q h
  | .newarray .boolean, _, h => dz_de (dz_d_newarray_boolean h.1 h.2.1)
  | .newarray .char, _, h => dz_de (dz_d_newarray_char h.1 h.2.1)
  | .newarray .byte, _, h => dz_de (dz_d_newarray_byte h.1 h.2.1)
  | .newarray .short, _, h => dz_de (dz_d_newarray_short h.1 h.2.1)
  | .newarray .int, _, h => dz_de (dz_d_newarray_int h.1 h.2.1)
  | .newarray .long, _, h => dz_de (dz_d_newarray_long h.1 h.2.1)
def dz_st : List Nat → List UInt8 → Option (List UInt8)
  | [], l => some l
  | _ :: _, [] => none
  | a :: r, b :: l => if a = b.toNat then dz_st r l else none
def dz_ck : List (Nat × Instr × Nat) → Nat → List UInt8 → Bool
  | [], _, _ => true
  | q :: r, pc, l => match dz_i q.2.1 with
    | [] => false
    | a :: t => match dz_st (a :: t) l with
      | none => false
      | some k => (q.1 == pc && q.2.2 == (a :: t).length) && dz_ck r (pc + (a :: t).length) k
def dz_Seg (code : ByteArray) : List (Nat × Instr × Nat) → Prop
  | [] => True
  | q :: r => decode code q.1 = .ok (q.2.1, q.2.2) ∧ dz_Seg code r
theorem dz_drop {code : ByteArray} {pc : Nat} {b : UInt8} {l : List UInt8} (h : code.data.toList.drop pc = b :: l) : dz_b code pc b.toNat ∧ code.data.toList.drop (pc + 1) = l := by
  by_cases z : pc < code.data.toList.length
  · rw [List.drop_eq_getElem_cons z] at h
    injection h with h1 h2
    refine ⟨⟨z, ?_⟩, h2⟩
    rw [← h1]
    rfl
  · rw [List.drop_of_length_le (by omega)] at h
    exact absurd h (by simp)
theorem dz_strip {code : ByteArray} : ∀ {t : List Nat} {pc : Nat} {l k : List UInt8}, code.data.toList.drop pc = l → dz_st t l = some k → dz_bs code pc t ∧ code.data.toList.drop (pc + t.length) = k
  | [], pc, l, k, h, e => by
    injection e with e
    exact ⟨trivial, by rw [← e]; exact h⟩
  | a :: r, pc, [], k, h, e => by
    exact absurd e (by simp [dz_st])
  | a :: r, pc, b :: l, k, h, e => by
    unfold dz_st at e
    by_cases z : a = b.toNat
    · rw [if_pos z] at e
      obtain ⟨h1, h2⟩ := dz_drop h
      obtain ⟨h3, h4⟩ := dz_strip h2 e
      refine ⟨⟨by rw [z]; exact h1, h3⟩, ?_⟩
      rw [← h4]
      show List.drop (pc + (r.length + 1)) _ = _
      rw [show pc + (r.length + 1) = pc + 1 + r.length by omega]
    · rw [if_neg z] at e
      exact absurd e (by simp)
theorem dz_seg {code : ByteArray} : ∀ (q : List (Nat × Instr × Nat)) (pc : Nat) (l : List UInt8), code.data.toList.drop pc = l → dz_ck q pc l = true → dz_Seg code q
  | [], _, _, _, _ => trivial
  | q :: r, pc, l, h, e => by
    unfold dz_ck at e
    split at e
    · exact absurd e (by simp)
    · rename_i a t et
      split at e
      · exact absurd e (by simp)
      · rename_i k ek
        simp only [Bool.and_eq_true, beq_iff_eq] at e
        obtain ⟨⟨e1, e2⟩, e3⟩ := e
        obtain ⟨h1, h2⟩ := dz_strip h ek
        refine ⟨?_, dz_seg r _ k h2 e3⟩
        rw [e1, e2, ← et]
        exact dz_all q.2.1 (by rw [et]; simp) (by rw [et]; exact h1)
theorem dz_sg {code : ByteArray} (q : List (Nat × Instr × Nat)) (pc : Nat) (h : dz_ck q pc (code.data.toList.drop pc) = true) : dz_Seg code q := dz_seg q pc _ rfl h
