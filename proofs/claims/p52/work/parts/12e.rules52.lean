/-! p52: rows of the machine for byte[] (kind 2), Strings and StringBuilders -/
/-- the byte at place k of the text t, as an array of bytes holds it -/
def zby (t : List Nat) (k : Nat) : Int32 := nI (t.getD k 0)
/-- the reference v is an array of n bytes whose letters are t, 0 behind -/
def zBz (G : zG) (S : zS) (v n : Nat) (t : List Nat) : Prop := (∃ i, i < zLit.length ∧ v = 1000000 + zVa G i ∧ n = zLen.getD i 0 ∧ ∀ k, k < n → (zByt.getD i []).getD k 0 = zby t k) ∨ (v < 1000000 ∧ S.1[v]? = some (2, n, []) ∧ ∀ k, k < n → S.2.1 v k = zby t k)
/-- k bytes of t laid into the row P from dp on -/
def zct (M : Nat → Nat → Int32) (P dp k : Nat) (t : List Nat) : Nat → Nat → Int32 := fun a j => if a = P ∧ dp ≤ j ∧ j < dp + k then zby t (j - dp) else M a j
theorem zct_row {M : Nat → Nat → Int32} {P dp k a : Nat} {t : List Nat} (h : a ≠ P) : zct M P dp k t a = M a := by
  funext j
  exact if_neg (fun q => h q.1)
section Z52
variable {p : Program} {l : Launch} {e : Env} {R : Room} {s : State} {m : MethodId} {args : Array Value} {below : List Frame} {meth : Method} {c : Code} {G : zG} {b : Nat} {Q : State → Prop} {nc ns : Nat}
variable {cc : ByteArray} {pc nL idx : Nat} {own : String} {ls : List (Option Value)} {st : List Value} {S : zS}
theorem a_dup_x1 (X : zOK p s m args meth c G b own cc nL) {v w : Value} (hc : v.category = 1) (hc2 : w.category = 1) (hd : decode cc pc = .ok (.dup_x1, 1)) (kk : Zw p l e R s m args below meth c G b nL Q nc ns (pc + 1) ls (v :: w :: v :: st) S) : Zw p l e R s m args below meth c G b nL Q nc ns pc ls (v :: w :: st) S :=
  fun H locs la hH hS hL => lv_dup_x1 X.1 X.2.1 hd (by rw [zv_cat]; exact hc) (by rw [zv_cat]; exact hc2) (kk H locs la hH hS hL)
theorem a_i2b (X : zOK p s m args meth c G b own cc nL) {x : Int32} (hd : decode cc pc = .ok (.i2b, 1)) (kk : Zw p l e R s m args below meth c G b nL Q nc ns (pc + 1) ls (.int x.toInt8.toInt32 :: st) S) : Zw p l e R s m args below meth c G b nL Q nc ns pc ls (.int x :: st) S :=
  fun H locs la hH hS hL => lv_i2b X.1 X.2.1 hd rfl (kk H locs la hH hS hL)
/-- a reference is stored: the new cell k -/
theorem a_putR (X : zOK p s m args meth c G b own cc nL) {ci k P z : Nat} {ty : FieldType} {fs : List (Nat × Nat)} (hz : z < 1000000) (hf : zFl own idx ci k ty false) (hty : ∀ a, narrow ty (.ref a) = .ref a ∧ fits ty (.ref a) = true) (hq : S.1[P]? = some (0, ci, fs)) (hk : k < fs.length) (hd : decode cc pc = .ok (.putfield idx, 3)) (kk : Zw p l e R s m args below meth c G b nL Q nc ns (pc + 3) ls st (S.1.set P (0, ci, fs.set k (2, z)), S.2)) : Zw p l e R s m args below meth c G b nL Q nc ns pc ls (.ref z :: .ref P :: st) S := by
  have hv : zv b (.ref z) = .ref (b + z) := zv_ref hz
  refine a_putv (fs' := fs.set k (2, z)) (S' := (S.1.set P (0, ci, fs.set k (2, z)), S.2)) X hf hq hk (by rw [hv]; exact (hty _).1) (by rw [hv]; exact (hty _).2) rfl (fun a ha => ⟨rfl, rfl⟩) ?_ hd kk
  rw [hv]
  refine zmap_set (g := zF b S P) (k := k) (v := .ref (b + z)) (fs := fs) List.length_set (fun f h => ?_) (fun j hj => ⟨List.getElem?_set_ne (Ne.symm hj), fun f => rfl⟩)
  rw [List.getElem?_set_self hk] at h
  cases h
  rfl
/-- a far reference is stored -/
theorem a_putF (X : zOK p s m args meth c G b own cc nL) {ci k P z : Nat} {ty : FieldType} {fs : List (Nat × Nat)} (hf : zFl own idx ci k ty false) (hty : ∀ a, narrow ty (.ref a) = .ref a ∧ fits ty (.ref a) = true) (hq : S.1[P]? = some (0, ci, fs)) (hk : k < fs.length) (hd : decode cc pc = .ok (.putfield idx, 3)) (kk : Zw p l e R s m args below meth c G b nL Q nc ns (pc + 3) ls st (S.1.set P (0, ci, fs.set k (4, z)), S.2)) : Zw p l e R s m args below meth c G b nL Q nc ns pc ls (.ref (1000000 + z) :: .ref P :: st) S := by
  have hv : zv b (.ref (1000000 + z)) = .ref z := zv_far
  refine a_putv (fs' := fs.set k (4, z)) (S' := (S.1.set P (0, ci, fs.set k (4, z)), S.2)) X hf hq hk (by rw [hv]; exact (hty _).1) (by rw [hv]; exact (hty _).2) rfl (fun a ha => ⟨rfl, rfl⟩) ?_ hd kk
  rw [hv]
  refine zmap_set (g := zF b S P) (k := k) (v := .ref z) (fs := fs) List.length_set (fun f h => ?_) (fun j hj => ⟨List.getElem?_set_ne (Ne.symm hj), fun f => rfl⟩)
  rw [List.getElem?_set_self hk] at h
  cases h
  rfl
theorem a_getF (X : zOK p s m args meth c G b own cc nL) {ci k P z : Nat} {ty : FieldType} {fin : Bool} {fs : List (Nat × Nat)} (hf : zFl own idx ci k ty fin) (hq : S.1[P]? = some (0, ci, fs)) (hk : fs[k]? = some (4, z)) (hd : decode cc pc = .ok (.getfield idx, 3)) (kk : Zw p l e R s m args below meth c G b nL Q nc ns (pc + 3) ls (.ref (1000000 + z) :: st) S) : Zw p l e R s m args below meth c G b nL Q nc ns pc ls (.ref P :: st) S := a_getv X hf hq hk zv_far.symm hd kk
/-- a whole number of another type is stored -/
theorem a_putn (X : zOK p s m args meth c G b own cc nL) {ci k P z : Nat} {ty : FieldType} {fs : List (Nat × Nat)} {x : Int32} (hx : narrow ty (.int x) = .int x ∧ fits ty (.int x) = true) (hf : zFl own idx ci k ty false) (hq : S.1[P]? = some (0, ci, fs)) (hk : fs[k]? = some (0, z)) (hd : decode cc pc = .ok (.putfield idx, 3)) (kk : Zw p l e R s m args below meth c G b nL Q nc ns (pc + 3) ls st (S.1, zu S.2.1 P k x, S.2.2)) : Zw p l e R s m args below meth c G b nL Q nc ns pc ls (.int x :: .ref P :: st) S := by
  refine a_putv (S' := (S.1, zu S.2.1 P k x, S.2.2)) X hf hq (List.getElem?_eq_some_iff.mp hk).1 hx.1 hx.2 (zset_self hq) (fun a ha => ⟨zu_row ha, rfl⟩) (zmap_set rfl (fun f h => ?_) (fun j hj => ⟨rfl, fun f => ?_⟩)) hd kk
  · rw [hk] at h
    cases h
    show Value.int (zu S.2.1 P k x P k) = .int x
    unfold zu
    rw [if_pos ⟨rfl, rfl⟩]
  · unfold zF
    show (match f.1 with | 0 => Value.int (zu S.2.1 P k x P j) | 1 => _ | 2 => _ | 4 => _ | _ => _) = _
    rw [show zu S.2.1 P k x P j = S.2.1 P j from if_neg (fun q => hj q.2)]
    rfl
/-- a final whole number, in the class's own constructor -/
theorem a_putnF (X : zOK p s m args meth c G b own cc nL) {ci k P z : Nat} {ty : FieldType} {fs : List (Nat × Nat)} {x : Int32} (hname : meth.name = "<init>") (hx : narrow ty (.int x) = .int x ∧ fits ty (.int x) = true) (hf : zFf own idx ci k ty) (hq : S.1[P]? = some (0, ci, fs)) (hk : fs[k]? = some (0, z)) (hd : decode cc pc = .ok (.putfield idx, 3)) (kk : Zw p l e R s m args below meth c G b nL Q nc ns (pc + 3) ls st (S.1, zu S.2.1 P k x, S.2.2)) : Zw p l e R s m args below meth c G b nL Q nc ns pc ls (.int x :: .ref P :: st) S := by
  intro H locs la hH hS hL
  obtain ⟨T, N, t0, ⟨hc, hin, hty, hnm⟩, hkN, hlink, ht0, hfin, hC⟩ := hf
  have hlt := zH_lt hH hq
  have hkl : k < fs.length := (List.getElem?_eq_some_iff.mp hk).1
  show W p l e R s m args below meth c H locs nc ns Q (F0 m pc la (.int x :: zv b (.ref P) :: st.map (zv b)))
  rw [zv_ref hlt]
  have hK := X.2.2.2.2.2.1
  have hts := X.2.2.2.2.1
  have hap := va_apart (own := own) hts hin t0 hty hnm hK hc
  obtain ⟨r, h1, cell, q1, q2, q3, q4⟩ := hH.2.2 P _ (zW_get hq)
  have hr : r = (own, T, N) := Option.some.inj (h1.symm.trans hc)
  subst hr
  obtain ⟨hSl, hfc, kC, hkC, hkind⟩ := hK.1 ci _ hc
  obtain ⟨cf, kf, fi, f, hi, hsl⟩ := hSl k hkN
  have hlay := hts _ (hin _ (u_in_lay hkN))
  unfold u_lay at hlay
  rw [if_pos hfin] at hlay
  have hst := (u_facts hfc hkC (u_lays hts hin hkN) hi).1
  have hcf : m.cls = cf := by
    obtain ⟨_, _, c', _, _, _, -, -, hf', -, -, -, hown2, -⟩ := Cond.laysFinal_spec hlay
    have e1 : c' = cf := by have := hi.symm.trans hf'; simp at this; exact this.1.symm
    rw [hC] at hown2
    rw [← e1]
    exact Option.some.inj (X.2.2.2.1.symm.trans hown2)
  have h6 := u_fits hfc hkC hkind (Or.inr hlay) hi (hty k hkN) (by rw [ht0]; exact hx.1) (by rw [ht0]; exact hx.2)
  refine W.putFinK X.1 X.2.1 X.2.2.2.1 (hts _ hlink) hi hst hcf hname (by rw [q2]; exact h6) q1 q3 (by rw [hsl]; exact k2_hasslot (q4 k hkN)) rfl rfl hd fun H' e1 e2 e3 => ?_
  rw [hsl] at e1 ⊢
  refine kk H' _ la (zH_set (S' := (S.1, zu S.2.1 P k x, S.2.2)) hH e2 (hH.2.2.set (zD G b S) (zW_get hq) (e := .inr (ci, (fs.mapIdx (zF b S P)).set k (.int x))) ⟨_, hc, t_OB.to (V := updV (vp_V (fs.mapIdx (zF b S P))) k (.int x)) ⟨_, e1, q2, q3, t_set q4 hap hkN (.int x)⟩ (fun j _ => vp_updV_set (by rw [List.length_mapIdx]; exact hkl) (.int x) j)⟩ e3) hq (zset_self hq) (fun a ha => ⟨zu_row ha, rfl⟩) ?_) (hS.put e2 e3 (Nat.le_add_right b P)) hL
  show Sum.inr (ci, fs.mapIdx (zF b (S.1, zu S.2.1 P k x, S.2.2) P)) = Sum.inr (ci, _)
  refine congrArg (fun x => Sum.inr (ci, x)) (zmap_set (g := zF b S P) rfl (fun f h => ?_) (fun j hj => ⟨rfl, fun f => ?_⟩))
  · rw [hk] at h
    cases h
    show Value.int (zu S.2.1 P k x P k) = .int x
    unfold zu
    rw [if_pos ⟨rfl, rfl⟩]
  · unfold zF
    show (match f.1 with | 0 => Value.int (zu S.2.1 P k x P j) | 1 => _ | 2 => _ | 4 => _ | _ => _) = _
    rw [show zu S.2.1 P k x P j = S.2.1 P j from if_neg (fun q => hj q.2)]
    rfl
/-- the digits' tables -/
theorem a_ones (X : zOK p s m args meth c G b own cc nL) (hw : Cond.fieldLink own idx "java/lang/Integer" "DigitOnes" "[B" ∈ zT) (hd : decode cc pc = .ok (.getstatic idx, 3)) (kk : Zw p l e R s m args below meth c G b nL Q nc ns (pc + 3) ls (.ref (1000000 + G.2 310) :: st) S) : Zw p l e R s m args below meth c G b nL Q nc ns pc ls st S := by
  intro H locs la hH hS hL
  have k := kk H locs la hH hS hL
  rw [List.map_cons, zv_far] at k
  exact va_gets X.1 X.2.1 X.2.2.2.2.2.2.1.2.2.2.2.1 hS X.2.2.2.1 (X.2.2.2.2.1 _ hw) (fun _ h => h) hd k
theorem a_tens (X : zOK p s m args meth c G b own cc nL) (hw : Cond.fieldLink own idx "java/lang/Integer" "DigitTens" "[B" ∈ zT) (hd : decode cc pc = .ok (.getstatic idx, 3)) (kk : Zw p l e R s m args below meth c G b nL Q nc ns (pc + 3) ls (.ref (1000000 + G.2 311) :: st) S) : Zw p l e R s m args below meth c G b nL Q nc ns pc ls st S := by
  intro H locs la hH hS hL
  have k := kk H locs la hH hS hL
  rw [List.map_cons, zv_far] at k
  exact va_gets X.1 X.2.1 X.2.2.2.2.2.2.1.2.2.2.2.2.1 hS X.2.2.2.1 (X.2.2.2.2.1 _ hw) (fun _ h => h) hd k
theorem a_onesld (X : zOK p s m args meth c G b own cc nL) {j : Nat} (hj : j < 100) (hd : decode cc pc = .ok (.baload, 1)) (kk : Zw p l e R s m args below meth c G b nL Q nc ns (pc + 1) ls (.int (nI (48 + j % 10)) :: st) S) : Zw p l e R s m args below meth c G b nL Q nc ns pc ls (.int (nI j) :: .ref (1000000 + G.2 310) :: st) S := by
  intro H locs la hH hS hL
  have k := kk H locs la hH hS hL
  rw [List.map_cons, List.map_cons, zv_far]
  exact va_tb X.1 X.2.1 X.2.2.2.2.2.2.1.2.2.2.2.2.2.1 hS (vp_in_nI hj (by decide)) (by rw [nI_clamp (by omega)]; rfl) hd k
theorem a_tensld (X : zOK p s m args meth c G b own cc nL) {j : Nat} (hj : j < 100) (hd : decode cc pc = .ok (.baload, 1)) (kk : Zw p l e R s m args below meth c G b nL Q nc ns (pc + 1) ls (.int (nI (48 + j / 10)) :: st) S) : Zw p l e R s m args below meth c G b nL Q nc ns pc ls (.int (nI j) :: .ref (1000000 + G.2 311) :: st) S := by
  intro H locs la hH hS hL
  have k := kk H locs la hH hS hL
  rw [List.map_cons, List.map_cons, zv_far]
  exact va_tb X.1 X.2.1 X.2.2.2.2.2.2.1.2.2.2.2.2.2.2.1 hS (vp_in_nI hj (by decide)) (by rw [nI_clamp (by omega)]; rfl) hd k
/-- the caller's choices -/
theorem a_clen (X : zOK p s m args meth c G b own cc nL) (hd : decode cc pc = .ok (.arraylength, 1)) (kk : Zw p l e R s m args below meth c G b nL Q nc ns (pc + 1) ls (.int (nI (G.2 301)) :: st) S) : Zw p l e R s m args below meth c G b nL Q nc ns pc ls (.ref (1000000 + G.2 300) :: st) S := by
  intro H locs la hH hS hL
  have k := kk H locs la hH hS hL
  rw [List.map_cons, zv_far]
  exact va_tlen X.1 X.2.1 X.2.2.2.2.2.2.1.2.2.2.2.2.2.2.2.1 hS rfl hd k
theorem a_cld (X : zOK p s m args meth c G b own cc nL) {i : Int32} (hin : vp_in i (G.2 301)) (hd : decode cc pc = .ok (.iaload, 1)) (kk : Zw p l e R s m args below meth c G b nL Q nc ns (pc + 1) ls (.int (Int32.ofNat (G.2 (1000 + i.toNatClampNeg))) :: st) S) : Zw p l e R s m args below meth c G b nL Q nc ns pc ls (.int i :: .ref (1000000 + G.2 300) :: st) S := by
  intro H locs la hH hS hL
  have k := kk H locs la hH hS hL
  rw [List.map_cons, List.map_cons, zv_far]
  exact va_ti X.1 X.2.1 X.2.2.2.2.2.2.1.2.2.2.2.2.2.2.2.1 hS hin rfl hd k
theorem zOK.clen (X : zOK p s m args meth c G b own cc nL) : G.2 301 ≤ 260 := X.2.2.2.2.2.2.1.2.2.2.2.2.2.2.2.2
/-- what a byte array's cell is, at the machine -/
theorem zBz.cell (X : zOK p s m args meth c G b own cc nL) {H : Heap} {locs : List Loc} {v n : Nat} {t : List Nat} (h : zBz G S v n t) (hH : zH G b S H) (hS : va_S (fun q : Nat => b ≤ q) s.heap H locs) : ∃ (a : Nat) (cell : Cell), zv b (.ref v) = .ref a ∧ H[a]? = some cell ∧ s.isArrayOf cell .byte ∧ cell.vm ≠ .unknown ∧ n ≤ cell.slots.size ∧ cell.slots.size.toInt32 = Int32.ofNat n ∧ ∀ j : Nat, j < n → cell.slots[j]? = some (.int (zby t j)) := by
  rcases h with ⟨i, hi, rfl, rfl, hb⟩ | ⟨hv, hq, hb⟩
  · obtain ⟨cell, h1, h2, h3, h4, h5, h6, h7⟩ := (X.2.2.2.2.2.2.1.2.2.1.1.1 i hi).2.2.2
    exact ⟨_, cell, zv_far, by rw [hS.2.1 _ (Array.getElem?_eq_some_iff.mp h1).1 h7]; exact h1, h2, h3, h4, h5, fun j hj => (h6 j hj).trans (congrArg (fun z => some (Value.int z)) (hb j hj))⟩
  · refine ⟨b + v, vp_cell (G.2 2) (n, .inl (S.2.1 v)), zv_ref hv, hH.2.2 v _ (zW_get hq), (X.2.2.2.2.2.1.2 1 _ rfl).1 n (fun j => .int (S.2.1 v j)), (fun q => by cases q), ?_, ?_, fun j hj => ?_⟩
    · show n ≤ (arrV _ _ _).slots.size
      rw [arrV_size]
      exact Nat.le_refl n
    · show (arrV _ _ _).slots.size.toInt32 = _
      rw [arrV_size]
    · show (arrV _ _ _).slots[j]? = _
      rw [arrV_read _ _ hj, hb j hj]
theorem a_tlen (X : zOK p s m args meth c G b own cc nL) {v n : Nat} {t : List Nat} (hv : zBz G S v n t) (hd : decode cc pc = .ok (.arraylength, 1)) (kk : Zw p l e R s m args below meth c G b nL Q nc ns (pc + 1) ls (.int (nI n) :: st) S) : Zw p l e R s m args below meth c G b nL Q nc ns pc ls (.ref v :: st) S := by
  intro H locs la hH hS hL
  obtain ⟨a, cell, ea, h1, h2, h3, h4, h5, h6⟩ := hv.cell X hH hS
  rw [List.map_cons, ea]
  exact W.alen (n := nI n) X.1 X.2.1 h1 h2 h5 rfl rfl hd (kk H locs la hH hS hL)
theorem a_tld (X : zOK p s m args meth c G b own cc nL) {v n j : Nat} {t : List Nat} (hv : zBz G S v n t) (hj : j < n) (hn : n < 2 ^ 31) (hd : decode cc pc = .ok (.baload, 1)) (kk : Zw p l e R s m args below meth c G b nL Q nc ns (pc + 1) ls (.int (zby t j) :: st) S) : Zw p l e R s m args below meth c G b nL Q nc ns pc ls (.int (nI j) :: .ref v :: st) S := by
  intro H locs la hH hS hL
  obtain ⟨a, cell, ea, h1, h2, h3, h4, h5, h6⟩ := hv.cell X hH hS
  rw [List.map_cons, List.map_cons, ea]
  have hin : ¬ (nI j < 0 ∨ cell.slots.size ≤ (nI j).toNatClampNeg) := by
    rw [nI_clamp (by omega)]
    intro q
    rcases q with q | q
    · exact nI_pos (by omega) q
    · omega
  exact W.bald (v := .int (zby t j)) X.1 X.2.1 h1 h2 h3 hin (by rw [nI_clamp (by omega)]; exact h6 j hj) rfl rfl hd (kk H locs la hH hS hL)
/-- System.arraycopy of the first k bytes of a text into a byte array -/
theorem a_copyT (X : zOK p s m args meth c G b own cc nL) {v n P n1 dp k : Nat} {t : List Nat} {f1 : List (Nat × Nat)} (hlink : Cond.methodLink own idx arraycopyName ∈ zT) (hv : zBz G S v n t) (ht : ∀ x, x ∈ t → x < 128) (hq : S.1[P]? = some (2, n1, f1)) (hk : k ≤ n ∧ dp + k ≤ n1 ∧ n < 2 ^ 31 ∧ n1 < 2 ^ 31) (hroom : 1 ≤ R.frames ∧ (st.map fun v => v.category).sum + 18 ≤ R.locals)
    (hd : decode cc pc = .ok (.invokestatic idx, 3)) (kk : Zw p l e R s m args below meth c G b nL Q nc ns (pc + 3) ls st (S.1, zct S.2.1 P dp k t, S.2.2)) : Zw p l e R s m args below meth c G b nL Q nc ns pc ls (.int (nI k) :: .int (nI dp) :: .ref P :: .int 0 :: .ref v :: st) S := by
  intro H locs la hH hS hL
  obtain ⟨a, cs, ea, h1, h2, h3, h4, h5, h6⟩ := hv.cell X hH hS
  obtain ⟨k1, k2, k3, k4⟩ := hk
  have hlt := zH_lt hH hq
  show W p l e R s m args below meth c H locs nc ns Q (F0 m pc la (.int (nI k) :: .int (nI dp) :: zv b (.ref P) :: .int 0 :: zv b (.ref v) :: st.map (zv b)))
  rw [zv_ref hlt, ea]
  have hc1 : H[b + P]? = some (vp_cell (G.2 2) (n1, .inl (S.2.1 P))) := hH.2.2 P _ (zW_get hq)
  obtain ⟨hso, c0, hc0, cm0, hck0⟩ := h2
  obtain ⟨-, d1, hd1, dm1, hdk1⟩ := (X.2.2.2.2.2.1.2 1 _ rfl).1 n1 (fun j => .int (S.2.1 P j))
  have hz : ((nI k).toNatClampNeg, (nI dp).toNatClampNeg, (0 : Int32).toNatClampNeg) = (k, dp, 0) := by rw [nI_clamp (by omega), nI_clamp (by omega)]; rfl
  have z1 : (nI k).toNatClampNeg = k := nI_clamp (by omega)
  have z2 : (nI dp).toNatClampNeg = dp := nI_clamp (by omega)
  have z3 : (0 : Int32).toNatClampNeg = 0 := rfl
  have hts := X.2.2.2.2.1
  have hfit : ∀ j, fits .byte (.int (zby t j)) = true := fun j => by
    unfold zby
    have hb : t.getD j 0 < 128 := by
      rw [List.getD_eq_getElem?_getD]
      cases hx : t[j]? with
      | none => exact Nat.zero_lt_succ _
      | some x => exact ht x (List.mem_of_getElem? hx)
    generalize t.getD j 0 = x at hb
    revert x
    decide +kernel
  intro T hT Y
  obtain ⟨vm', X', step⟩ := Y.arraycopy X.1 X.2.2.2.1 (hts _ hlink) (hts _ zcopy1) (hts _ zcopy2) (hts _ zcopy3) (src := a) (dst := b + P) (cs := cs) (cd := vp_cell (G.2 2) (n1, .inl (S.2.1 P))) (srcPos := 0) (destPos := nI dp) (n := nI k) (by rw [hT]; exact h1) (by rw [hT]; exact hc1)
    hso (fun _ h => by cases h) h3 (fun h => by cases h) hc0 hd1 hck0 hdk1 (by simp [refKind]) (by decide) (nI_pos (by omega)) (nI_pos (by omega))
    (by rw [nI_toInt (by omega)]; have e0 : (0 : Int32).toInt = 0 := by decide
        rw [e0]; omega)
    (by rw [nI_toInt (by omega), nI_toInt (by omega)]; show ¬ _ > ((arrV (G.2 2) n1 (fun j => .int (S.2.1 P j))).slots.size : Int); rw [arrV_size]; omega)
    (fun vm₁ _ i hi => by
      rw [z1] at hi
      have e1 : cs.slots.getD ((0 : Int32).toNatClampNeg + i) .null = .int (zby t i) := by
        rw [z3, Nat.zero_add, Array.getD_eq_getD_getElem?, h6 i (by omega)]
        rfl
      rw [e1]
      exact ⟨hfit i, trivial⟩)
    (g := F0 m pc la (.int (nI k) :: .int (nI dp) :: .ref (b + P) :: .int 0 :: .ref a :: st.map (zv b))) rfl (by rw [X.2.2.1]; exact hL.1) (rest := st.map (zv b)) rfl (by rw [X.2.1]; exact hd) hroom.1 (by rw [z_sum]; show 2 * 0 + _ + (7 + 11) ≤ _; omega)
  have e1 : copied cs (vp_cell (G.2 2) (n1, .inl (S.2.1 P))) 0 (nI dp) (nI k) = vp_cell (G.2 2) (n1, .inl (zct S.2.1 P dp k t P)) := by
    have := va_copiedX (fun z => Value.int z) cs (G.2 2) (n0 := n) (n1 := n1) (sp := 0) (dp := dp) (n := k) (zby t) (S.2.1 P) h6 (by omega)
    show (arrV (G.2 2) n1 (fun j => Value.int (S.2.1 P j))).storeRun (nI dp).toNatClampNeg (cs.stretch (0 : Int32).toNatClampNeg (nI k).toNatClampNeg) = _
    rw [z1, z2, z3, this, vp_cell_i]
    congr 1
    funext j
    unfold va_cpy zct
    by_cases h : dp ≤ j ∧ j < dp + k
    · rw [if_pos h, if_pos ⟨rfl, h⟩, Nat.zero_add]
    · rw [if_neg h, if_neg (fun q => h q.2)]
  rw [e1] at X' step
  have hl : b + P < H.size := (Array.getElem?_eq_some_iff.mp hc1).1
  have oq : ∀ q : Nat, q ≠ b + P → (H.setIfInBounds (b + P) (vp_cell (G.2 2) (n1, .inl (zct S.2.1 P dp k t P))))[q]? = H[q]? := fun q hq => by simp [Array.getElem?_setIfInBounds, Ne.symm hq]
  have hheap : ((T.setVm vm').setCell (b + P) (vp_cell (G.2 2) (n1, .inl (zct S.2.1 P dp k t P)))).heap = H.setIfInBounds (b + P) (vp_cell (G.2 2) (n1, .inl (zct S.2.1 P dp k t P))) := by rw [← hT]; rfl
  have hz1 : (H.setIfInBounds (b + P) (vp_cell (G.2 2) (n1, .inl (zct S.2.1 P dp k t P)))).size = H.size := by simp
  obtain ⟨t2, a1, b1⟩ := kk _ _ la (zH_set (S' := (S.1, zct S.2.1 P dp k t, S.2.2)) (e := .inl (G.2 2, n1, .inl (zct S.2.1 P dp k t P))) hH hz1 (hH.2.2.set (zD G b S) (zW_get hq) (show (H.setIfInBounds (b + P) _)[b + P]? = some _ by simp [Array.getElem?_setIfInBounds, hl]) oq) hq (zset_self hq) (fun x hx => ⟨zct_row hx, rfl⟩) rfl) ⟨by rw [hz1]; exact hS.1, fun q g1 g2 => by
      rw [oq q (fun e => g2 (by rw [e]; exact Nat.le_add_right b P))]
      exact hS.2.1 q g1 g2, fun q hq => by
      rcases List.mem_append.mp hq with h | h
      · exact hS.2.2 q h
      · obtain ⟨z, -, hz⟩ := List.mem_map.mp h
        rw [← hz]
        exact Nat.le_add_right b P⟩ hL _ hheap X'
  exact ⟨t2, step t2 a1, b1⟩
/-- a byte array is cloned: the new cell -/
theorem a_clone (X : zOK p s m args meth c G b own cc nL) {P n : Nat} {t : List Nat} (hown7 : own = RJ7) (hidx : idx = 310) (hq : S.1[P]? = some (2, n, [])) (hb : ∀ k, k < n → S.2.1 P k = zby t k) (ht : ∀ x, x ∈ t → x < 128) (hl : S.1.length + 1 < 1000000) (hroom : 1 ≤ R.frames ∧ (st.map fun v => v.category).sum + 14 ≤ R.locals ∧ nc + 1 ≤ R.cells ∧ ns + n ≤ R.slots)
    (hd : decode cc pc = .ok (.invokevirtual idx, 3)) (kk : Zw p l e R s m args below meth c G b nL Q (nc + 1) (ns + n) (pc + 3) ls (.ref S.1.length :: st) (S.1 ++ [(2, n, [])], (fun a j => if a = S.1.length then S.2.1 P j else S.2.1 a j), zn S.2.2 S.1.length 0)) : Zw p l e R s m args below meth c G b nL Q nc ns pc ls (.ref P :: st) S := by
  intro H locs la hH hS hL
  subst hown7
  subst hidx
  have hlt := zH_lt hH hq
  have hts := X.2.2.2.2.1
  rw [List.map_cons, zv_ref hlt]
  have hcell : H[b + P]? = some (vp_cell (G.2 2) (n, .inl (S.2.1 P))) := hH.2.2 P _ (zW_get hq)
  have hnm : s.vm.findClass "[B" = some (G.2 2) := va_nm_byte (X.2.2.2.2.2.1.2 1 _ rfl).2
  obtain ⟨c0, t0', f1, f2, f3⟩ := Cond.castable_spec (va_Nw.use (A := args) rfl X.2.2.2.2.2.2.1.2.2.2.1)
  cases hnm.symm.trans f1
  have hsz : (vp_cell (G.2 2) (n, .inl (S.2.1 P))).slots.size = n := arrV_size _ _ _
  have hE : ({ cls := (vp_cell (G.2 2) (n, .inl (S.2.1 P))).cls, slots := (vp_cell (G.2 2) (n, .inl (S.2.1 P))).slots } : Cell) = vp_cell (G.2 2) (n, .inl (S.2.1 P)) := rfl
  intro T hT Y
  obtain ⟨-, kA, hkA, comp, hkind⟩ := State.isArrayOf_alike Y.warmed.alike ((X.2.2.2.2.2.1.2 1 _ rfl).1 0 (fun _ => .null))
  obtain ⟨-, kS, hkS, compS, hkindS⟩ := (X.2.2.2.2.2.1.2 1 _ rfl).1 0 (fun _ => .null)
  obtain ⟨vm', X', st'⟩ := Y.cloneArray X.1 X.2.2.2.1 (hts _ zclone1) (hts _ zclone2) (hts _ zclone3) (hts _ zclone4) (hts _ zclone5) (a := b + P) (cell := vp_cell (G.2 2) (n, .inl (S.2.1 P))) (by rw [hT]; exact hcell) (fun k h => by cases h) (fun h => by cases h) hnm f2 f3
    (fun i v hv => by
      have hk' : T.vm.classes[G.2 2]? = some kA := hkA
      have hi : i < n := by
        have := (Array.getElem?_eq_some_iff.mp hv).1
        rw [hsz] at this
        exact this
      have e1 : (vp_cell (G.2 2) (n, .inl (S.2.1 P))).slots[i]? = some (.int (zby t i)) := by
        show (arrV _ _ _).slots[i]? = _
        rw [arrV_read _ _ hi, hb i hi]
      rw [e1] at hv
      cases hv
      have hfit : fits .byte (.int (zby t i)) = true := by
        unfold zby
        have hb2 : t.getD i 0 < 128 := by
          rw [List.getD_eq_getElem?_getD]
          cases hx : t[i]? with
          | none => exact Nat.zero_lt_succ _
          | some x => exact ht x (List.mem_of_getElem? hx)
        generalize t.getD i 0 = x at hb2
        revert x
        decide +kernel
      rw [show (vp_cell (G.2 2) (n, .inl (S.2.1 P))).cls = G.2 2 from rfl]
      simpa [State.fitsSlot, State.slotType?, hk', hkind] using hfit)
    (g := F0 m pc la (.ref (b + P) :: st.map (zv b))) rfl (by rw [X.2.2.1]; exact hL.1) rfl (by rw [X.2.1]; exact hd) hroom.1 (by rw [z_sum]; show 2 * 0 + _ + 14 ≤ _; omega) hroom.2.2.1 (by rw [hsz]; exact hroom.2.2.2) (hloader := Vm.clonesLoader_of_array hkS hkindS)
  rw [hE, hsz] at X'
  generalize hH1 : H.push (vp_cell (G.2 2) (n, .inl (S.2.1 P))) = H1
  have z1 : H1.size = H.size + 1 := by rw [← hH1, Array.size_push]
  have e1 : H1[H.size]? = some (vp_cell (G.2 2) (n, .inl (S.2.1 P))) := by rw [← hH1, Array.getElem?_push_size]
  have o1 : ∀ q : Nat, q < H.size → H1[q]? = H[q]? := fun q hq => by rw [← hH1, Array.getElem?_push, if_neg (Nat.ne_of_lt hq)]
  have hH2 : zH G b (S.1 ++ [(2, n, [])], (fun a j => if a = S.1.length then S.2.1 P j else S.2.1 a j), zn S.2.2 S.1.length 0) H1 := by
    refine ⟨?_, ?_, ?_⟩
    · show _ = b + (S.1 ++ [(2, n, [])]).length
      rw [List.length_append, List.length_singleton, z1, hH.1]
      omega
    · show (S.1 ++ [(2, n, [])]).length < _
      rw [List.length_append, List.length_singleton]
      exact hl
    · intro k x hx
      have hk := (zW_inv hx).2
      have hk2 : k < S.1.length + 1 := by
        have : (S.1 ++ [(2, n, ([] : List (Nat × Nat)))]).length = S.1.length + 1 := by rw [List.length_append, List.length_singleton]
        rw [← this]
        exact hk
      by_cases hks : k < S.1.length
      · have h1 : (S.1 ++ [(2, n, ([] : List (Nat × Nat)))])[k]? = some S.1[k] := by rw [List.getElem?_append_left hks, List.getElem?_eq_getElem hks]
        have h2 : S.1[k]? = some S.1[k] := List.getElem?_eq_getElem hks
        rw [zW_get h1] at hx
        cases hx
        have h3 := hH.2.2 k _ (zW_get h2)
        have h4 := h3.kept (o1 (b + k) (by rw [hH.1]; omega))
        have eM : (fun j => if k = S.1.length then S.2.1 P j else S.2.1 k j) = S.2.1 k := by funext j; rw [if_neg (by omega)]
        have eN : zn S.2.2 S.1.length 0 k = S.2.2 k := zn_row (by omega)
        generalize S.1[k] = r at h4
        obtain ⟨r1, r2, r3⟩ := r
        have hF : zF b (S.1 ++ [(2, n, [])], (fun a j => if a = S.1.length then S.2.1 P j else S.2.1 a j), zn S.2.2 S.1.length 0) k = zF b S k := by
          funext j f
          unfold zF
          show (match f.1 with | 0 => Value.int ((fun j => if k = S.1.length then S.2.1 P j else S.2.1 k j) j) | 1 => Value.long (zn S.2.2 S.1.length 0 k j) | 2 => _ | 4 => _ | _ => _) = _
          rw [eM, eN]
          rfl
        have hG : zE1 G b (S.1 ++ [(2, n, [])], (fun a j => if a = S.1.length then S.2.1 P j else S.2.1 a j), zn S.2.2 S.1.length 0) k (r1, r2, r3) = zE1 G b S k (r1, r2, r3) := by
          unfold zE1
          rw [hF]
          show (match r1 with | 0 => _ | 1 => Sum.inl (G.2 1, r2, Sum.inl (fun j => if k = S.1.length then S.2.1 P j else S.2.1 k j)) | 2 => Sum.inl (G.2 2, r2, Sum.inl (fun j => if k = S.1.length then S.2.1 P j else S.2.1 k j)) | 3 => Sum.inl (G.2 3, r2, Sum.inr (Sum.inl (zn S.2.2 S.1.length 0 k))) | _ => _) = _
          rw [eM, eN]
          rfl
        rw [hG]
        exact h4
      · have hke : k = S.1.length := by omega
        subst hke
        have h1 : (S.1 ++ [(2, n, ([] : List (Nat × Nat)))])[S.1.length]? = some (2, n, []) := by simp
        rw [zW_get h1] at hx
        cases hx
        show H1[b + S.1.length]? = some (vp_cell (G.2 2) (n, .inl (fun j => if S.1.length = S.1.length then S.2.1 P j else S.2.1 S.1.length j)))
        have eP : (fun j => if S.1.length = S.1.length then S.2.1 P j else S.2.1 S.1.length j) = S.2.1 P := by funext j; exact if_pos rfl
        rw [eP, ← hH.1]
        exact e1
  obtain ⟨t2, b1, b2⟩ := kk H1 locs la hH2 ⟨Nat.le_trans hS.1 (by omega), fun y h1 h2 => (o1 y (Nat.lt_of_lt_of_le h1 hS.1)).trans (hS.2.1 y h1 h2), hS.2.2⟩ hL ((T.setVm vm').pushCell (vp_cell (G.2 2) (n, .inl (S.2.1 P)))) (by rw [← hH1, ← hT]; rfl) X'
  refine ⟨t2, st' t2 ?_, b2⟩
  rw [hE, hT]
  rw [List.map_cons, zv_ref (by omega), ← hH.1] at b1
  exact b1
theorem a_castB (X : zOK p s m args meth c G b own cc nL) {P n : Nat} {fs : List (Nat × Nat)} (hlink : Cond.classLink own idx "[B" ∈ zT) (hq : S.1[P]? = some (2, n, fs)) (hd : decode cc pc = .ok (.checkcast idx, 3)) (kk : Zw p l e R s m args below meth c G b nL Q nc ns (pc + 3) ls (.ref P :: st) S) : Zw p l e R s m args below meth c G b nL Q nc ns pc ls (.ref P :: st) S := by
  intro H locs la hH hS hL
  have hlt := zH_lt hH hq
  have k := kk H locs la hH hS hL
  rw [List.map_cons, zv_ref hlt] at k ⊢
  exact va_castA X.1 X.2.1 X.2.2.2.1 (X.2.2.2.2.1 _ hlink) hH.2.2 P (zW_get hq) (va_nm_byte (X.2.2.2.2.2.1.2 1 _ rfl).2) hd k
end Z52
