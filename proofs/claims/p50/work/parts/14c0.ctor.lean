/-! constructors: the world grows at its end: pre ++ Y, Y the new object's own cells so far -/
def zz (a : Nat) (M : Nat → Nat → Int32) (N : Nat → Nat → Int64) : Prop := ∀ k : Nat, a ≤ k → ∀ j : Nat, M k j = 0 ∧ N k j = 0
theorem zz.up {a a2 : Nat} {M : Nat → Nat → Int32} {N : Nat → Nat → Int64} (h : zz a M N) (ha : a ≤ a2) : zz a2 M N := fun k hk => h k (Nat.le_trans ha hk)
theorem zz.zuM {a P k : Nat} {v : Int32} {M : Nat → Nat → Int32} {N : Nat → Nat → Int64} (h : zz a M N) (ha : P < a) : zz a (zu M P k v) N := fun q hq j => ⟨by rw [zu_row (show q ≠ P by omega)]; exact (h q hq j).1, (h q hq j).2⟩
theorem zS1_z {L : List zC} {M : Nat → Nat → Int32} {N : Nat → Nat → Int64} {q : zC} (h : zz L.length M N) : zS1 (L, M, N) q = (L ++ [q], M, N) := by
  have h1 : zn M L.length 0 = M := by
    funext a j
    unfold zn
    by_cases ha : a = L.length
    · rw [if_pos ha, ha, (h L.length (Nat.le_refl _) j).1]
    · rw [if_neg ha]
  have h2 : zn N L.length 0 = N := by
    funext a j
    unfold zn
    by_cases ha : a = L.length
    · rw [if_pos ha, ha, (h L.length (Nat.le_refl _) j).2]
    · rw [if_neg ha]
  show (L ++ [q], zn M L.length 0, zn N L.length 0) = _
  rw [h1, h2]
section ZB
variable {p : Program} {l : Launch} {e : Env} {R : Room} {s : State} {m : MethodId} {args : Array Value} {below : List Frame} {meth : Method} {c : Code} {G : zG} {b : Nat} {Q : State → Prop} {nc ns : Nat}
variable {cc : ByteArray} {pc nL : Nat} {own : String} {ls : List (Option Value)} {st : List Value} {pre Y Y' : List zC} {P : Nat} {M : Nat → Nat → Int32} {N : Nat → Nat → Int64}
theorem b_newarray (X : zOK p s m args meth c G b own cc nL) {at_ : ArrayType} {kd n : Nat} {x : Int32} (k : Nat) (hP : pre.length = P) (hk : Y.length = k) (hp : P + k + 2 < 1000000) (hz : zz (P + k) M N) (hY : Y ++ [(kd, n, [])] = Y') (hkd : (kd = 1 ∧ newarray.typeOf at_ = .int) ∨ (kd = 2 ∧ newarray.typeOf at_ = .boolean) ∨ (kd = 3 ∧ newarray.typeOf at_ = .long)) (hw : Cond.arrayClass (newarray.typeOf at_) ∈ zT) (hx : ¬ x < 0 ∧ x.toNatClampNeg = n ∧ n ≤ 1000) (hroom : nc + 1 ≤ R.cells ∧ ns + n ≤ R.slots) (hd : decode cc pc = .ok (.newarray at_, 2))
    (kk : Zw p l e R s m args below meth c G b nL Q (nc + 1) (ns + n) (pc + 2) ls (.ref (P + k) :: st) (pre ++ Y', M, N)) : Zw p l e R s m args below meth c G b nL Q nc ns pc ls (.int x :: st) (pre ++ Y, M, N) := by
  have hl : (pre ++ Y).length = P + k := by rw [List.length_append, hP, hk]
  refine a_newarray X hkd hw hx (by show (pre ++ Y).length + 1 < _; omega) hroom hd ?_
  show Zw p l e R s m args below meth c G b nL Q (nc + 1) (ns + n) (pc + 2) ls (.ref (pre ++ Y).length :: st) (zS1 (pre ++ Y, M, N) (kd, n, []))
  rw [zS1_z (by rw [hl]; exact hz), hl, List.append_assoc, hY]
  exact kk
theorem b_anewarray (X : zOK p s m args meth c G b own cc nL) {idx n : Nat} {x : Int32} (k : Nat) (hP : pre.length = P) (hk : Y.length = k) (hp : P + k + 2 < 1000000) (hz : zz (P + k) M N) (hY : Y ++ [(4, n, List.replicate n kq3)] = Y') (hlink : Cond.classLink own idx RX4 ∈ zT) (hx : ¬ x < 0 ∧ x.toNatClampNeg = n ∧ n ≤ 1000) (hroom : nc + 1 ≤ R.cells ∧ ns + n ≤ R.slots) (hd : decode cc pc = .ok (.anewarray idx, 3))
    (kk : Zw p l e R s m args below meth c G b nL Q (nc + 1) (ns + n) (pc + 3) ls (.ref (P + k) :: st) (pre ++ Y', M, N)) : Zw p l e R s m args below meth c G b nL Q nc ns pc ls (.int x :: st) (pre ++ Y, M, N) := by
  have hl : (pre ++ Y).length = P + k := by rw [List.length_append, hP, hk]
  refine a_anewarray X hlink hx (by show (pre ++ Y).length + 1 < _; omega) hroom hd ?_
  show Zw p l e R s m args below meth c G b nL Q (nc + 1) (ns + n) (pc + 3) ls (.ref (pre ++ Y).length :: st) (zS1 (pre ++ Y, M, N) (4, n, List.replicate n kq3))
  rw [zS1_z (by rw [hl]; exact hz), hl, List.append_assoc, hY]
  exact kk
theorem b_new (X : zOK p s m args meth c G b own cc nL) {idx ci n : Nat} {C : String} {T : u_T} {t0 : Nat → FieldType} (k : Nat) (fs : List (Nat × Nat)) (hP : pre.length = P) (hk : Y.length = k) (hp : P + k + 2 < 1000000) (hz : zz (P + k) M N) (hC : zCl ci C T n t0) (hlink : Cond.classLink own idx C ∈ zT) (hinst : Cond.instantiable C n ∈ zT) (hini : Cond.initialized C ∈ zT)
    (hfs : fs.length = n ∧ (∀ f ∈ fs, f.1 ≠ 2) ∧ ∀ j, j < n → defaultValue (t0 j) = zdv (fs.getD j kq3)) (hroom : nc + 1 ≤ R.cells ∧ ns + n ≤ R.slots) (hd : decode cc pc = .ok (.new idx, 3))
    (kk : Zw p l e R s m args below meth c G b nL Q (nc + 1) (ns + n) (pc + 3) ls (.ref (P + k) :: st) ((pre ++ Y) ++ [(0, ci, fs)], M, N)) : Zw p l e R s m args below meth c G b nL Q nc ns pc ls st (pre ++ Y, M, N) := by
  have hl : (pre ++ Y).length = P + k := by rw [List.length_append, hP, hk]
  refine a_new X fs hC hlink hinst hini hfs (by show (pre ++ Y).length + 1 < _; omega) hroom hd ?_
  show Zw p l e R s m args below meth c G b nL Q (nc + 1) (ns + n) (pc + 3) ls (.ref (pre ++ Y).length :: st) (zS1 (pre ++ Y, M, N) (0, ci, fs))
  rw [zS1_z (by rw [hl]; exact hz), hl]
  exact kk
theorem b_putr (X : zOK p s m args meth c G b own cc nL) (hP : pre.length = P) {idx ci k z : Nat} {ty : FieldType} {fs : List (Nat × Nat)} (hname : meth.name = "<init>") (hf : zFf own idx ci k ty) (hty2 : ∀ a, narrow ty (.ref a) = .ref a ∧ fits ty (.ref a) = true) (hz : z < 1000000) (hq : Y[0]? = some (0, ci, fs)) (hk : k < fs.length) (hY : Y.set 0 (0, ci, fs.set k (2, z)) = Y') (hd : decode cc pc = .ok (.putfield idx, 3))
    (kk : Zw p l e R s m args below meth c G b nL Q nc ns (pc + 3) ls st (pre ++ Y', M, N)) : Zw p l e R s m args below meth c G b nL Q nc ns pc ls (.ref z :: .ref P :: st) (pre ++ Y, M, N) := by
  subst hP
  refine a_putr X (P := pre.length) hname hz hf hty2 (fs := fs) ?_ hk hd ?_
  · show (pre ++ Y)[pre.length]? = _
    rw [List.getElem?_append_right (Nat.le_refl _), Nat.sub_self]
    exact hq
  · show Zw p l e R s m args below meth c G b nL Q nc ns (pc + 3) ls st ((pre ++ Y).set pre.length (0, ci, fs.set k (2, z)), M, N)
    rw [List.set_append_right _ _ (Nat.le_refl _), Nat.sub_self, hY]
    exact kk
theorem b_obj {k ci : Nat} {fs : List (Nat × Nat)} (hP : pre.length = P) (hk : Y.length = k) : ((pre ++ Y) ++ [(0, ci, fs)])[P + k]? = some (0, ci, fs) := by
  have hl : (pre ++ Y).length = P + k := by rw [List.length_append, hP, hk]
  rw [← hl]
  simp
theorem b_invI (X : zOK p s m args meth c G b own cc nL) {idx d mc ms ci nM : Nat} {y : MethodName} {cy : ByteArray} {blk : Nat → List zC} {fs : List (Nat × Nat)} {T : u_T} {N' : Nat} {M' : Nat → Nat → Int32} {N2 : Nat → Nat → Int64} (k : Nat) (hP : pre.length = P) (hk : Y.length = k) (hd : decode cc pc = .ok (.invokespecial idx, 3)) (hM : zMi y cy nM none 0) (hLk : zLi own idx y) (hci : vwCl[ci]? = some (y.cls, T, N'))
    (hZ : zM l G b y cy nM none d mc ms [.ref (P + k)] ((pre ++ Y) ++ [(0, ci, fs)], M, N) (fun r z => r = none ∧ z = ((pre ++ Y) ++ blk (P + k), M', N2))) (hY : Y ++ blk (P + k) = Y') (hw : (st.map fun v => v.category).sum ≤ 8) (hroom : d + 1 ≤ R.frames ∧ 8 + (nM + 11) + 80 * d ≤ R.locals ∧ nc + mc ≤ R.cells ∧ ns + ms ≤ R.slots)
    (kk : Zw p l e R s m args below meth c G b nL Q (nc + mc) (ns + ms) (pc + 3) ls st (pre ++ Y', M', N2)) : Zw p l e R s m args below meth c G b nL Q nc ns pc ls (.ref (P + k) :: st) ((pre ++ Y) ++ [(0, ci, fs)], M, N) := by
  refine a_invI X hM hLk (b_obj hP hk) hci rfl rfl hw hroom hd hZ (fun r z h => ?_)
  obtain ⟨rfl, rfl⟩ := h
  rw [List.append_assoc, hY]
  exact kk
theorem b_invIN (X : zOK p s m args meth c G b own cc nL) {idx d mc ms ci nM : Nat} {y : MethodName} {cy : ByteArray} {blk : Nat → List zC} {fs : List (Nat × Nat)} {T : u_T} {N' : Nat} {M' : Nat → Nat → Int32} {N2 : Nat → Nat → Int64} (k : Nat) (hP : pre.length = P) (hk : Y.length = k) (hd : decode cc pc = .ok (.invokespecial idx, 3)) (hM : zMi y cy nM none 0) (hLk : zLin own idx y) (hci : vwCl[ci]? = some (y.cls, T, N'))
    (hZ : zM l G b y cy nM none d mc ms [.ref (P + k)] ((pre ++ Y) ++ [(0, ci, fs)], M, N) (fun r z => r = none ∧ z = ((pre ++ Y) ++ blk (P + k), M', N2))) (hY : Y ++ blk (P + k) = Y') (hw : (st.map fun v => v.category).sum ≤ 8) (hroom : d + 1 ≤ R.frames ∧ 8 + (nM + 11) + 80 * d ≤ R.locals ∧ nc + mc ≤ R.cells ∧ ns + ms ≤ R.slots)
    (kk : Zw p l e R s m args below meth c G b nL Q (nc + mc) (ns + ms) (pc + 3) ls st (pre ++ Y', M', N2)) : Zw p l e R s m args below meth c G b nL Q nc ns pc ls (.ref (P + k) :: st) ((pre ++ Y) ++ [(0, ci, fs)], M, N) := by
  refine a_invIN X hM hLk (b_obj hP hk) hci rfl rfl hw hroom hd hZ (fun r z h => ?_)
  obtain ⟨rfl, rfl⟩ := h
  rw [List.append_assoc, hY]
  exact kk
end ZB

def blk4 (P : Nat) : List zC := [kd0 P, kc1_5, kc1_10, kc1_10, kc1_10, kc1_10, kc1_30, kc1_10]
set_option maxRecDepth 100000 in
theorem k_X4 {l : Launch} {G : zG} {b : Nat} {pre : List zC} {P : Nat} {M : Nat → Nat → Int32} {N : Nat → Nat → Int64} (hP : pre.length = P) (hp : P + 100 < 1000000) (hz : zz (P + 1) M N) : zM l G b yX4_init cX4_init 1 none 1 7 85 [.ref P] (pre ++ [kd1], M, N) (fun r z => r = none ∧ z = (pre ++ blk4 P, M, N)) := by
  refine zM.of miX4_init (Nat.le_of_ble_eq_true rfl) ?_
  intro p e s m args below meth c X hr hname
  generalize hF : ((fun r z => r = none ∧ z = (pre ++ blk4 P, M, N)) : Option Value → zS → Prop) = F
  change Zw p l e { frames := 1, cells := 7, slots := 85, locals := 80 * 1 } s m args below meth c G b 1 (MQ below (zQ G b F) args s 7 85 (fun q : Nat => b ≤ q)) 0 0 0 [some (.ref P)] [] (pre ++ [kd1], M, N)
  refine a_aload_n X dX4_init_0 rfl ?_
  refine a_objinit X lm4_3 (by decide) dX4_init_1 ?_
  refine a_aload_n X dX4_init_4 rfl ?_
  refine a_iconst (v := 5) X dX4_init_5 (by decide) ?_
  refine b_newarray (at_ := .int) (Y' := [kd1, kc1_5]) X 1 hP rfl (by omega) ((hz).up (by omega)) rfl (Or.inl ⟨rfl, rfl⟩) zarrI ⟨by decide, rfl, by decide⟩ ⟨by decide, by decide⟩ dX4_init_6 ?_
  refine b_putr (Y' := [kd2 P, kc1_5]) X hP hname lff4_9 (fun _ => ⟨rfl, rfl⟩) (by omega) rfl (Nat.le_of_ble_eq_true rfl) rfl dX4_init_8 ?_
  refine a_aload_n X dX4_init_11 rfl ?_
  refine a_bipush (v := 10) X dX4_init_12 (by decide) ?_
  refine b_newarray (at_ := .int) (Y' := [kd2 P, kc1_5, kc1_10]) X 2 hP rfl (by omega) ((hz).up (by omega)) rfl (Or.inl ⟨rfl, rfl⟩) zarrI ⟨by decide, rfl, by decide⟩ ⟨by decide, by decide⟩ dX4_init_14 ?_
  refine b_putr (Y' := [kd3 P, kc1_5, kc1_10]) X hP hname lff4_15 (fun _ => ⟨rfl, rfl⟩) (by omega) rfl (Nat.le_of_ble_eq_true rfl) rfl dX4_init_16 ?_
  refine a_aload_n X dX4_init_19 rfl ?_
  refine a_bipush (v := 10) X dX4_init_20 (by decide) ?_
  refine b_newarray (at_ := .int) (Y' := [kd3 P, kc1_5, kc1_10, kc1_10]) X 3 hP rfl (by omega) ((hz).up (by omega)) rfl (Or.inl ⟨rfl, rfl⟩) zarrI ⟨by decide, rfl, by decide⟩ ⟨by decide, by decide⟩ dX4_init_22 ?_
  refine b_putr (Y' := [kd4 P, kc1_5, kc1_10, kc1_10]) X hP hname lff4_18 (fun _ => ⟨rfl, rfl⟩) (by omega) rfl (Nat.le_of_ble_eq_true rfl) rfl dX4_init_24 ?_
  refine a_aload_n X dX4_init_27 rfl ?_
  refine a_bipush (v := 10) X dX4_init_28 (by decide) ?_
  refine b_newarray (at_ := .int) (Y' := [kd4 P, kc1_5, kc1_10, kc1_10, kc1_10]) X 4 hP rfl (by omega) ((hz).up (by omega)) rfl (Or.inl ⟨rfl, rfl⟩) zarrI ⟨by decide, rfl, by decide⟩ ⟨by decide, by decide⟩ dX4_init_30 ?_
  refine b_putr (Y' := [kd5 P, kc1_5, kc1_10, kc1_10, kc1_10]) X hP hname lff4_21 (fun _ => ⟨rfl, rfl⟩) (by omega) rfl (Nat.le_of_ble_eq_true rfl) rfl dX4_init_32 ?_
  refine a_aload_n X dX4_init_35 rfl ?_
  refine a_bipush (v := 10) X dX4_init_36 (by decide) ?_
  refine b_newarray (at_ := .int) (Y' := [kd5 P, kc1_5, kc1_10, kc1_10, kc1_10, kc1_10]) X 5 hP rfl (by omega) ((hz).up (by omega)) rfl (Or.inl ⟨rfl, rfl⟩) zarrI ⟨by decide, rfl, by decide⟩ ⟨by decide, by decide⟩ dX4_init_38 ?_
  refine b_putr (Y' := [kd6 P, kc1_5, kc1_10, kc1_10, kc1_10, kc1_10]) X hP hname lff4_24 (fun _ => ⟨rfl, rfl⟩) (by omega) rfl (Nat.le_of_ble_eq_true rfl) rfl dX4_init_40 ?_
  refine a_aload_n X dX4_init_43 rfl ?_
  refine a_bipush (v := 30) X dX4_init_44 (by decide) ?_
  refine b_newarray (at_ := .int) (Y' := [kd6 P, kc1_5, kc1_10, kc1_10, kc1_10, kc1_10, kc1_30]) X 6 hP rfl (by omega) ((hz).up (by omega)) rfl (Or.inl ⟨rfl, rfl⟩) zarrI ⟨by decide, rfl, by decide⟩ ⟨by decide, by decide⟩ dX4_init_46 ?_
  refine b_putr (Y' := [kd7 P, kc1_5, kc1_10, kc1_10, kc1_10, kc1_10, kc1_30]) X hP hname lff4_27 (fun _ => ⟨rfl, rfl⟩) (by omega) rfl (Nat.le_of_ble_eq_true rfl) rfl dX4_init_48 ?_
  refine a_aload_n X dX4_init_51 rfl ?_
  refine a_bipush (v := 10) X dX4_init_52 (by decide) ?_
  refine b_newarray (at_ := .int) (Y' := [kd7 P, kc1_5, kc1_10, kc1_10, kc1_10, kc1_10, kc1_30, kc1_10]) X 7 hP rfl (by omega) ((hz).up (by omega)) rfl (Or.inl ⟨rfl, rfl⟩) zarrI ⟨by decide, rfl, by decide⟩ ⟨by decide, by decide⟩ dX4_init_54 ?_
  refine b_putr (Y' := [kd0 P, kc1_5, kc1_10, kc1_10, kc1_10, kc1_10, kc1_30, kc1_10]) X hP hname lff4_30 (fun _ => ⟨rfl, rfl⟩) (by omega) rfl (Nat.le_of_ble_eq_true rfl) rfl dX4_init_56 ?_
  refine a_vret X hr dX4_init_59 ⟨by decide, by decide⟩ ?_
  subst hF
  exact ⟨rfl, rfl⟩
def blk2 (P : Nat) : List zC := [kd8 P, kc1_5, kc1_5, kc1_5, kc1_10, kc1_10, kc1_10, kc1_10, kc1_10, kc1_10, kc1_10, kc1_10, kc1_30]
set_option maxRecDepth 100000 in
theorem k_X2 {l : Launch} {G : zG} {b : Nat} {pre : List zC} {P : Nat} {M : Nat → Nat → Int32} {N : Nat → Nat → Int64} (hP : pre.length = P) (hp : P + 100 < 1000000) (hz : zz (P + 1) M N) : zM l G b yX2_init cX2_init 1 none 1 12 125 [.ref P] (pre ++ [kd9], M, N) (fun r z => r = none ∧ z = (pre ++ blk2 P, M, N)) := by
  refine zM.of miX2_init (Nat.le_of_ble_eq_true rfl) ?_
  intro p e s m args below meth c X hr hname
  generalize hF : ((fun r z => r = none ∧ z = (pre ++ blk2 P, M, N)) : Option Value → zS → Prop) = F
  change Zw p l e { frames := 1, cells := 12, slots := 125, locals := 80 * 1 } s m args below meth c G b 1 (MQ below (zQ G b F) args s 12 125 (fun q : Nat => b ≤ q)) 0 0 0 [some (.ref P)] [] (pre ++ [kd9], M, N)
  refine a_aload_n X dX2_init_0 rfl ?_
  refine a_objinit X lm2_3 (by decide) dX2_init_1 ?_
  refine a_aload_n X dX2_init_4 rfl ?_
  refine a_iconst (v := 5) X dX2_init_5 (by decide) ?_
  refine b_newarray (at_ := .int) (Y' := [kd9, kc1_5]) X 1 hP rfl (by omega) ((hz).up (by omega)) rfl (Or.inl ⟨rfl, rfl⟩) zarrI ⟨by decide, rfl, by decide⟩ ⟨by decide, by decide⟩ dX2_init_6 ?_
  refine b_putr (Y' := [kd10 P, kc1_5]) X hP hname lff2_9 (fun _ => ⟨rfl, rfl⟩) (by omega) rfl (Nat.le_of_ble_eq_true rfl) rfl dX2_init_8 ?_
  refine a_aload_n X dX2_init_11 rfl ?_
  refine a_iconst (v := 5) X dX2_init_12 (by decide) ?_
  refine b_newarray (at_ := .int) (Y' := [kd10 P, kc1_5, kc1_5]) X 2 hP rfl (by omega) ((hz).up (by omega)) rfl (Or.inl ⟨rfl, rfl⟩) zarrI ⟨by decide, rfl, by decide⟩ ⟨by decide, by decide⟩ dX2_init_13 ?_
  refine b_putr (Y' := [kd11 P, kc1_5, kc1_5]) X hP hname lff2_15 (fun _ => ⟨rfl, rfl⟩) (by omega) rfl (Nat.le_of_ble_eq_true rfl) rfl dX2_init_15 ?_
  refine a_aload_n X dX2_init_18 rfl ?_
  refine a_iconst (v := 5) X dX2_init_19 (by decide) ?_
  refine b_newarray (at_ := .int) (Y' := [kd11 P, kc1_5, kc1_5, kc1_5]) X 3 hP rfl (by omega) ((hz).up (by omega)) rfl (Or.inl ⟨rfl, rfl⟩) zarrI ⟨by decide, rfl, by decide⟩ ⟨by decide, by decide⟩ dX2_init_20 ?_
  refine b_putr (Y' := [kd12 P, kc1_5, kc1_5, kc1_5]) X hP hname lff2_18 (fun _ => ⟨rfl, rfl⟩) (by omega) rfl (Nat.le_of_ble_eq_true rfl) rfl dX2_init_22 ?_
  refine a_aload_n X dX2_init_25 rfl ?_
  refine a_bipush (v := 10) X dX2_init_26 (by decide) ?_
  refine b_newarray (at_ := .int) (Y' := [kd12 P, kc1_5, kc1_5, kc1_5, kc1_10]) X 4 hP rfl (by omega) ((hz).up (by omega)) rfl (Or.inl ⟨rfl, rfl⟩) zarrI ⟨by decide, rfl, by decide⟩ ⟨by decide, by decide⟩ dX2_init_28 ?_
  refine b_putr (Y' := [kd13 P, kc1_5, kc1_5, kc1_5, kc1_10]) X hP hname lff2_21 (fun _ => ⟨rfl, rfl⟩) (by omega) rfl (Nat.le_of_ble_eq_true rfl) rfl dX2_init_30 ?_
  refine a_aload_n X dX2_init_33 rfl ?_
  refine a_bipush (v := 10) X dX2_init_34 (by decide) ?_
  refine b_newarray (at_ := .int) (Y' := [kd13 P, kc1_5, kc1_5, kc1_5, kc1_10, kc1_10]) X 5 hP rfl (by omega) ((hz).up (by omega)) rfl (Or.inl ⟨rfl, rfl⟩) zarrI ⟨by decide, rfl, by decide⟩ ⟨by decide, by decide⟩ dX2_init_36 ?_
  refine b_putr (Y' := [kd14 P, kc1_5, kc1_5, kc1_5, kc1_10, kc1_10]) X hP hname lff2_24 (fun _ => ⟨rfl, rfl⟩) (by omega) rfl (Nat.le_of_ble_eq_true rfl) rfl dX2_init_38 ?_
  refine a_aload_n X dX2_init_41 rfl ?_
  refine a_bipush (v := 10) X dX2_init_42 (by decide) ?_
  refine b_newarray (at_ := .int) (Y' := [kd14 P, kc1_5, kc1_5, kc1_5, kc1_10, kc1_10, kc1_10]) X 6 hP rfl (by omega) ((hz).up (by omega)) rfl (Or.inl ⟨rfl, rfl⟩) zarrI ⟨by decide, rfl, by decide⟩ ⟨by decide, by decide⟩ dX2_init_44 ?_
  refine b_putr (Y' := [kd15 P, kc1_5, kc1_5, kc1_5, kc1_10, kc1_10, kc1_10]) X hP hname lff2_27 (fun _ => ⟨rfl, rfl⟩) (by omega) rfl (Nat.le_of_ble_eq_true rfl) rfl dX2_init_46 ?_
  refine a_aload_n X dX2_init_49 rfl ?_
  refine a_bipush (v := 10) X dX2_init_50 (by decide) ?_
  refine b_newarray (at_ := .int) (Y' := [kd15 P, kc1_5, kc1_5, kc1_5, kc1_10, kc1_10, kc1_10, kc1_10]) X 7 hP rfl (by omega) ((hz).up (by omega)) rfl (Or.inl ⟨rfl, rfl⟩) zarrI ⟨by decide, rfl, by decide⟩ ⟨by decide, by decide⟩ dX2_init_52 ?_
  refine b_putr (Y' := [kd16 P, kc1_5, kc1_5, kc1_5, kc1_10, kc1_10, kc1_10, kc1_10]) X hP hname lff2_30 (fun _ => ⟨rfl, rfl⟩) (by omega) rfl (Nat.le_of_ble_eq_true rfl) rfl dX2_init_54 ?_
  refine a_aload_n X dX2_init_57 rfl ?_
  refine a_bipush (v := 10) X dX2_init_58 (by decide) ?_
  refine b_newarray (at_ := .int) (Y' := [kd16 P, kc1_5, kc1_5, kc1_5, kc1_10, kc1_10, kc1_10, kc1_10, kc1_10]) X 8 hP rfl (by omega) ((hz).up (by omega)) rfl (Or.inl ⟨rfl, rfl⟩) zarrI ⟨by decide, rfl, by decide⟩ ⟨by decide, by decide⟩ dX2_init_60 ?_
  refine b_putr (Y' := [kd17 P, kc1_5, kc1_5, kc1_5, kc1_10, kc1_10, kc1_10, kc1_10, kc1_10]) X hP hname lff2_33 (fun _ => ⟨rfl, rfl⟩) (by omega) rfl (Nat.le_of_ble_eq_true rfl) rfl dX2_init_62 ?_
  refine a_aload_n X dX2_init_65 rfl ?_
  refine a_bipush (v := 10) X dX2_init_66 (by decide) ?_
  refine b_newarray (at_ := .int) (Y' := [kd17 P, kc1_5, kc1_5, kc1_5, kc1_10, kc1_10, kc1_10, kc1_10, kc1_10, kc1_10]) X 9 hP rfl (by omega) ((hz).up (by omega)) rfl (Or.inl ⟨rfl, rfl⟩) zarrI ⟨by decide, rfl, by decide⟩ ⟨by decide, by decide⟩ dX2_init_68 ?_
  refine b_putr (Y' := [kd18 P, kc1_5, kc1_5, kc1_5, kc1_10, kc1_10, kc1_10, kc1_10, kc1_10, kc1_10]) X hP hname lff2_36 (fun _ => ⟨rfl, rfl⟩) (by omega) rfl (Nat.le_of_ble_eq_true rfl) rfl dX2_init_70 ?_
  refine a_aload_n X dX2_init_73 rfl ?_
  refine a_bipush (v := 10) X dX2_init_74 (by decide) ?_
  refine b_newarray (at_ := .int) (Y' := [kd18 P, kc1_5, kc1_5, kc1_5, kc1_10, kc1_10, kc1_10, kc1_10, kc1_10, kc1_10, kc1_10]) X 10 hP rfl (by omega) ((hz).up (by omega)) rfl (Or.inl ⟨rfl, rfl⟩) zarrI ⟨by decide, rfl, by decide⟩ ⟨by decide, by decide⟩ dX2_init_76 ?_
  refine b_putr (Y' := [kd19 P, kc1_5, kc1_5, kc1_5, kc1_10, kc1_10, kc1_10, kc1_10, kc1_10, kc1_10, kc1_10]) X hP hname lff2_39 (fun _ => ⟨rfl, rfl⟩) (by omega) rfl (Nat.le_of_ble_eq_true rfl) rfl dX2_init_78 ?_
  refine a_aload_n X dX2_init_81 rfl ?_
  refine a_bipush (v := 10) X dX2_init_82 (by decide) ?_
  refine b_newarray (at_ := .int) (Y' := [kd19 P, kc1_5, kc1_5, kc1_5, kc1_10, kc1_10, kc1_10, kc1_10, kc1_10, kc1_10, kc1_10, kc1_10]) X 11 hP rfl (by omega) ((hz).up (by omega)) rfl (Or.inl ⟨rfl, rfl⟩) zarrI ⟨by decide, rfl, by decide⟩ ⟨by decide, by decide⟩ dX2_init_84 ?_
  refine b_putr (Y' := [kd20 P, kc1_5, kc1_5, kc1_5, kc1_10, kc1_10, kc1_10, kc1_10, kc1_10, kc1_10, kc1_10, kc1_10]) X hP hname lff2_42 (fun _ => ⟨rfl, rfl⟩) (by omega) rfl (Nat.le_of_ble_eq_true rfl) rfl dX2_init_86 ?_
  refine a_aload_n X dX2_init_89 rfl ?_
  refine a_bipush (v := 30) X dX2_init_90 (by decide) ?_
  refine b_newarray (at_ := .int) (Y' := [kd20 P, kc1_5, kc1_5, kc1_5, kc1_10, kc1_10, kc1_10, kc1_10, kc1_10, kc1_10, kc1_10, kc1_10, kc1_30]) X 12 hP rfl (by omega) ((hz).up (by omega)) rfl (Or.inl ⟨rfl, rfl⟩) zarrI ⟨by decide, rfl, by decide⟩ ⟨by decide, by decide⟩ dX2_init_92 ?_
  refine b_putr (Y' := [kd8 P, kc1_5, kc1_5, kc1_5, kc1_10, kc1_10, kc1_10, kc1_10, kc1_10, kc1_10, kc1_10, kc1_10, kc1_30]) X hP hname lff2_45 (fun _ => ⟨rfl, rfl⟩) (by omega) rfl (Nat.le_of_ble_eq_true rfl) rfl dX2_init_94 ?_
  refine a_vret X hr dX2_init_97 ⟨by decide, by decide⟩ ?_
  subst hF
  exact ⟨rfl, rfl⟩
def blk5 (P : Nat) : List zC := [kd21 P, kc1_10, kc1_10, kc1_10, kc1_5, kc1_5, kc1_5, kc1_10]
set_option maxRecDepth 100000 in
theorem k_X5 {l : Launch} {G : zG} {b : Nat} {pre : List zC} {P : Nat} {M : Nat → Nat → Int32} {N : Nat → Nat → Int64} (hP : pre.length = P) (hp : P + 100 < 1000000) (hz : zz (P + 1) M N) : zM l G b yX5_init cX5_init 1 none 1 7 55 [.ref P] (pre ++ [kd22], M, N) (fun r z => r = none ∧ z = (pre ++ blk5 P, M, N)) := by
  refine zM.of miX5_init (Nat.le_of_ble_eq_true rfl) ?_
  intro p e s m args below meth c X hr hname
  generalize hF : ((fun r z => r = none ∧ z = (pre ++ blk5 P, M, N)) : Option Value → zS → Prop) = F
  change Zw p l e { frames := 1, cells := 7, slots := 55, locals := 80 * 1 } s m args below meth c G b 1 (MQ below (zQ G b F) args s 7 55 (fun q : Nat => b ≤ q)) 0 0 0 [some (.ref P)] [] (pre ++ [kd22], M, N)
  refine a_aload_n X dX5_init_0 rfl ?_
  refine a_objinit X lm5_3 (by decide) dX5_init_1 ?_
  refine a_aload_n X dX5_init_4 rfl ?_
  refine a_bipush (v := 10) X dX5_init_5 (by decide) ?_
  refine b_newarray (at_ := .int) (Y' := [kd22, kc1_10]) X 1 hP rfl (by omega) ((hz).up (by omega)) rfl (Or.inl ⟨rfl, rfl⟩) zarrI ⟨by decide, rfl, by decide⟩ ⟨by decide, by decide⟩ dX5_init_7 ?_
  refine b_putr (Y' := [kd23 P, kc1_10]) X hP hname lff5_9 (fun _ => ⟨rfl, rfl⟩) (by omega) rfl (Nat.le_of_ble_eq_true rfl) rfl dX5_init_9 ?_
  refine a_aload_n X dX5_init_12 rfl ?_
  refine a_bipush (v := 10) X dX5_init_13 (by decide) ?_
  refine b_newarray (at_ := .int) (Y' := [kd23 P, kc1_10, kc1_10]) X 2 hP rfl (by omega) ((hz).up (by omega)) rfl (Or.inl ⟨rfl, rfl⟩) zarrI ⟨by decide, rfl, by decide⟩ ⟨by decide, by decide⟩ dX5_init_15 ?_
  refine b_putr (Y' := [kd24 P, kc1_10, kc1_10]) X hP hname lff5_15 (fun _ => ⟨rfl, rfl⟩) (by omega) rfl (Nat.le_of_ble_eq_true rfl) rfl dX5_init_17 ?_
  refine a_aload_n X dX5_init_20 rfl ?_
  refine a_bipush (v := 10) X dX5_init_21 (by decide) ?_
  refine b_newarray (at_ := .int) (Y' := [kd24 P, kc1_10, kc1_10, kc1_10]) X 3 hP rfl (by omega) ((hz).up (by omega)) rfl (Or.inl ⟨rfl, rfl⟩) zarrI ⟨by decide, rfl, by decide⟩ ⟨by decide, by decide⟩ dX5_init_23 ?_
  refine b_putr (Y' := [kd25 P, kc1_10, kc1_10, kc1_10]) X hP hname lff5_18 (fun _ => ⟨rfl, rfl⟩) (by omega) rfl (Nat.le_of_ble_eq_true rfl) rfl dX5_init_25 ?_
  refine a_aload_n X dX5_init_28 rfl ?_
  refine a_iconst (v := 5) X dX5_init_29 (by decide) ?_
  refine b_newarray (at_ := .int) (Y' := [kd25 P, kc1_10, kc1_10, kc1_10, kc1_5]) X 4 hP rfl (by omega) ((hz).up (by omega)) rfl (Or.inl ⟨rfl, rfl⟩) zarrI ⟨by decide, rfl, by decide⟩ ⟨by decide, by decide⟩ dX5_init_30 ?_
  refine b_putr (Y' := [kd26 P, kc1_10, kc1_10, kc1_10, kc1_5]) X hP hname lff5_21 (fun _ => ⟨rfl, rfl⟩) (by omega) rfl (Nat.le_of_ble_eq_true rfl) rfl dX5_init_32 ?_
  refine a_aload_n X dX5_init_35 rfl ?_
  refine a_iconst (v := 5) X dX5_init_36 (by decide) ?_
  refine b_newarray (at_ := .int) (Y' := [kd26 P, kc1_10, kc1_10, kc1_10, kc1_5, kc1_5]) X 5 hP rfl (by omega) ((hz).up (by omega)) rfl (Or.inl ⟨rfl, rfl⟩) zarrI ⟨by decide, rfl, by decide⟩ ⟨by decide, by decide⟩ dX5_init_37 ?_
  refine b_putr (Y' := [kd27 P, kc1_10, kc1_10, kc1_10, kc1_5, kc1_5]) X hP hname lff5_24 (fun _ => ⟨rfl, rfl⟩) (by omega) rfl (Nat.le_of_ble_eq_true rfl) rfl dX5_init_39 ?_
  refine a_aload_n X dX5_init_42 rfl ?_
  refine a_iconst (v := 5) X dX5_init_43 (by decide) ?_
  refine b_newarray (at_ := .int) (Y' := [kd27 P, kc1_10, kc1_10, kc1_10, kc1_5, kc1_5, kc1_5]) X 6 hP rfl (by omega) ((hz).up (by omega)) rfl (Or.inl ⟨rfl, rfl⟩) zarrI ⟨by decide, rfl, by decide⟩ ⟨by decide, by decide⟩ dX5_init_44 ?_
  refine b_putr (Y' := [kd28 P, kc1_10, kc1_10, kc1_10, kc1_5, kc1_5, kc1_5]) X hP hname lff5_27 (fun _ => ⟨rfl, rfl⟩) (by omega) rfl (Nat.le_of_ble_eq_true rfl) rfl dX5_init_46 ?_
  refine a_aload_n X dX5_init_49 rfl ?_
  refine a_bipush (v := 10) X dX5_init_50 (by decide) ?_
  refine b_newarray (at_ := .int) (Y' := [kd28 P, kc1_10, kc1_10, kc1_10, kc1_5, kc1_5, kc1_5, kc1_10]) X 7 hP rfl (by omega) ((hz).up (by omega)) rfl (Or.inl ⟨rfl, rfl⟩) zarrI ⟨by decide, rfl, by decide⟩ ⟨by decide, by decide⟩ dX5_init_52 ?_
  refine b_putr (Y' := [kd21 P, kc1_10, kc1_10, kc1_10, kc1_5, kc1_5, kc1_5, kc1_10]) X hP hname lff5_30 (fun _ => ⟨rfl, rfl⟩) (by omega) rfl (Nat.le_of_ble_eq_true rfl) rfl dX5_init_54 ?_
  refine a_vret X hr dX5_init_57 ⟨by decide, by decide⟩ ?_
  subst hF
  exact ⟨rfl, rfl⟩
def blk0 (P : Nat) : List zC := [kd29 P, kc3_128, kc1_128, kc3_35, kc3_7, kd30 P, kc1_10, kc1_10, kc1_10, kc1_5, kc1_5, kc1_5, kc1_10]
set_option maxRecDepth 100000 in
theorem k_X0 {l : Launch} {G : zG} {b : Nat} {pre : List zC} {P : Nat} {M : Nat → Nat → Int32} {N : Nat → Nat → Int64} (hP : pre.length = P) (hp : P + 300 < 1000000) (hz : zz (P + 1) M N) : zM l G b yX0_init cX0_init 1 none 2 12 360 [.ref P] (pre ++ [kd31], M, N) (fun r z => r = none ∧ z = (pre ++ blk0 P, M, N)) := by
  refine zM.of miX0_init (Nat.le_of_ble_eq_true rfl) ?_
  intro p e s m args below meth c X hr hname
  generalize hF : ((fun r z => r = none ∧ z = (pre ++ blk0 P, M, N)) : Option Value → zS → Prop) = F
  change Zw p l e { frames := 2, cells := 12, slots := 360, locals := 80 * 2 } s m args below meth c G b 1 (MQ below (zQ G b F) args s 12 360 (fun q : Nat => b ≤ q)) 0 0 0 [some (.ref P)] [] (pre ++ [kd31], M, N)
  refine a_aload_n X dX0_init_0 rfl ?_
  refine a_objinit X lm0_3 (by decide) dX0_init_1 ?_
  refine a_aload_n X dX0_init_4 rfl ?_
  refine a_sipush (v := 128) X dX0_init_5 (by decide) ?_
  refine b_newarray (at_ := .long) (Y' := [kd31, kc3_128]) X 1 hP rfl (by omega) ((hz).up (by omega)) rfl (Or.inr (Or.inr ⟨rfl, rfl⟩)) zarrJ ⟨by decide, rfl, by decide⟩ ⟨by decide, by decide⟩ dX0_init_8 ?_
  refine b_putr (Y' := [kd32 P, kc3_128]) X hP hname lff0_9 (fun _ => ⟨rfl, rfl⟩) (by omega) rfl (Nat.le_of_ble_eq_true rfl) rfl dX0_init_10 ?_
  refine a_aload_n X dX0_init_13 rfl ?_
  refine a_sipush (v := 128) X dX0_init_14 (by decide) ?_
  refine b_newarray (at_ := .int) (Y' := [kd32 P, kc3_128, kc1_128]) X 2 hP rfl (by omega) ((hz).up (by omega)) rfl (Or.inl ⟨rfl, rfl⟩) zarrI ⟨by decide, rfl, by decide⟩ ⟨by decide, by decide⟩ dX0_init_17 ?_
  refine b_putr (Y' := [kd33 P, kc3_128, kc1_128]) X hP hname lff0_15 (fun _ => ⟨rfl, rfl⟩) (by omega) rfl (Nat.le_of_ble_eq_true rfl) rfl dX0_init_19 ?_
  refine a_aload_n X dX0_init_22 rfl ?_
  refine a_bipush (v := 35) X dX0_init_23 (by decide) ?_
  refine b_newarray (at_ := .long) (Y' := [kd33 P, kc3_128, kc1_128, kc3_35]) X 3 hP rfl (by omega) ((hz).up (by omega)) rfl (Or.inr (Or.inr ⟨rfl, rfl⟩)) zarrJ ⟨by decide, rfl, by decide⟩ ⟨by decide, by decide⟩ dX0_init_25 ?_
  refine b_putr (Y' := [kd34 P, kc3_128, kc1_128, kc3_35]) X hP hname lff0_19 (fun _ => ⟨rfl, rfl⟩) (by omega) rfl (Nat.le_of_ble_eq_true rfl) rfl dX0_init_27 ?_
  refine a_aload_n X dX0_init_30 rfl ?_
  refine a_bipush (v := 7) X dX0_init_31 (by decide) ?_
  refine b_newarray (at_ := .long) (Y' := [kd34 P, kc3_128, kc1_128, kc3_35, kc3_7]) X 4 hP rfl (by omega) ((hz).up (by omega)) rfl (Or.inr (Or.inr ⟨rfl, rfl⟩)) zarrJ ⟨by decide, rfl, by decide⟩ ⟨by decide, by decide⟩ dX0_init_33 ?_
  refine b_putr (Y' := [kd35 P, kc3_128, kc1_128, kc3_35, kc3_7]) X hP hname lff0_22 (fun _ => ⟨rfl, rfl⟩) (by omega) rfl (Nat.le_of_ble_eq_true rfl) rfl dX0_init_35 ?_
  refine a_aload_n X dX0_init_38 rfl ?_
  refine b_new X 5 [kq3, kq3, kq3, kq3, kq3, kq3, kq3] hP rfl (by omega) ((hz).up (by omega)) zc5 ln0_25 zinst5 zini5 ⟨rfl, by decide, by decide⟩ ⟨by decide, by decide⟩ dX0_init_39 ?_
  refine a_dup X dX0_init_42 rfl ?_
  refine b_invIN (Y' := [kd35 P, kc3_128, kc1_128, kc3_35, kc3_7, kd30 P, kc1_10, kc1_10, kc1_10, kc1_5, kc1_5, kc1_5, kc1_10]) (blk := blk5) X 5 hP rfl dX0_init_43 miX5_init lm0_27 (T := TX5) (N' := 7) rfl (k_X5 (pre := pre ++ [kd35 P, kc3_128, kc1_128, kc3_35, kc3_7]) (P := P + 5) (by rw [List.length_append, hP]; rfl) (by omega) ((hz).up (by omega))) rfl (Nat.le_of_ble_eq_true rfl) ⟨by decide, by decide, by decide, by decide⟩ ?_
  refine b_putr (Y' := [kd29 P, kc3_128, kc1_128, kc3_35, kc3_7, kd30 P, kc1_10, kc1_10, kc1_10, kc1_5, kc1_5, kc1_5, kc1_10]) X hP hname lff0_28 (fun _ => ⟨rfl, rfl⟩) (by omega) rfl (Nat.le_of_ble_eq_true rfl) rfl dX0_init_46 ?_
  refine a_vret X hr dX0_init_49 ⟨by decide, by decide⟩ ?_
  subst hF
  exact ⟨rfl, rfl⟩
def blk6 (P : Nat) : List zC := [kd36 P, kc1_10, kc1_10, kc1_10, kd37 P, kc1_5, kc1_10, kc1_10, kc1_10, kc1_10, kc1_30, kc1_10, kd38 P, kc1_5, kc1_5, kc1_5, kc1_10, kc1_10, kc1_10, kc1_10, kc1_10, kc1_10, kc1_10, kc1_10, kc1_30, kd39 P, kc1_10, kc1_10, kc1_10, kc1_5, kc1_5, kc1_5, kc1_10]
set_option maxRecDepth 100000 in
theorem k_X6 {l : Launch} {G : zG} {b : Nat} {pre : List zC} {P : Nat} {M : Nat → Nat → Int32} {N : Nat → Nat → Int64} (hP : pre.length = P) (hp : P + 300 < 1000000) (hz : zz (P + 1) M N) : zM l G b yX6_init cX6_init 1 none 2 32 332 [.ref P] (pre ++ [kd40], M, N) (fun r z => r = none ∧ z = (pre ++ blk6 P, M, N)) := by
  refine zM.of miX6_init (Nat.le_of_ble_eq_true rfl) ?_
  intro p e s m args below meth c X hr hname
  generalize hF : ((fun r z => r = none ∧ z = (pre ++ blk6 P, M, N)) : Option Value → zS → Prop) = F
  change Zw p l e { frames := 2, cells := 32, slots := 332, locals := 80 * 2 } s m args below meth c G b 1 (MQ below (zQ G b F) args s 32 332 (fun q : Nat => b ≤ q)) 0 0 0 [some (.ref P)] [] (pre ++ [kd40], M, N)
  refine a_aload_n X dX6_init_0 rfl ?_
  refine a_objinit X lm6_3 (by decide) dX6_init_1 ?_
  refine a_aload_n X dX6_init_4 rfl ?_
  refine a_bipush (v := 10) X dX6_init_5 (by decide) ?_
  refine b_newarray (at_ := .int) (Y' := [kd40, kc1_10]) X 1 hP rfl (by omega) ((hz).up (by omega)) rfl (Or.inl ⟨rfl, rfl⟩) zarrI ⟨by decide, rfl, by decide⟩ ⟨by decide, by decide⟩ dX6_init_7 ?_
  refine b_putr (Y' := [kd41 P, kc1_10]) X hP hname lff6_9 (fun _ => ⟨rfl, rfl⟩) (by omega) rfl (Nat.le_of_ble_eq_true rfl) rfl dX6_init_9 ?_
  refine a_aload_n X dX6_init_12 rfl ?_
  refine a_bipush (v := 10) X dX6_init_13 (by decide) ?_
  refine b_newarray (at_ := .int) (Y' := [kd41 P, kc1_10, kc1_10]) X 2 hP rfl (by omega) ((hz).up (by omega)) rfl (Or.inl ⟨rfl, rfl⟩) zarrI ⟨by decide, rfl, by decide⟩ ⟨by decide, by decide⟩ dX6_init_15 ?_
  refine b_putr (Y' := [kd42 P, kc1_10, kc1_10]) X hP hname lff6_15 (fun _ => ⟨rfl, rfl⟩) (by omega) rfl (Nat.le_of_ble_eq_true rfl) rfl dX6_init_17 ?_
  refine a_aload_n X dX6_init_20 rfl ?_
  refine a_bipush (v := 10) X dX6_init_21 (by decide) ?_
  refine b_newarray (at_ := .int) (Y' := [kd42 P, kc1_10, kc1_10, kc1_10]) X 3 hP rfl (by omega) ((hz).up (by omega)) rfl (Or.inl ⟨rfl, rfl⟩) zarrI ⟨by decide, rfl, by decide⟩ ⟨by decide, by decide⟩ dX6_init_23 ?_
  refine b_putr (Y' := [kd43 P, kc1_10, kc1_10, kc1_10]) X hP hname lff6_18 (fun _ => ⟨rfl, rfl⟩) (by omega) rfl (Nat.le_of_ble_eq_true rfl) rfl dX6_init_25 ?_
  refine a_aload_n X dX6_init_28 rfl ?_
  refine b_new X 4 [kq0, kq0, kq0, kq0, kq0, kq0, kq0, kq3, kq3, kq3, kq3, kq3, kq3, kq3] hP rfl (by omega) ((hz).up (by omega)) zc4 ln6_21 zinst4 zini4 ⟨rfl, by decide, by decide⟩ ⟨by decide, by decide⟩ dX6_init_29 ?_
  refine a_dup X dX6_init_32 rfl ?_
  refine b_invIN (Y' := [kd43 P, kc1_10, kc1_10, kc1_10, kd37 P, kc1_5, kc1_10, kc1_10, kc1_10, kc1_10, kc1_30, kc1_10]) (blk := blk4) X 4 hP rfl dX6_init_33 miX4_init lm6_23 (T := TX4) (N' := 14) rfl (k_X4 (pre := pre ++ [kd43 P, kc1_10, kc1_10, kc1_10]) (P := P + 4) (by rw [List.length_append, hP]; rfl) (by omega) ((hz).up (by omega))) rfl (Nat.le_of_ble_eq_true rfl) ⟨by decide, by decide, by decide, by decide⟩ ?_
  refine b_putr (Y' := [kd44 P, kc1_10, kc1_10, kc1_10, kd37 P, kc1_5, kc1_10, kc1_10, kc1_10, kc1_10, kc1_30, kc1_10]) X hP hname lff6_24 (fun _ => ⟨rfl, rfl⟩) (by omega) rfl (Nat.le_of_ble_eq_true rfl) rfl dX6_init_36 ?_
  refine a_aload_n X dX6_init_39 rfl ?_
  refine b_new X 12 [kq0, kq0, kq0, kq0, kq3, kq3, kq3, kq3, kq3, kq3, kq3, kq3, kq3, kq3, kq3, kq3] hP rfl (by omega) ((hz).up (by omega)) zc2 ln6_28 zinst2 zini2 ⟨rfl, by decide, by decide⟩ ⟨by decide, by decide⟩ dX6_init_40 ?_
  refine a_dup X dX6_init_43 rfl ?_
  refine b_invIN (Y' := [kd44 P, kc1_10, kc1_10, kc1_10, kd37 P, kc1_5, kc1_10, kc1_10, kc1_10, kc1_10, kc1_30, kc1_10, kd38 P, kc1_5, kc1_5, kc1_5, kc1_10, kc1_10, kc1_10, kc1_10, kc1_10, kc1_10, kc1_10, kc1_10, kc1_30]) (blk := blk2) X 12 hP rfl dX6_init_44 miX2_init lm6_30 (T := TX2) (N' := 16) rfl (k_X2 (pre := pre ++ [kd44 P, kc1_10, kc1_10, kc1_10, kd37 P, kc1_5, kc1_10, kc1_10, kc1_10, kc1_10, kc1_30, kc1_10]) (P := P + 12) (by rw [List.length_append, hP]; rfl) (by omega) ((hz).up (by omega))) rfl (Nat.le_of_ble_eq_true rfl) ⟨by decide, by decide, by decide, by decide⟩ ?_
  refine b_putr (Y' := [kd45 P, kc1_10, kc1_10, kc1_10, kd37 P, kc1_5, kc1_10, kc1_10, kc1_10, kc1_10, kc1_30, kc1_10, kd38 P, kc1_5, kc1_5, kc1_5, kc1_10, kc1_10, kc1_10, kc1_10, kc1_10, kc1_10, kc1_10, kc1_10, kc1_30]) X hP hname lff6_31 (fun _ => ⟨rfl, rfl⟩) (by omega) rfl (Nat.le_of_ble_eq_true rfl) rfl dX6_init_47 ?_
  refine a_aload_n X dX6_init_50 rfl ?_
  refine b_new X 25 [kq3, kq3, kq3, kq3, kq3, kq3, kq3] hP rfl (by omega) ((hz).up (by omega)) zc5 ln6_35 zinst5 zini5 ⟨rfl, by decide, by decide⟩ ⟨by decide, by decide⟩ dX6_init_51 ?_
  refine a_dup X dX6_init_54 rfl ?_
  refine b_invIN (Y' := [kd45 P, kc1_10, kc1_10, kc1_10, kd37 P, kc1_5, kc1_10, kc1_10, kc1_10, kc1_10, kc1_30, kc1_10, kd38 P, kc1_5, kc1_5, kc1_5, kc1_10, kc1_10, kc1_10, kc1_10, kc1_10, kc1_10, kc1_10, kc1_10, kc1_30, kd39 P, kc1_10, kc1_10, kc1_10, kc1_5, kc1_5, kc1_5, kc1_10]) (blk := blk5) X 25 hP rfl dX6_init_55 miX5_init lm6_37 (T := TX5) (N' := 7) rfl (k_X5 (pre := pre ++ [kd45 P, kc1_10, kc1_10, kc1_10, kd37 P, kc1_5, kc1_10, kc1_10, kc1_10, kc1_10, kc1_30, kc1_10, kd38 P, kc1_5, kc1_5, kc1_5, kc1_10, kc1_10, kc1_10, kc1_10, kc1_10, kc1_10, kc1_10, kc1_10, kc1_30]) (P := P + 25) (by rw [List.length_append, hP]; rfl) (by omega) ((hz).up (by omega))) rfl (Nat.le_of_ble_eq_true rfl) ⟨by decide, by decide, by decide, by decide⟩ ?_
  refine b_putr (Y' := [kd36 P, kc1_10, kc1_10, kc1_10, kd37 P, kc1_5, kc1_10, kc1_10, kc1_10, kc1_10, kc1_30, kc1_10, kd38 P, kc1_5, kc1_5, kc1_5, kc1_10, kc1_10, kc1_10, kc1_10, kc1_10, kc1_10, kc1_10, kc1_10, kc1_30, kd39 P, kc1_10, kc1_10, kc1_10, kc1_5, kc1_5, kc1_5, kc1_10]) X hP hname lff6_38 (fun _ => ⟨rfl, rfl⟩) (by omega) rfl (Nat.le_of_ble_eq_true rfl) rfl dX6_init_58 ?_
  refine a_vret X hr dX6_init_61 ⟨by decide, by decide⟩ ?_
  subst hF
  exact ⟨rfl, rfl⟩
def blk3 (P : Nat) : List zC := [kd46 P, kd47 P, kc1_5, kc1_10, kc1_10, kc1_10, kc1_10, kc1_30, kc1_10, kc1_700, kc3_5, kc3_10, kc3_4, kc1_3]
set_option maxRecDepth 100000 in
theorem k_X3 {l : Launch} {G : zG} {b : Nat} {pre : List zC} {P : Nat} {M : Nat → Nat → Int32} {N : Nat → Nat → Int64} (hP : pre.length = P) (hp : P + 300 < 1000000) (hz : zz (P + 1) M N) : zM l G b yX3_init cX3_init 1 none 2 13 821 [.ref P] (pre ++ [kd48], M, N) (fun r z => r = none ∧ z = (pre ++ blk3 P, zu (zu (M) P 1 (-1)) P 2 (-1), N)) := by
  refine zM.of miX3_init (Nat.le_of_ble_eq_true rfl) ?_
  intro p e s m args below meth c X hr hname
  generalize hF : ((fun r z => r = none ∧ z = (pre ++ blk3 P, zu (zu (M) P 1 (-1)) P 2 (-1), N)) : Option Value → zS → Prop) = F
  change Zw p l e { frames := 2, cells := 13, slots := 821, locals := 80 * 2 } s m args below meth c G b 1 (MQ below (zQ G b F) args s 13 821 (fun q : Nat => b ≤ q)) 0 0 0 [some (.ref P)] [] (pre ++ [kd48], M, N)
  refine a_aload_n X dX3_init_0 rfl ?_
  refine a_objinit X lm3_3 (by decide) dX3_init_1 ?_
  refine a_aload_n X dX3_init_4 rfl ?_
  refine b_new X 1 [kq0, kq0, kq0, kq0, kq0, kq0, kq0, kq3, kq3, kq3, kq3, kq3, kq3, kq3] hP rfl (by omega) ((hz).up (by omega)) zc4 ln3_9 zinst4 zini4 ⟨rfl, by decide, by decide⟩ ⟨by decide, by decide⟩ dX3_init_5 ?_
  refine a_dup X dX3_init_8 rfl ?_
  refine b_invIN (Y' := [kd48, kd47 P, kc1_5, kc1_10, kc1_10, kc1_10, kc1_10, kc1_30, kc1_10]) (blk := blk4) X 1 hP rfl dX3_init_9 miX4_init lm3_11 (T := TX4) (N' := 14) rfl (k_X4 (pre := pre ++ [kd48]) (P := P + 1) (by rw [List.length_append, hP]; rfl) (by omega) ((hz).up (by omega))) rfl (Nat.le_of_ble_eq_true rfl) ⟨by decide, by decide, by decide, by decide⟩ ?_
  refine b_putr (Y' := [kd49 P, kd47 P, kc1_5, kc1_10, kc1_10, kc1_10, kc1_10, kc1_30, kc1_10]) X hP hname lff3_12 (fun _ => ⟨rfl, rfl⟩) (by omega) rfl (Nat.le_of_ble_eq_true rfl) rfl dX3_init_12 ?_
  refine a_aload_n X dX3_init_15 rfl ?_
  refine a_iconst (v := -1) X dX3_init_16 (by decide) ?_
  refine a_puti (P := P) X lf3_18 (by show (pre ++ _)[P]? = _; rw [← hP, List.getElem?_append_right (Nat.le_refl _), Nat.sub_self]; rfl) rfl dX3_init_17 ?_
  change Zw _ _ _ _ _ _ _ _ _ _ _ _ _ _ _ _ _ _ _ (pre ++ [kd49 P, kd47 P, kc1_5, kc1_10, kc1_10, kc1_10, kc1_10, kc1_30, kc1_10], zu (M) P 1 (-1), N)
  refine a_aload_n X dX3_init_20 rfl ?_
  refine a_iconst (v := -1) X dX3_init_21 (by decide) ?_
  refine a_puti (P := P) X lf3_22 (by show (pre ++ _)[P]? = _; rw [← hP, List.getElem?_append_right (Nat.le_refl _), Nat.sub_self]; rfl) rfl dX3_init_22 ?_
  change Zw _ _ _ _ _ _ _ _ _ _ _ _ _ _ _ _ _ _ _ (pre ++ [kd49 P, kd47 P, kc1_5, kc1_10, kc1_10, kc1_10, kc1_10, kc1_30, kc1_10], zu (zu (M) P 1 (-1)) P 2 (-1), N)
  refine a_aload_n X dX3_init_25 rfl ?_
  refine a_sipush (v := 700) X dX3_init_26 (by decide) ?_
  refine b_newarray (at_ := .int) (Y' := [kd49 P, kd47 P, kc1_5, kc1_10, kc1_10, kc1_10, kc1_10, kc1_30, kc1_10, kc1_700]) X 9 hP rfl (by omega) ((zz.zuM (zz.zuM (hz) (by omega)) (by omega)).up (by omega)) rfl (Or.inl ⟨rfl, rfl⟩) zarrI ⟨by decide, rfl, by decide⟩ ⟨by decide, by decide⟩ dX3_init_29 ?_
  refine b_putr (Y' := [kd50 P, kd47 P, kc1_5, kc1_10, kc1_10, kc1_10, kc1_10, kc1_30, kc1_10, kc1_700]) X hP hname lff3_25 (fun _ => ⟨rfl, rfl⟩) (by omega) rfl (Nat.le_of_ble_eq_true rfl) rfl dX3_init_31 ?_
  refine a_aload_n X dX3_init_34 rfl ?_
  refine a_iconst (v := 5) X dX3_init_35 (by decide) ?_
  refine b_newarray (at_ := .long) (Y' := [kd50 P, kd47 P, kc1_5, kc1_10, kc1_10, kc1_10, kc1_10, kc1_30, kc1_10, kc1_700, kc3_5]) X 10 hP rfl (by omega) ((zz.zuM (zz.zuM (hz) (by omega)) (by omega)).up (by omega)) rfl (Or.inr (Or.inr ⟨rfl, rfl⟩)) zarrJ ⟨by decide, rfl, by decide⟩ ⟨by decide, by decide⟩ dX3_init_36 ?_
  refine b_putr (Y' := [kd51 P, kd47 P, kc1_5, kc1_10, kc1_10, kc1_10, kc1_10, kc1_30, kc1_10, kc1_700, kc3_5]) X hP hname lff3_29 (fun _ => ⟨rfl, rfl⟩) (by omega) rfl (Nat.le_of_ble_eq_true rfl) rfl dX3_init_38 ?_
  refine a_aload_n X dX3_init_41 rfl ?_
  refine a_bipush (v := 10) X dX3_init_42 (by decide) ?_
  refine b_newarray (at_ := .long) (Y' := [kd51 P, kd47 P, kc1_5, kc1_10, kc1_10, kc1_10, kc1_10, kc1_30, kc1_10, kc1_700, kc3_5, kc3_10]) X 11 hP rfl (by omega) ((zz.zuM (zz.zuM (hz) (by omega)) (by omega)).up (by omega)) rfl (Or.inr (Or.inr ⟨rfl, rfl⟩)) zarrJ ⟨by decide, rfl, by decide⟩ ⟨by decide, by decide⟩ dX3_init_44 ?_
  refine b_putr (Y' := [kd52 P, kd47 P, kc1_5, kc1_10, kc1_10, kc1_10, kc1_10, kc1_30, kc1_10, kc1_700, kc3_5, kc3_10]) X hP hname lff3_33 (fun _ => ⟨rfl, rfl⟩) (by omega) rfl (Nat.le_of_ble_eq_true rfl) rfl dX3_init_46 ?_
  refine a_aload_n X dX3_init_49 rfl ?_
  refine a_iconst (v := 4) X dX3_init_50 (by decide) ?_
  refine b_newarray (at_ := .long) (Y' := [kd52 P, kd47 P, kc1_5, kc1_10, kc1_10, kc1_10, kc1_10, kc1_30, kc1_10, kc1_700, kc3_5, kc3_10, kc3_4]) X 12 hP rfl (by omega) ((zz.zuM (zz.zuM (hz) (by omega)) (by omega)).up (by omega)) rfl (Or.inr (Or.inr ⟨rfl, rfl⟩)) zarrJ ⟨by decide, rfl, by decide⟩ ⟨by decide, by decide⟩ dX3_init_51 ?_
  refine b_putr (Y' := [kd53 P, kd47 P, kc1_5, kc1_10, kc1_10, kc1_10, kc1_10, kc1_30, kc1_10, kc1_700, kc3_5, kc3_10, kc3_4]) X hP hname lff3_36 (fun _ => ⟨rfl, rfl⟩) (by omega) rfl (Nat.le_of_ble_eq_true rfl) rfl dX3_init_53 ?_
  refine a_aload_n X dX3_init_56 rfl ?_
  refine a_iconst (v := 3) X dX3_init_57 (by decide) ?_
  refine b_newarray (at_ := .int) (Y' := [kd53 P, kd47 P, kc1_5, kc1_10, kc1_10, kc1_10, kc1_10, kc1_30, kc1_10, kc1_700, kc3_5, kc3_10, kc3_4, kc1_3]) X 13 hP rfl (by omega) ((zz.zuM (zz.zuM (hz) (by omega)) (by omega)).up (by omega)) rfl (Or.inl ⟨rfl, rfl⟩) zarrI ⟨by decide, rfl, by decide⟩ ⟨by decide, by decide⟩ dX3_init_58 ?_
  refine b_putr (Y' := [kd46 P, kd47 P, kc1_5, kc1_10, kc1_10, kc1_10, kc1_10, kc1_30, kc1_10, kc1_700, kc3_5, kc3_10, kc3_4, kc1_3]) X hP hname lff3_39 (fun _ => ⟨rfl, rfl⟩) (by omega) rfl (Nat.le_of_ble_eq_true rfl) rfl dX3_init_60 ?_
  refine a_vret X hr dX3_init_63 ⟨by decide, by decide⟩ ?_
  subst hF
  exact ⟨rfl, rfl⟩
