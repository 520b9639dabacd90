/-! cells that are made -/
def zn {α : Type} (M : Nat → Nat → α) (n : Nat) (v : α) : Nat → Nat → α := fun a j => if a = n then v else M a j
def zS1 (S : zS) (q : zC) : zS := (S.1 ++ [q], zn S.2.1 S.1.length 0, zn S.2.2 S.1.length 0)
theorem zn_row {α : Type} {M : Nat → Nat → α} {n a : Nat} {v : α} (h : a ≠ n) : zn M n v a = M a := by
  funext j
  exact if_neg h
theorem zW_push {G : zG} {b : Nat} {S : zS} {q : zC} : zW G b (zS1 S q) = zW G b S ++ [(b + S.1.length, zE1 G b (zS1 S q) S.1.length q)] := by
  apply List.ext_getElem?
  intro i
  rcases Nat.lt_trichotomy i S.1.length with hi | hi | hi
  · rw [List.getElem?_append_left (by rw [zW_len]; exact hi)]
    have h1 : (zS1 S q).1[i]? = some S.1[i] := by
      show (S.1 ++ [q])[i]? = _
      rw [List.getElem?_append_left hi, List.getElem?_eq_getElem hi]
    have h2 : S.1[i]? = some S.1[i] := List.getElem?_eq_getElem hi
    rw [zW_get h1, zW_get h2]
    generalize S.1[i] = r
    obtain ⟨r1, r2, r3⟩ := r
    have e1 : (zS1 S q).2.1 i = S.2.1 i := zn_row (by omega)
    have e2 : (zS1 S q).2.2 i = S.2.2 i := zn_row (by omega)
    have hf : zF b (zS1 S q) i = zF b S i := by funext j f; unfold zF; rw [e1, e2]
    unfold zE1
    simp only [e1, e2, hf]
  · subst hi
    have h1 : (zS1 S q).1[S.1.length]? = some q := by
      show (S.1 ++ [q])[S.1.length]? = _
      simp
    rw [zW_get h1, List.getElem?_append_right (by rw [zW_len]; omega), zW_len, Nat.sub_self]
    rfl
  · rw [List.getElem?_eq_none (by rw [zW_len]; show (S.1 ++ [q]).length ≤ i; rw [List.length_append, List.length_singleton]; omega), List.getElem?_eq_none (by rw [List.length_append, List.length_singleton, zW_len]; omega)]
theorem zH_push {G : zG} {b : Nat} {S : zS} {q : zC} {H H1 : Heap} (hH : zH G b S H) (hl : S.1.length + 1 < 1000000) (hz : H1.size = H.size + 1) (ho : ∀ a : Nat, a < H.size → H1[a]? = H[a]?) (he : va_at G.1 vwCl (b + S.1.length, zE1 G b (zS1 S q) S.1.length q) H1) : zH G b (zS1 S q) H1 := by
  refine ⟨?_, ?_, ?_⟩
  · show _ = b + (S.1 ++ [q]).length
    rw [List.length_append, List.length_singleton, hz, hH.1]
    omega
  · show (S.1 ++ [q]).length < _
    rw [List.length_append, List.length_singleton]
    exact hl
  · rw [zW_push]
    refine va_P.app (hH.2.2.kept fun k x hx => ho x.1 ((hH.2.2 k x hx).lt)) (fun k x hx => ?_)
    have hk : k < 1 := (List.getElem?_eq_some_iff.mp hx).1
    rw [show k = 0 by omega] at hx
    cases hx
    exact he
/-- what a new object's field holds -/
def zdv (f : Nat × Nat) : Value := match f.1 with
  | 0 => .int 0
  | 1 => .long 0
  | _ => .null
section ZM
variable {p : Program} {l : Launch} {e : Env} {R : Room} {s : State} {m : MethodId} {args : Array Value} {below : List Frame} {meth : Method} {c : Code} {G : zG} {b : Nat} {Q : State → Prop} {nc ns : Nat}
variable {cc : ByteArray} {pc nL : Nat} {own : String} {ls : List (Option Value)} {st : List Value} {S : zS}
theorem a_new (X : zOK p s m args meth c G b own cc nL) {idx ci N : Nat} {C : String} {T : u_T} {t0 : Nat → FieldType} (fs : List (Nat × Nat)) (hC : zCl ci C T N t0) (hlink : Cond.classLink own idx C ∈ zT) (hinst : Cond.instantiable C N ∈ zT) (hini : Cond.initialized C ∈ zT)
    (hfs : fs.length = N ∧ (∀ f ∈ fs, f.1 ≠ 2) ∧ ∀ j, j < N → defaultValue (t0 j) = zdv (fs.getD j (3, 0))) (hl : S.1.length + 1 < 1000000) (hroom : nc + 1 ≤ R.cells ∧ ns + N ≤ R.slots) (hd : decode cc pc = .ok (.new idx, 3))
    (kk : Zw p l e R s m args below meth c G b nL Q (nc + 1) (ns + N) (pc + 3) ls (.ref S.1.length :: st) (zS1 S (0, ci, fs))) : Zw p l e R s m args below meth c G b nL Q nc ns pc ls st S := by
  intro H locs la hH hS hL
  obtain ⟨hc, hin, hty, hnm⟩ := hC
  have hts := X.2.2.2.2.1
  have hKn := X.2.2.2.2.2.1.1 ci _ hc
  refine W.newcK X.1 X.2.1 X.2.2.2.1 (hts _ hlink) (hts _ hinst) (hts _ hini) rfl hd hroom.1 hroom.2 hKn.2.1 rfl fun H1 kC hkC e1 z1 o1 => ?_
  have hs : (Value.ref H.size :: st.map (zv b)) = (Value.ref S.1.length :: st).map (zv b) := by
    rw [List.map_cons, zv_ref (by omega), hH.1]
  show W p l e R s m args below meth c H1 locs _ _ Q (F0 m (pc + 3) la (Value.ref H.size :: st.map (zv b)))
  rw [hs]
  refine kk H1 locs la (zH_push hH hl z1 o1 ⟨_, hc, ?_⟩) ⟨Nat.le_trans hS.1 (by omega), fun x h1 h2 => (o1 x (Nat.lt_of_lt_of_le h1 hS.1)).trans (hS.2.1 x h1 h2), hS.2.2⟩ hL
  have hb := u_born t0 hts hin hKn hkC e1 hty
  rw [hH.1] at hb
  refine hb.to fun j hj => ?_
  show defaultValue (t0 j) = vp_V (fs.mapIdx (zF b (zS1 S (0, ci, fs)) S.1.length)) j
  rw [hfs.2.2 j hj]
  have hjl : j < fs.length := by rw [hfs.1]; exact hj
  unfold vp_V
  simp only [List.getD_eq_getElem?_getD, List.getElem?_mapIdx, List.getElem?_eq_getElem hjl, Option.map_some, Option.getD_some]
  show zdv fs[j] = zF b (zS1 S (0, ci, fs)) S.1.length j fs[j]
  have h2 := hfs.2.1 fs[j] (List.getElem_mem hjl)
  generalize fs[j] = f at h2
  obtain ⟨f1, f2⟩ := f
  have e1 : (zS1 S (0, ci, fs)).2.1 S.1.length j = 0 := if_pos rfl
  have e2 : (zS1 S (0, ci, fs)).2.2 S.1.length j = 0 := if_pos rfl
  match f1, h2 with
  | 0, _ => show Value.int 0 = Value.int _; rw [e1]
  | 1, _ => show Value.long 0 = Value.long _; rw [e2]
  | 2, h2 => exact absurd rfl h2
  | k + 3, _ => rfl
theorem z_cls {U : State} {cA : ClassId} {ty : FieldType} (h : va_RA U cA ty) (hno : ∀ C, ty ≠ .object C) : U.vm.findClass ("[" ++ ty.toString) = some cA := by
  cases ty with
  | object C => exact absurd rfl (hno C)
  | _ => exact h
theorem a_newarray (X : zOK p s m args meth c G b own cc nL) {at_ : ArrayType} {kd n : Nat} {x : Int32} (hk : (kd = 1 ∧ newarray.typeOf at_ = .int) ∨ (kd = 2 ∧ newarray.typeOf at_ = .boolean) ∨ (kd = 3 ∧ newarray.typeOf at_ = .long)) (hw : Cond.arrayClass (newarray.typeOf at_) ∈ zT) (hx : ¬ x < 0 ∧ x.toNatClampNeg = n ∧ n ≤ 1000) (hl : S.1.length + 1 < 1000000) (hroom : nc + 1 ≤ R.cells ∧ ns + n ≤ R.slots) (hd : decode cc pc = .ok (.newarray at_, 2))
    (kk : Zw p l e R s m args below meth c G b nL Q (nc + 1) (ns + n) (pc + 2) ls (.ref S.1.length :: st) (zS1 S (kd, n, []))) : Zw p l e R s m args below meth c G b nL Q nc ns pc ls (.int x :: st) S := by
  intro H locs la hH hS hL
  have hts := X.2.2.2.2.1
  have hb8 : n * componentBytes (newarray.typeOf at_) ≤ 536870912 := by
    have : componentBytes (newarray.typeOf at_) ≤ 8 := by rcases hk with ⟨-, h⟩ | ⟨-, h⟩ | ⟨-, h⟩ <;> rw [h] <;> decide
    have h2 := Nat.mul_le_mul hx.2.2 this
    omega
  refine va_newaK X.1 X.2.1 (hts _ hw) rfl hd rfl hx.1 hx.2.1 hb8 hroom.1 hroom.2 rfl fun H1 cA e1 z1 o1 hAr hNm => ?_
  have hs : (Value.ref H.size :: st.map (zv b)) = (Value.ref S.1.length :: st).map (zv b) := by
    rw [List.map_cons, zv_ref (by omega), hH.1]
  show W p l e R s m args below meth c H1 locs _ _ Q (F0 m (pc + 2) la (Value.ref H.size :: st.map (zv b)))
  rw [hs]
  refine kk H1 locs la (zH_push hH hl z1 o1 ?_) ⟨Nat.le_trans hS.1 (by omega), fun x h1 h2 => (o1 x (Nat.lt_of_lt_of_le h1 hS.1)).trans (hS.2.1 x h1 h2), hS.2.2⟩ hL
  rw [hH.1] at e1
  have m1 : (zS1 S (kd, n, [])).2.1 S.1.length = fun _ => 0 := by funext j; exact if_pos rfl
  have m2 : (zS1 S (kd, n, [])).2.2 S.1.length = fun _ => 0 := by funext j; exact if_pos rfl
  rcases hk with ⟨rfl, h⟩ | ⟨rfl, h⟩ | ⟨rfl, h⟩
  · rw [h] at hNm e1
    have hc := z_cls (X.2.2.2.2.2.1.2 0 _ rfl).2 (fun C => by intro q; cases q)
    have : cA = G.2 1 := Option.some.inj (hNm.symm.trans hc)
    subst this
    show H1[b + S.1.length]? = some (vp_cell (G.2 1) (n, .inl ((zS1 S (1, n, [])).2.1 S.1.length)))
    rw [m1]
    exact e1
  · rw [h] at hNm e1
    have hc := z_cls (X.2.2.2.2.2.1.2 1 _ rfl).2 (fun C => by intro q; cases q)
    have : cA = G.2 2 := Option.some.inj (hNm.symm.trans hc)
    subst this
    show H1[b + S.1.length]? = some (vp_cell (G.2 2) (n, .inl ((zS1 S (2, n, [])).2.1 S.1.length)))
    rw [m1]
    exact e1
  · rw [h] at hNm e1
    have hc := z_cls (X.2.2.2.2.2.1.2 2 _ rfl).2 (fun C => by intro q; cases q)
    have : cA = G.2 3 := Option.some.inj (hNm.symm.trans hc)
    subst this
    show H1[b + S.1.length]? = some (vp_cell (G.2 3) (n, .inr (.inl ((zS1 S (3, n, [])).2.2 S.1.length))))
    rw [m2]
    exact e1
theorem a_anewarray (X : zOK p s m args meth c G b own cc nL) {idx n : Nat} {x : Int32} (hlink : Cond.classLink own idx RX4 ∈ zT) (hx : ¬ x < 0 ∧ x.toNatClampNeg = n ∧ n ≤ 1000) (hl : S.1.length + 1 < 1000000) (hroom : nc + 1 ≤ R.cells ∧ ns + n ≤ R.slots) (hd : decode cc pc = .ok (.anewarray idx, 3))
    (kk : Zw p l e R s m args below meth c G b nL Q (nc + 1) (ns + n) (pc + 3) ls (.ref S.1.length :: st) (zS1 S (4, n, List.replicate n (3, 0)))) : Zw p l e R s m args below meth c G b nL Q nc ns pc ls (.int x :: st) S := by
  intro H locs la hH hS hL
  have hts := X.2.2.2.2.1
  obtain ⟨hx1, hx2, hx3⟩ := hx
  subst hx2
  refine W.anew X.1 X.2.1 X.2.2.2.1 (hts _ hlink) (va_AO.use X.2.2.2.2.2.2.1.2.1) rfl hd rfl hx1 (by omega) hroom.1 hroom.2 fun cA kA comp f1 f2 f3 f4 => ?_
  generalize hH1 : H.push ({ cls := cA, slots := Array.replicate x.toNatClampNeg .null, vm := .none } : Cell) = H1
  have z1 : H1.size = H.size + 1 := by rw [← hH1, Array.size_push]
  have e1 : H1[H.size]? = some (arrV cA x.toNatClampNeg (fun _ => .null)) := by rw [← hH1, Array.getElem?_push_size, ← arrV_new]
  have o1 : ∀ q : Nat, q < H.size → H1[q]? = H[q]? := fun q hq => by rw [← hH1, Array.getElem?_push, if_neg (Nat.ne_of_lt hq)]
  have hs : (Value.ref H.size :: st.map (zv b)) = (Value.ref S.1.length :: st).map (zv b) := by
    rw [List.map_cons, zv_ref (by omega), hH.1]
  show W p l e R s m args below meth c H1 locs _ _ Q (F0 m (pc + 3) la (Value.ref H.size :: st.map (zv b)))
  rw [hs]
  refine kk H1 locs la (zH_push hH hl z1 o1 ?_) ⟨Nat.le_trans hS.1 (by omega), fun x h1 h2 => (o1 x (Nat.lt_of_lt_of_le h1 hS.1)).trans (hS.2.1 x h1 h2), hS.2.2⟩ hL
  rw [hH.1] at e1
  obtain ⟨kA2, comp2, g1, g2, g3, g4⟩ := (X.2.2.2.2.2.1.2 3 _ rfl).2
  have : cA = G.2 4 := Option.some.inj (f1.symm.trans g4)
  subst this
  show H1[b + S.1.length]? = some (vp_cell (G.2 4) (x.toNatClampNeg, .inr (.inr (.inr (.inr (zrf b (List.replicate x.toNatClampNeg (3, 0))))))))
  rw [e1, vp_cell_q]
  congr 2
  funext i
  unfold zrf
  rw [List.getElem?_replicate]
  split <;> rfl
theorem a_aastore (X : zOK p s m args meth c G b own cc nL) {P n z k : Nat} {fs fz : List (Nat × Nat)} {i : Int32} (hq : S.1[P]? = some (4, n, fs)) (hz : S.1[z]? = some (0, 4, fz)) (hi : ¬ i < 0 ∧ i.toNatClampNeg = k ∧ k < n ∧ fs.length = n) (hd : decode cc pc = .ok (.aastore, 1)) (kk : Zw p l e R s m args below meth c G b nL Q nc ns (pc + 1) ls st (S.1.set P (4, n, fs.set k (2, z)), S.2)) : Zw p l e R s m args below meth c G b nL Q nc ns pc ls (.ref z :: .int i :: .ref P :: st) S := by
  intro H locs la hH hS hL
  have hlt := zH_lt hH hq
  have hzt := zH_lt hH hz
  show W p l e R s m args below meth c H locs nc ns Q (F0 m pc la (zv b (.ref z) :: .int i :: zv b (.ref P) :: st.map (zv b)))
  rw [zv_ref hlt, zv_ref hzt]
  obtain ⟨h0, hi2, hkn, hfl⟩ := hi
  subst hi2
  have hK := X.2.2.2.2.2.1
  obtain ⟨r', hr', cellV, g1, g2, g3, -⟩ := hH.2.2 z _ (zW_get hz)
  have hcls := (hK.1 4 _ rfl).2
  obtain ⟨kA, comp, k1, k2, k3, -⟩ := (hK.2 3 _ rfl).2
  have hcomp : comp = G.1.1 4 := Option.some.inj (k3.symm.trans hcls.1)
  subst hcomp
  obtain ⟨kC, hkC, -⟩ := hcls.2
  refine W.aast X.1 X.2.1 (hH.2.2 P _ (zW_get hq)) (fun q h => by cases h) (fun h => by cases h) k1 k2 rfl hkC ⟨h0, by show _ < (arrV _ _ _).slots.size; rw [arrV_size]; exact hkn⟩ g1 (fun q h => by rw [g3] at h; cases h) (by rw [g2]; exact hkC) (by rw [g2]; exact va_assign hcls) rfl rfl hd fun H1 e1 z1 oq => ?_
  refine kk H1 _ la (zH_set (S' := (S.1.set P (4, n, fs.set i.toNatClampNeg (2, z)), S.2)) hH z1 (hH.2.2.set (zD G b S) (zW_get hq) (e := .inl (G.2 4, n, .inr (.inr (.inr (.inr (zrf b (fs.set i.toNatClampNeg (2, z)))))))) ?_ oq) hq rfl (fun a ha => ⟨rfl, rfl⟩) rfl) (hS.put z1 oq (Nat.le_add_right b P)) hL
  show H1[b + P]? = some (vp_cell _ _)
  rw [e1]
  show some ((arrV (G.2 4) n (fun j => va_rf (zrf b fs j))).setSlot i.toNatClampNeg (.ref (b + z))) = some (vp_cell _ _)
  rw [vp_cell_q, arrV_store]
  congr 2
  funext q
  by_cases hq2 : q = i.toNatClampNeg
  · subst hq2
    have : zrf b (fs.set i.toNatClampNeg (2, z)) i.toNatClampNeg = some (b + z) := by
      unfold zrf
      rw [List.getElem?_set_self (by rw [hfl]; exact hkn)]
      rfl
    rw [this]
    simp [updV, va_rf]
  · have : zrf b (fs.set i.toNatClampNeg (2, z)) q = zrf b fs q := by
      unfold zrf
      rw [List.getElem?_set_ne (Ne.symm hq2)]
    rw [this]
    simp [updV, hq2]
theorem a_putr (X : zOK p s m args meth c G b own cc nL) {idx ci k P z : Nat} {ty : FieldType} {fs : List (Nat × Nat)} (hname : meth.name = "<init>") (hz : z < 1000000) (hf : zFf own idx ci k ty) (hty2 : ∀ a, narrow ty (.ref a) = .ref a ∧ fits ty (.ref a) = true) (hq : S.1[P]? = some (0, ci, fs)) (hk : k < fs.length) (hd : decode cc pc = .ok (.putfield idx, 3)) (kk : Zw p l e R s m args below meth c G b nL Q nc ns (pc + 3) ls st (S.1.set P (0, ci, fs.set k (2, z)), S.2)) : Zw p l e R s m args below meth c G b nL Q nc ns pc ls (.ref z :: .ref P :: st) S := by
  intro H locs la hH hS hL
  obtain ⟨T, N, t0, ⟨hc, hin, hty, hnm⟩, hkN, hlink, ht0, hfin, hC⟩ := hf
  have hlt := zH_lt hH hq
  show W p l e R s m args below meth c H locs nc ns Q (F0 m pc la (zv b (.ref z) :: zv b (.ref P) :: st.map (zv b)))
  rw [zv_ref hlt, zv_ref hz]
  have hK := X.2.2.2.2.2.1
  have hts := X.2.2.2.2.1
  have hap := va_apart (own := own) hts hin t0 hty hnm hK hc
  obtain ⟨r, h1, cell, q1, q2, q3, q4⟩ := hH.2.2 P _ (zW_get hq)
  have hr : r = (own, T, N) := Option.some.inj (h1.symm.trans hc)
  subst hr
  obtain ⟨hSl, hfc, kC, hkC, hkind⟩ := hK.1 ci _ hc
  obtain ⟨cf, kf, fi, f, hi, hsl⟩ := hSl k hkN
  have hlay := hts _ (hin _ (u_in_lay hkN))
  unfold u_lay at hlay
  rw [if_pos hfin] at hlay
  have hst := (u_facts hfc hkC (u_lays hts hin hkN) hi).1
  have hcf : m.cls = cf := by
    obtain ⟨_, _, c', _, _, _, -, -, hf', -, -, -, hown2, -⟩ := Cond.laysFinal_spec hlay
    have e1 : c' = cf := by have := hi.symm.trans hf'; simp at this; exact this.1.symm
    rw [hC] at hown2
    rw [← e1]
    exact Option.some.inj (X.2.2.2.1.symm.trans hown2)
  have h6 := u_fits hfc hkC hkind (Or.inr hlay) hi (hty k hkN) (by rw [ht0]; exact (hty2 (b + z)).1) (by rw [ht0]; exact (hty2 (b + z)).2)
  refine W.putFinK X.1 X.2.1 X.2.2.2.1 (hts _ hlink) hi hst hcf hname (by rw [q2]; exact h6) q1 q3 (by rw [hsl]; exact k2_hasslot (q4 k hkN)) rfl rfl hd fun H' e1 e2 e3 => ?_
  rw [hsl] at e1 ⊢
  refine kk H' _ la (zH_set (S' := (S.1.set P (0, ci, fs.set k (2, z)), S.2)) hH e2 (hH.2.2.set (zD G b S) (zW_get hq) (e := .inr (ci, (fs.mapIdx (zF b S P)).set k (.ref (b + z)))) ⟨_, hc, t_OB.to (V := updV (vp_V (fs.mapIdx (zF b S P))) k (.ref (b + z))) ⟨_, e1, q2, q3, t_set q4 hap hkN (.ref (b + z))⟩ (fun j _ => vp_updV_set (by rw [List.length_mapIdx]; exact hk) (.ref (b + z)) j)⟩ e3) hq rfl (fun a ha => ⟨rfl, rfl⟩) ?_) (hS.put e2 e3 (Nat.le_add_right b P)) hL
  show Sum.inr (ci, (fs.set k (2, z)).mapIdx (zF b _ P)) = Sum.inr (ci, _)
  refine congrArg (fun x => Sum.inr (ci, x)) (zmap_set (g := zF b S P) (k := k) (v := .ref (b + z)) (fs := fs) List.length_set (fun f h => ?_) (fun j hj => ⟨List.getElem?_set_ne (Ne.symm hj), fun f => rfl⟩))
  rw [List.getElem?_set_self hk] at h
  cases h
  rfl
end ZM
section ZO
variable {p : Program} {l : Launch} {e : Env} {R : Room} {s : State} {m : MethodId} {args : Array Value} {below : List Frame} {meth : Method} {c : Code} {G : zG} {b : Nat} {Q : State → Prop} {nc ns : Nat}
variable {cc : ByteArray} {pc nL : Nat} {own : String} {ls : List (Option Value)} {st : List Value} {S : zS}
theorem a_objinit (X : zOK p s m args meth c G b own cc nL) {idx P : Nat} (hlink : Cond.methodLink own idx Lib.objectInit ∈ zT) (hroom : 1 ≤ R.frames ∧ (st.map fun v => v.category).sum + 12 ≤ R.locals) (hd : decode cc pc = .ok (.invokespecial idx, 3)) (kk : Zw p l e R s m args below meth c G b nL Q nc ns (pc + 3) ls st S) : Zw p l e R s m args below meth c G b nL Q nc ns pc ls (.ref P :: st) S :=
  fun H locs la hH hS hL => W.objInit X.1 X.2.1 X.2.2.2.1 (X.2.2.2.2.1 _ hlink) (X.2.2.2.2.1 _ zobj1) (X.2.2.2.2.1 _ zobj2) (g := F0 m pc la ((Value.ref P :: st).map (zv b))) rfl (hL.1.trans X.2.2.1.symm) rfl hd hroom.1 (by rw [z_sum]; show 2 * 0 + _ + 12 ≤ _; omega) (kk H locs la hH hS hL)
/-- the same state, told otherwise -/
theorem Zw.to {ls' : List (Option Value)} {S' : zS} (h : Zw p l e R s m args below meth c G b nL Q nc ns pc ls' st S') (hl : ls' = ls) (hS : S' = S) : Zw p l e R s m args below meth c G b nL Q nc ns pc ls st S := by
  subst hl
  subst hS
  exact h
theorem Zw.to2 {ls' : List (Option Value)} {st' : List Value} {S' : zS} (h : Zw p l e R s m args below meth c G b nL Q nc ns pc ls' st' S') (hl : ls' = ls) (hst : st' = st) (hS : S' = S) : Zw p l e R s m args below meth c G b nL Q nc ns pc ls st S := by
  subst hl
  subst hst
  subst hS
  exact h
end ZO
section ZLS
variable {p : Program} {l : Launch} {e : Env} {R : Room} {s : State} {m : MethodId} {args : Array Value} {below : List Frame} {meth : Method} {c : Code} {G : zG} {b : Nat} {Q : State → Prop} {nc ns : Nat}
variable {cc : ByteArray} {pc nL : Nat} {own : String} {ls : List (Option Value)} {st : List Value} {S : zS}
theorem a_lsw2 (X : zOK p s m args meth c G b own cc nL) {dflt : Int} {ps : Array (Int × Int)} {len : Nat} {x : Int32} {k1 o1 k2 o2 : Int} {t1 t2 td : Nat} (hd : decode cc pc = .ok (.lookupswitch dflt ps, len)) (hps : ps.toList = [(k1, o1), (k2, o2)]) (hk : k1 < k2) (h1 : (pc : Int) + o1 = (t1 : Int)) (h2 : (pc : Int) + o2 = (t2 : Int)) (hdf : (pc : Int) + dflt = (td : Int))
    (kk1 : x.toInt = k1 → Zw p l e R s m args below meth c G b nL Q nc ns t1 ls st S) (kk2 : ¬ x.toInt = k1 → x.toInt = k2 → Zw p l e R s m args below meth c G b nL Q nc ns t2 ls st S) (kk3 : ¬ x.toInt = k1 → ¬ x.toInt = k2 → Zw p l e R s m args below meth c G b nL Q nc ns td ls st S) : Zw p l e R s m args below meth c G b nL Q nc ns pc ls (.int x :: st) S := by
  intro H locs la hH hS hL
  have hp : (ps.toList.zip (ps.toList.drop 1)).all (fun (a, next) => a.1 < next.1) = true := by rw [hps]; simpa using hk
  by_cases e1 : x.toInt = k1
  · exact lv_lookup X.1 X.2.1 hd hp (off := o1) (by rw [hps, Op.lookupswitch.offset_cons, if_pos e1.symm]) h1 (kk1 e1 H locs la hH hS hL)
  · by_cases e2 : x.toInt = k2
    · exact lv_lookup X.1 X.2.1 hd hp (off := o2) (by rw [hps, Op.lookupswitch.offset_cons, if_neg (fun q => e1 q.symm), Op.lookupswitch.offset_cons, if_pos e2.symm]) h2 (kk2 e1 e2 H locs la hH hS hL)
    · exact lv_lookup X.1 X.2.1 hd hp (off := dflt) (by rw [hps, Op.lookupswitch.offset_cons, if_neg (fun q => e1 q.symm), Op.lookupswitch.offset_cons, if_neg (fun q => e2 q.symm)]; rfl) hdf (kk3 e1 e2 H locs la hH hS hL)
end ZLS
/-! pure words for the helpers -/
def zrd {α : Type} (o : α) (f : Nat → α) (n : Nat) (i : Int32) : α := if i < 0 ∨ n ≤ i.toNatClampNeg then o else f i.toNatClampNeg
def zwr {α : Type} (M : Nat → Nat → α) (P n : Nat) (i : Int32) (x : α) : Nat → Nat → α := if i < 0 ∨ n ≤ i.toNatClampNeg then M else zu M P i.toNatClampNeg x
theorem z_ge {n : Nat} {i : Int32} (hn : n < 2 ^ 31) (h0 : ¬ i < 0) : Int32.ofNat n ≤ i ↔ n ≤ i.toNatClampNeg := by
  have h1 : (Int32.ofNat n).toInt = n := nI_toInt hn
  have hc : i.toNatClampNeg = i.toInt.toNat := rfl
  have h00 : (0 : Int32).toInt = 0 := by decide
  rw [Int32.lt_iff_toInt_lt] at h0
  rw [Int32.le_iff_toInt_le, h1, hc]
  omega
theorem z_in {n : Nat} {i : Int32} (hn : n < 2 ^ 31) (h0 : ¬ i < 0) (h1 : ¬ Int32.ofNat n ≤ i) : vp_in i n := fun h => h.elim h0 (fun q => h1 ((z_ge hn h0).mpr q))
theorem zrd_a {α : Type} {o : α} {f : Nat → α} {n : Nat} {i : Int32} (h : i < 0) : zrd o f n i = o := if_pos (Or.inl h)
theorem zrd_b {α : Type} {o : α} {f : Nat → α} {n : Nat} {i : Int32} (hn : n < 2 ^ 31) (h0 : ¬ i < 0) (h1 : Int32.ofNat n ≤ i) : zrd o f n i = o := if_pos (Or.inr ((z_ge hn h0).mp h1))
theorem zrd_c {α : Type} {o : α} {f : Nat → α} {n : Nat} {i : Int32} (hn : n < 2 ^ 31) (h0 : ¬ i < 0) (h1 : ¬ Int32.ofNat n ≤ i) : zrd o f n i = f i.toNatClampNeg := if_neg (z_in hn h0 h1)
theorem zwr_a {α : Type} {M : Nat → Nat → α} {P n : Nat} {i : Int32} {x : α} (h : i < 0) : zwr M P n i x = M := if_pos (Or.inl h)
theorem zwr_b {α : Type} {M : Nat → Nat → α} {P n : Nat} {i : Int32} {x : α} (hn : n < 2 ^ 31) (h0 : ¬ i < 0) (h1 : Int32.ofNat n ≤ i) : zwr M P n i x = M := if_pos (Or.inr ((z_ge hn h0).mp h1))
theorem zwr_c {α : Type} {M : Nat → Nat → α} {P n : Nat} {i : Int32} {x : α} (hn : n < 2 ^ 31) (h0 : ¬ i < 0) (h1 : ¬ Int32.ofNat n ≤ i) : zwr M P n i x = zu M P i.toNatClampNeg x := if_neg (z_in hn h0 h1)
/-- row P filled with v up to n -/
def zfil {α : Type} (M : Nat → Nat → α) (P n : Nat) (v : α) : Nat → Nat → α := fun a j => if a = P ∧ j < n then v else M a j
theorem zfil_0 {α : Type} {M : Nat → Nat → α} {P : Nat} {v : α} : zfil M P 0 v = M := by
  funext a j
  exact if_neg (fun h => by omega)
theorem zfil_s {α : Type} {M : Nat → Nat → α} {P n : Nat} {v : α} : zu (zfil M P n v) P n v = zfil M P (n + 1) v := by
  funext a j
  unfold zu zfil
  by_cases h : a = P
  · subst h
    by_cases h2 : j = n
    · subst h2
      rw [if_pos ⟨rfl, rfl⟩, if_pos ⟨rfl, Nat.lt_succ_self _⟩]
    · rw [if_neg (fun q => h2 q.2)]
      by_cases h3 : j < n
      · rw [if_pos ⟨rfl, h3⟩, if_pos ⟨rfl, by omega⟩]
      · rw [if_neg (fun q => h3 q.2), if_neg (fun q => by omega)]
  · rw [if_neg (fun q => h q.1), if_neg (fun q => h q.1), if_neg (fun q => h q.1)]
/-- row P takes g up to n -/
def zcpy {α : Type} (M : Nat → Nat → α) (P n : Nat) (g : Nat → α) : Nat → Nat → α := fun a j => if a = P ∧ j < n then g j else M a j
theorem zcpy_0 {α : Type} {M : Nat → Nat → α} {P : Nat} {g : Nat → α} : zcpy M P 0 g = M := by
  funext a j
  exact if_neg (fun h => by omega)
theorem zcpy_s {α : Type} {M : Nat → Nat → α} {P n : Nat} {g : Nat → α} : zu (zcpy M P n g) P n (g n) = zcpy M P (n + 1) g := by
  funext a j
  unfold zu zcpy
  by_cases h : a = P
  · subst h
    by_cases h2 : j = n
    · subst h2
      rw [if_pos ⟨rfl, rfl⟩, if_pos ⟨rfl, Nat.lt_succ_self _⟩]
    · rw [if_neg (fun q => h2 q.2)]
      by_cases h3 : j < n
      · rw [if_pos ⟨rfl, h3⟩, if_pos ⟨rfl, by omega⟩]
      · rw [if_neg (fun q => h3 q.2), if_neg (fun q => by omega)]
  · rw [if_neg (fun q => h q.1), if_neg (fun q => h q.1), if_neg (fun q => h q.1)]
