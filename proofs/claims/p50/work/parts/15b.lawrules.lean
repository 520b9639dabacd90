/-! the law's own walk -/
section ZS
variable {p : Program} {l : Launch} {e : Env} {R : Room} {s : State} {m : MethodId} {args : Array Value} {below : List Frame} {meth : Method} {c : Code} {G : zG} {b : Nat} {Q : State → Prop} {nc ns : Nat}
variable {cc : ByteArray} {pc nL : Nat} {own : String} {ls : List (Option Value)} {st : List Value} {S : zS}
theorem a_sld (X : zOK p s m args meth c G b own cc nL) {sb L : Nat} {xs : Nat → Int32} (hX0 : va_X sb L xs s s.heap) (hsb : sb < s.heap.size) (hbb : b = s.heap.size) {i : Int32} (hin : vp_in i L) (hd : decode cc pc = .ok (.iaload, 1)) (kk : Zw p l e R s m args below meth c G b nL Q nc ns (pc + 1) ls (.int (xs i.toNatClampNeg) :: st) S) : Zw p l e R s m args below meth c G b nL Q nc ns pc ls (.int i :: .ref (1000000 + sb) :: st) S := by
  intro H locs la hH hS hL
  show W p l e R s m args below meth c H locs nc ns Q (F0 m pc la (.int i :: zv b (.ref (1000000 + sb)) :: st.map (zv b)))
  rw [zv_far]
  exact va_sld (A := fun q : Nat => b ≤ q) X.1 X.2.1 hX0 hsb (by omega) hS hin hd (kk H locs la hH hS hL)
theorem a_slen (X : zOK p s m args meth c G b own cc nL) {sb L : Nat} {xs : Nat → Int32} (hX0 : va_X sb L xs s s.heap) (hsb : sb < s.heap.size) (hbb : b = s.heap.size) (hd : decode cc pc = .ok (.arraylength, 1)) (kk : Zw p l e R s m args below meth c G b nL Q nc ns (pc + 1) ls (.int (Int32.ofNat L) :: st) S) : Zw p l e R s m args below meth c G b nL Q nc ns pc ls (.ref (1000000 + sb) :: st) S := by
  intro H locs la hH hS hL
  show W p l e R s m args below meth c H locs nc ns Q (F0 m pc la (zv b (.ref (1000000 + sb)) :: st.map (zv b)))
  rw [zv_far]
  exact va_slen (A := fun q : Nat => b ≤ q) X.1 X.2.1 hX0 hsb (by omega) hS hd (kk H locs la hH hS hL)
theorem a_pop2 (X : zOK p s m args meth c G b own cc nL) {v : Value} (hd : decode cc pc = .ok (.pop2, 1)) (hc : v.category = 2) (kk : Zw p l e R s m args below meth c G b nL Q nc ns (pc + 1) ls st S) : Zw p l e R s m args below meth c G b nL Q nc ns pc ls (v :: st) S :=
  fun H locs la hH hS hL => lv_pop2_2 X.1 X.2.1 hd (by rw [zv_cat]; exact hc) (kk H locs la hH hS hL)
end ZS
theorem l_app {L K : List zC} {k : Nat} {q : zC} (h : L[k]? = some q) : (L ++ K)[k]? = some q := by
  rw [List.getElem?_append_left (List.getElem?_eq_some_iff.mp h).1]
  exact h
theorem LX4.app {L K : List zC} {P : Nat} (h : LX4 L P) : LX4 (L ++ K) P := ⟨h.1, l_app h.2.1, l_app h.2.2.1, l_app h.2.2.2.1, l_app h.2.2.2.2.1, l_app h.2.2.2.2.2.1, l_app h.2.2.2.2.2.2.1, l_app h.2.2.2.2.2.2.2.1, l_app h.2.2.2.2.2.2.2.2⟩
theorem LX2.app {L K : List zC} {P : Nat} (h : LX2 L P) : LX2 (L ++ K) P := ⟨h.1, l_app h.2.1, l_app h.2.2.1, l_app h.2.2.2.1, l_app h.2.2.2.2.1, l_app h.2.2.2.2.2.1, l_app h.2.2.2.2.2.2.1, l_app h.2.2.2.2.2.2.2.1, l_app h.2.2.2.2.2.2.2.2.1, l_app h.2.2.2.2.2.2.2.2.2.1, l_app h.2.2.2.2.2.2.2.2.2.2.1, l_app h.2.2.2.2.2.2.2.2.2.2.2.1, l_app h.2.2.2.2.2.2.2.2.2.2.2.2.1, l_app h.2.2.2.2.2.2.2.2.2.2.2.2.2⟩
theorem LX5.app {L K : List zC} {P : Nat} (h : LX5 L P) : LX5 (L ++ K) P := ⟨h.1, l_app h.2.1, l_app h.2.2.1, l_app h.2.2.2.1, l_app h.2.2.2.2.1, l_app h.2.2.2.2.2.1, l_app h.2.2.2.2.2.2.1, l_app h.2.2.2.2.2.2.2.1, l_app h.2.2.2.2.2.2.2.2⟩
theorem LX0.app {L K : List zC} {P : Nat} (h : LX0 L P) : LX0 (L ++ K) P := ⟨h.1, l_app h.2.1, l_app h.2.2.1, l_app h.2.2.2.1, l_app h.2.2.2.2.1, l_app h.2.2.2.2.2.1, LX5.app (h.2.2.2.2.2.2)⟩
theorem LX6.app {L K : List zC} {P : Nat} (h : LX6 L P) : LX6 (L ++ K) P := ⟨h.1, l_app h.2.1, l_app h.2.2.1, l_app h.2.2.2.1, l_app h.2.2.2.2.1, LX4.app (h.2.2.2.2.2.1), LX2.app (h.2.2.2.2.2.2.1), LX5.app (h.2.2.2.2.2.2.2)⟩
theorem LX3.app {L K : List zC} {P : Nat} (h : LX3 L P) : LX3 (L ++ K) P := ⟨h.1, l_app h.2.1, LX4.app (h.2.2.1), l_app h.2.2.2.1, l_app h.2.2.2.2.1, l_app h.2.2.2.2.2.1, l_app h.2.2.2.2.2.2.1, l_app h.2.2.2.2.2.2.2⟩
theorem LX1.app {L K : List zC} {P : Nat} (h : LX1 L P) : LX1 (L ++ K) P := ⟨h.1, l_app h.2.1, l_app h.2.2.1, LX4.app (h.2.2.2.1), LX4.app (h.2.2.2.2.1), LX4.app (h.2.2.2.2.2.1), LX4.app (h.2.2.2.2.2.2.1), LX4.app (h.2.2.2.2.2.2.2.1), LX4.app (h.2.2.2.2.2.2.2.2.1), LX4.app (h.2.2.2.2.2.2.2.2.2.1), LX4.app (h.2.2.2.2.2.2.2.2.2.2)⟩
theorem LX7.app {L K : List zC} {P : Nat} (h : LX7 L P) : LX7 (L ++ K) P := ⟨h.1, l_app h.2.1, l_app h.2.2.1, l_app h.2.2.2.1, LX3.app (h.2.2.2.2.1), LX4.app (h.2.2.2.2.2.1), LX1.app (h.2.2.2.2.2.2.1), LX2.app (h.2.2.2.2.2.2.2.1), LX5.app (h.2.2.2.2.2.2.2.2.1), LX0.app (h.2.2.2.2.2.2.2.2.2.1), LX6.app (h.2.2.2.2.2.2.2.2.2.2.1), LX4.app (h.2.2.2.2.2.2.2.2.2.2.2.1), LX2.app (h.2.2.2.2.2.2.2.2.2.2.2.2.1), LX5.app (h.2.2.2.2.2.2.2.2.2.2.2.2.2.1), LX0.app (h.2.2.2.2.2.2.2.2.2.2.2.2.2.2)⟩
theorem zE7.app {S z : zS} {P : Nat} {K : List zC} (h : zE7 S P) (h1 : z.1 = S.1 ++ K) (h2 : ∀ a, a < P + 200 → z.2.1 a = S.2.1 a) : zE7 z P := by
  obtain ⟨h0, hr⟩ := h
  refine ⟨by rw [h1]; exact h0.app, ?_⟩
  rw [h2 P (by omega), h2 (P + 3) (by omega), h2 (P + 17) (by omega), h2 (P + 18) (by omega), h2 (P + 20) (by omega), h2 (P + 25) (by omega), h2 (P + 91) (by omega), h2 (P + 19) (by omega), h2 (P + 21) (by omega), h2 (P + 22) (by omega), h2 (P + 23) (by omega), h2 (P + 24) (by omega)]
  exact hr
theorem law_sub {w : Cond} (h : w ∈ zT) : w ∈ lw_tbl := (List.mem_filter.mp h).1
theorem law_arr {s : State} {args : Array Value} {ty : FieldType} (h : (Cond.arrayClass ty).before args s = true) (hno : ∀ C, ty ≠ .object C) : ∃ cA, ArrOfT s cA ty ∧ va_RA s cA ty := by
  obtain ⟨cA, k, comp, h1, h2, h3⟩ := Cond.arrayClass_spec h
  refine ⟨cA, fun N z => ⟨(fun k h => by cases h), k, h2, comp, h3⟩, ?_⟩
  cases ty with
  | object C => exact absurd rfl (hno C)
  | _ => exact h1
theorem law_over {s : State} {args : Array Value} {C : String} (h : (Cond.arrayOver (.object C)).before args s = true) : ∃ cA, ArrOfT s cA (.object C) ∧ va_RA s cA (.object C) := by
  obtain ⟨comp, cA, k, h1, h2, h3, h4, h5⟩ := Cond.arrayOver_spec h
  exact ⟨cA, fun N z => ⟨(fun k h => by cases h), k, h3, comp, h4⟩, k, comp, h3, h4, h1, h5⟩
theorem law_ov {s : State} {args : Array Value} (hts : ∀ w ∈ lw_tbl, w.before args s = true) : (Cond.arrayOver (.object RX4)).before args s = true := hts _ (by decide +kernel)
def zTm (i : Nat) : Term := Term.string (zLit.getD i ("", 0, "")).1 (zLit.getD i ("", 0, "")).2.1
def zPos : List Nat := [9, 17, 28, 39, 51, 63, 75, 91, 108, 124, 143, 162, 224]
def zFla : List Cond := flatC (Jvm.Cond.and given_1 narrow_1)
theorem law_q1 : ∀ i, i < 13 → zFla[zPos.getD i 0]? = some (Cond.exactly (zTm i) "java/lang/String") := by decide +kernel
theorem law_q2 : ∀ i, i < 13 → zFla[zPos.getD i 0 + 1]? = some (Cond.eq (.field (zTm i) "java/lang/String" "coder" "B") (.int 0)) := by decide +kernel
theorem law_q3 : ∀ i, i < 13 → zFla[zPos.getD i 0 + 2]? = some (Cond.arrayOf (.field (zTm i) "java/lang/String" "value" "[B") .byte) := by decide +kernel
theorem law_q4 : ∀ i, i < 13 → zFla[zPos.getD i 0 + 3]? = some (Cond.eq (.length (.field (zTm i) "java/lang/String" "value" "[B")) (.int (Int32.ofNat (zLen.getD i 0)))) := by decide +kernel
theorem law_q5 : ∀ i, i < 13 → ∀ j, j < zLen.getD i 0 → zFla[zPos.getD i 0 + 4 + j]? = some (Cond.eq (.elem (.field (zTm i) "java/lang/String" "value" "[B") (.int (Int32.ofNat j))) (.int ((zByt.getD i []).getD j 0))) := by decide +kernel
theorem law_q6 : ∀ i, i < 13 → ∀ j, j < i → zFla[zPos.getD i 0 + 4 + zLen.getD i 0 + j]? = some (Cond.not (Cond.eq (zTm j) (zTm i))) := by decide +kernel
theorem law_s1 : ∀ i, i < 13 → Cond.exactly (zTm i) "java/lang/String" ∈ flatC (Jvm.Cond.and given_1 narrow_1) := fun i hi => List.mem_of_getElem? (law_q1 i hi)
theorem law_s2 : ∀ i, i < 13 → Cond.eq (.field (zTm i) "java/lang/String" "coder" "B") (.int 0) ∈ flatC (Jvm.Cond.and given_1 narrow_1) := fun i hi => List.mem_of_getElem? (law_q2 i hi)
theorem law_s3 : ∀ i, i < 13 → Cond.arrayOf (.field (zTm i) "java/lang/String" "value" "[B") .byte ∈ flatC (Jvm.Cond.and given_1 narrow_1) := fun i hi => List.mem_of_getElem? (law_q3 i hi)
theorem law_s4 : ∀ i, i < 13 → Cond.eq (.length (.field (zTm i) "java/lang/String" "value" "[B")) (.int (Int32.ofNat (zLen.getD i 0))) ∈ flatC (Jvm.Cond.and given_1 narrow_1) := fun i hi => List.mem_of_getElem? (law_q4 i hi)
theorem law_s5 : ∀ i, i < 13 → ∀ j, j < zLen.getD i 0 → Cond.eq (.elem (.field (zTm i) "java/lang/String" "value" "[B") (.int (Int32.ofNat j))) (.int ((zByt.getD i []).getD j 0)) ∈ flatC (Jvm.Cond.and given_1 narrow_1) := fun i hi j hj => List.mem_of_getElem? (law_q5 i hi j hj)
theorem law_s6 : ∀ i, i < 13 → ∀ j, j < 13 → i ≠ j → Cond.not (Cond.eq (zTm i) (zTm j)) ∈ flatC (Jvm.Cond.and given_1 narrow_1) ∨ Cond.not (Cond.eq (zTm j) (zTm i)) ∈ flatC (Jvm.Cond.and given_1 narrow_1) := fun i hi j hj hij => by
  by_cases z : i < j
  · exact Or.inl (List.mem_of_getElem? (law_q6 j hj i z))
  · exact Or.inr (List.mem_of_getElem? (law_q6 i hi j (by omega)))
theorem law_s7 : ∀ i, i < 13 → Cond.stringRef (zLit.getD i ("", 0, "")).1 (zLit.getD i ("", 0, "")).2.1 (zLit.getD i ("", 0, "")).2.2 ∈ lw_tbl := by decide +kernel
theorem law_s8 : Cond.laysStatic "java/lang/String" "COMPACT_STRINGS" "Z" ∈ lw_tbl ∧ Cond.initialized "java/lang/String" ∈ lw_tbl ∧ Cond.laysStatic "jdk/internal/util/Preconditions" "SIOOBE_FORMATTER" "Ljava/util/function/BiFunction;" ∈ lw_tbl ∧ Cond.initialized "jdk/internal/util/Preconditions" ∈ lw_tbl ∧ Cond.eq (.static "java/lang/String" "COMPACT_STRINGS" "Z") (.int 1) ∈ flatC (Jvm.Cond.and given_1 narrow_1) ∧ Cond.isRef (.static "jdk/internal/util/Preconditions" "SIOOBE_FORMATTER" "Ljava/util/function/BiFunction;") ∈ flatC (Jvm.Cond.and given_1 narrow_1) := by decide +kernel
theorem law_strs {s : State} {args : Array Value} (hgv : (Jvm.Cond.and given_1 narrow_1).before args s = true) (hts : ∀ w ∈ lw_tbl, w.before args s = true) : ∃ adK adV : Nat → Nat, vk_S 13 zLen zByt adK adV (fun q : Nat => s.heap.size ≤ q) s s.heap ∧ (∀ (i : Nat) (q : String × Nat × String), zLit[i]? = some q → vk_R q.1 q.2.1 q.2.2 (adK i) s) := by
  have hs := flat_of_before _ hgv
  obtain ⟨adK, adV, h1, h2⟩ := vk_Sof (args := args) (s := s) (N := 13) (tm := zTm) (len := zLen) (byt := zByt) (A := fun q : Nat => s.heap.size ≤ q) (by decide) (fun i hi => hs _ (law_s1 i hi)) (fun i hi => hs _ (law_s2 i hi)) (fun i hi => hs _ (law_s3 i hi)) (fun i hi => hs _ (law_s4 i hi)) (fun i hi j hj => hs _ (law_s5 i hi j hj)) (fun i j hi hj hij => (law_s6 i hi j hj hij).elim (fun h => Or.inl (hs _ h)) (fun h => Or.inr (hs _ h))) (fun a ha h => by omega)
  refine ⟨adK, adV, h1, fun i q hq => ?_⟩
  have hi : i < 13 := (List.getElem?_eq_some_iff.mp hq).1
  have e : zLit.getD i ("", 0, "") = q := by rw [List.getD_eq_getElem?_getD, hq]; rfl
  have k1 := hts _ (law_s7 i hi)
  have k2 := h2 i hi
  unfold zTm at k2
  rw [e] at k1 k2
  exact vk_R.of k1 k2
theorem law_world {s : State} {args : Array Value} (hgv : (Jvm.Cond.and given_1 narrow_1).before args s = true) (hts : ∀ w ∈ lw_tbl, w.before args s = true) : ∃ G : zG, va_K G.1 vwCl (zty G) s ∧ zStr G s.heap.size s := by
  have hT : ∀ w ∈ zT, w.before args s = true := fun w h => hts w (law_sub h)
  obtain ⟨c0, i0, u0⟩ := u_known hT zc0.2.1 (hT _ zinst0)
  obtain ⟨c1, i1, u1⟩ := u_known hT zc1.2.1 (hT _ zinst1)
  obtain ⟨c2, i2, u2⟩ := u_known hT zc2.2.1 (hT _ zinst2)
  obtain ⟨c3, i3, u3⟩ := u_known hT zc3.2.1 (hT _ zinst3)
  obtain ⟨c4, i4, u4⟩ := u_known hT zc4.2.1 (hT _ zinst4)
  obtain ⟨c5, i5, u5⟩ := u_known hT zc5.2.1 (hT _ zinst5)
  obtain ⟨c6, i6, u6⟩ := u_known hT zc6.2.1 (hT _ zinst6)
  obtain ⟨c7, i7, u7⟩ := u_known hT zc7.2.1 (hT _ zinst7)
  obtain ⟨c8, i8, u8⟩ := u_known hT zc8.2.1 (hT _ zinst8)
  obtain ⟨aI, qI⟩ := law_arr (hT _ zarrI) (fun C q => by cases q)
  obtain ⟨aZ, qZ⟩ := law_arr (hT _ zarrZ) (fun C q => by cases q)
  obtain ⟨aJ, qJ⟩ := law_arr (hT _ zarrJ) (fun C q => by cases q)
  obtain ⟨aR, qR⟩ := law_over (law_ov hts)
  obtain ⟨adK, adV, hS, hR⟩ := law_strs hgv hts
  have hs := flat_of_before _ hgv
  obtain ⟨w1, w2, w3, w4, w5, w6⟩ := law_s8
  refine ⟨((fun c => [c0, c1, c2, c3, c4, c5, c6, c7, c8].getD c 0, fun c => [i0, i1, i2, i3, i4, i5, i6, i7, i8].getD c (fun _ => 0)), fun k => if k < 100 then [0, aI, aZ, aJ, aR].getD k 0 else if k < 200 then adK (k - 100) else adV (k - 200)), ⟨fun c q hq => ?_, fun k q hk => ?_⟩, ?_⟩
  · match c, hq with
    | 0, hq => cases hq; exact u0
    | 1, hq => cases hq; exact u1
    | 2, hq => cases hq; exact u2
    | 3, hq => cases hq; exact u3
    | 4, hq => cases hq; exact u4
    | 5, hq => cases hq; exact u5
    | 6, hq => cases hq; exact u6
    | 7, hq => cases hq; exact u7
    | 8, hq => cases hq; exact u8
    | k + 9, hq => exact absurd hq (by simp [vwCl])
  · match k, hk with
    | 0, hk => cases hk; exact qI
    | 1, hk => cases hk; exact qZ
    | 2, hk => cases hk; exact qJ
    | 3, hk => cases hk; exact qR
    | k + 4, hk => exact absurd hk (by simp [zty])
  · have eK : ∀ (G1 : va_G) (i : Nat), i < 100 → zKa (G1, fun k => if k < 100 then [0, aI, aZ, aJ, aR].getD k 0 else if k < 200 then adK (k - 100) else adV (k - 200)) i = adK i := fun G1 i hi => by
      show (if 100 + i < 100 then _ else if 100 + i < 200 then adK (100 + i - 100) else _) = _
      rw [if_neg (by omega), if_pos (by omega), Nat.add_sub_cancel_left]
    have eV : ∀ (G1 : va_G) (i : Nat), zVa (G1, fun k => if k < 100 then [0, aI, aZ, aJ, aR].getD k 0 else if k < 200 then adK (k - 100) else adV (k - 200)) i = adV i := fun G1 i => by
      show (if 200 + i < 100 then _ else if 200 + i < 200 then _ else adV (200 + i - 200)) = _
      rw [if_neg (by omega), if_neg (by omega), Nat.add_sub_cancel_left]
    refine ⟨⟨fun i hi => ?_, fun i j hi hj hij => ?_⟩, fun i q hi => ?_, va_Zof (hts _ w1) (hts _ w2) (va_eqt (hs _ w5)) (fun a ha h => by omega), va_Zqof (hts _ w3) (hts _ w4) (hs _ w6) (fun a ha h => by omega)⟩
    · rw [eK _ i (by omega), eV]
      exact hS.1 i hi
    · rw [eK _ i (by omega), eK _ j (by omega)] at hij
      exact hS.2 i j hi hj hij
    · rw [eK _ i (by have : i < 13 := (List.getElem?_eq_some_iff.mp hi).1; omega)]
      exact hR i q hi
