/-! p52: the world that the law stands in -/
theorem law_sub {w : Cond} (h : w ∈ zT) : w ∈ lw_tbl := (List.mem_filter.mp h).1
theorem law_arr {s : State} {args : Array Value} {ty : FieldType} (h : (Cond.arrayClass ty).before args s = true) (hno : ∀ C, ty ≠ .object C) : ∃ cA, ArrOfT s cA ty ∧ va_RA s cA ty := by
  obtain ⟨cA, k, comp, h1, h2, h3⟩ := Cond.arrayClass_spec h
  refine ⟨cA, fun N z => ⟨(fun k h => by cases h), k, h2, comp, h3⟩, ?_⟩
  cases ty with
  | object C => exact absurd rfl (hno C)
  | _ => exact h1
theorem law_over {s : State} {args : Array Value} {C : String} (h : (Cond.arrayOver (.object C)).before args s = true) : ∃ cA, ArrOfT s cA (.object C) ∧ va_RA s cA (.object C) := by
  obtain ⟨comp, cA, k, h1, h2, h3, h4, h5⟩ := Cond.arrayOver_spec h
  exact ⟨cA, fun N z => ⟨(fun k h => by cases h), k, h3, comp, h4⟩, k, comp, h3, h4, h1, h5⟩
theorem law_ov {s : State} {args : Array Value} (hts : ∀ w ∈ lw_tbl, w.before args s = true) : (Cond.arrayOver (.object RX4)).before args s = true := hts _ (by decide +kernel)
def zTm (i : Nat) : Term := Term.string (zLit.getD i ("", 0, "")).1 (zLit.getD i ("", 0, "")).2.1
def zFla : List Cond := flatC (Jvm.Cond.and given_1 narrow_1)
def zPos : List Nat := [215, 223, 234, 245, 257, 269, 281, 297, 314, 330, 349, 368, 383, 405, 423, 442, 469, 496, 531, 559, 588, 614, 648, 685, 719]
theorem law_q1 : ∀ i, i < 25 → zFla[zPos.getD i 0]? = some (Cond.exactly (zTm i) "java/lang/String") := by decide +kernel
theorem law_q2 : ∀ i, i < 25 → zFla[zPos.getD i 0 + 1]? = some (Cond.eq (.field (zTm i) "java/lang/String" "coder" "B") (.int 0)) := by decide +kernel
theorem law_q3 : ∀ i, i < 25 → zFla[zPos.getD i 0 + 2]? = some (Cond.arrayOf (.field (zTm i) "java/lang/String" "value" "[B") .byte) := by decide +kernel
theorem law_q4 : ∀ i, i < 25 → zFla[zPos.getD i 0 + 3]? = some (Cond.eq (.length (.field (zTm i) "java/lang/String" "value" "[B")) (.int (Int32.ofNat (zLen.getD i 0)))) := by decide +kernel
theorem law_q5 : ∀ i, i < 25 → ∀ j, j < zLen.getD i 0 → zFla[zPos.getD i 0 + 4 + j]? = some (Cond.eq (.elem (.field (zTm i) "java/lang/String" "value" "[B") (.int (Int32.ofNat j))) (.int ((zByt.getD i []).getD j 0))) := by decide +kernel
theorem law_q6 : ∀ i, i < 25 → ∀ j, j < i → zFla[zPos.getD i 0 + 4 + zLen.getD i 0 + j]? = some (Cond.not (Cond.eq (zTm j) (zTm i))) := by decide +kernel
theorem law_s1 : ∀ i, i < 25 → Cond.exactly (zTm i) "java/lang/String" ∈ flatC (Jvm.Cond.and given_1 narrow_1) := fun i hi => List.mem_of_getElem? (law_q1 i hi)
theorem law_s2 : ∀ i, i < 25 → Cond.eq (.field (zTm i) "java/lang/String" "coder" "B") (.int 0) ∈ flatC (Jvm.Cond.and given_1 narrow_1) := fun i hi => List.mem_of_getElem? (law_q2 i hi)
theorem law_s3 : ∀ i, i < 25 → Cond.arrayOf (.field (zTm i) "java/lang/String" "value" "[B") .byte ∈ flatC (Jvm.Cond.and given_1 narrow_1) := fun i hi => List.mem_of_getElem? (law_q3 i hi)
theorem law_s4 : ∀ i, i < 25 → Cond.eq (.length (.field (zTm i) "java/lang/String" "value" "[B")) (.int (Int32.ofNat (zLen.getD i 0))) ∈ flatC (Jvm.Cond.and given_1 narrow_1) := fun i hi => List.mem_of_getElem? (law_q4 i hi)
theorem law_s5 : ∀ i, i < 25 → ∀ j, j < zLen.getD i 0 → Cond.eq (.elem (.field (zTm i) "java/lang/String" "value" "[B") (.int (Int32.ofNat j))) (.int ((zByt.getD i []).getD j 0)) ∈ flatC (Jvm.Cond.and given_1 narrow_1) := fun i hi j hj => List.mem_of_getElem? (law_q5 i hi j hj)
theorem law_s6 : ∀ i, i < 25 → ∀ j, j < 25 → i ≠ j → Cond.not (Cond.eq (zTm i) (zTm j)) ∈ flatC (Jvm.Cond.and given_1 narrow_1) ∨ Cond.not (Cond.eq (zTm j) (zTm i)) ∈ flatC (Jvm.Cond.and given_1 narrow_1) := fun i hi j hj hij => by
  by_cases z : i < j
  · exact Or.inl (List.mem_of_getElem? (law_q6 j hj i z))
  · exact Or.inr (List.mem_of_getElem? (law_q6 i hi j (by omega)))
theorem law_s7 : ∀ i, i < 25 → Cond.stringRef (zLit.getD i ("", 0, "")).1 (zLit.getD i ("", 0, "")).2.1 (zLit.getD i ("", 0, "")).2.2 ∈ lw_tbl := by decide +kernel
theorem law_s8 : Cond.laysStatic "java/lang/String" "COMPACT_STRINGS" "Z" ∈ lw_tbl ∧ Cond.initialized "java/lang/String" ∈ lw_tbl ∧ Cond.laysStatic "jdk/internal/util/Preconditions" "SIOOBE_FORMATTER" "Ljava/util/function/BiFunction;" ∈ lw_tbl ∧ Cond.initialized "jdk/internal/util/Preconditions" ∈ lw_tbl ∧ Cond.eq (.static "java/lang/String" "COMPACT_STRINGS" "Z") (.int 1) ∈ flatC (Jvm.Cond.and given_1 narrow_1) ∧ Cond.isRef (.static "jdk/internal/util/Preconditions" "SIOOBE_FORMATTER" "Ljava/util/function/BiFunction;") ∈ flatC (Jvm.Cond.and given_1 narrow_1) := by decide +kernel
theorem law_strs {s : State} {args : Array Value} (hgv : (Jvm.Cond.and given_1 narrow_1).before args s = true) (hts : ∀ w ∈ lw_tbl, w.before args s = true) : ∃ adK adV : Nat → Nat, vk_S 25 zLen zByt adK adV (fun q : Nat => s.heap.size ≤ q) s s.heap ∧ (∀ (i : Nat) (q : String × Nat × String), zLit[i]? = some q → vk_R q.1 q.2.1 q.2.2 (adK i) s) := by
  have hs := flat_of_before _ hgv
  obtain ⟨adK, adV, h1, h2⟩ := vk_Sof (args := args) (s := s) (N := 25) (tm := zTm) (len := zLen) (byt := zByt) (A := fun q : Nat => s.heap.size ≤ q) (by decide) (fun i hi => hs _ (law_s1 i hi)) (fun i hi => hs _ (law_s2 i hi)) (fun i hi => hs _ (law_s3 i hi)) (fun i hi => hs _ (law_s4 i hi)) (fun i hi j hj => hs _ (law_s5 i hi j hj)) (fun i j hi hj hij => (law_s6 i hi j hj hij).elim (fun h => Or.inl (hs _ h)) (fun h => Or.inr (hs _ h))) (fun a ha h => by omega)
  refine ⟨adK, adV, h1, fun i q hq => ?_⟩
  have hi : i < 25 := (List.getElem?_eq_some_iff.mp hq).1
  have e : zLit.getD i ("", 0, "") = q := by rw [List.getD_eq_getElem?_getD, hq]; rfl
  have k1 := hts _ (law_s7 i hi)
  have k2 := h2 i hi
  unfold zTm at k2
  rw [e] at k1 k2
  exact vk_R.of k1 k2
theorem law_d1 : ∀ j, j < 100 → zFla[12 + j]? = some (Cond.eq (.elem (.static "java/lang/Integer" "DigitOnes" "[B") (.int (Int32.ofNat j))) (.int (Int32.ofNat (48 + j % 10)))) := by decide +kernel
theorem law_d2 : ∀ j, j < 100 → zFla[115 + j]? = some (Cond.eq (.elem (.static "java/lang/Integer" "DigitTens" "[B") (.int (Int32.ofNat j))) (.int (Int32.ofNat (48 + j / 10)))) := by decide +kernel
theorem law_d3 : zFla[10]? = some (Cond.arrayOf (.static "java/lang/Integer" "DigitOnes" "[B") .byte) ∧ zFla[11]? = some (Cond.eq (.length (.static "java/lang/Integer" "DigitOnes" "[B")) (.int 100)) ∧ zFla[113]? = some (Cond.arrayOf (.static "java/lang/Integer" "DigitTens" "[B") .byte) ∧ zFla[114]? = some (Cond.eq (.length (.static "java/lang/Integer" "DigitTens" "[B")) (.int 100)) := by decide +kernel
theorem law_d4 : Cond.laysStatic "java/lang/Integer" "DigitOnes" "[B" ∈ lw_tbl ∧ Cond.laysStatic "java/lang/Integer" "DigitTens" "[B" ∈ lw_tbl ∧ Cond.initialized "java/lang/Integer" ∈ lw_tbl ∧ Cond.castable "[B" "java/lang/Cloneable" ∈ lw_tbl := by decide +kernel
/-- the words of G -/
def law_G (aI aB aJ aR : Nat) (adK adV : Nat → Nat) (sa L t1 t2 : Nat) (xs : Nat → Int32) (k : Nat) : Nat := if k < 100 then [0, aI, aB, aJ, aR].getD k 0 else if k < 200 then adK (k - 100) else if k < 300 then adV (k - 200) else if k = 300 then sa else if k = 301 then L else if k = 310 then t1 else if k = 311 then t2 else (xs (k - 1000)).toBitVec.toNat
theorem law_gK {aI aB aJ aR : Nat} {adK adV : Nat → Nat} {sa L t1 t2 : Nat} {xs : Nat → Int32} {i : Nat} (hi : i < 100) : law_G aI aB aJ aR adK adV sa L t1 t2 xs (100 + i) = adK i := by
  unfold law_G
  rw [if_neg (by omega), if_pos (by omega), Nat.add_sub_cancel_left]
theorem law_gV {aI aB aJ aR : Nat} {adK adV : Nat → Nat} {sa L t1 t2 : Nat} {xs : Nat → Int32} {i : Nat} (hi : i < 100) : law_G aI aB aJ aR adK adV sa L t1 t2 xs (200 + i) = adV i := by
  unfold law_G
  rw [if_neg (by omega), if_neg (by omega), if_pos (by omega), Nat.add_sub_cancel_left]
theorem law_g300 {aI aB aJ aR : Nat} {adK adV : Nat → Nat} {sa L t1 t2 : Nat} {xs : Nat → Int32} : law_G aI aB aJ aR adK adV sa L t1 t2 xs 300 = sa := by
  unfold law_G
  rw [if_neg (by omega), if_neg (by omega), if_neg (by omega), if_pos rfl]
theorem law_g301 {aI aB aJ aR : Nat} {adK adV : Nat → Nat} {sa L t1 t2 : Nat} {xs : Nat → Int32} : law_G aI aB aJ aR adK adV sa L t1 t2 xs 301 = L := by
  unfold law_G
  rw [if_neg (by omega), if_neg (by omega), if_neg (by omega), if_neg (by omega), if_pos rfl]
theorem law_g310 {aI aB aJ aR : Nat} {adK adV : Nat → Nat} {sa L t1 t2 : Nat} {xs : Nat → Int32} : law_G aI aB aJ aR adK adV sa L t1 t2 xs 310 = t1 := by
  unfold law_G
  rw [if_neg (by omega), if_neg (by omega), if_neg (by omega), if_neg (by omega), if_neg (by omega), if_pos rfl]
theorem law_g311 {aI aB aJ aR : Nat} {adK adV : Nat → Nat} {sa L t1 t2 : Nat} {xs : Nat → Int32} : law_G aI aB aJ aR adK adV sa L t1 t2 xs 311 = t2 := by
  unfold law_G
  rw [if_neg (by omega), if_neg (by omega), if_neg (by omega), if_neg (by omega), if_neg (by omega), if_neg (by omega), if_pos rfl]
theorem law_gx {aI aB aJ aR : Nat} {adK adV : Nat → Nat} {sa L t1 t2 : Nat} {xs : Nat → Int32} {j : Nat} : Int32.ofNat (law_G aI aB aJ aR adK adV sa L t1 t2 xs (1000 + j)) = xs j := by
  unfold law_G
  rw [if_neg (by omega), if_neg (by omega), if_neg (by omega), if_neg (by omega), if_neg (by omega), if_neg (by omega), if_neg (by omega), Nat.add_sub_cancel_left]
  refine Int32.toBitVec_inj.mp ?_
  show BitVec.ofNat 32 (xs j).toBitVec.toNat = (xs j).toBitVec
  exact BitVec.eq_of_toNat_eq (by rw [BitVec.toNat_ofNat, Nat.mod_eq_of_lt (xs j).toBitVec.isLt])
theorem law_world {s : State} {args : Array Value} {sa L : Nat} {xs : Nat → Int32} (hgv : (Jvm.Cond.and given_1 narrow_1).before args s = true) (hts : ∀ w ∈ lw_tbl, w.before args s = true) (hX0 : va_X sa L xs s s.heap) (hsb : sa < s.heap.size) (hL : L ≤ 260) : ∃ G : zG, G.2 300 = sa ∧ va_K G.1 vwCl (zty G) s ∧ zStr G s.heap.size s ∧ zEj G s.heap.size s := by
  have hT : ∀ w ∈ zT, w.before args s = true := fun w h => hts w (law_sub h)
  obtain ⟨c0, i0, u0⟩ := u_known hT zc0.2.1 (hT _ zinst0)
  obtain ⟨c1, i1, u1⟩ := u_known hT zc1.2.1 (hT _ zinst1)
  obtain ⟨c2, i2, u2⟩ := u_known hT zc2.2.1 (hT _ zinst2)
  obtain ⟨c3, i3, u3⟩ := u_known hT zc3.2.1 (hT _ zinst3)
  obtain ⟨c4, i4, u4⟩ := u_known hT zc4.2.1 (hT _ zinst4)
  obtain ⟨c5, i5, u5⟩ := u_known hT zc5.2.1 (hT _ zinst5)
  obtain ⟨c6, i6, u6⟩ := u_known hT zc6.2.1 (hT _ zinst6)
  obtain ⟨c7, i7, u7⟩ := u_known hT zc7.2.1 (hT _ zinst7)
  obtain ⟨c8, i8, u8⟩ := u_known hT zc8.2.1 (hT _ zinst8)
  obtain ⟨c9, i9, u9⟩ := u_known hT zcJ9.2.1 (hT _ zinst9)
  obtain ⟨c10, i10, u10⟩ := u_known hT zcJ10.2.1 (hT _ zinst10)
  obtain ⟨aI, qI⟩ := law_arr (hT _ zarrI) (fun C q => by cases q)
  obtain ⟨aB, qB⟩ := law_arr (hT _ zarrB) (fun C q => by cases q)
  obtain ⟨aJ, qJ⟩ := law_arr (hT _ zarrJ) (fun C q => by cases q)
  obtain ⟨aR, qR⟩ := law_over (law_ov hts)
  obtain ⟨adK, adV, hS, hR⟩ := law_strs hgv hts
  have hs := flat_of_before _ hgv
  obtain ⟨w1, w2, w3, w4, w5, w6⟩ := law_s8
  obtain ⟨e1, e2, e3, e4⟩ := law_d3
  obtain ⟨f1, f2, f3, f4⟩ := law_d4
  have hsz : ∀ a : Nat, a < s.heap.size → ¬ s.heap.size ≤ a := fun a ha h => by omega
  obtain ⟨t1, g1, g2⟩ := va_Tof (args := args) (s := s) (tm := .static "java/lang/Integer" "DigitOnes" "[B") (ty := .byte) (N := 100) (f := fun j => .int (nI (48 + j % 10))) (A := fun q : Nat => s.heap.size ≤ q) (by decide) (hs _ (List.mem_of_getElem? e1)) (va_eqt (hs _ (List.mem_of_getElem? e2))) (fun j hj => va_eqt (hs _ (List.mem_of_getElem? (law_d1 j hj)))) hsz
  obtain ⟨t2, h1, h2⟩ := va_Tof (args := args) (s := s) (tm := .static "java/lang/Integer" "DigitTens" "[B") (ty := .byte) (N := 100) (f := fun j => .int (nI (48 + j / 10))) (A := fun q : Nat => s.heap.size ≤ q) (by decide) (hs _ (List.mem_of_getElem? e3)) (va_eqt (hs _ (List.mem_of_getElem? e4))) (fun j hj => va_eqt (hs _ (List.mem_of_getElem? (law_d2 j hj)))) hsz
  refine ⟨((fun c => [c0, c1, c2, c3, c4, c5, c6, c7, c8, c9, c10].getD c 0, fun c => [i0, i1, i2, i3, i4, i5, i6, i7, i8, i9, i10].getD c (fun _ => 0)), law_G aI aB aJ aR adK adV sa L t1 t2 xs), ?_, ⟨fun c q hq => ?_, fun k q hk => ?_⟩, ?_, ?_⟩
  · show law_G aI aB aJ aR adK adV sa L t1 t2 xs 300 = sa
    exact law_g300
  · match c, hq with
    | 0, hq => cases hq; exact u0
    | 1, hq => cases hq; exact u1
    | 2, hq => cases hq; exact u2
    | 3, hq => cases hq; exact u3
    | 4, hq => cases hq; exact u4
    | 5, hq => cases hq; exact u5
    | 6, hq => cases hq; exact u6
    | 7, hq => cases hq; exact u7
    | 8, hq => cases hq; exact u8
    | 9, hq => cases hq; exact u9
    | 10, hq => cases hq; exact u10
    | k + 11, hq => exact absurd hq (by simp [vwCl])
  · match k, hk with
    | 0, hk => cases hk; exact qI
    | 1, hk => cases hk; exact qB
    | 2, hk => cases hk; exact qJ
    | 3, hk => cases hk; exact qR
    | k + 4, hk => exact absurd hk (by simp [zty])
  · have eK : ∀ (G1 : va_G) (i : Nat), i < 100 → zKa (G1, law_G aI aB aJ aR adK adV sa L t1 t2 xs) i = adK i := fun G1 i hi => law_gK hi
    have eV : ∀ (G1 : va_G) (i : Nat), i < 100 → zVa (G1, law_G aI aB aJ aR adK adV sa L t1 t2 xs) i = adV i := fun G1 i hi => law_gV hi
    refine ⟨⟨fun i hi => ?_, fun i j hi hj hij => ?_⟩, fun i q hi => ?_, va_Zof (hts _ w1) (hts _ w2) (va_eqt (hs _ w5)) hsz, va_Zqof (hts _ w3) (hts _ w4) (hs _ w6) hsz⟩
    · rw [eK _ i (by omega), eV _ i (by omega)]
      exact hS.1 i hi
    · rw [eK _ i (by omega), eK _ j (by omega)] at hij
      exact hS.2 i j hi hj hij
    · rw [eK _ i (by have : i < 25 := (List.getElem?_eq_some_iff.mp hi).1; omega)]
      exact hR i q hi
  · refine ⟨va_Nw.of rfl (hts _ f4), ?_, ?_, ?_, ?_, ?_, ?_⟩
    · show va_Z _ _ _ (.ref (law_G aI aB aJ aR adK adV sa L t1 t2 xs 310)) _ _ _
      rw [law_g310]
      exact va_Zof (hts _ f1) (hts _ f3) g1 hsz
    · show va_Z _ _ _ (.ref (law_G aI aB aJ aR adK adV sa L t1 t2 xs 311)) _ _ _
      rw [law_g311]
      exact va_Zof (hts _ f2) (hts _ f3) h1 hsz
    · show va_T .byte (law_G aI aB aJ aR adK adV sa L t1 t2 xs 310) 100 _ _ _ _
      rw [law_g310]
      exact g2
    · show va_T .byte (law_G aI aB aJ aR adK adV sa L t1 t2 xs 311) 100 _ _ _ _
      rw [law_g311]
      exact h2
    · show va_T .int (law_G aI aB aJ aR adK adV sa L t1 t2 xs 300) (law_G aI aB aJ aR adK adV sa L t1 t2 xs 301) (fun j => .int (Int32.ofNat (law_G aI aB aJ aR adK adV sa L t1 t2 xs (1000 + j)))) _ _ _
      rw [law_g300, law_g301]
      obtain ⟨scr, x1, x2, x3, x4, x5⟩ := hX0
      exact ⟨scr, x1, x2, x3, by omega, by rw [x4], fun j hj => by
        show scr.slots[j]? = some (.int (Int32.ofNat (law_G aI aB aJ aR adK adV sa L t1 t2 xs (1000 + j))))
        rw [law_gx]
        exact x5 j hj, by omega⟩
    · show law_G aI aB aJ aR adK adV sa L t1 t2 xs 301 ≤ 260
      rw [law_g301]
      exact hL
theorem whole_start {p : Program} {e : Env} {s : State} {m : MethodId} {below : List Frame} {meth : Method} {c : Code} (l : Launch) (hflags : l.flags = flags0) {b L : Nat} {xs : Nat → Int32} (hL : L ≤ 260) (C0 : lw_At p s m meth c b L xs) : W p l e room_1 s m #[Value.ref b] below meth c s.heap [] 0 0 (lw_Z below #[Value.ref b] s) (entryFrame m ([Value.ref b] : List Value).toArray 5) := by
  obtain ⟨hx, hb, hr, hml, hown, hts, hX0, hsb, hlocks, hgv⟩ := C0
  obtain ⟨G, hG, hK, hZ, hJ⟩ := law_world hgv hts hX0 hsb hL
  have hN : zEx G s.heap.size s := ⟨fun w hw => va_Nw.of (by obtain ⟨a, i, x, t, rfl⟩ := zNest_form hw; rfl) (hts w (List.mem_filter.mp hw).1), va_AO.of (law_ov hts), hZ, hJ⟩
  have X : zOK p s m #[Value.ref b] meth c G s.heap.size RX8 code 5 := ⟨hx, hb, hml, hown, fun w hw => hts w (law_sub hw), hK, hN, hlocks, Nat.le_refl _⟩
  have hv : ([Value.ref (1000000 + b)] : List Value).map (zv s.heap.size) = [Value.ref b] := by
    show [zv s.heap.size (.ref (1000000 + b))] = _
    rw [zv_far]
  have hl := lv_entry (([Value.ref (1000000 + b)] : List Value).map (zv s.heap.size)) (n := 5) (by rw [zfl_sl]; exact Nat.le_of_ble_eq_true rfl)
  rw [hv] at hl
  have hl2 := zA_entry (b := s.heap.size) (n := 5) (av := [Value.ref (1000000 + b)]) (by rw [hv]; exact hl)
  rw [lg_entry_eq]
  exact law_0 X hr hX0 hsb rfl hG s.heap [] _ ⟨rfl, by decide, fun k q hk => by cases hk⟩ va_S.rf hl2
