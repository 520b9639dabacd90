/-! p52: the law, walked -/
/-- a fresh TagDraw stays one where its own cells and rows stay -/
theorem zE7.sbs {S z : zS} {P : Nat} (h : zE7 S P) (h1 : sb S.1 z.1) (h2 : ∀ a, P ≤ a → a < P + 200 → z.2.1 a = S.2.1 a) : zE7 z P := by
  obtain ⟨h0, hr⟩ := h
  refine ⟨h0.sb h1, ?_⟩
  rw [h2 P (by omega) (by omega), h2 (P + 3) (by omega) (by omega), h2 (P + 17) (by omega) (by omega), h2 (P + 18) (by omega) (by omega), h2 (P + 20) (by omega) (by omega), h2 (P + 25) (by omega) (by omega), h2 (P + 91) (by omega) (by omega), h2 (P + 19) (by omega) (by omega), h2 (P + 21) (by omega) (by omega), h2 (P + 22) (by omega) (by omega), h2 (P + 23) (by omega) (by omega), h2 (P + 24) (by omega) (by omega)]
  exact hr
theorem law_ret {p : Program} {l : Launch} {e : Env} {s : State} {m : MethodId} {below : List Frame} {meth : Method} {c : Code} {G : zG} {b sa L : Nat} {xs : Nat → Int32} (X : zOK p s m #[Value.ref sa] meth c G b RX8 code 5) (hr : meth.sig.returnType = ret) (hX0 : va_X sa L xs s s.heap) (hsb : sa < s.heap.size) (hbb : b = s.heap.size) {nc ns : Nat} (hc : nc ≤ 600000) (hs : ns ≤ 7302250) {ls : List (Option Value)} {S : zS} : Zw p l e room_1 s m #[Value.ref sa] below meth c G b 5 (lw_Z below #[Value.ref sa] s) nc ns 159 ls [.int 1] S := by
  intro H locs la hH hS hL
  exact va_forget (fun q hq => by rw [← hbb]; exact hS.2.2 q hq) (W.widen hc hs (lw_ret X.1 X.2.1 hr X.2.2.2.2.2.2.2.1 dL_law_159))
/-- the law with its list: n applicants, U units, H hunters -/
def wL (G : zG) (n U H : Nat) (T : zMt) (a : Nat) (S : zS) : Prop := zLo G S 0 ∧ LX8 S.1 0 ∧ LX7 S.1 5 ∧ 205 ≤ S.1.length ∧ cS 5 S.2.1 T n U H ∧ S.2.1 0 1 = nI a ∧ S.2.1 0 2 = nI n ∧ S.2.1 0 3 = nI U
/-- what stands behind the loop -/
theorem law_95 {p : Program} {l : Launch} {e : Env} {s : State} {m : MethodId} {below : List Frame} {meth : Method} {c : Code} {G : zG} {b sa L : Nat} {xs : Nat → Int32} (X : zOK p s m #[Value.ref sa] meth c G b RX8 code 5) (hr : meth.sig.returnType = ret) (hX0 : va_X sa L xs s s.heap) (hsb : sa < s.heap.size) (hbb : b = s.heap.size) {nc ns : Nat} (hc : nc ≤ 600000) (hs : ns ≤ 7302250) {n U H a : Nat} {T : zMt} {x3 x4 : Option Value} {S : zS} (w : wL G n U H T a S) : Zw p l e room_1 s m #[Value.ref sa] below meth c G b 5 (lw_Z below #[Value.ref sa] s) nc ns 95 [some (.ref (1000000 + sa)), some (.ref 0), some (.ref 5), x3, x4] [] S := by
  obtain ⟨L, M, N⟩ := S
  obtain ⟨ho, h8, h7, hl, hc', h1, h2, h3⟩ := w
  have ho' : L[0]? = _ := ho
  have o7 := h7.2.1
  have k1 : kR 5 M (zu M 5 0 5) := kR.s
  have c1 := hc'.k k1
  have k2 : kR 5 M (zu (zu M 5 0 5) 5 0 2) := k1.tr kR.s
  have c2 := hc'.k k2
  refine a_aload_n X dL_law_95 rfl ?_
  refine a_iconst (v := 0) X dL_law_96 (by decide) ?_
  refine a_aload_n X dL_law_97 rfl ?_
  refine a_getc X lf8_106 ho' rfl h2 dL_law_98 ?_
  refine a_callVv X dL_law_101 miX7_order lm8_148 (t_X7_order h7 (rd_orderN hc')) o7 rfl rfl rfl (Nat.le_of_ble_eq_true rfl) ⟨by decide, by decide, by show nc + 0 ≤ 600000; omega, by show ns + 0 ≤ 7302250; omega⟩ ?_
  refine a_iconst (v := -1) X dL_law_104 (by decide) ?_
  refine a_icmp_ne (tgt := 158) X dL_law_105 (by decide) (fun h => absurd rfl h) (fun _ => ?_)
  refine a_aload_n X dL_law_108 rfl ?_
  refine a_callVv X dL_law_109 miX7_status lm8_138 (t_X7_status h7 (r := 5) (show D_X7_status 5 (zu M 5 0 5) = some 5 from congrArg some (zu_eq (M := M) (P := 5) (k := 0) (v := (5 : Int32))))) o7 rfl rfl rfl (Nat.le_of_ble_eq_true rfl) ⟨by decide, by decide, by show nc + 0 + 0 ≤ 600000; omega, by show ns + 0 + 0 ≤ 7302250; omega⟩ ?_
  refine a_iconst (v := 5) X dL_law_112 (by decide) ?_
  refine a_icmp_ne (tgt := 158) X dL_law_113 (by decide) (fun h => absurd rfl h) (fun _ => ?_)
  refine a_aload_n X dL_law_116 rfl ?_
  refine a_iconst (v := 0) X dL_law_117 (by decide) ?_
  refine a_aload_n X dL_law_118 rfl ?_
  refine a_getc X lf8_106 ho' rfl (show zu M 5 0 5 0 2 = nI n from (zu_ne (by omega)).trans h2) dL_law_119 ?_
  refine a_callVv X dL_law_122 miX7_drawn lm8_151 (t_X7_drawn h7 (rd_drawnN c1)) o7 rfl rfl rfl (Nat.le_of_ble_eq_true rfl) ⟨by decide, by decide, by show nc + 0 + 0 + 0 ≤ 600000; omega, by show ns + 0 + 0 + 0 ≤ 7302250; omega⟩ ?_
  refine a_iconst (v := -1) X dL_law_125 (by decide) ?_
  refine a_icmp_ne (tgt := 158) X dL_law_126 (by decide) (fun h => absurd rfl h) (fun _ => ?_)
  refine a_aload_n X dL_law_129 rfl ?_
  refine a_callVv X dL_law_130 miX7_status lm8_138 (t_X7_status h7 (r := 2) (show D_X7_status 5 (zu (zu M 5 0 5) 5 0 2) = some 2 from congrArg some (zu_eq (M := zu M 5 0 5) (P := 5) (k := 0) (v := (2 : Int32))))) o7 rfl rfl rfl (Nat.le_of_ble_eq_true rfl) ⟨by decide, by decide, by show nc + 0 + 0 + 0 + 0 ≤ 600000; omega, by show ns + 0 + 0 + 0 + 0 ≤ 7302250; omega⟩ ?_
  refine a_iconst (v := 2) X dL_law_133 (by decide) ?_
  refine a_icmp_ne (tgt := 158) X dL_law_134 (by decide) (fun h => absurd rfl h) (fun _ => ?_)
  refine a_aload_n X dL_law_137 rfl ?_
  refine a_iconst (v := -1) X dL_law_138 (by decide) ?_
  refine a_callVv X dL_law_139 miX7_winners lm8_154 (t_X7_winners h7 rd_winnersN) o7 rfl rfl rfl (Nat.le_of_ble_eq_true rfl) ⟨by decide, by decide, by show nc + 0 + 0 + 0 + 0 + 0 ≤ 600000; omega, by show ns + 0 + 0 + 0 + 0 + 0 ≤ 7302250; omega⟩ ?_
  refine a_iconst (v := -1) X dL_law_142 (by decide) ?_
  refine a_icmp_ne (tgt := 158) X dL_law_143 (by decide) (fun h => absurd rfl h) (fun _ => ?_)
  refine a_aload_n X dL_law_146 rfl ?_
  refine a_callVv X dL_law_147 miX7_status lm8_138 (t_X7_status h7 (r := 1) (show D_X7_status 5 (zu (zu (zu M 5 0 5) 5 0 2) 5 0 1) = some 1 from congrArg some (zu_eq (M := zu (zu M 5 0 5) 5 0 2) (P := 5) (k := 0) (v := (1 : Int32))))) o7 rfl rfl rfl (Nat.le_of_ble_eq_true rfl) ⟨by decide, by decide, by show nc + 0 + 0 + 0 + 0 + 0 + 0 ≤ 600000; omega, by show ns + 0 + 0 + 0 + 0 + 0 + 0 ≤ 7302250; omega⟩ ?_
  refine a_iconst (v := 1) X dL_law_150 (by decide) ?_
  refine a_icmp_ne (tgt := 158) X dL_law_151 (by decide) (fun h => absurd rfl h) (fun _ => ?_)
  refine a_iconst (v := 1) X dL_law_154 (by decide) ?_
  refine a_goto (tgt := 159) X dL_law_155 (by decide) ?_
  exact law_ret X hr hX0 hsb hbb (by omega) (by omega)
/-- the seeds, one behind the other -/
theorem law_66 {p : Program} {l : Launch} {e : Env} {s : State} {m : MethodId} {below : List Frame} {meth : Method} {c : Code} {G : zG} {b sa L : Nat} {xs : Nat → Int32} (X : zOK p s m #[Value.ref sa] meth c G b RX8 code 5) (hr : meth.sig.returnType = ret) (hX0 : va_X sa L xs s s.heap) (hsb : sa < s.heap.size) (hbb : b = s.heap.size) {n U H : Nat} {T : zMt} (hn : n ≤ 8) : ∀ (d i a nc ns : Nat) (S : zS), i + d = 4 → a ≤ 200 + i → nc + 3 * d ≤ 500000 → ns + 15 * d ≤ 7000000 → S.1.length + 3 * d ≤ 20000 → wL G n U H T a S → Zw p l e room_1 s m #[Value.ref sa] below meth c G b 5 (lw_Z below #[Value.ref sa] s) nc ns 66 [some (.ref (1000000 + sa)), some (.ref 0), some (.ref 5), some (.int (nI H)), some (.int (nI i))] [] S := by
  intro d
  induction d with
  | zero =>
    intro i a nc ns S hi ha hc hs hl w
    refine a_iload X dL_law_66 rfl ?_
    refine a_iconst (v := nI 4) X dL_law_68 (by decide) ?_
    refine a_icmp_ge (tgt := 95) X dL_law_69 (by decide) (fun h => ?_) (fun h => absurd ((nI_leI (by omega) (by omega)).mpr (by omega)) h)
    exact law_95 X hr hX0 hsb hbb (by omega) (by omega) w
  | succ d ih =>
    intro i a nc ns S hi ha hc hs hl w
    obtain ⟨L, M, N⟩ := S
    obtain ⟨ho, h8, h7, hl2, hc', h1, h2, h3⟩ := id w
    have ho' : L[0]? = _ := ho
    have hl' : L.length + 3 * (d + 1) ≤ 20000 := hl
    have hl2' : 205 ≤ L.length := hl2
    refine a_iload X dL_law_66 rfl ?_
    refine a_iconst (v := nI 4) X dL_law_68 (by decide) ?_
    refine a_icmp_ge (tgt := 95) X dL_law_69 (by decide) (fun h => absurd ((nI_leI (by omega) (by omega)).mp h) (by omega)) (fun h => ?_)
    refine a_aload_n X dL_law_72 rfl ?_
    refine a_aload_n X dL_law_73 rfl ?_
    refine a_iload_n X dL_law_74 rfl ?_
    refine a_aload_n X dL_law_75 rfl ?_
    refine a_ldc (v := nI 100000) X dL_law_76 lk8_143 ?_
    refine a_callVx X dL_law_78 miL_chosen lm8_60 (k_chosen ho h1 (by omega) ⟨by omega, by omega⟩) ho' rfl rfl rfl (Nat.le_of_ble_eq_true rfl) ⟨by decide, by decide, by show nc + 0 ≤ 600000; omega, by show ns + 0 ≤ 7302250; omega⟩ (fun r z q => ?_)
    obtain ⟨x, hx, rfl, rfl⟩ := q
    have cz : cS 5 (zu M 0 1 (nI (a + 1))) T n U H := hc'.kk (fun i j q1 q2 q3 => zu_ne (by omega))
    have z2 : zu M 0 1 (nI (a + 1)) 0 2 = nI n := (zu_ne (by omega)).trans h2
    have z3 : zu M 0 1 (nI (a + 1)) 0 3 = nI U := (zu_ne (by omega)).trans h3
    have ex : (nI x).toInt = x := nI_toInt (by omega)
    refine a_callVx X dL_law_81 miL_isAs lm8_144 (k_isAs52 (L := L) (M := zu M 0 1 (nI (a + 1))) (N := N) h8 h7 (by omega) (by omega) (by omega) hn cz z2 z3 (by rw [ex]; omega) (by rw [ex]; omega)) ho' rfl rfl rfl (Nat.le_of_ble_eq_true rfl) ⟨by decide, by decide, by show nc + 0 + 3 ≤ 600000; omega, by show ns + 0 + 15 ≤ 7302250; omega⟩ (fun r z q => ?_)
    obtain ⟨rfl, M', N', rfl, c3, hrow⟩ := q
    refine a_if_ne (tgt := 89) X dL_law_84 (by decide) (fun _ => ?_) (fun h => absurd h (by decide))
    refine a_iinc (v := nI (i + 1)) X dL_law_89 (by decide) rfl (by rw [show Int32.ofInt 1 = (1 : Int32) by decide, nI_add1]) ?_
    refine a_goto (tgt := 66) X dL_law_92 (by decide) ?_
    have g := (kr2_sb (L := L) (U := U)).tr (sb.app (K := [(1, U, [])]))
    have e3 : (kr2 L U ++ [((1, U, []) : zC)]).length = L.length + 3 := by rw [List.length_append, kr2_len, List.length_singleton]
    refine Zw.to2 (ih (i + 1) (a + 1) (nc + 0 + 3) (ns + 0 + 15) (kr2 L U ++ [(1, U, [])], M', N') (by omega) (by omega) (by omega) (by omega) (by show (kr2 L U ++ [((1, U, []) : zC)]).length + 3 * d ≤ 20000; rw [e3]; omega) ⟨g _ _ ho, h8.sb g, h7.sb g, by show 205 ≤ (kr2 L U ++ [((1, U, []) : zC)]).length; rw [e3]; omega, c3, (hrow 1).trans zu_eq, (hrow 2).trans z2, (hrow 3).trans z3⟩) rfl rfl rfl
/-- from the text on -/
theorem law_27 {p : Program} {l : Launch} {e : Env} {s : State} {m : MethodId} {below : List Frame} {meth : Method} {c : Code} {G : zG} {b sa L : Nat} {xs : Nat → Int32} (X : zOK p s m #[Value.ref sa] meth c G b RX8 code 5) (hr : meth.sig.returnType = ret) (hX0 : va_X sa L xs s s.heap) (hsb : sa < s.heap.size) (hbb : b = s.heap.size) {nc ns : Nat} (hc : nc ≤ 400000) (hs : ns ≤ 6000000) {S z : zS} {r : Option Value} (hl0 : S.1.length = 205) (ho : zLo G S 0) (h8 : LX8 S.1 0) (hE : zE7 S 5) (hq : zLQ G S 0 0 r z) {x3 x4 : Option Value} : Zw p l e room_1 s m #[Value.ref sa] below meth c G b 5 (lw_Z below #[Value.ref sa] s) nc ns 27 [some (.ref (1000000 + sa)), some (.ref 0), some (.ref 5), x3, x4] (r.toList ++ [.ref 5]) z := by
  obtain ⟨v, qs, hs', bb, as, l', pd, gd, a, rfl, ok, hlen, hv, hst, ha, hzl⟩ := hq
  obtain ⟨Lz, Mz, Nz⟩ := z
  have hzl' : Lz.length ≤ 9999 := hzl
  obtain ⟨-, st2, st3, st4, st5⟩ := hst
  have st2' : S.1.length ≤ Lz.length := st2
  have g : sb S.1 Lz := fun k q h => ((st3 k (List.getElem?_eq_some_iff.mp h).1).1).trans h
  have hEz : zE7 (Lz, Mz, Nz) 5 := hE.sbs g (fun a h1 h2 => (st3 a (by omega)).2.1 (by omega))
  have h7 : LX7 Lz 5 := hEz.1
  have ho2 : zLo G (Lz, Mz, Nz) 0 := g _ _ ho
  have t1 : Mz 5 1 = 0 := hEz.2.2.1
  refine a_callSx X dL_law_27 miL_load lm8_135 (k_load52 (L := Lz) (M := Mz) (N := Nz) h7 hv.1 hv.2.1 hlen t1 (fun A m _ _ _ => by
    obtain ⟨r, e, -⟩ := v_X7_load (P := 5) (v0 := nI (txt qs hs' bb as l' pd gd).length) (M0 := A) (N0 := Nz)
    exact ⟨r, e⟩)) rfl rfl (Nat.le_of_ble_eq_true rfl) ⟨by decide, by decide, by show nc + 0 ≤ 600000; omega, by show ns + 0 ≤ 7302250; omega⟩ (fun r2 z2 q => ?_)
  obtain ⟨A, m9, r9, hm, hnm, hA, hr9, rfl, rfl⟩ := q
  obtain ⟨k1, k2, k3, ⟨T, n, U, hn, hcS⟩, k5⟩ := cc_list hEz hm hv.2.1 hnm ok hA hr9
  have hU := hcS.1.2.1
  obtain ⟨v9, A9, N9⟩ := r9
  have k1' : v9 = nI hs'.length := k1
  have k2' : A9 5 0 = 0 := k2
  subst k1'
  have k5' : ∀ j, A9 0 j = Mz 0 j := fun j => (congrFun (k5 0 (by omega)) j).trans (hA.2.2 0 j (by omega) (by omega))
  have hcS' : cS 5 A9 T n U hs'.length := hcS
  have ho' : Lz[0]? = _ := ho2
  have o7 := h7.2.1
  refine a_istore_n X dL_law_30 (by decide) ?_
  refine a_iload_n X dL_law_31 rfl ?_
  refine a_iconst (v := nI 2) X dL_law_32 (by decide) ?_
  refine a_icmp_lt (tgt := 43) X dL_law_33 (by decide) (fun h => absurd ((nI_ltI (by omega) (by omega)).mp h) (by omega)) (fun _ => ?_)
  refine a_aload_n X dL_law_36 rfl ?_
  refine a_callVv X dL_law_37 miX7_status lm8_138 (t_X7_status h7 (r := 0) (show D_X7_status 5 A9 = some 0 from congrArg some k2')) o7 rfl rfl rfl (Nat.le_of_ble_eq_true rfl) ⟨by decide, by decide, by show nc + 0 + 0 ≤ 600000; omega, by show ns + 0 + 0 ≤ 7302250; omega⟩ ?_
  refine a_if_eq (tgt := 45) X dL_law_40 (by decide) (fun _ => ?_) (fun h => absurd rfl h)
  refine a_aload_n X dL_law_45 rfl ?_
  refine a_aload_n X dL_law_46 rfl ?_
  refine a_iconst (v := 3) X dL_law_47 (by decide) ?_
  refine a_callVv X dL_law_48 miX7_many lm8_141 (t_X7_many h7 (rd_many3 hcS')) o7 rfl rfl rfl (Nat.le_of_ble_eq_true rfl) ⟨by decide, by decide, by show nc + 0 + 0 + 0 ≤ 600000; omega, by show ns + 0 + 0 + 0 ≤ 7302250; omega⟩ ?_
  refine a_puti X lf8_106 ho' rfl dL_law_51 ?_
  have c1 : cS 5 (zu (zu A9 5 0 0) 0 2 (nI n)) T n U hs'.length := (hcS'.k kR.s).kk (fun i j q1 q2 q3 => zu_ne (by omega))
  refine a_aload_n X dL_law_54 rfl ?_
  refine a_aload_n X dL_law_55 rfl ?_
  refine a_iconst (v := 0) X dL_law_56 (by decide) ?_
  refine a_callVv X dL_law_57 miX7_many lm8_141 (t_X7_many h7 (rd_many0 c1)) o7 rfl rfl rfl (Nat.le_of_ble_eq_true rfl) ⟨by decide, by decide, by show nc + 0 + 0 + 0 + 0 ≤ 600000; omega, by show ns + 0 + 0 + 0 + 0 ≤ 7302250; omega⟩ ?_
  refine a_puti X lf8_120 ho' rfl dL_law_60 ?_
  refine a_iconst (v := nI 0) X dL_law_63 (by decide) ?_
  refine a_istore X dL_law_64 (by decide) ?_
  have c2 : cS 5 (zu (zu (zu (zu A9 5 0 0) 0 2 (nI n)) 5 0 0) 0 3 (nI U)) T n U hs'.length := (c1.k kR.s).kk (fun i j q1 q2 q3 => zu_ne (by omega))
  refine Zw.to2 (law_66 X hr hX0 hsb hbb hn 4 0 a (nc + 0 + 0 + 0 + 0) (ns + 0 + 0 + 0 + 0) (Lz, zu (zu (zu (zu A9 5 0 0) 0 2 (nI n)) 5 0 0) 0 3 (nI U), N9) rfl (by omega) (by omega) (by omega) (by show Lz.length + 3 * 4 ≤ 20000; omega) ⟨ho2, h8.sb g, h7, by show 205 ≤ Lz.length; omega, c2, ?_, ?_, ?_⟩) rfl rfl rfl
  · show zu (zu (zu (zu A9 5 0 0) 0 2 (nI n)) 5 0 0) 0 3 (nI U) 0 1 = nI a
    exact (zu_ne (by omega)).trans ((zu_ne (by omega)).trans ((zu_ne (by omega)).trans ((zu_ne (by omega)).trans ((k5' 1).trans st5))))
  · show zu (zu (zu (zu A9 5 0 0) 0 2 (nI n)) 5 0 0) 0 3 (nI U) 0 2 = nI n
    exact (zu_ne (by omega)).trans ((zu_ne (by omega)).trans zu_eq)
  · show zu (zu (zu (zu A9 5 0 0) 0 2 (nI n)) 5 0 0) 0 3 (nI U) 0 3 = nI U
    exact zu_eq
theorem zz0 {a : Nat} : zz a (fun _ _ => 0) (fun _ _ => 0) := fun _ _ _ => ⟨rfl, rfl⟩
/-- the law's five cells -/
def kw5 (x : Nat × Nat) : List zC := [kLo 0 x, (1, 0, []), (1, 8, []), (1, 8, []), (1, 8, [])]
set_option maxRecDepth 100000 in
theorem kw5_len {x : Nat × Nat} : (kw5 x ++ blk7 5).length = 205 := rfl
set_option maxRecDepth 100000 in
theorem kw5_LX8 {x : Nat × Nat} {K : List zC} : LX8 (kw5 x ++ K) 0 := ⟨by decide, ⟨x, rfl⟩, rfl, rfl, rfl⟩
set_option maxRecDepth 100000 in
set_option maxHeartbeats 8000000 in
theorem law_0 {p : Program} {l : Launch} {e : Env} {s : State} {m : MethodId} {below : List Frame} {meth : Method} {c : Code} {G : zG} {b sa L : Nat} {xs : Nat → Int32} (X : zOK p s m #[Value.ref sa] meth c G b RX8 code 5) (hr : meth.sig.returnType = ret) (hX0 : va_X sa L xs s s.heap) (hsb : sa < s.heap.size) (hbb : b = s.heap.size) (hG : G.2 300 = sa) : Zw p l e room_1 s m #[Value.ref sa] below meth c G b 5 (lw_Z below #[Value.ref sa] s) 0 0 0 [some (.ref (1000000 + sa)), none, none, none, none] [] ([], fun _ _ => 0, fun _ _ => 0) := by
  subst hG
  refine b_new (pre := []) (Y := []) (P := 0) X 0 [(3, 0), (0, 0), (0, 0), (0, 0), (3, 0), (3, 0), (3, 0)] rfl rfl (by decide) zz0 zc8 ln8_8 zinst8 zini8 ⟨rfl, by decide, by decide⟩ ⟨by decide, by decide⟩ dL_law_0 ?_
  refine Zw.to2 (ls' := [some (.ref (1000000 + G.2 300)), none, none, none, none]) (st' := [.ref 0]) (S' := ([(0, 8, [(3, 0), (0, 0), (0, 0), (0, 0), (3, 0), (3, 0), (3, 0)])], fun _ _ => 0, fun _ _ => 0)) ?_ rfl rfl rfl
  refine a_dup X dL_law_3 rfl ?_
  refine a_invI (P := 0) (ci := 8) X miL_init lm8_129 rfl rfl rfl rfl (Nat.le_of_ble_eq_true rfl) ⟨by decide, by decide, by decide, by decide⟩ dL_law_4 (k_init52 zz0) (fun r S1 q => ?_)
  obtain ⟨rfl, rfl⟩ := q
  refine Zw.to2 (ls' := [some (.ref (1000000 + G.2 300)), none, none, none, none]) (st' := [.ref 0]) (S' := (kw5 (2, 1), fun _ _ => 0, fun _ _ => 0)) ?_ rfl rfl rfl
  refine a_astore_n X dL_law_7 (by decide) ?_
  refine a_aload_n X dL_law_8 rfl ?_
  refine a_aload_n X dL_law_9 rfl ?_
  refine a_putF (P := 0) (z := G.2 300) (fs := [(2, 1), (0, 0), (0, 0), (0, 0), (2, 2), (2, 3), (2, 4)]) X lf8_7 (fun _ => ⟨rfl, rfl⟩) rfl (by decide) dL_law_10 ?_
  refine Zw.to2 (ls' := [some (.ref (1000000 + G.2 300)), some (.ref 0), none, none, none]) (st' := []) (S' := (kw5 (4, G.2 300) ++ [], fun _ _ => 0, fun _ _ => 0)) ?_ rfl rfl rfl
  refine b_new (pre := kw5 (4, G.2 300)) (Y := []) (P := 5) X 0 [(0, 0), (0, 0), (0, 0), (0, 0), (3, 0), (3, 0), (3, 0), (3, 0), (3, 0), (3, 0), (3, 0), (3, 0), (3, 0), (3, 0), (3, 0), (3, 0), (3, 0)] rfl rfl (by decide) zz0 zc7 ln8_37 zinst7 zini7 ⟨rfl, by decide, by decide⟩ ⟨by decide, by decide⟩ dL_law_13 ?_
  refine Zw.to2 (ls' := [some (.ref (1000000 + G.2 300)), some (.ref 0), none, none, none]) (st' := [.ref 5]) (S' := (kw5 (4, G.2 300) ++ [(0, 7, [(0, 0), (0, 0), (0, 0), (0, 0), (3, 0), (3, 0), (3, 0), (3, 0), (3, 0), (3, 0), (3, 0), (3, 0), (3, 0), (3, 0), (3, 0), (3, 0), (3, 0)])], fun _ _ => 0, fun _ _ => 0)) ?_ rfl rfl rfl
  refine a_dup X dL_law_16 rfl ?_
  refine a_invI (P := 5) (ci := 7) X miX7_init lm8_130 rfl rfl rfl rfl (Nat.le_of_ble_eq_true rfl) ⟨by decide, by decide, by decide, by decide⟩ dL_law_17 (k_X7 (pre := kw5 (4, G.2 300)) (P := 5) rfl (by decide) zz0) (fun r S1 q => ?_)
  obtain ⟨rfl, M1, N1, rfl, h7, hz1, hk⟩ := q
  refine Zw.to2 (ls' := [some (.ref (1000000 + G.2 300)), some (.ref 0), none, none, none]) (st' := [.ref 5]) ?_ rfl rfl rfl
  refine a_astore_n X dL_law_20 (by decide) ?_
  refine a_aload_n X dL_law_21 rfl ?_
  refine a_aload_n X dL_law_22 rfl ?_
  refine a_iconst (v := nI 5) X dL_law_23 (by decide) ?_
  have ho : zLo G (kw5 (4, G.2 300) ++ blk7 5, M1, N1) 0 := rfl
  have m1 : M1 0 1 = nI 0 := congrFun (hk 0 (by omega)) 1
  have hl5 : (kw5 (4, G.2 300) ++ blk7 5).length = 205 := kw5_len
  refine a_callVx X dL_law_24 miL_list lm8_131 (k_list (S := (kw5 (4, G.2 300) ++ blk7 5, M1, N1)) (P := 0) (a := 0) ho m1 (by omega) (by show (kw5 (4, G.2 300) ++ blk7 5).length ≤ 9000; rw [hl5]; omega)) ho rfl rfl rfl (Nat.le_of_ble_eq_true rfl) ⟨by decide, by decide, by decide, by decide⟩ (fun r z q => ?_)
  exact law_27 X hr hX0 hsb hbb (by decide) (by decide) hl5 ho kw5_LX8 h7 q
