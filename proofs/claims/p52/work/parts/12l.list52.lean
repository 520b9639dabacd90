/-! p52: the law's list: the letters that it writes -/
abbrev zRl : Room := { frames := 6, cells := 800, slots := 1204000, locals := 36 * 6 }
/-- what list answers: a String of the letters of a list as the class takes them -/
def zLQ (G : zG) (S0 : zS) (P a0 : Nat) : Option Value → zS → Prop := fun r z => ∃ (v : Nat) (qs : List Nat) (hs : List (Nat × Bool)) (bb : Bool) (as : List (Nat × List Nat)) (l : Nat) (pd : List Nat) (gd : Option (List Nat)) (a : Nat), r = some (.ref v) ∧ tOk qs hs bb as pd gd ∧ (txt qs hs bb as l pd gd).length ≤ 400 ∧ zTt G z z.1.length v (txt qs hs bb as l pd gd) ∧ zSt S0 z P a ∧ a ≤ a0 + 100 ∧ z.1.length ≤ 9999
/-- what the letters are, ahead of the law's word -/
def zLf (qs : List Nat) (hs : List (Nat × Bool)) (bb : Bool) (h : Nat) (as : List (Nat × List Nat)) (T : List Nat) : Prop := (1 ≤ qs.length ∧ qs.length ≤ 3) ∧ (∀ d, d ∈ qs → d < 10) ∧ (2 ≤ hs.length ∧ hs.length ≤ 5) ∧ (∀ p, p ∈ hs → p.1 < 10) ∧ aOk bb qs.length hs.length 0 as ∧ as.length ≤ h ∧ (∀ p, p ∈ as → p.1 < h) ∧ T = uT 0 qs ++ (hT 0 hs ++ (pT bb ++ aT bb as)) ∧ T.length ≤ 134 + 17 * h ∧ (bb = true → 1 ≤ h) ∧ h ≤ 5
theorem lT_len (l : Nat) : (lT l).length ≤ 11 := by unfold lT; split; exact Nat.zero_le _; split <;> exact Nat.le_of_ble_eq_true rfl
theorem zTt.lit2 {G : zG} {S : zS} {i : Nat} {u : List Nat} (h : (decide (i < zLit.length) && decide (u.length = zLen.getD i 0) && (List.range u.length).all (fun k => decide ((zByt.getD i []).getD k 0 = zby u k)) && u.all (fun x => decide (x < 128))) = true) : zTx G S (1000000 + zKa G i) u ∧ ∀ x, x ∈ u → x < 128 := ⟨(zTt.lit (S := S) (c := 0) h).1, (zTt.lit (G := G) (S := S) (c := 0) h).2.1⟩
theorem dg_len (v : Nat) : (dg v).length ≤ 3 := by unfold dg; split; exact Nat.le_of_ble_eq_true rfl; split <;> exact Nat.le_of_ble_eq_true rfl
theorem nI_mul (a c : Nat) : nI a * nI c = nI (a * c) := (Int32.ofNat_mul a c).symm
theorem dOk_25 : ∀ x, x < 5 → dOk (dg (25 * x)) := by
  intro x hx
  match x, hx with
  | 0, _ => exact ⟨by decide, by decide, by decide, by decide⟩
  | 1, _ => exact ⟨by decide, by decide, by decide, by decide⟩
  | 2, _ => exact ⟨by decide, by decide, by decide, by decide⟩
  | 3, _ => exact ⟨by decide, by decide, by decide, by decide⟩
  | 4, _ => exact ⟨by decide, by decide, by decide, by decide⟩
theorem dOk_50 : ∀ x, x < 3 → dOk (dg (50 * x)) := by
  intro x hx
  match x, hx with
  | 0, _ => exact ⟨by decide, by decide, by decide, by decide⟩
  | 1, _ => exact ⟨by decide, by decide, by decide, by decide⟩
  | 2, _ => exact ⟨by decide, by decide, by decide, by decide⟩
theorem uT_snoc : ∀ (qs : List Nat) (i d : Nat), uT i (qs ++ [d]) = uT i qs ++ [117, 110, 105, 116, 32, 117, 97 + (i + qs.length), 32, 48 + d, 59]
  | [], i, d => rfl
  | q :: r, i, d => by
    show [117, 110, 105, 116, 32, 117, 97 + i, 32, 48 + q, 59] ++ uT (i + 1) (r ++ [d]) = ([117, 110, 105, 116, 32, 117, 97 + i, 32, 48 + q, 59] ++ uT (i + 1) r) ++ _
    rw [uT_snoc r (i + 1) d, List.append_assoc, List.length_cons, show i + 1 + r.length = i + (r.length + 1) by omega]
theorem hT_snoc : ∀ (hs : List (Nat × Bool)) (i d : Nat) (g : Bool), hT i (hs ++ [(d, g)]) = hT i hs ++ hL (i + hs.length) d g
  | [], i, d, g => by
    show hL i d g ++ [] = [] ++ hL (i + 0) d g
    rw [List.append_nil]
    rfl
  | q :: r, i, d, g => by
    show hL i q.1 q.2 ++ hT (i + 1) (r ++ [(d, g)]) = (hL i q.1 q.2 ++ hT (i + 1) r) ++ _
    rw [hT_snoc r (i + 1) d g, List.append_assoc, List.length_cons, show i + 1 + r.length = i + (r.length + 1) by omega]
theorem aT_snoc (bb : Bool) : ∀ (as : List (Nat × List Nat)) (p : Nat × List Nat), aT bb (as ++ [p]) = aT bb as ++ aL bb p.1 p.2
  | [], p => by
    show aL bb p.1 p.2 ++ [] = [] ++ aL bb p.1 p.2
    rw [List.append_nil]
    rfl
  | q :: r, p => by
    show aL bb q.1 q.2 ++ aT bb (r ++ [p]) = (aL bb q.1 q.2 ++ aT bb r) ++ _
    rw [aT_snoc bb r p, List.append_assoc]
theorem aOk_snoc {bb : Bool} {U H : Nat} : ∀ (as : List (Nat × List Nat)) (lo h : Nat) (us : List Nat), aOk bb U H lo as → (∀ p, p ∈ as → p.1 < h) → lo ≤ h → h < H → (bb = true → 1 ≤ h) → ¬ us = [] → us.length ≤ 3 → us.Nodup → (∀ u, u ∈ us → u < U) → aOk bb U H lo (as ++ [(h, us)])
  | [], lo, h, us, _, _, h1, h2, h3, h4, h5, h6, h7 => ⟨h1, h2, h3, h4, h5, h6, h7, trivial⟩
  | q :: r, lo, h, us, ok, hl, h1, h2, h3, h4, h5, h6, h7 => by
    obtain ⟨o1, o2, o3, o4, o5, o6, o7, o8⟩ := ok
    exact ⟨o1, o2, o3, o4, o5, o6, o7, aOk_snoc r (q.1 + 1) h us o8 (fun p hp => hl p (List.mem_cons_of_mem _ hp)) (hl q List.mem_cons_self) h2 h3 h4 h5 h6 h7⟩
theorem wtx_snoc : ∀ (us : List Nat) (u : Nat), wtx (us ++ [u]) = wtx us ++ [32, 117, 97 + u]
  | [], u => rfl
  | q :: r, u => by
    show [32, 117, 97 + q] ++ wtx (r ++ [u]) = ([32, 117, 97 + q] ++ wtx r) ++ _
    rw [wtx_snoc r u, List.append_assoc]
/-- k units from the unit f on, around -/
def cyc (f U k : Nat) : List Nat := (List.range k).map fun i => (f + i) % U
theorem cyc_s (f U k : Nat) : cyc f U (k + 1) = cyc f U k ++ [(f + k) % U] := by
  unfold cyc
  rw [List.range_succ, List.map_append]
  rfl
theorem cyc_len (f U k : Nat) : (cyc f U k).length = k := by unfold cyc; rw [List.length_map, List.length_range]
theorem cyc_in {f U k u : Nat} (hU : 0 < U) (h : u ∈ cyc f U k) : u < U := by
  obtain ⟨i, -, rfl⟩ := List.mem_map.mp h
  exact Nat.mod_lt _ hU
theorem cyc_nd : ∀ f, f < 3 → ∀ U, U ≤ 3 → f < U → ∀ k, k ≤ U → (cyc f U k).Nodup := by decide
theorem z_97 : ∀ u, u < 20 → ((nI (97 + u)).toUInt32 % 65536).toInt32 = nI (97 + u) := by decide +kernel
theorem z_irem {f k U : Nat} (h : f + k < 100) (hU : 0 < U ∧ U < 100) : nI (f + k) - nI (f + k) / nI U * nI U = nI ((f + k) % U) := by
  apply Int32.toInt_inj.mp
  rw [rem_toInt, nI_toInt (by omega), nI_toInt (by omega), nI_toInt (by have := Nat.mod_lt (f + k) hU.1; omega)]
  exact (Int.ofNat_tmod (f + k) U).symm
set_option maxRecDepth 100000 in
set_option maxHeartbeats 4000000 in
theorem ls_493 {p0 : Program} {l : Launch} {e : Env} {s : State} {m : MethodId} {args : Array Value} {below : List Frame} {meth : Method} {c : Code} {G : zG} {b : Nat} {S0 : zS} {P a0 : Nat} (X : zOK p0 s m args meth c G b RX8 cL_list 9) (hr : meth.sig.returnType = some (.object "java/lang/String")) (ho : zLo G S0 P) (ha0 : a0 ≤ 5000) {nc ns : Nat} {S : zS} {q j n v a : Nat} {ls : List (Option Value)} {qs : List Nat} {hs : List (Nat × Bool)} {bb : Bool} {as : List (Nat × List Nat)} {l9 : Nat} {pd : List Nat} {gd : Option (List Nat)} {t u : List Nat} (hb : zBg zRl 4 nc ns S) (hst : zSt S0 S P a) (hq0 : S0.1.length ≤ q) (ha : a ≤ a0 + 100) (ok : tOk qs hs bb as pd gd) (hsb : zSB S q j n t) (hv : zTx G S v u ∧ ∀ x, x ∈ u → x < 128) (hvj : v < 1000000 → ∀ i, S.1[v]? = some (0, 9, [(2, i), (0, 0), (0, 0), (0, 0)]) → ¬ i = j) (ht : t ++ u = txt qs hs bb as l9 pd gd) (htl : t.length ≤ 380 ∧ u.length ≤ 20) : Zw p0 l e zRl s m args below meth c G b 9 (MQ below (zQ G b (zLQ G S0 P a0)) args s 800 1204000 (fun q : Nat => b ≤ q)) nc ns 493 ls [.ref v, .ref q] S := by
  have hR : 6 ≤ zRl.frames ∧ 216 ≤ zRl.locals := ⟨Nat.le_of_ble_eq_true rfl, Nat.le_of_ble_eq_true rfl⟩
  have hsb0 := hsb
  refine a_apS  X lm8_66 hR (Nat.le_of_ble_eq_true rfl) hb hsb hv hvj (by omega) dL_list_493 (fun j n nc ns z493 hb hg hsb => ?_)
  have hst := hst.gr hg (fun i q => by rcases q with q | q <;> (have := hsb0.2.1.1; omega))
  refine a_toS X lm8_82 hR (Nat.le_of_ble_eq_true rfl) hb hsb dL_list_496 (fun nc ns z496 hb hg hvn hv => ?_)
  have hst := hst.gr hg (fun _ q => q.elim)
  have hc := hb.2.2
  refine a_aret X hr (Or.inl ⟨_, rfl⟩) (Or.inr ⟨_, rfl⟩) dL_list_499 ⟨by have h1 : nc + 2 * 2 ≤ 800 := hb.1; omega, by have h1 : ns + 3010 * 2 ≤ 1204000 := hb.2.1; omega⟩ ⟨_, qs, hs, bb, as, l9, pd, gd, a, rfl, ok, by rw [← ht, List.length_append]; omega, by rw [← ht]; exact hv, hst, ha, by omega⟩
set_option maxRecDepth 100000 in
set_option maxHeartbeats 4000000 in
theorem ls_425 {p0 : Program} {l : Launch} {e : Env} {s : State} {m : MethodId} {args : Array Value} {below : List Frame} {meth : Method} {c : Code} {G : zG} {b : Nat} {S0 : zS} {P a0 : Nat} (X : zOK p0 s m args meth c G b RX8 cL_list 9) (hr : meth.sig.returnType = some (.object "java/lang/String")) (ho : zLo G S0 P) (ha0 : a0 ≤ 5000) {nc ns : Nat} {S : zS} {q j n v a l9 : Nat} {ls : List (Option Value)} {u : List Nat} {qs : List Nat} {hs : List (Nat × Bool)} {bb : Bool} {as : List (Nat × List Nat)} {T : List Nat} {h : Nat} (hF : zLf qs hs bb h as T) (hls : ls[0]? = some (some (.ref P))) (hb : zBg zRl 24 nc ns S) (hst : zSt S0 S P a) (hq0 : S0.1.length ≤ q) (ha : a ≤ a0 + 60) (hsb : zSB S q j n T) (hv : zTx G S v u ∧ ∀ x, x ∈ u → x < 128) (hvj : v < 1000000 → ∀ i, S.1[v]? = some (0, 9, [(2, i), (0, 0), (0, 0), (0, 0)]) → ¬ i = j) (hu : u = lT l9) : Zw p0 l e zRl s m args below meth c G b 9 (MQ below (zQ G b (zLQ G S0 P a0)) args s 800 1204000 (fun q : Nat => b ≤ q)) nc ns 425 ls [.ref v, .ref q] S := by
  have hR : 6 ≤ zRl.frames ∧ 216 ≤ zRl.locals := ⟨Nat.le_of_ble_eq_true rfl, Nat.le_of_ble_eq_true rfl⟩
  obtain ⟨c3, c4, c5, c6, c7, c8, c9, c10, c11, c12, c13⟩ := id hF
  have hq9 := lT_len l9
  have hT9 : T.length ≤ 219 := by omega
  have hu9 : u.length ≤ 11 := by rw [hu]; exact hq9
  have hsb0 := hsb
  refine a_apS  X lm8_66 hR (Nat.le_of_ble_eq_true rfl) hb hsb hv hvj (by first | omega | (simp only [List.length_append, List.length_cons, List.length_nil]; omega)) dL_list_425 (fun j n nc ns z425 hb hg hsb => ?_)
  have hst := hst.gr hg (fun i q => by rcases q with q | q <;> (have := hsb0.2.1.1; omega))
  refine a_ldcS (i := 23) (q := ("TagDrawLaw", 102, "prefer ")) X rfl rfl rfl dL_list_428 ?_
  have hsb0 := hsb
  refine a_apS  X lm8_66 hR (Nat.le_of_ble_eq_true rfl) hb hsb (zTt.lit2 (i := 23) (u := [112, 114, 101, 102, 101, 114, 32]) (by decide +kernel)) (fun q => absurd q (by omega)) (by first | omega | (simp only [List.length_append, List.length_cons, List.length_nil]; omega)) dL_list_430 (fun j n nc ns z430 hb hg hsb => ?_)
  have hst := hst.gr hg (fun i q => by rcases q with q | q <;> (have := hsb0.2.1.1; omega))
  refine a_bipush (v := nI 25) X dL_list_433 (by decide) ?_
  refine a_aload_n X dL_list_435 hls ?_
  refine a_iconst (v := nI 5) X dL_list_436 (by decide) ?_
  have hst0 := hst
  refine a_cho (n := 5) X lm8_60 hR (Nat.le_of_ble_eq_true rfl) hb ho hst (by omega) ⟨by omega, by omega⟩ dL_list_437 (fun x hxx hb hst => ?_)
  have hsb := hsb.at hst0 hq0
  refine a_imul X dL_list_440 ?_
  rw [nI_mul]
  have hsb0 := hsb
  refine a_apI (x := 25 * x) X lm8_77 hR (Nat.le_of_ble_eq_true rfl) hb hsb (by omega) (by first | omega | (simp only [List.length_append, List.length_cons, List.length_nil]; omega)) dL_list_441 (fun j n nc ns z441 hb hg hsb => ?_)
  have hst := hst.gr hg (fun i q => by rcases q with q | q <;> (have := hsb0.2.1.1; omega))
  have dx := dg_len (25 * x)
  refine a_ldcS (i := 14) (q := ("TagDrawLaw", 80, ";")) X rfl rfl rfl dL_list_444 ?_
  have hsb0 := hsb
  refine a_apS  X lm8_66 hR (Nat.le_of_ble_eq_true rfl) hb hsb (zTt.lit2 (i := 14) (u := [59]) (by decide +kernel)) (fun q => absurd q (by omega)) (by first | omega | (simp only [List.length_append, List.length_cons, List.length_nil]; omega)) dL_list_446 (fun j n nc ns z446 hb hg hsb => ?_)
  have hst := hst.gr hg (fun i q => by rcases q with q | q <;> (have := hsb0.2.1.1; omega))
  refine a_aload_n X dL_list_449 hls ?_
  refine a_iconst (v := nI 2) X dL_list_450 (by decide) ?_
  have hst0 := hst
  refine a_cho (n := 2) X lm8_60 hR (Nat.le_of_ble_eq_true rfl) hb ho hst (by omega) ⟨by omega, by omega⟩ dL_list_451 (fun y hxy hb hst => ?_)
  have hsb := hsb.at hst0 hq0
  have hOK : ∀ gd : Option (List Nat), (∀ ds, gd = some ds → dOk ds) → tOk qs hs bb as (dg (25 * x)) gd := fun gd hg9 => ⟨c3.2, c4, c5.1, c5.2, c6, c7, by omega, dOk_25 x hxx, hg9⟩
  refine a_if_ne (tgt := 491) X dL_list_454 (by decide) (fun h9 => ?_) (fun h9 => ?_)
  · skip
    refine a_ldcS (i := 11) (q := ("TagDrawLaw", 58, "")) X rfl rfl rfl dL_list_491 ?_
    refine ls_493 (pd := dg (25 * x)) (gd := none) (l9 := l9) (qs := qs) (hs := hs) (bb := bb) (as := as) X hr ho ha0 (hb.less (by omega)) hst hq0 (by omega) (hOK none (fun ds q => by cases q)) hsb (zTt.lit2 (i := 11) (u := []) (by decide +kernel)) (fun q => absurd q (by omega)) ?_ ⟨(by first | omega | (simp only [List.length_append, List.length_cons, List.length_nil]; omega)), by decide⟩
    rw [hu, c10]
    unfold txt fT gT5
    simp only [List.append_assoc, List.append_nil, List.cons_append, List.nil_append]
  · skip
    have hso := hsb
    have hqo := hq0
    have hlo := hso.lt
    have hq0 := hst.2.1
    refine a_sbNew X dL_list_457 dL_list_460 dL_list_461 ln8_63 lm8_65 hR (Nat.le_of_ble_eq_true rfl) hb (fun j n nc ns z457 hb hg hsb => ?_)
    have hst := hst.gr hg (fun _ q => q.elim)
    have hso := hso.gr hg ⟨fun w => w, fun w => w⟩
    refine a_ldcS (i := 24) (q := ("TagDrawLaw", 104, "guests ")) X rfl rfl rfl dL_list_464 ?_
    have hsb0 := hsb
    refine a_apS  X lm8_66 hR (Nat.le_of_ble_eq_true rfl) hb hsb (zTt.lit2 (i := 24) (u := [103, 117, 101, 115, 116, 115, 32]) (by decide +kernel)) (fun q => absurd q (by omega)) (by first | omega | (simp only [List.length_append, List.length_cons, List.length_nil]; omega)) dL_list_466 (fun j n nc ns z466 hb hg hsb => ?_)
    have hst := hst.gr hg (fun i q => by rcases q with q | q <;> (have := hsb0.2.1.1; omega))
    have hso := hso.gr hg ⟨fun w => by rcases w with w | w <;> (have := hsb0.2.1.1; omega), fun w => by rcases w with w | w <;> (have := hsb0.2.1.1; omega)⟩
    refine a_bipush (v := nI 50) X dL_list_469 (by decide) ?_
    refine a_aload_n X dL_list_471 hls ?_
    refine a_iconst (v := nI 3) X dL_list_472 (by decide) ?_
    have hst0 := hst
    refine a_cho (n := 3) X lm8_60 hR (Nat.le_of_ble_eq_true rfl) hb ho hst (by omega) ⟨by omega, by omega⟩ dL_list_473 (fun w hxw hb hst => ?_)
    have hsb := hsb.at hst0 hq0
    have hso := hso.at hst0 hqo
    refine a_imul X dL_list_476 ?_
    rw [nI_mul]
    have hsb0 := hsb
    refine a_apI (x := 50 * w) X lm8_77 hR (Nat.le_of_ble_eq_true rfl) hb hsb (by omega) (by first | omega | (simp only [List.length_append, List.length_cons, List.length_nil]; omega)) dL_list_477 (fun j n nc ns z477 hb hg hsb => ?_)
    have hst := hst.gr hg (fun i q => by rcases q with q | q <;> (have := hsb0.2.1.1; omega))
    have hso := hso.gr hg ⟨fun w => by rcases w with w | w <;> (have := hsb0.2.1.1; omega), fun w => by rcases w with w | w <;> (have := hsb0.2.1.1; omega)⟩
    have dw := dg_len (50 * w)
    refine a_ldcS (i := 14) (q := ("TagDrawLaw", 80, ";")) X rfl rfl rfl dL_list_480 ?_
    have hsb0 := hsb
    refine a_apS  X lm8_66 hR (Nat.le_of_ble_eq_true rfl) hb hsb (zTt.lit2 (i := 14) (u := [59]) (by decide +kernel)) (fun q => absurd q (by omega)) (by first | omega | (simp only [List.length_append, List.length_cons, List.length_nil]; omega)) dL_list_482 (fun j n nc ns z482 hb hg hsb => ?_)
    have hst := hst.gr hg (fun i q => by rcases q with q | q <;> (have := hsb0.2.1.1; omega))
    have hso := hso.gr hg ⟨fun w => by rcases w with w | w <;> (have := hsb0.2.1.1; omega), fun w => by rcases w with w | w <;> (have := hsb0.2.1.1; omega)⟩
    refine a_toS X lm8_82 hR (Nat.le_of_ble_eq_true rfl) hb hsb dL_list_485 (fun nc ns z485 hb hg hvn hv => ?_)
    have hst := hst.gr hg (fun _ q => q.elim)
    have hlo2 := hso.lt
    have hso := hso.gr hg ⟨fun w => w, fun w => w⟩
    refine a_goto (tgt := 493) X dL_list_488 (by decide) ?_
    refine ls_493 (pd := dg (25 * x)) (gd := some (dg (50 * w))) (l9 := l9) (qs := qs) (hs := hs) (bb := bb) (as := as) X hr ho ha0 (hb.less (by omega)) hst hqo (by omega) (hOK _ (fun ds q => by cases q; exact dOk_50 w hxw)) hso ⟨hv.1, hv.2.1⟩ (fun q i hi e9 => by rw [hvn] at hi; cases hi; omega) ?_ ⟨(by first | omega | (simp only [List.length_append, List.length_cons, List.length_nil]; omega)), (by first | omega | (simp only [List.length_append, List.length_cons, List.length_nil]; omega))⟩
    rw [hu, c10]
    unfold txt fT gT5
    simp only [List.append_assoc, List.append_nil, List.cons_append, List.nil_append]
set_option maxRecDepth 100000 in
set_option maxHeartbeats 4000000 in
theorem ls_384 {p0 : Program} {l : Launch} {e : Env} {s : State} {m : MethodId} {args : Array Value} {below : List Frame} {meth : Method} {c : Code} {G : zG} {b : Nat} {S0 : zS} {P a0 : Nat} (X : zOK p0 s m args meth c G b RX8 cL_list 9) (hr : meth.sig.returnType = some (.object "java/lang/String")) (ho : zLo G S0 P) (ha0 : a0 ≤ 5000) {nc ns : Nat} {S : zS} {v a : Nat} {qs : List Nat} {hs : List (Nat × Bool)} {bb : Bool} {as : List (Nat × List Nat)} {T : List Nat} {h : Nat} (hF : zLf qs hs bb h as T) {x6 x7 x8 : Option Value} (hb : zBg zRl 30 nc ns S) (hst : zSt S0 S P a) (ha : a ≤ a0 + 50) (hv : zTt G S S.1.length v T) : Zw p0 l e zRl s m args below meth c G b 9 (MQ below (zQ G b (zLQ G S0 P a0)) args s 800 1204000 (fun q : Nat => b ≤ q)) nc ns 384 [some (.ref P), some (.int (nI 5)), some (.ref v), some (.int (nI qs.length)), some (.int (nI hs.length)), some (.int (nI (if bb then 1 else 0))), x6, x7, x8] [] S := by
  have hR : 6 ≤ zRl.frames ∧ 216 ≤ zRl.locals := ⟨Nat.le_of_ble_eq_true rfl, Nat.le_of_ble_eq_true rfl⟩
  obtain ⟨c3, c4, c5, c6, c7, c8, c9, c10, c11, c12, c13⟩ := id hF
  refine a_aload_n X dL_list_384 rfl ?_
  refine a_iconst (v := nI 3) X dL_list_385 (by decide) ?_
  have hst0 := hst
  refine a_cho (n := 3) X lm8_60 hR (Nat.le_of_ble_eq_true rfl) hb ho hst (by omega) ⟨by omega, by omega⟩ dL_list_386 (fun y hxy hb hst => ?_)
  have hv := hv.at hst0 ho
  refine a_istore X dL_list_389 (by decide) ?_
  have hq0 := hst.2.1
  refine a_sbNew X dL_list_391 dL_list_394 dL_list_395 ln8_63 lm8_65 hR (Nat.le_of_ble_eq_true rfl) hb (fun j n nc ns z391 hb hg hsb => ?_)
  have hst := hst.gr hg (fun _ q => q.elim)
  have hv := hv.gr hg
  refine a_aload_n X dL_list_398 rfl ?_
  have hsb0 := hsb
  refine a_apS  X lm8_66 hR (Nat.le_of_ble_eq_true rfl) hb hsb ⟨hv.1, hv.2.1⟩ (fun q i hi w => Nat.lt_asymm ((hv.2.2 q).2 i hi) (by rw [w]; exact hsb.2.1.1)) (by first | omega | (simp only [List.length_append, List.length_cons, List.length_nil]; omega)) dL_list_399 (fun j n nc ns z399 hb hg hsb => ?_)
  have hst := hst.gr hg (fun i q => by rcases q with q | q <;> (have := hsb0.2.1.1; omega))
  refine a_iload X dL_list_402 rfl ?_
  refine a_if_ne (tgt := 412) X dL_list_404 (by decide) (fun h9 => ?_) (fun h9 => ?_)
  · skip
    refine a_iload X dL_list_412 rfl ?_
    refine a_iconst (v := nI 1) X dL_list_414 (by decide) ?_
    refine a_icmp_ne (tgt := 423) X dL_list_415 (by decide) (fun h8 => ?_) (fun h8 => ?_)
    · skip
      refine a_ldcS (i := 22) (q := ("TagDrawLaw", 100, "law square;")) X rfl rfl rfl dL_list_423 ?_
      exact ls_425 (l9 := 2) (u := [108, 97, 119, 32, 115, 113, 117, 97, 114, 101, 59]) X hr ho ha0 hF rfl (hb.less (by omega)) hst hq0 (by omega) (by rw [List.nil_append] at hsb; exact hsb) (zTt.lit2 (i := 22) (u := [108, 97, 119, 32, 115, 113, 117, 97, 114, 101, 59]) (by decide +kernel)) (fun q => absurd q (by omega)) rfl
    · skip
      refine a_ldcS (i := 21) (q := ("TagDrawLaw", 98, "law line;")) X rfl rfl rfl dL_list_418 ?_
      refine a_goto (tgt := 425) X dL_list_420 (by decide) ?_
      exact ls_425 (l9 := 1) (u := [108, 97, 119, 32, 108, 105, 110, 101, 59]) X hr ho ha0 hF rfl (hb.less (by omega)) hst hq0 (by omega) (by rw [List.nil_append] at hsb; exact hsb) (zTt.lit2 (i := 21) (u := [108, 97, 119, 32, 108, 105, 110, 101, 59]) (by decide +kernel)) (fun q => absurd q (by omega)) rfl
  · skip
    refine a_ldcS (i := 11) (q := ("TagDrawLaw", 58, "")) X rfl rfl rfl dL_list_407 ?_
    refine a_goto (tgt := 425) X dL_list_409 (by decide) ?_
    exact ls_425 (l9 := 0) (u := []) X hr ho ha0 hF rfl (hb.less (by omega)) hst hq0 (by omega) (by rw [List.nil_append] at hsb; exact hsb) (zTt.lit2 (i := 11) (u := []) (by decide +kernel)) (fun q => absurd q (by omega)) rfl
