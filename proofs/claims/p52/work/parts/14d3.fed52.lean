/-! p52: what the class holds once the text is loaded; the reference stands beside as a ghost -/
def gGh (C : Nat) (A : zMt) : zMt := fun i j => if i = 201 then (if j = 69 then 100 else if (10 ≤ j ∧ j < 62) ∨ 72 ≤ j then -1 else 0) else if i = 207 then A (C + 1) j else if i = 200 ∧ j = 11 then A C 1 else if i = 200 ∧ (j = 13 ∨ j = 14) then -1 else 0
theorem gGh_0 {C i j : Nat} {A : zMt} (h1 : ¬ i = 201) (h2 : ¬ i = 207) (h3 : ¬ (i = 200 ∧ j = 11)) (h4 : ¬ (i = 200 ∧ (j = 13 ∨ j = 14))) : gGh C A i j = 0 := by
  unfold gGh
  rw [if_neg h1, if_neg h2, if_neg h3, if_neg h4]
theorem gGh_r1 {C : Nat} {A : zMt} : ∀ j, (j < 10 ∨ (62 ≤ j ∧ j < 69) ∨ j = 70 ∨ j = 71) → gGh C A (200 + 1) j = 0 := fun j hj => by
  unfold gGh
  rw [if_pos rfl, if_neg (by omega), if_neg (by omega)]
theorem gGh_r2 {C : Nat} {A : zMt} : ∀ j, 10 ≤ j → j < 62 → gGh C A (200 + 1) j = -1 := fun j h1 h2 => by
  unfold gGh
  rw [if_pos rfl, if_neg (by omega), if_pos (Or.inl ⟨h1, h2⟩)]
theorem gGh_r3 {C : Nat} {A : zMt} : gGh C A (200 + 1) 69 = 100 := by
  unfold gGh
  rw [if_pos rfl, if_pos rfl]
theorem gGh_r4 {C : Nat} {A : zMt} : ∀ j, j < 10 → gGh C A (200 + 1) (72 + j) = -1 := fun j hj => by
  unfold gGh
  rw [if_pos rfl, if_neg (by omega), if_pos (Or.inr (by omega))]
theorem gGh_11 {C : Nat} {A : zMt} : gGh C A 200 11 = A C 1 := by
  unfold gGh
  rw [if_neg (by decide), if_neg (by decide), if_pos ⟨rfl, rfl⟩]
theorem gGh_7 {C j : Nat} {A : zMt} : gGh C A (200 + 7) j = A (C + 1) j := by
  unfold gGh
  rw [if_neg (by decide), if_pos rfl]
theorem gGh_13 {C : Nat} {A : zMt} : gGh C A 200 13 = -1 := by
  unfold gGh
  rw [if_neg (by decide), if_neg (by decide), if_neg (by decide), if_pos ⟨rfl, Or.inl rfl⟩]
theorem gGh_14 {C : Nat} {A : zMt} : gGh C A 200 14 = -1 := by
  unfold gGh
  rw [if_neg (by decide), if_neg (by decide), if_neg (by decide), if_pos ⟨rfl, Or.inr rfl⟩]
theorem gGh_jJ {C m : Nat} {A : zMt} (h1 : A C 1 = nI m) (hm : m ≤ 700) : jJ 200 (gGh C A) := by
  have o0 : (0 : Int32).toInt = 0 := by decide
  have z : ∀ j, ¬ j = 11 → ¬ j = 13 → ¬ j = 14 → gGh C A 200 j = 0 := fun j a b c => gGh_0 (by omega) (by omega) (by omega) (by omega)
  refine ⟨?_, ?_, fun a ha => ?_, fun k hk => ?_, ?_⟩
  · unfold jB
    rw [z 7 (by omega) (by omega) (by omega), z 8 (by omega) (by omega) (by omega), z 33 (by omega) (by omega) (by omega), o0]
    omega
  · unfold jS
    rw [z 7 (by omega) (by omega) (by omega), z 8 (by omega) (by omega) (by omega), o0]
    exact jRow_new gGh_r1 gGh_r2 gGh_r3
  · rw [gGh_0 (by omega) (by omega) (by omega) (by omega), o0]; omega
  · rw [z 9 (by omega) (by omega) (by omega), o0] at hk; omega
  · unfold jT
    rw [z 9 (by omega) (by omega) (by omega), gGh_11, h1, nI_toInt (by omega), z 64 (by omega) (by omega) (by omega), o0]
    omega
theorem cc_fed {C m : Nat} {L : List zC} {M A : zMt} {N0 NA : zNt} {t : List Nat} {v0 : Int32} (hE : zE7 (L, M, N0) C) (hm : m ≤ 700) (ht : ∀ x, x ∈ t → x < 128) (hA : tpt C t M A m) : ∃ r, D_X7_load C v0 A NA = some r ∧ ∃ (B : zMt) (r' g : Nat → Int32) (U H G K : Nat), eqS C 200 r.2.1 B r' g U H G K := by
  obtain ⟨-, -, t1, -, -, f1, f2, l0, l1, l2, l3, l4, l5, l6, lq, lg, p0, p1, q0, q1, q2, q3, ls, lp, -, -, lh⟩ := hE
  obtain ⟨a1, a2, a3⟩ := hA
  have k : ∀ i j, ¬ i = C → ¬ i = C + 1 → A i j = M i j := fun i j h1 h2 => a3 i j (fun z => h1 z.1) h2
  have hT : tpe C 200 A (gGh C A) := ⟨m, hm, a1, gGh_11.trans a1, fun i hi => ⟨gGh_7.symm, by
    rw [a2 i hi, nI_toInt (by have := cN_lt (i := i) ht; omega)]
    omega⟩⟩
  have hf : flt C 200 A (gGh C A) := ⟨(k _ _ (by omega) (by omega)).trans (f1.trans gGh_13.symm), (k _ _ (by omega) (by omega)).trans (f2.trans gGh_14.symm)⟩
  have w0 : eqE C 200 A (gGh C A) := eqE.fresh ((k _ _ (by omega) (by omega)).trans l0) ((k _ _ (by omega) (by omega)).trans l1) ((k _ _ (by omega) (by omega)).trans l2) ((k _ _ (by omega) (by omega)).trans l3) ((k _ _ (by omega) (by omega)).trans l4) ((k _ _ (by omega) (by omega)).trans l5) ((k _ _ (by omega) (by omega)).trans l6) (fun j hj => (k _ _ (by omega) (by omega)).trans (lq j hj)) (fun j hj => (k _ _ (by omega) (by omega)).trans (lg j hj)) ((k _ _ (by omega) (by omega)).trans p0) ((k _ _ (by omega) (by omega)).trans p1) ((k _ _ (by omega) (by omega)).trans q0) ((k _ _ (by omega) (by omega)).trans q1) ((k _ _ (by omega) (by omega)).trans q2) ((k _ _ (by omega) (by omega)).trans q3) (fun j hj => (k _ _ (by omega) (by omega)).trans (ls j hj)) (fun j hj => (k _ _ (by omega) (by omega)).trans (lp j hj)) (fun j hj => (k _ _ (by omega) (by omega)).trans (lh j hj)) (gGh_0 (by omega) (by omega) (by omega) (by omega)) (gGh_0 (by omega) (by omega) (by omega) (by omega)) (gGh_0 (by omega) (by omega) (by omega) (by omega)) gGh_r1 gGh_r2 gGh_r3 gGh_r4
  obtain ⟨a, ea, b, eb, -, -, w, -⟩ := t_loadE (v0 := v0) (NA := NA) (NB := fun _ _ => 0) hT (gGh_jJ a1 hm) hf w0
  obtain ⟨r', g, U, H, G, K, w⟩ := w
  exact ⟨a, ea, b.2.1, r', g, U, H, G, K, w⟩
theorem eqS.cS {C P U H G K : Nat} {A B : zMt} {r g : Nat → Int32} (w : eqS C P A B r g U H G K) : ∃ n, n ≤ H ∧ cS C A (tP (C + 91) A) n U H ∧ A (C + 17) 1 = nI H ∧ H ≤ 10 := by
  obtain ⟨w1, w2, w3, w4, w5, w6, w7, w8, w9⟩ := w
  have c1 := w6.1.1
  have c2 := w6.1.2.1
  have c3 := w6.1.2.2.1
  obtain ⟨f1, f2, f3, f4, f5⟩ := row_facts w5 w6.1.2.2.2.2.2.2 c3 c2
  refine ⟨fr r H + G, f1, ⟨t_view c2 c3 c1 (by omega) w5 f3 w7 w8, t_viewH (U := U) c2 c3 (by omega) f4 w8, c2, fun i j _ => rfl, w6.1.2.2.2.1, w6.1.2.2.2.2.1, fun u hu => ?_, fun h hh => ?_⟩, w6.1.2.2.2.2.1, c2⟩
  · exact (w6.2.1 u (by omega)).trans ((w7.2.1 u hu).1).symm
  · have e := w6.2.2.1 h (by omega)
    have q := w5.1 h (by omega)
    rw [show A (C + 19) h = r h from e]
    exact isN.of (by show ((0 : Nat) : Int) ≤ _; exact q.1) q.2
/-- and how many hunters the list has -/
theorem k_load2 {C n m : Nat} {qs : List Nat} {hs : List (Nat × Bool)} {b : Bool} {as : List (Nat × List Nat)} {l : Nat} {pd : List Nat} {gd : Option (List Nat)} {A : zMt} {NA : zNt} {a : Int32 × zMt × zNt} (hm : m ≤ 700) (h1 : A C 1 = nI m) (hnm : n ≤ m) (ok : tOk qs hs b as pd gd) (hn : n = (txt qs hs b as l pd gd).length) (hp : ∀ i c, (txt qs hs b as l pd gd)[i]? = some c → A (C + 1) i = nI c) (ha : D_X7_load C (nI n) A NA = some a) : a.1 = nI hs.length ∧ a.2.1 C 0 = 0 ∧ a.2.1 (C + 17) 1 = nI hs.length := by
  obtain ⟨r, er, r1, r2⟩ := k_read (Q := C + 3) (T := C + 1) (NA := NA) (v := nI n) rfl (by omega) (by omega) ok hn hp
  unfold D_X7_load at ha
  rw [if_neg (show ¬ nI n < (0 : Int32) from fun q => by have := (nI_ltI (a := n) (b := 0) (by omega) (by omega)).mp q; omega), h1, if_pos ((nI_leI (by omega) (by omega)).mpr hnm), zB_s er, zLt_eq, if_neg (by rw [r1]; decide)] at ha
  obtain ⟨A2, e2, k2⟩ := c_take1 (R := C + 17) (S := C + 4) (A := zu r.2.1 C 1 (0 : Int32)) (by omega)
  rw [zB_s e2] at ha
  obtain ⟨A3, e3, ha⟩ := zBx ha
  obtain ⟨e, e4, ha⟩ := zBx ha
  obtain ⟨A3', e3', k3⟩ := v_X1_forget (Q := C + 25) (M0 := A2)
  rw [e3] at e3'
  cases e3'
  have hc : A3 (C + 17) 1 = nI hs.length := by
    rw [k3 _ _ (by unfold WM_X1_forget; omega), k2, zu_ne (by omega)]
    exact r2
  unfold D_X7_changed at e4
  obtain ⟨A4, e5, e4⟩ := zBx e4
  obtain ⟨A4', e5', k5⟩ := v_X2_gather (Q := C + 91) (A := C + 17) (M0 := A3)
  rw [e5] at e5'
  cases e5'
  rw [zLt_eq] at e4
  unfold D_X7_answer at e4
  rw [zLt_eq] at e4
  cases e4
  cases ha
  exact ⟨hc, zu_eq, (zu_ne (by omega)).trans ((zu_ne (by omega)).trans ((k5 _ _ (by unfold WM_X2_gather; omega)).trans hc))⟩
/-- the whole of it: the text is loaded, and the class holds a list -/
theorem cc_list {C m : Nat} {L : List zC} {M A : zMt} {N0 NA : zNt} {qs : List Nat} {hs : List (Nat × Bool)} {b : Bool} {as : List (Nat × List Nat)} {l : Nat} {pd : List Nat} {gd : Option (List Nat)} {r : Int32 × zMt × zNt} (hE : zE7 (L, M, N0) C) (hm : m ≤ 700) (ht : ∀ x, x ∈ txt qs hs b as l pd gd → x < 128) (hn : (txt qs hs b as l pd gd).length ≤ m) (ok : tOk qs hs b as pd gd) (hA : tpt C (txt qs hs b as l pd gd) M A m) (hr : D_X7_load C (nI (txt qs hs b as l pd gd).length) A NA = some r) : r.1 = nI hs.length ∧ r.2.1 C 0 = 0 ∧ (2 ≤ hs.length ∧ hs.length ≤ 5) ∧ (∃ (T : zMt) (n U : Nat), n ≤ 8 ∧ cS C r.2.1 T n U hs.length) ∧ ∀ a, a < C → r.2.1 a = A a := by
  obtain ⟨r', er, B, rr, g, U, H, G, K, w⟩ := cc_fed (v0 := nI (txt qs hs b as l pd gd).length) (NA := NA) hE hm ht hA
  rw [hr] at er
  cases er
  obtain ⟨k1, k2, k3⟩ := k_load2 (C := C) (n := (txt qs hs b as l pd gd).length) (m := m) hm hA.1 hn ok rfl (fun i c hc => by
    have hi := (List.getElem?_eq_some_iff.mp hc).1
    rw [hA.2.1 i (by omega)]
    unfold cN
    rw [if_pos hi, List.getD_eq_getElem?_getD, hc]
    rfl) hr
  obtain ⟨n, n1, n2, n3, n4⟩ := w.cS
  have h5 : 2 ≤ hs.length ∧ hs.length ≤ 5 := ⟨ok.2.2.1, ok.2.2.2.1⟩
  have eH : H = hs.length := nI_inj (by omega) (by omega) (n3.symm.trans k3)
  subst eH
  obtain ⟨r2, er2, kf, -⟩ := v_X7_load (P := C) (v0 := nI (txt qs hs b as l pd gd).length) (M0 := A) (N0 := NA)
  rw [hr] at er2
  cases er2
  exact ⟨k1, k2, h5, ⟨_, n, U, by omega, n2⟩, fun a ha => funext fun j => kf a j (by unfold WM_X7_load; omega)⟩
