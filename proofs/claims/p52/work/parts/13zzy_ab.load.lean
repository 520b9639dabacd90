/-! p52: the law's load is answered with the number of hunters -/
theorem pc.t0 {t : Nat → Int32} {w : List Nat} (h : ∀ i c, w[i]? = some c → t i = nI c) : pc t 0 w := fun i c hc => by rw [Nat.zero_add]; exact h i c hc
theorem k_read {Q T n : Nat} {qs : List Nat} {hs : List (Nat × Bool)} {b : Bool} {as : List (Nat × List Nat)} {l : Nat} {pd : List Nat} {gd : Option (List Nat)} {A : zMt} {NA : zNt} {v : Int32} (hv : v = nI n) (hn7 : n ≤ 700) (hT : T < Q ∨ Q + 14 ≤ T) (ok : tOk qs hs b as pd gd) (hn : n = (txt qs hs b as l pd gd).length) (hp : ∀ i c, (txt qs hs b as l pd gd)[i]? = some c → A T i = nI c) : ∃ r, D_X3_read Q T 700 v A NA = some r ∧ r.1 = 1 ∧ r.2.1 (Q + 1) 1 = nI hs.length := by
  obtain ⟨A1, ec, tx1, f5, f1, f2, f11, f12, f13, c0, c1, c2, c3, c4, c5, c6, d1, d2, d3, d4, d5, d6, d7⟩ := c_readB (Q := Q) (T := T) (n := n) (A := A) (NA := NA) hv hn7 hT
  have w0 : iv Q n (A T) A1 NA 0 0 0 := ⟨tx1, by omega, by omega, by omega, c0, c1, c2, fun _ h => absurd h (Nat.not_lt_zero _), fun _ h => absurd h (Nat.not_lt_zero _), fun _ h => absurd h (Nat.not_lt_zero _)⟩
  obtain ⟨a, e1, w1, k1, -, g1, -⟩ := k_go (N := NA) (x := 0) w0 f5 (by omega) rfl
  obtain ⟨A', N', k, hk, rd, w2, h6⟩ := rd_all (T := T) (nT := 700) ok hn (pc.t0 hp) w1 g1 (fun j j1 j2 => by
    rw [k1 _ _ (by omega)]
    by_cases z : j = 11
    · subst z; exact f11
    · by_cases z2 : j = 12
      · subst z2; exact f12
      · have : j = 13 := by omega
        subst this; exact f13) (fun h hh => (k1 _ _ (by omega)).trans (d4 h hh)) (fun h hh => (k1 _ _ (by omega)).trans (d5 h hh))
  rw [ec, zB_s e1]
  have hz : zFu = (zFu - k - 1) + 1 + k := by unfold zFu; omega
  have q := rd (zFu - k - 1 + 1) 0 (by omega)
  rw [← hz, Nat.zero_add] at q
  rw [show D_X3_read_62 Q T 700 zFu (0 : Int32) a.1 a.2 = D_X3_read_62 Q T 700 (zFu - k - 1 + 1) (nI k) A' N' from q, D_X3_read_62]
  by_cases z : (700 : Int32) ≤ nI k
  · rw [if_pos z]; exact ⟨_, rfl, rfl, w2.2.2.2.2.2.1⟩
  · rw [if_neg z, if_pos h6]; exact ⟨_, rfl, rfl, w2.2.2.2.2.2.1⟩
theorem k_load {C n m : Nat} {qs : List Nat} {hs : List (Nat × Bool)} {b : Bool} {as : List (Nat × List Nat)} {l : Nat} {pd : List Nat} {gd : Option (List Nat)} {A : zMt} {NA : zNt} {a : Int32 × zMt × zNt} (hm : m ≤ 700) (h1 : A C 1 = nI m) (hnm : n ≤ m) (ok : tOk qs hs b as pd gd) (hn : n = (txt qs hs b as l pd gd).length) (hp : ∀ i c, (txt qs hs b as l pd gd)[i]? = some c → A (C + 1) i = nI c) (ha : D_X7_load C (nI n) A NA = some a) : a.1 = nI hs.length ∧ a.2.1 C 0 = 0 := by
  obtain ⟨r, er, r1, r2⟩ := k_read (Q := C + 3) (T := C + 1) (NA := NA) (v := nI n) rfl (by omega) (by omega) ok hn hp
  unfold D_X7_load at ha
  rw [if_neg (show ¬ nI n < (0 : Int32) from fun q => by have := (nI_ltI (a := n) (b := 0) (by omega) (by omega)).mp q; omega), h1, if_pos ((nI_leI (by omega) (by omega)).mpr hnm), zB_s er, zLt_eq, if_neg (by rw [r1]; decide)] at ha
  obtain ⟨A2, e2, k2⟩ := c_take1 (R := C + 17) (S := C + 4) (A := zu r.2.1 C 1 (0 : Int32)) (by omega)
  rw [zB_s e2] at ha
  obtain ⟨A3, e3, ha⟩ := zBx ha
  obtain ⟨e, e4, ha⟩ := zBx ha
  obtain ⟨A3', e3', k3⟩ := v_X1_forget (Q := C + 25) (M0 := A2)
  rw [e3] at e3'
  cases e3'
  have hc : A3 (C + 17) 1 = nI hs.length := by
    rw [k3 _ _ (by unfold WM_X1_forget; omega), k2, zu_ne (by omega)]
    exact r2
  unfold D_X7_changed at e4
  obtain ⟨A4, e5, e4⟩ := zBx e4
  rw [zLt_eq] at e4
  unfold D_X7_answer at e4
  rw [zLt_eq] at e4
  cases e4
  cases ha
  exact ⟨hc, zu_eq⟩

