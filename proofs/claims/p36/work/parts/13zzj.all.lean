/-! the odds: all orders laid by the reference -/
theorem mm_o92 {P : Nat} {N : zNt} : ∀ (v k : Nat) (B : zMt), k ≤ 128 → 128 - k < v → (∀ j, j < k → B (P + 29) j = 0) → ∃ B1, (∀ w, w = zu (zu (zu (zu B1 P 54 (((1 : Int32) <<< ((B1 P 33) &&& 31)) - 1)) P 55 0) P 56 1000) P 57 0 → D_X8_allOrders_92 P v (nI k) B N = zB (D_X8_goesOn P zRec (0 : Int32) (0 : Int32) (1000000000000 : Int64) w (zu N P 59 0)) fun e => some (e.1, e.2)) ∧ (∀ j, j < 128 → B1 (P + 29) j = 0) ∧ (∀ i j, ¬ i = P + 29 → B1 i j = B i j) := by
  intro v
  induction v with
  | zero => intro k B _ h; omega
  | succ v ih =>
    intro k B hk hv hz
    by_cases hc : 128 ≤ k
    · refine ⟨B, fun w hw => ?_, fun j hj => hz j (by omega), fun _ _ _ => rfl⟩
      rw [D_X8_allOrders_92, if_pos (by exact (leL (x := 128) (a := 128) (by decide) (by decide) (by omega)).mpr hc), zLt_eq, zLt_eq, zLt_eq, zLt_eq, zLt_eq, hw]
    · obtain ⟨B1, f1, f2, f3⟩ := ih (k + 1) (zu B (P + 29) k 0) (by omega) (by omega) (fun j hj => by
        by_cases q : j = k
        · subst q; exact zu_eq
        · rw [zu_ne (by omega)]; exact hz j (by omega))
      refine ⟨B1, fun w hw => ?_, f2, fun i j h => (f3 i j h).trans (zu_ne (by omega))⟩
      rw [D_X8_allOrders_92, if_neg (by intro z; exact hc ((leL (x := 128) (a := 128) (by decide) (by decide) (by omega)).mp z))]
      unfold zI
      rw [if_neg (vp_in_nI (show k < 128 by omega) (by decide)), nI_clamp (by omega), zLt_eq, nI_add1]
      exact f1 w hw
theorem mm_o72 {P : Nat} {B : zMt} : ∀ (v k : Nat) (N : zNt), k ≤ 5 → 5 - k < v → (∀ j, j < k → N (P + 28) j = 0) → ∃ N1, D_X8_allOrders_72 P v (nI k) B N = D_X8_allOrders_92 P zFu (0 : Int32) B N1 ∧ (∀ j, j < 5 → N1 (P + 28) j = 0) ∧ (∀ i j, ¬ i = P + 28 → N1 i j = N i j) := by
  intro v
  induction v with
  | zero => intro k N _ h; omega
  | succ v ih =>
    intro k N hk hv hz
    rw [D_X8_allOrders_72]
    by_cases hc : 5 ≤ k
    · rw [if_pos (by exact (leL (x := 5) (a := 5) (by decide) (by decide) (by omega)).mpr hc)]
      exact ⟨N, rfl, fun j hj => hz j (by omega), fun _ _ _ => rfl⟩
    · rw [if_neg (by intro z; exact hc ((leL (x := 5) (a := 5) (by decide) (by decide) (by omega)).mp z))]
      unfold zI
      rw [if_neg (vp_in_nI (show k < 5 by omega) (by decide)), nI_clamp (by omega), zLt_eq, nI_add1]
      obtain ⟨N1, f1, f2, f3⟩ := ih (k + 1) (zu N (P + 28) k 0) (by omega) (by omega) (fun j hj => by
        by_cases q : j = k
        · subst q; exact zu_eq
        · rw [zu_ne (by omega)]; exact hz j (by omega))
      exact ⟨N1, f1, f2, fun i j h => (f3 i j h).trans (zu_ne (by omega))⟩
theorem mm_o44 {P : Nat} {B : zMt} : ∀ (v k : Nat) (N : zNt), k ≤ 7 → 7 - k < v → (∀ j, j < k → N (P + 25) j = 0 ∧ N (P + 26) j = 0) → ∃ N1, D_X8_allOrders_44 P v (nI k) B N = D_X8_allOrders_72 P zFu (0 : Int32) B N1 ∧ (∀ j, j < 7 → N1 (P + 25) j = 0 ∧ N1 (P + 26) j = 0) ∧ (∀ i j, ¬ (i = P + 25 ∨ i = P + 26) → N1 i j = N i j) := by
  intro v
  induction v with
  | zero => intro k N _ h; omega
  | succ v ih =>
    intro k N hk hv hz
    rw [D_X8_allOrders_44]
    by_cases hc : 7 ≤ k
    · rw [if_pos (by exact (leL (x := 7) (a := 7) (by decide) (by decide) (by omega)).mpr hc)]
      exact ⟨N, rfl, fun j hj => hz j (by omega), fun _ _ _ => rfl⟩
    · rw [if_neg (by intro z; exact hc ((leL (x := 7) (a := 7) (by decide) (by decide) (by omega)).mp z))]
      unfold zI
      rw [if_neg (vp_in_nI (show k < 7 by omega) (by decide)), nI_clamp (by omega), zLt_eq, if_neg (ci (show k < 7 by omega) (by omega)), zLt_eq, nI_add1]
      obtain ⟨N1, f1, f2, f3⟩ := ih (k + 1) (zu (zu N (P + 25) k 0) (P + 26) k 0) (by omega) (by omega) (fun j hj => by
        by_cases q : j = k
        · subst q
          exact ⟨(zu_ne (by omega)).trans zu_eq, zu_eq⟩
        · rw [zu_ne (by omega), zu_ne (by omega), zu_ne (by omega), zu_ne (by omega)]
          exact hz j (by omega))
      exact ⟨N1, f1, f2, fun i j h => (f3 i j h).trans ((zu_ne (by omega)).trans (zu_ne (by omega)))⟩
theorem mm_o23 {P : Nat} {B : zMt} : ∀ (v k : Nat) (N : zNt), k ≤ 49 → 49 - k < v → (∀ j, j < k → N (P + 27) j = 0) → ∃ N1, D_X8_allOrders_23 P v (nI k) B N = D_X8_allOrders_44 P zFu (0 : Int32) B N1 ∧ (∀ j, j < 49 → N1 (P + 27) j = 0) ∧ (∀ i j, ¬ i = P + 27 → N1 i j = N i j) := by
  intro v
  induction v with
  | zero => intro k N _ h; omega
  | succ v ih =>
    intro k N hk hv hz
    rw [D_X8_allOrders_23]
    by_cases hc : 49 ≤ k
    · rw [if_pos (by exact (leL (x := 49) (a := 49) (by decide) (by decide) (by omega)).mpr hc)]
      exact ⟨N, rfl, fun j hj => hz j (by omega), fun _ _ _ => rfl⟩
    · rw [if_neg (by intro z; exact hc ((leL (x := 49) (a := 49) (by decide) (by decide) (by omega)).mp z))]
      unfold zI
      rw [if_neg (vp_in_nI (show k < 49 by omega) (by decide)), nI_clamp (by omega), zLt_eq, nI_add1]
      obtain ⟨N1, f1, f2, f3⟩ := ih (k + 1) (zu N (P + 27) k 0) (by omega) (by omega) (fun j hj => by
        by_cases q : j = k
        · subst q; exact zu_eq
        · rw [zu_ne (by omega)]; exact hz j (by omega))
      exact ⟨N1, f1, f2, fun i j h => (f3 i j h).trans (zu_ne (by omega))⟩
theorem mm_o2 {P : Nat} {B : zMt} : ∀ (v k : Nat) (N : zNt), k ≤ 35 → 35 - k < v → (∀ j, j < k → N (P + 24) j = 0) → ∃ N1, D_X8_allOrders_2 P v (nI k) B N = D_X8_allOrders_23 P zFu (0 : Int32) B N1 ∧ (∀ j, j < 35 → N1 (P + 24) j = 0) ∧ (∀ i j, ¬ i = P + 24 → N1 i j = N i j) := by
  intro v
  induction v with
  | zero => intro k N _ h; omega
  | succ v ih =>
    intro k N hk hv hz
    rw [D_X8_allOrders_2]
    by_cases hc : 35 ≤ k
    · rw [if_pos (by exact (leL (x := 35) (a := 35) (by decide) (by decide) (by omega)).mpr hc)]
      exact ⟨N, rfl, fun j hj => hz j (by omega), fun _ _ _ => rfl⟩
    · rw [if_neg (by intro z; exact hc ((leL (x := 35) (a := 35) (by decide) (by decide) (by omega)).mp z))]
      unfold zI
      rw [if_neg (vp_in_nI (show k < 35 by omega) (by decide)), nI_clamp (by omega), zLt_eq, nI_add1]
      obtain ⟨N1, f1, f2, f3⟩ := ih (k + 1) (zu N (P + 24) k 0) (by omega) (by omega) (fun j hj => by
        by_cases q : j = k
        · subst q; exact zu_eq
        · rw [zu_ne (by omega)]; exact hz j (by omega))
      exact ⟨N1, f1, f2, fun i j h => (f3 i j h).trans (zu_ne (by omega))⟩
theorem mm_all {P n U : Nat} {B T : zMt} {N : zNt} (hg : gP T n U) (hn : n ≤ 7) (hm : mP P B T n U) : ∃ B' N', D_X8_allOrders P B N = some (B', N') ∧ rI P B' N' T U n (lvA T n) ∧ mP P B' T n U ∧ (∀ i j, ¬ (i = P ∧ 54 ≤ j ∧ j ≤ 57) → ¬ i = P + 29 → ¬ (P + 18 ≤ i ∧ i ≤ P + 22) → B' i j = B i j) ∧ (∀ i j, ¬ (i = P ∧ j = 59) → ¬ (P + 24 ≤ i ∧ i ≤ P + 28) → N' i j = N i j) := by
  have hU := hg.2.1
  obtain ⟨N1, a1, a2, a3⟩ := mm_o2 (P := P) (B := B) zFu 0 N (by omega) (by unfold zFu; omega) (fun j hj => by omega)
  obtain ⟨N2, b1, b2, b3⟩ := mm_o23 (P := P) (B := B) zFu 0 N1 (by omega) (by unfold zFu; omega) (fun j hj => by omega)
  obtain ⟨N3, c1, c2, c3⟩ := mm_o44 (P := P) (B := B) zFu 0 N2 (by omega) (by unfold zFu; omega) (fun j hj => by omega)
  obtain ⟨N4, d1, d2, d3⟩ := mm_o72 (P := P) (B := B) zFu 0 N3 (by omega) (by unfold zFu; omega) (fun j hj => by omega)
  obtain ⟨B1, e1, e2, e3⟩ := mm_o92 (P := P) (N := N4) zFu 0 B (by omega) (by unfold zFu; omega) (fun j hj => by omega)
  replace e1 := e1 _ rfl
  rw [show nI 0 = (0 : Int32) by decide] at a1 b1 c1 d1 e1
  have h33 : B1 P 33 = nI n := (e3 _ _ (by omega)).trans hm.1
  rw [h33] at e1
  have kz : ∀ i j, ¬ (i = P ∧ 54 ≤ j ∧ j ≤ 57) → zu (zu (zu (zu B1 P 54 (((1 : Int32) <<< (nI n &&& 31)) - 1)) P 55 0) P 56 1000) P 57 0 i j = B1 i j := fun i j h => (zu_ne (by omega)).trans ((zu_ne (by omega)).trans ((zu_ne (by omega)).trans (zu_ne (by omega))))
  have z54 : zu (zu (zu (zu B1 P 54 (((1 : Int32) <<< (nI n &&& 31)) - 1)) P 55 0) P 56 1000) P 57 0 P 54 = ((1 : Int32) <<< (nI n &&& 31)) - 1 := (zu_ne (by omega)).trans ((zu_ne (by omega)).trans ((zu_ne (by omega)).trans zu_eq))
  have z55 : zu (zu (zu (zu B1 P 54 (((1 : Int32) <<< (nI n &&& 31)) - 1)) P 55 0) P 56 1000) P 57 0 P 55 = 0 := (zu_ne (by omega)).trans ((zu_ne (by omega)).trans zu_eq)
  have z56 : zu (zu (zu (zu B1 P 54 (((1 : Int32) <<< (nI n &&& 31)) - 1)) P 55 0) P 56 1000) P 57 0 P 56 = 1000 := (zu_ne (by omega)).trans zu_eq
  have z57 : zu (zu (zu (zu B1 P 54 (((1 : Int32) <<< (nI n &&& 31)) - 1)) P 55 0) P 56 1000) P 57 0 P 57 = 0 := zu_eq
  generalize zu (zu (zu (zu B1 P 54 (((1 : Int32) <<< (nI n &&& 31)) - 1)) P 55 0) P 56 1000) P 57 0 = B2 at e1 kz z54 z55 z56 z57
  have hm2 : mP P B2 T n U := hm.m hU ((kz _ _ (by omega)).trans (e3 _ _ (by omega))) ((kz _ _ (by omega)).trans (e3 _ _ (by omega))) (fun j _ _ => (kz _ _ (by omega)).trans (e3 _ _ (by omega))) (fun i j _ _ => (kz _ _ (by omega)).trans (e3 _ _ (by omega)))
  have h0 : rI P B2 (zu N4 P 59 0) T U n [] := ⟨fun a u ha hu => (zu_ne (by omega)).trans ((d3 _ _ (by omega)).trans ((c3 _ _ (by omega)).trans ((b3 _ _ (by omega)).trans (a2 _ (by omega))))), fun a ha => (zu_ne (by omega)).trans ((d3 _ _ (by omega)).trans (c2 a (by omega)).1), fun a ha => (zu_ne (by omega)).trans ((d3 _ _ (by omega)).trans (c2 a (by omega)).2), fun a o ha ho => (zu_ne (by omega)).trans ((d3 _ _ (by omega)).trans ((c3 _ _ (by omega)).trans (b2 _ (by omega)))), fun u hu => (zu_ne (by omega)).trans (d2 u (by omega)), zu_eq, fun S hS => (kz _ _ (by omega)).trans (e2 S hS), z54, z55, z56, z57⟩
  obtain ⟨B', N', f1, f2, f3, f4, f5⟩ := mm_goes (P := P) hg hn n 0 zRec 0 (fun j => j) 1000000000000 B2 (zu N4 P 59 0) [] (by omega) (by unfold zRec; omega) (fun j hj => by omega) (cn_0 n) hm2 h0
  rw [show nI 0 = (0 : Int32) by decide] at f1
  have kB : ∀ i j, ¬ (i = P ∧ 54 ≤ j ∧ j ≤ 57) → ¬ i = P + 29 → ¬ (P + 18 ≤ i ∧ i ≤ P + 22) → B' i j = B i j := fun i j h1 h2 h3 => (f4 i j h1 h2 h3).trans ((kz i j h1).trans (e3 i j h2))
  refine ⟨B', N', ?_, f2, hm.m hU (kB _ _ (by omega) (by omega) (by omega)) (kB _ _ (by omega) (by omega) (by omega)) (fun j _ _ => kB _ _ (by omega) (by omega) (by omega)) (fun i j _ _ => kB _ _ (by omega) (by omega) (by omega)), kB, fun i j h1 h2 => (f5 i j h1 h2).trans ((zu_ne (by omega)).trans ((d3 _ _ (by omega)).trans ((c3 _ _ (by omega)).trans ((b3 _ _ (by omega)).trans (a3 _ _ (by omega))))))⟩
  unfold D_X8_allOrders
  rw [a1, b1, c1, d1, e1, zB_s f1]
