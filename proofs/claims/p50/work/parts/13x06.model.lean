def WM_X8_come (P : Nat) (a j : Nat) : Prop := (P + 7 ≤ a ∧ a < P + 8) ∨ (a = P ∧ (j = 11))
theorem v_X8_come_s {P n t : Nat} {v x : Int32} {M : zMt} (h : ¬ x < 0) (ht : M P 11 = nI t) (h7 : t < 700) : ∃ M', D_X8_come_3 P (n + 1) v x M = D_X8_come_3 P n v (x + (-8)) M' ∧ (∀ a j, ¬ WM_X8_come P a j → M' a j = M a j) ∧ M' P 11 = nI (t + 1) := by
  refine ⟨zu (zu M (P + 7) t ((Int32.toUInt32 v >>> (Int32.toUInt32 x &&& Int32.toUInt32 31)).toInt32 &&& (255 : Int32))) P 11 (nI (t + 1)), ?_, fun a j h => (zu_ne (by unfold WM_X8_come at h; omega)).trans (zu_ne (by unfold WM_X8_come at h; omega)), zu_eq⟩
  rw [D_X8_come_3, if_neg h, ht]
  unfold zI
  rw [if_neg (vp_in_nI (n := t) h7 (by decide)), nI_clamp (n := t) (by omega)]
  unfold zLt
  dsimp only
  rw [zu_ne (by omega), ht, nI_1]
theorem v_X8_come {P t : Nat} {v0 : Int32} {M0 : zMt} (ht : M0 P 11 = nI t) (h7 : t + 4 ≤ 700) : ∃ r, D_X8_come P v0 M0 = some r ∧ ((∀ a j, ¬ WM_X8_come P a j → r a j = M0 a j) ∧ r P 11 = nI (t + 4)) := by
  unfold D_X8_come
  rw [show zFu = 4294967292 + 1 + 1 + 1 + 1 + 1 from rfl]
  obtain ⟨M1, e1, k1, t1⟩ := v_X8_come_s (P := P) (n := 4294967292 + 1 + 1 + 1 + 1) (v := v0) (x := 24) (M := M0) (by decide) ht (by omega)
  obtain ⟨M2, e2, k2, t2⟩ := v_X8_come_s (P := P) (n := 4294967292 + 1 + 1 + 1) (v := v0) (x := 24 + (-8)) (M := M1) (by decide) t1 (by omega)
  obtain ⟨M3, e3, k3, t3⟩ := v_X8_come_s (P := P) (n := 4294967292 + 1 + 1) (v := v0) (x := 24 + (-8) + (-8)) (M := M2) (by decide) t2 (by omega)
  obtain ⟨M4, e4, k4, t4⟩ := v_X8_come_s (P := P) (n := 4294967292 + 1) (v := v0) (x := 24 + (-8) + (-8) + (-8)) (M := M3) (by decide) t3 (by omega)
  rw [e1, e2, e3, e4, D_X8_come_3, if_pos (by decide)]
  exact ⟨_, rfl, fun a j h => (k4 a j h).trans ((k3 a j h).trans ((k2 a j h).trans (k1 a j h))), t4⟩
def WM_X8_feed (P : Nat) (a j : Nat) : Prop := (P + 7 ≤ a ∧ a < P + 8) ∨ (a = P ∧ (j = 6 ∨ j = 11))
theorem v_X8_feed {P : Nat} {v0 v1 v2 v3 v4 : Int32} {M0 : zMt} (p_jT : jT P M0) : ∃ r, D_X8_feed P v0 v1 v2 v3 v4 M0 = some r ∧ ((∀ a j, ¬ WM_X8_feed P a j → r.2 a j = M0 a j) ∧ jT P r.2 ∧ ((M0 P 11 + 20 ≤ 700 ∧ r.1 = M0 P 11 + 20 ∧ r.2 P 11 = M0 P 11 + 20) ∨ (¬ M0 P 11 + 20 ≤ 700 ∧ r.1 = -1 ∧ r.2 P 11 = M0 P 11))) := by
  obtain ⟨t1, t2, t3, t4, t5, t6⟩ := id p_jT
  obtain ⟨t, ht, htt⟩ : ∃ t : Nat, M0 P 11 = nI t ∧ (t : Int) = (M0 P 11).toInt := ⟨(M0 P 11).toInt.toNat, z_toN t3, by omega⟩
  unfold D_X8_feed
  refine vLm (W := WM_X8_feed P) (M0 := M0) (fun a j h => zu_ne (by unfold WM_X8_feed at h; omega)) (fun M1 f1 k1 => ?_)
  have e11 : M1 P 11 = M0 P 11 := by rw [← f1, zu_ne (by omega)]
  have e9 : M1 P 9 = M0 P 9 := by rw [← f1, zu_ne (by omega)]
  have e64 : M1 P 64 = M0 P 64 := by rw [← f1, zu_ne (by omega)]
  rw [e11]
  refine vIf (fun hc => ?_) (fun hc => ?_)
  · have h700 : t + 20 ≤ 700 := by
      rw [ht, show (20 : Int32) = nI 20 from rfl, nI_add] at hc
      exact (nI_leI (by omega) (by decide)).mp hc
    refine vB (v_X8_come (t := t) (e11.trans ht) (by omega)) (fun a1 g1 q1 => vB (v_X8_come q1.2 (by omega)) (fun a2 g2 q2 => vB (v_X8_come q2.2 (by omega)) (fun a3 g3 q3 => vB (v_X8_come q3.2 (by omega)) (fun a4 g4 q4 => vB (v_X8_come q4.2 (by omega)) (fun a5 g5 q5 => ?_)))))
    have k : ∀ a j, ¬ WM_X8_come P a j → a5 a j = M1 a j := fun a j h => (q5.1 a j h).trans ((q4.1 a j h).trans ((q3.1 a j h).trans ((q2.1 a j h).trans (q1.1 a j h))))
    have e20 : a5 P 11 = M0 P 11 + 20 := by rw [q5.2, ht, show (20 : Int32) = nI 20 from rfl, nI_add]
    refine ⟨_, rfl, fun a j h => (k a j (by unfold WM_X8_come; unfold WM_X8_feed at h; omega)).trans (k1 a j h), ?_, Or.inl ⟨hc, e20, e20⟩⟩
    show jT P a5
    unfold jT
    rw [q5.2, k P 9 (by unfold WM_X8_come; omega), k P 64 (by unfold WM_X8_come; omega), e9, e64, nI_toInt (by omega)]
    exact ⟨t1, t2, by omega, by omega, t5, t6⟩
  · refine ⟨_, rfl, k1, ?_, Or.inr ⟨hc, rfl, e11⟩⟩
    show jT P M1
    unfold jT
    rw [e9, e11, e64]
    exact p_jT
def WM_X8_splits (P : Nat) (a j : Nat) : Prop := (P + 1 ≤ a ∧ a < P + 2)
def spl (p v : Int) : Int := if v = p then -1 else if p < v then v - 1 else v
theorem n_mul3 (k : Nat) : (3 : Int32) * nI k = nI (3 * k) := by
  rw [show (3 : Int32) = nI 3 from rfl]
  unfold nI
  rw [Int32.ofNat_mul]
theorem n_add (c k : Nat) : nI c + nI k = nI (c + k) := nI_add c k
theorem v_X8_splits {P : Nat} {v0 : Int32} {M0 : zMt} (p_jB : jB P M0) (p_jS : jS P M0) (i_2 : 0 ≤ Int32.toInt v0) (i_3 : Int32.toInt v0 < Int32.toInt (M0 (P + 1) 70)) : ∃ r, D_X8_splits P v0 M0 = some r ∧ ((∀ a j, ¬ WM_X8_splits P a j → r a j = M0 a j) ∧ (jS P r)) := by
  obtain ⟨b1, b2, b3, b4, b5, b6⟩ := id p_jB
  have hi := p_jS.ints
  obtain ⟨s1, s2, s3, s4, s5, s6⟩ := id p_jS
  obtain ⟨p, hp, hpt⟩ : ∃ p : Nat, v0 = nI p ∧ (p : Int) = v0.toInt := ⟨v0.toInt.toNat, z_toN i_2, by omega⟩
  subst hp
  obtain ⟨H, hH⟩ : ∃ H : Nat, (M0 P 8).toInt = H := ⟨(M0 P 8).toInt.toNat, by omega⟩
  have hp4 : p < 4 := by omega
  have o1 : (1 : Int32).toInt = 1 := by decide
  have l10 : (10 : Int32) = nI 10 := rfl
  have l20 : (20 : Int32) = nI 20 := rfl
  have l50 : (50 : Int32) = nI 50 := rfl
  have l3 : (3 : Int32) = nI 3 := rfl
  have v70 : vp_in (70 : Int32) 82 := by unfold vp_in; decide
  have c70 : (70 : Int32).toNatClampNeg = 70 := by decide
  -- the parties' choices come up
  have L122 : ∀ (u k : Nat) (M : zMt), 3 * p ≤ k → k ≤ 12 → 12 - k < u → (∀ a j, ¬ a = P + 1 → M a j = M0 a j) → (∀ j, 20 ≤ j → j < 62 → -1 ≤ (M (P + 1) j).toInt ∧ (M (P + 1) j).toInt < (M0 P 7).toInt) → (∀ j, ¬ (10 ≤ j ∧ j < 62) → ¬ j = 70 → M (P + 1) j = M0 (P + 1) j) → (M (P + 1) 70).toInt = (M0 (P + 1) 70).toInt - 1 → (∀ h, h < H → (M (P + 1) (10 + h)).toInt = spl p (M0 (P + 1) (10 + h)).toInt) → (∀ h, H ≤ h → h < 10 → M (P + 1) (10 + h) = M0 (P + 1) (10 + h)) → ∃ r, D_X8_splits_122 P u (nI k) M = some r ∧ ((∀ a j, ¬ WM_X8_splits P a j → r a j = M0 a j) ∧ (jS P r)) := by
    intro u
    induction u with
    | zero => intro k M h1 h2 h3; omega
    | succ u ih =>
      intro k M h1 h2 hu kk hc ho h70 hpa hpb
      rw [D_X8_splits_122]
      refine vIf (fun h => ?_) (fun h => ?_)
      · refine ⟨_, rfl, fun a j h => kk a j (by unfold WM_X8_splits at h; omega), ?_⟩
        show jRow (M (P + 1)) (M P 7).toInt (M P 8).toInt
        rw [kk P 7 (by omega), kk P 8 (by omega)]
        refine ⟨fun x hx => ?_, fun x hx => ?_, hc, fun y hy => ?_, ?_, fun y hy => ?_⟩
        · rw [ho x (by omega) (by omega)]; exact s1 x hx
        · have hx2 := s2 x hx
          rw [h70]
          by_cases q : x < H
          · rw [hpa x q]
            unfold spl
            split
            · omega
            · split <;> omega
          · rw [hpb x (by omega) hx]
            omega
        · rw [ho (62 + y) (by omega) (by omega)]; exact s4 y hy
        · rw [ho 67 (by omega) (by omega), ho 68 (by omega) (by omega), ho 69 (by omega) (by omega), h70]
          omega
        · rw [h70] at hy
          by_cases q : y < p
          · obtain ⟨x, x1, x2⟩ := s6 y (by omega)
            refine ⟨x, x1, ?_⟩
            rw [hpa x (by omega), x2]
            unfold spl
            rw [if_neg (by omega), if_neg (by omega)]
          · obtain ⟨x, x1, x2⟩ := s6 (y + 1) (by omega)
            refine ⟨x, x1, ?_⟩
            rw [hpa x (by omega), x2]
            unfold spl
            rw [if_neg (by omega), if_pos (by omega)]
            omega
      · have hlt : k < 12 := Nat.not_le.mp (fun q => h ((nI_leI (by decide) (by omega)).mpr q))
        have T157 : ∀ y : Int32, -1 ≤ y.toInt → y.toInt < (M0 P 7).toInt → ∃ r, D_X8_splits_157 P (D_X8_splits_122 P u) (nI k) ((50 : Int32) + nI k) y M = some r ∧ ((∀ a j, ¬ WM_X8_splits P a j → r a j = M0 a j) ∧ (jS P r)) := by
          intro y y1 y2
          unfold D_X8_splits_157
          rw [l50, n_add, nI_clamp (n := 50 + k) (by omega), nI_1]
          refine vI (vp_in_nI (by omega) (by decide)) ?_
          refine ih (k + 1) _ (by omega) (by omega) (by omega) (fun a j h => (zu_ne (by omega)).trans (kk a j h)) (fun j j1 j2 => ?_) (fun j j1 j2 => (zu_ne (by omega)).trans (ho j j1 j2)) ?_ (fun h hh => ?_) (fun h h1 h2 => (zu_ne (by omega)).trans (hpb h h1 h2))
          · by_cases q : j = 50 + k
            · subst q
              rw [zu_eq]; exact ⟨y1, y2⟩
            · rw [zu_ne (by omega)]; exact hc j j1 j2
          · rw [zu_ne (by omega)]; exact h70
          · rw [zu_ne (by omega)]; exact hpa h hh
        refine vIf (fun _ => T157 _ (by decide) (by rw [z_m1]; omega)) (fun h9 => ?_)
        have h9' : k < 9 := Nat.not_le.mp (fun q => h9 ((nI_leI (by decide) (by omega)).mpr q))
        have e53 : (50 : Int32) + nI k + 3 = nI (53 + k) := by rw [l50, n_add, l3, n_add]; congr 1; omega
        rw [e53, nI_clamp (n := 53 + k) (by omega)]
        refine vI (vp_in_nI (by omega) (by decide)) ?_
        have := hc (53 + k) (by omega) (by omega)
        exact T157 _ this.1 this.2
  -- the hunters
  have L2 : ∀ (u i : Nat) (M : zMt), i ≤ H → H - i < u → (∀ a j, ¬ a = P + 1 → M a j = M0 a j) → (∀ j, 20 ≤ j → j < 62 → -1 ≤ (M (P + 1) j).toInt ∧ (M (P + 1) j).toInt < (M0 P 7).toInt) → (∀ j, ¬ (10 ≤ j ∧ j < 62) → M (P + 1) j = M0 (P + 1) j) → (∀ h, h < i → (M (P + 1) (10 + h)).toInt = spl p (M0 (P + 1) (10 + h)).toInt) → (∀ h, i ≤ h → h < 10 → M (P + 1) (10 + h) = M0 (P + 1) (10 + h)) → ∃ r, D_X8_splits_2 P u (nI p) (nI i) M = some r ∧ ((∀ a j, ¬ WM_X8_splits P a j → r a j = M0 a j) ∧ (jS P r)) := by
    intro u
    induction u with
    | zero => intro i M h1 h2; omega
    | succ u ih =>
      intro i M hi1 hu kk hc ho hpa hpb
      have e8 : M P 8 = M0 P 8 := kk P 8 (by omega)
      have hit : (nI i).toInt = i := nI_toInt (by omega)
      rw [D_X8_splits_2, e8]
      refine vIf (fun h => ?_) (fun h => ?_)
      · have hge := Int32.le_iff_toInt_le.mp h
        rw [hit, hH] at hge
        have hiH : i = H := by omega
        subst hiH
        refine vI v70 (vI v70 ?_)
        rw [c70, n_mul3, ho 70 (by omega)]
        refine vLm (W := fun a _ => a = P + 1) (M0 := M0) (fun a j h => (zu_ne (by omega)).trans (kk a j h)) (fun M2 f2 k2 => ?_)
        have g : ∀ j, ¬ j = 70 → M2 (P + 1) j = M (P + 1) j := fun j hj => by rw [← f2, zu_ne (by omega)]
        refine L122 zFu (3 * p) M2 (by omega) (by omega) (by unfold zFu; omega) k2 (fun j j1 j2 => by rw [g j (by omega)]; exact hc j j1 j2) (fun j j1 j2 => (g j j2).trans (ho j j1)) ?_ (fun h hh => by rw [g _ (by omega)]; exact hpa h hh) (fun h h1 h2 => (g _ (by omega)).trans (hpb h h1 h2))
        rw [← f2, zu_eq, z_sub (by omega) (by omega), o1]
      · have hlt := Int32.lt_iff_toInt_lt.mp (Int32.not_le.mp h)
        rw [hit, hH] at hlt
        have v10 : vp_in (nI (10 + i)) 82 := vp_in_nI (by omega) (by decide)
        have c10 : (nI (10 + i)).toNatClampNeg = 10 + i := nI_clamp (by omega)
        rw [l10, n_add, c10]
        refine vI v10 ?_
        have hs2 := s2 i (by omega)
        have ei : M (P + 1) (10 + i) = M0 (P + 1) (10 + i) := hpb i (by omega) (by omega)
        rw [ei]
        have hpn : (nI p).toInt = p := nI_toInt (by omega)
        -- one hunter is done
        have T101 : ∀ M' : zMt, (∀ a j, ¬ a = P + 1 → M' a j = M0 a j) → (∀ j, 20 ≤ j → j < 62 → -1 ≤ (M' (P + 1) j).toInt ∧ (M' (P + 1) j).toInt < (M0 P 7).toInt) → (∀ j, ¬ (20 ≤ j ∧ j < 62) → ¬ j = 10 + i → M' (P + 1) j = M (P + 1) j) → (M' (P + 1) (10 + i)).toInt = spl p (M0 (P + 1) (10 + i)).toInt → ∃ r, D_X8_splits_101 P (D_X8_splits_2 P u) (nI p) (nI i) M' = some r ∧ ((∀ a j, ¬ WM_X8_splits P a j → r a j = M0 a j) ∧ (jS P r)) := by
          intro M' k' hc' ho' hi'
          unfold D_X8_splits_101
          rw [nI_1]
          refine ih (i + 1) M' (by omega) (by omega) k' hc' (fun j hj => (ho' j (by omega) (by omega)).trans (ho j hj)) (fun x hx => ?_) (fun x h1 h2 => (ho' _ (by omega) (by omega)).trans (hpb x (by omega) h2))
          by_cases q : x = i
          · subst q; exact hi'
          · rw [ho' _ (by omega) (by omega)]; exact hpa x (by omega)
        refine vIf (fun hq => ?_) (fun hq => ?_)
        · have hqi : (M0 (P + 1) (10 + i)).toInt = p := by rw [hq, hpn]
          refine vI v10 ?_
          refine vLm (W := fun a _ => a = P + 1) (M0 := M0) (fun a j h => (zu_ne (by omega)).trans (kk a j h)) (fun M2 f2 k2 => ?_)
          have g : ∀ j, ¬ j = 10 + i → M2 (P + 1) j = M (P + 1) j := fun j hj => by rw [← f2, zu_ne (by omega)]
          have gi : (M2 (P + 1) (10 + i)).toInt = -1 := by rw [← f2, zu_eq, z_m1]
          have L35 : ∀ (v k : Nat) (M' : zMt), k ≤ 3 → 3 - k < v → (∀ a j, ¬ a = P + 1 → M' a j = M0 a j) → (∀ j, 20 ≤ j → j < 62 → -1 ≤ (M' (P + 1) j).toInt ∧ (M' (P + 1) j).toInt < (M0 P 7).toInt) → (∀ j, ¬ (20 ≤ j ∧ j < 62) → M' (P + 1) j = M2 (P + 1) j) → ∃ r, D_X8_splits_35 P (D_X8_splits_2 P u) v (nI p) (nI i) (nI k) M' = some r ∧ ((∀ a j, ¬ WM_X8_splits P a j → r a j = M0 a j) ∧ (jS P r)) := by
            intro v
            induction v with
            | zero => intro k M' h1 h2; omega
            | succ v ihv =>
              intro k M' h1 h2 k' hc' ho'
              rw [D_X8_splits_35]
              refine vIf (fun h3 => ?_) (fun h3 => ?_)
              · refine T101 M' k' hc' (fun j j1 j2 => (ho' j j1).trans (g j j2)) ?_
                rw [ho' _ (by omega), gi, hqi]
                unfold spl
                rw [if_pos rfl]
              · have h3' : k < 3 := Nat.not_le.mp (fun q => h3 ((nI_leI (by decide) (by omega)).mpr q))
                have e1 : (50 : Int32) + 3 * nI p + nI k = nI (50 + 3 * p + k) := by rw [n_mul3, l50, n_add, n_add]
                have e2 : (20 : Int32) + 3 * nI i + nI k = nI (20 + 3 * i + k) := by rw [n_mul3, l20, n_add, n_add]
                rw [e1, e2, nI_clamp (n := 50 + 3 * p + k) (by omega), nI_clamp (n := 20 + 3 * i + k) (by omega), nI_1]
                refine vI (vp_in_nI (by omega) (by decide)) (vI (vp_in_nI (by omega) (by decide)) ?_)
                have hv := hc' (50 + 3 * p + k) (by omega) (by omega)
                refine ihv (k + 1) _ (by omega) (by omega) (fun a j h => (zu_ne (by omega)).trans (k' a j h)) (fun j j1 j2 => ?_) (fun j j1 => (zu_ne (by omega)).trans (ho' j j1))
                by_cases q : j = 20 + 3 * i + k
                · subst q
                  rw [zu_eq]; exact hv
                · rw [zu_ne (by omega)]; exact hc' j j1 j2
          exact L35 zFu 0 M2 (by omega) (by unfold zFu; omega) k2 (fun j j1 j2 => by rw [g j (by omega)]; exact hc j j1 j2) (fun _ _ => rfl)
        · have hqi : ¬ (M0 (P + 1) (10 + i)).toInt = p := fun z => hq (Int32.toInt_inj.mp (by rw [z, hpn]))
          refine vI v10 ?_
          refine vIf (fun hle => ?_) (fun hle => ?_)
          · have := Int32.le_iff_toInt_le.mp hle
            rw [hpn] at this
            refine T101 M kk hc (fun _ _ _ => rfl) ?_
            rw [ei]
            unfold spl
            rw [if_neg hqi, if_neg (by omega)]
          · have := Int32.lt_iff_toInt_lt.mp (Int32.not_le.mp hle)
            rw [hpn] at this
            refine vI v10 (vI v10 ?_)
            refine T101 _ (fun a j h => (zu_ne (by omega)).trans (kk a j h)) (fun j j1 j2 => by rw [zu_ne (by omega)]; exact hc j j1 j2) (fun j j1 j2 => zu_ne (by omega)) ?_
            rw [zu_eq, z_sub (by omega) (by omega), o1]
            unfold spl
            rw [if_neg hqi, if_pos (by omega)]
  unfold D_X8_splits
  exact L2 zFu 0 M0 (by omega) (by unfold zFu; omega) (fun _ _ _ => rfl) s3 (fun _ _ => rfl) (fun h hh => absurd hh (Nat.not_lt_zero h)) (fun _ _ _ => rfl)
def WM_X8_apart (P : Nat) (a j : Nat) : Prop := (P + 1 ≤ a ∧ a < P + 2) ∨ (P + 3 ≤ a ∧ a < P + 4) ∨ (P + 11 ≤ a ∧ a < P + 23) ∨ (P + 29 ≤ a ∧ a < P + 30) ∨ (a = P ∧ (j = 6 ∨ j = 12 ∨ j = 33 ∨ j = 54 ∨ j = 55 ∨ j = 56 ∨ j = 57 ∨ j = 58))
def WN_X8_apart (P : Nat) (a j : Nat) : Prop := (P + 24 ≤ a ∧ a < P + 29) ∨ (a = P ∧ (j = 59))
theorem wz_M_X8_takesBack_X8_apart {P a j : Nat} (h : ¬ WM_X8_apart P a j) : ¬ WM_X8_takesBack P a j := by unfold WM_X8_takesBack; unfold WM_X8_apart at h; omega
theorem wz_M_X8_refuse_X8_apart {P a j : Nat} (h : ¬ WM_X8_apart P a j) : ¬ WM_X8_refuse P a j := by unfold WM_X8_refuse; unfold WM_X8_apart at h; omega
theorem wz_M_X8_givesLong_X8_apart {P a j : Nat} (h : ¬ WM_X8_apart P a j) : ¬ WM_X8_givesLong P a j := by unfold WM_X8_givesLong; unfold WM_X8_apart at h; omega
theorem wf_jA_X8_givesLong {P a j : Nat} (h : (a = P + 3 ∨ (a = P ∧ (j = 7 ∨ j = 8)))) : ¬ WM_X8_givesLong P a j := by unfold WM_X8_givesLong; omega
theorem wq_X8_apart_M0_58 {P a j : Nat} (h : ¬ WM_X8_apart P a j) : ¬ (a = P ∧ j = 58) := by unfold WM_X8_apart at h; omega
theorem wf_nA_M0_58 {P a j : Nat} (h : (a = P + 1 ∨ (a = P ∧ j = 8))) : ¬ (a = P ∧ j = 58) := by omega
theorem wf_jA_M0_58 {P a j : Nat} (h : (a = P + 3 ∨ (a = P ∧ (j = 7 ∨ j = 8)))) : ¬ (a = P ∧ j = 58) := by omega
theorem wf_jB_M0_58 {P a j : Nat} (h : (a = P ∧ (j = 7 ∨ j = 8 ∨ j = 33))) : ¬ (a = P ∧ j = 58) := by omega
theorem wf_jH_M0_58 {P a j : Nat} (h : ((a = P ∧ (j = 8 ∨ j = 33)) ∨ a = P + 11)) : ¬ (a = P ∧ j = 58) := by omega
theorem wf_jK_M0_58 {P a j : Nat} (h : ((a = P ∧ (j = 7 ∨ j = 8 ∨ j = 9)) ∨ a = P + 4)) : ¬ (a = P ∧ j = 58) := by omega
theorem wf_jL_M0_58 {P a j : Nat} (h : ((a = P ∧ j = 33) ∨ a = P + 13 ∨ a = P + 14 ∨ a = P + 17)) : ¬ (a = P ∧ j = 58) := by omega
theorem wf_jR_M0_58 {P a j : Nat} (h : a = P + 19) : ¬ (a = P ∧ j = 58) := by omega
theorem wf_jS_M0_58 {P a j : Nat} (h : (a = P + 1 ∨ (a = P ∧ (j = 7 ∨ j = 8)))) : ¬ (a = P ∧ j = 58) := by omega
theorem wf_jT_M0_58 {P a j : Nat} (h : (a = P ∧ (j = 9 ∨ j = 11 ∨ j = 64))) : ¬ (a = P ∧ j = 58) := by omega
theorem wz_M_X8_laysAll_X8_apart {P a j : Nat} (h : ¬ WM_X8_apart P a j) : ¬ WM_X8_laysAll P a j := by unfold WM_X8_laysAll; unfold WM_X8_apart at h; omega
theorem wz_N_X8_laysAll_X8_apart {P a j : Nat} (h : ¬ WN_X8_apart P a j) : ¬ WN_X8_laysAll P a j := by unfold WN_X8_laysAll; unfold WN_X8_apart at h; omega
theorem wz_M_X8_putsAside_X8_apart {P a j : Nat} (h : ¬ WM_X8_apart P a j) : ¬ WM_X8_putsAside P a j := by unfold WM_X8_putsAside; unfold WM_X8_apart at h; omega
theorem wz_M_X8_splits_X8_apart {P a j : Nat} (h : ¬ WM_X8_apart P a j) : ¬ WM_X8_splits P a j := by unfold WM_X8_splits; unfold WM_X8_apart at h; omega
theorem wc_X8_splits_7 {P : Nat} : ¬ WM_X8_splits P P 7 := by unfold WM_X8_splits; omega
theorem wc_X8_splits_8 {P : Nat} : ¬ WM_X8_splits P P 8 := by unfold WM_X8_splits; omega
theorem wc_X8_splits_33 {P : Nat} : ¬ WM_X8_splits P P 33 := by unfold WM_X8_splits; omega
theorem wf_jB_X8_splits {P a j : Nat} (h : (a = P ∧ (j = 7 ∨ j = 8 ∨ j = 33))) : ¬ WM_X8_splits P a j := by unfold WM_X8_splits; omega
theorem wf_jK_X8_splits {P a j : Nat} (h : ((a = P ∧ (j = 7 ∨ j = 8 ∨ j = 9)) ∨ a = P + 4)) : ¬ WM_X8_splits P a j := by unfold WM_X8_splits; omega
theorem wf_jR_X8_splits {P a j : Nat} (h : a = P + 19) : ¬ WM_X8_splits P a j := by unfold WM_X8_splits; omega
theorem wf_jT_X8_splits {P a j : Nat} (h : (a = P ∧ (j = 9 ∨ j = 11 ∨ j = 64))) : ¬ WM_X8_splits P a j := by unfold WM_X8_splits; omega
theorem wf_jA_X8_splits {P a j : Nat} (h : (a = P + 3 ∨ (a = P ∧ (j = 7 ∨ j = 8)))) : ¬ WM_X8_splits P a j := by unfold WM_X8_splits; omega
theorem wz_M_X8_areMany_X8_apart {P a j : Nat} (h : ¬ WM_X8_apart P a j) : ¬ WM_X8_areMany P a j := by unfold WM_X8_areMany; unfold WM_X8_apart at h; omega
theorem wf_jA_X8_areMany {P a j : Nat} (h : (a = P + 3 ∨ (a = P ∧ (j = 7 ∨ j = 8)))) : ¬ WM_X8_areMany P a j := by unfold WM_X8_areMany; omega
set_option maxRecDepth 100000 in
set_option maxHeartbeats 4000000 in
theorem v_X8_apart {P : Nat} {v0 : Int32} {M0 : zMt} {N0 : zNt}  (p_jB : jB P M0) (p_jS : jS P M0) (p_jR : jR P M0) (p_jK : jK P M0) (p_jT : jT P M0) : ∃ r, D_X8_apart P v0 M0 N0 = some r ∧ ((∀ a j, ¬ WM_X8_apart P a j → r.2.1 a j = M0 a j) ∧ (∀ a j, ¬ WN_X8_apart P a j → r.2.2 a j = N0 a j) ∧ ((jB P r.2.1) ∧ (jS P r.2.1) ∧ (jR P r.2.1) ∧ (jK P r.2.1) ∧ (jT P r.2.1))) := by
  obtain ⟨u0_jB, u1_jB, u2_jB, u3_jB, u4_jB, u5_jB⟩ := id p_jB
  obtain ⟨u0_jS, u1_jS, u2_jS, u3_jS, u4_jS, u5_jS, u6_jS, u7_jS⟩ := jS.ints p_jS
  obtain ⟨u0_jT, u1_jT, u2_jT, u3_jT, u4_jT, u5_jT⟩ := id p_jT
  have T_163 : ∀ (y0_163 : Int64) (M_163 : zMt) (N_163 : zNt), (∀ a j, ¬ WM_X8_apart P a j → M_163 a j = M0 a j) → (∀ a j, ¬ WN_X8_apart P a j → N_163 a j = N0 a j) → (jA P M_163) → (jB P M_163) → (jH P M_163) → (jK P M_163) → (jL P M_163) → (jR P M_163) → (jS P M_163) → (jT P M_163) → ∃ r, D_X8_apart_163 P y0_163 M_163 N_163 = some r ∧ ((∀ a j, ¬ WM_X8_apart P a j → r.2.1 a j = M0 a j) ∧ (∀ a j, ¬ WN_X8_apart P a j → r.2.2 a j = N0 a j) ∧ ((jB P r.2.1) ∧ (jS P r.2.1) ∧ (jR P r.2.1) ∧ (jK P r.2.1) ∧ (jT P r.2.1))) := by
    intro y0_163 M_163 N_163 k_163 kn_163 p_jA_163 p_jB_163 p_jH_163 p_jK_163 p_jL_163 p_jR_163 p_jS_163 p_jT_163
    obtain ⟨u0_jB_163, u1_jB_163, u2_jB_163, u3_jB_163, u4_jB_163, u5_jB_163⟩ := id p_jB_163
    obtain ⟨u0_jS_163, u1_jS_163, u2_jS_163, u3_jS_163, u4_jS_163, u5_jS_163, u6_jS_163, u7_jS_163⟩ := jS.ints p_jS_163
    obtain ⟨u0_jT_163, u1_jT_163, u2_jT_163, u3_jT_163, u4_jT_163, u5_jT_163⟩ := id p_jT_163
    unfold D_X8_apart_163
    exact ⟨_, rfl, k_163, kn_163, ⟨p_jB_163, p_jS_163, p_jR_163, p_jK_163, p_jT_163⟩⟩
  have T_138 : ∀ (x3_138 : Int32) (M_138 : zMt) (N_138 : zNt), (∀ a j, ¬ WM_X8_apart P a j → M_138 a j = M0 a j) → (∀ a j, ¬ WN_X8_apart P a j → N_138 a j = N0 a j) → (jA P M_138) → (jB P M_138) → (jH P M_138) → (jK P M_138) → (jL P M_138) → (jR P M_138) → (jS P M_138) → (jT P M_138) → (x3_138 = 0 ∨ x3_138 = 1) → ∃ r, D_X8_apart_138 P x3_138 M_138 N_138 = some r ∧ ((∀ a j, ¬ WM_X8_apart P a j → r.2.1 a j = M0 a j) ∧ (∀ a j, ¬ WN_X8_apart P a j → r.2.2 a j = N0 a j) ∧ ((jB P r.2.1) ∧ (jS P r.2.1) ∧ (jR P r.2.1) ∧ (jK P r.2.1) ∧ (jT P r.2.1))) := by
    intro x3_138 M_138 N_138 k_138 kn_138 p_jA_138 p_jB_138 p_jH_138 p_jK_138 p_jL_138 p_jR_138 p_jS_138 p_jT_138 f0_138
    obtain ⟨u0_jB_138, u1_jB_138, u2_jB_138, u3_jB_138, u4_jB_138, u5_jB_138⟩ := id p_jB_138
    obtain ⟨u0_jS_138, u1_jS_138, u2_jS_138, u3_jS_138, u4_jS_138, u5_jS_138, u6_jS_138, u7_jS_138⟩ := jS.ints p_jS_138
    obtain ⟨u0_jT_138, u1_jT_138, u2_jT_138, u3_jT_138, u4_jT_138, u5_jT_138⟩ := id p_jT_138
    unfold D_X8_apart_138
    refine vB (v_X8_takesBack p_jB_138 p_jA_138) (fun e_139 f_139 q_139 => ?_)
    have k_139 : ∀ a j, ¬ WM_X8_apart P a j → e_139 a j = M0 a j := fun a j h => (q_139.1 a j (wz_M_X8_takesBack_X8_apart h)).trans (k_138 a j h)
    have c7_139 : Int32.toInt (e_139 P 7) = Int32.toInt (M_138 P 7) := congrArg Int32.toInt (q_139.1 P 7 (wc_X8_takesBack_7))
    have c8_139 : Int32.toInt (e_139 P 8) = Int32.toInt (M_138 P 8) := congrArg Int32.toInt (q_139.1 P 8 (wc_X8_takesBack_8))
    have c33_139 : Int32.toInt (e_139 P 33) = Int32.toInt (M_138 P 33) := congrArg Int32.toInt (q_139.1 P 33 (wc_X8_takesBack_33))
    have p_jA_139 : jA P e_139 := jA.mono p_jA_138 (fun a j h => q_139.1 a j (wf_jA_X8_takesBack h))
    have p_jB_139 : jB P e_139 := jB.mono p_jB_138 (fun a j h => q_139.1 a j (wf_jB_X8_takesBack h))
    obtain ⟨u0_jB_139, u1_jB_139, u2_jB_139, u3_jB_139, u4_jB_139, u5_jB_139⟩ := id p_jB_139
    have p_jH_139 : jH P e_139 := jH.mono p_jH_138 (fun a j h => q_139.1 a j (wf_jH_X8_takesBack h))
    have p_jK_139 : jK P e_139 := jK.mono p_jK_138 (fun a j h => q_139.1 a j (wf_jK_X8_takesBack h))
    have p_jL_139 : jL P e_139 := jL.mono p_jL_138 (fun a j h => q_139.1 a j (wf_jL_X8_takesBack h))
    have p_jR_139 : jR P e_139 := jR.mono p_jR_138 (fun a j h => q_139.1 a j (wf_jR_X8_takesBack h))
    have p_jT_139 : jT P e_139 := jT.mono p_jT_138 (fun a j h => q_139.1 a j (wf_jT_X8_takesBack h))
    obtain ⟨u0_jT_139, u1_jT_139, u2_jT_139, u3_jT_139, u4_jT_139, u5_jT_139⟩ := id p_jT_139
    have x0_139 := q_139.2
    obtain ⟨u0_jS_139, u1_jS_139, u2_jS_139, u3_jS_139, u4_jS_139, u5_jS_139, u6_jS_139, u7_jS_139⟩ := jS.ints x0_139
    refine vIf (fun h_143 => ?_) (fun h_143 => ?_)
    · have i_143 := congrArg Int32.toInt h_143
      (try simp only [Int32.toInt_add, Int32.toInt_sub, Int32.toInt_mul, Int32.toInt_toInt64, Int64.toInt_add, z_m1, Int32.reduceToInt, Int64.reduceToInt, Int32.reduceToNatClampNeg, Int.bmod_def] at i_143)
      refine vB (v_X8_refuse) (fun e_159 f_159 q_159 => ?_)
      have k_159 : ∀ a j, ¬ WM_X8_apart P a j → e_159.2 a j = M0 a j := fun a j h => (q_159 a j (wz_M_X8_refuse_X8_apart h)).trans (k_139 a j h)
      have c7_159 : Int32.toInt (e_159.2 P 7) = Int32.toInt (e_139 P 7) := congrArg Int32.toInt (q_159 P 7 (wc_X8_refuse_7))
      have c8_159 : Int32.toInt (e_159.2 P 8) = Int32.toInt (e_139 P 8) := congrArg Int32.toInt (q_159 P 8 (wc_X8_refuse_8))
      have c33_159 : Int32.toInt (e_159.2 P 33) = Int32.toInt (e_139 P 33) := congrArg Int32.toInt (q_159 P 33 (wc_X8_refuse_33))
      have n_159 : nA P e_159.2 = nA P e_139 := nA_congr (fun a j h => q_159 a j (wf_nA_X8_refuse h))
      have p_jA_159 : jA P e_159.2 := jA.mono p_jA_139 (fun a j h => q_159 a j (wf_jA_X8_refuse h))
      have p_jB_159 : jB P e_159.2 := jB.mono p_jB_139 (fun a j h => q_159 a j (wf_jB_X8_refuse h))
      obtain ⟨u0_jB_159, u1_jB_159, u2_jB_159, u3_jB_159, u4_jB_159, u5_jB_159⟩ := id p_jB_159
      have p_jH_159 : jH P e_159.2 := jH.mono p_jH_139 (fun a j h => q_159 a j (wf_jH_X8_refuse h))
      have p_jK_159 : jK P e_159.2 := jK.mono p_jK_139 (fun a j h => q_159 a j (wf_jK_X8_refuse h))
      have p_jL_159 : jL P e_159.2 := jL.mono p_jL_139 (fun a j h => q_159 a j (wf_jL_X8_refuse h))
      have p_jR_159 : jR P e_159.2 := jR.mono p_jR_139 (fun a j h => q_159 a j (wf_jR_X8_refuse h))
      have p_jT_159 : jT P e_159.2 := jT.mono p_jT_139 (fun a j h => q_159 a j (wf_jT_X8_refuse h))
      obtain ⟨u0_jT_159, u1_jT_159, u2_jT_159, u3_jT_159, u4_jT_159, u5_jT_159⟩ := id p_jT_159
      have p_jS_159 : jS P e_159.2 := jS.mono x0_139 (fun a j h => q_159 a j (wf_jS_X8_refuse h))
      obtain ⟨u0_jS_159, u1_jS_159, u2_jS_159, u3_jS_159, u4_jS_159, u5_jS_159, u6_jS_159, u7_jS_159⟩ := jS.ints p_jS_159
      exact T_163 _ _ _ k_159 kn_138 p_jA_159 p_jB_159 p_jH_159 p_jK_159 p_jL_159 p_jR_159 p_jS_159 p_jT_159
    · have i_143 : ¬ Int32.toInt x3_138 = Int32.toInt (0 : Int32) := fun q => h_143 (Int32.toInt_inj.mp q)
      (try simp only [Int32.toInt_add, Int32.toInt_sub, Int32.toInt_mul, Int32.toInt_toInt64, Int64.toInt_add, z_m1, Int32.reduceToInt, Int64.reduceToInt, Int32.reduceToNatClampNeg, Int.bmod_def] at i_143)
      refine vB (v_X8_givesLong) (fun e_151 f_151 q_151 => ?_)
      have k_151 : ∀ a j, ¬ WM_X8_apart P a j → e_151.2 a j = M0 a j := fun a j h => (q_151 a j (wz_M_X8_givesLong_X8_apart h)).trans (k_139 a j h)
      have c7_151 : Int32.toInt (e_151.2 P 7) = Int32.toInt (e_139 P 7) := congrArg Int32.toInt (q_151 P 7 (wc_X8_givesLong_7))
      have c8_151 : Int32.toInt (e_151.2 P 8) = Int32.toInt (e_139 P 8) := congrArg Int32.toInt (q_151 P 8 (wc_X8_givesLong_8))
      have c33_151 : Int32.toInt (e_151.2 P 33) = Int32.toInt (e_139 P 33) := congrArg Int32.toInt (q_151 P 33 (wc_X8_givesLong_33))
      have n_151 : nA P e_151.2 = nA P e_139 := nA_congr (fun a j h => q_151 a j (wf_nA_X8_givesLong h))
      have p_jA_151 : jA P e_151.2 := jA.mono p_jA_139 (fun a j h => q_151 a j (wf_jA_X8_givesLong h))
      have p_jB_151 : jB P e_151.2 := jB.mono p_jB_139 (fun a j h => q_151 a j (wf_jB_X8_givesLong h))
      obtain ⟨u0_jB_151, u1_jB_151, u2_jB_151, u3_jB_151, u4_jB_151, u5_jB_151⟩ := id p_jB_151
      have p_jH_151 : jH P e_151.2 := jH.mono p_jH_139 (fun a j h => q_151 a j (wf_jH_X8_givesLong h))
      have p_jK_151 : jK P e_151.2 := jK.mono p_jK_139 (fun a j h => q_151 a j (wf_jK_X8_givesLong h))
      have p_jL_151 : jL P e_151.2 := jL.mono p_jL_139 (fun a j h => q_151 a j (wf_jL_X8_givesLong h))
      have p_jR_151 : jR P e_151.2 := jR.mono p_jR_139 (fun a j h => q_151 a j (wf_jR_X8_givesLong h))
      have p_jT_151 : jT P e_151.2 := jT.mono p_jT_139 (fun a j h => q_151 a j (wf_jT_X8_givesLong h))
      obtain ⟨u0_jT_151, u1_jT_151, u2_jT_151, u3_jT_151, u4_jT_151, u5_jT_151⟩ := id p_jT_151
      have p_jS_151 : jS P e_151.2 := jS.mono x0_139 (fun a j h => q_151 a j (wf_jS_X8_givesLong h))
      obtain ⟨u0_jS_151, u1_jS_151, u2_jS_151, u3_jS_151, u4_jS_151, u5_jS_151, u6_jS_151, u7_jS_151⟩ := jS.ints p_jS_151
      exact T_163 _ _ _ k_151 kn_138 p_jA_151 p_jB_151 p_jH_151 p_jK_151 p_jL_151 p_jR_151 p_jS_151 p_jT_151
  have TL_90 : ∀ u : Nat, ∀ (x2_90 : Int32) (x3_90 : Int32) (x4_90 : Int32) (M_90 : zMt) (N_90 : zNt), (∀ a j, ¬ WM_X8_apart P a j → M_90 a j = M0 a j) → (∀ a j, ¬ WN_X8_apart P a j → N_90 a j = N0 a j) → (jA P M_90) → (jB P M_90) → (jH P M_90) → (jK P M_90) → (jL P M_90) → (jR P M_90) → (jS P M_90) → (jT P M_90) → (x3_90 = 0 ∨ x3_90 = 1) → (0 ≤ Int32.toInt x4_90) → (Int32.toInt x4_90 ≤ 10) → (nA P M_90 ≤ 7) → (2147483648 - Int32.toInt x4_90).toNat < u → ∃ r, D_X8_apart_90 P u x2_90 x3_90 x4_90 M_90 N_90 = some r ∧ ((∀ a j, ¬ WM_X8_apart P a j → r.2.1 a j = M0 a j) ∧ (∀ a j, ¬ WN_X8_apart P a j → r.2.2 a j = N0 a j) ∧ ((jB P r.2.1) ∧ (jS P r.2.1) ∧ (jR P r.2.1) ∧ (jK P r.2.1) ∧ (jT P r.2.1))) := by
    intro u
    induction u with
    | zero => intro x2_90 x3_90 x4_90 M_90 N_90 k_90 kn_90 p_jA_90 p_jB_90 p_jH_90 p_jK_90 p_jL_90 p_jR_90 p_jS_90 p_jT_90 f0_90 f1_90 f2_90 f3_90 hm_90; exact absurd hm_90 (Nat.not_lt_zero _)
    | succ u_90 ih_90 =>
      have T_124 : ∀ (x2_124 : Int32) (x3_124 : Int32) (x4_124 : Int32) (y1_124 : Int32) (y2_124 : Int32) (M_124 : zMt) (N_124 : zNt), (∀ a j, ¬ WM_X8_apart P a j → M_124 a j = M0 a j) → (∀ a j, ¬ WN_X8_apart P a j → N_124 a j = N0 a j) → (jA P M_124) → (jB P M_124) → (jH P M_124) → (jK P M_124) → (jL P M_124) → (jR P M_124) → (jS P M_124) → (jT P M_124) → (x3_124 = 0 ∨ x3_124 = 1) → (0 ≤ Int32.toInt x4_124) → (Int32.toInt x4_124 < Int32.toInt (M_124 P 33)) → ((2147483648 - Int32.toInt x4_124).toNat < u_90 + 1) → (Int32.toInt x4_124 < 2147483647) → (nA P M_124 ≤ 7) → ∃ r, D_X8_apart_124 P (D_X8_apart_90 P u_90) x2_124 x3_124 x4_124 y1_124 y2_124 M_124 N_124 = some r ∧ ((∀ a j, ¬ WM_X8_apart P a j → r.2.1 a j = M0 a j) ∧ (∀ a j, ¬ WN_X8_apart P a j → r.2.2 a j = N0 a j) ∧ ((jB P r.2.1) ∧ (jS P r.2.1) ∧ (jR P r.2.1) ∧ (jK P r.2.1) ∧ (jT P r.2.1))) := by
        intro x2_124 x3_124 x4_124 y1_124 y2_124 M_124 N_124 k_124 kn_124 p_jA_124 p_jB_124 p_jH_124 p_jK_124 p_jL_124 p_jR_124 p_jS_124 p_jT_124 f0_124 f1_124 f2_124 f3_124 f4_124 f5_124
        obtain ⟨u0_jB_124, u1_jB_124, u2_jB_124, u3_jB_124, u4_jB_124, u5_jB_124⟩ := id p_jB_124
        obtain ⟨u0_jS_124, u1_jS_124, u2_jS_124, u3_jS_124, u4_jS_124, u5_jS_124, u6_jS_124, u7_jS_124⟩ := jS.ints p_jS_124
        obtain ⟨u0_jT_124, u1_jT_124, u2_jT_124, u3_jT_124, u4_jT_124, u5_jT_124⟩ := id p_jT_124
        unfold D_X8_apart_124
        refine vLm (W := WM_X8_apart P) (fun a j h => (zu_ne (wq_X8_apart_M0_58 h)).trans (k_124 a j h)) (fun M_125 f_125 k_125 => ?_)
        have c7_125 : Int32.toInt (M_125 P 7) = Int32.toInt (M_124 P 7) := congrArg Int32.toInt ((congrFun (congrFun f_125.symm P) 7).trans (zu_ne (fun z => absurd z.2 (by decide))))
        have c8_125 : Int32.toInt (M_125 P 8) = Int32.toInt (M_124 P 8) := congrArg Int32.toInt ((congrFun (congrFun f_125.symm P) 8).trans (zu_ne (fun z => absurd z.2 (by decide))))
        have c33_125 : Int32.toInt (M_125 P 33) = Int32.toInt (M_124 P 33) := congrArg Int32.toInt ((congrFun (congrFun f_125.symm P) 33).trans (zu_ne (fun z => absurd z.2 (by decide))))
        have n_125 : nA P M_125 = nA P M_124 := nA_congr (fun a j h => (congrFun (congrFun f_125.symm a) j).trans (zu_ne (wf_nA_M0_58 h)))
        have p_jA_125 : jA P M_125 := jA.mono p_jA_124 (fun a j h => (congrFun (congrFun f_125.symm a) j).trans (zu_ne (wf_jA_M0_58 h)))
        have p_jB_125 : jB P M_125 := jB.mono p_jB_124 (fun a j h => (congrFun (congrFun f_125.symm a) j).trans (zu_ne (wf_jB_M0_58 h)))
        obtain ⟨u0_jB_125, u1_jB_125, u2_jB_125, u3_jB_125, u4_jB_125, u5_jB_125⟩ := id p_jB_125
        have p_jH_125 : jH P M_125 := jH.mono p_jH_124 (fun a j h => (congrFun (congrFun f_125.symm a) j).trans (zu_ne (wf_jH_M0_58 h)))
        have p_jK_125 : jK P M_125 := jK.mono p_jK_124 (fun a j h => (congrFun (congrFun f_125.symm a) j).trans (zu_ne (wf_jK_M0_58 h)))
        have p_jL_125 : jL P M_125 := jL.mono p_jL_124 (fun a j h => (congrFun (congrFun f_125.symm a) j).trans (zu_ne (wf_jL_M0_58 h)))
        have p_jR_125 : jR P M_125 := jR.mono p_jR_124 (fun a j h => (congrFun (congrFun f_125.symm a) j).trans (zu_ne (wf_jR_M0_58 h)))
        have p_jS_125 : jS P M_125 := jS.mono p_jS_124 (fun a j h => (congrFun (congrFun f_125.symm a) j).trans (zu_ne (wf_jS_M0_58 h)))
        obtain ⟨u0_jS_125, u1_jS_125, u2_jS_125, u3_jS_125, u4_jS_125, u5_jS_125, u6_jS_125, u7_jS_125⟩ := jS.ints p_jS_125
        have p_jT_125 : jT P M_125 := jT.mono p_jT_124 (fun a j h => (congrFun (congrFun f_125.symm a) j).trans (zu_ne (wf_jT_M0_58 h)))
        obtain ⟨u0_jT_125, u1_jT_125, u2_jT_125, u3_jT_125, u4_jT_125, u5_jT_125⟩ := id p_jT_125
        exact ih_90 _ _ _ _ _ k_125 kn_124 p_jA_125 p_jB_125 p_jH_125 p_jK_125 p_jL_125 p_jR_125 p_jS_125 p_jT_125 (by first | exact Or.inl rfl | exact Or.inr rfl | assumption) (by first | omega | (simp only [Int32.toInt_add, Int32.toInt_sub, Int32.toInt_mul, Int32.toInt_toInt64, Int64.toInt_add, z_m1, Int32.reduceToInt, Int64.reduceToInt, Int32.reduceToNatClampNeg, Int.bmod_def, or_true, true_or, and_true, true_and] <;> omega)) (by first | omega | (simp only [Int32.toInt_add, Int32.toInt_sub, Int32.toInt_mul, Int32.toInt_toInt64, Int64.toInt_add, z_m1, Int32.reduceToInt, Int64.reduceToInt, Int32.reduceToNatClampNeg, Int.bmod_def, or_true, true_or, and_true, true_and] <;> omega)) (by first | omega | (simp only [Int32.toInt_add, Int32.toInt_sub, Int32.toInt_mul, Int32.toInt_toInt64, Int64.toInt_add, z_m1, Int32.reduceToInt, Int64.reduceToInt, Int32.reduceToNatClampNeg, Int.bmod_def, or_true, true_or, and_true, true_and] <;> omega)) (z_up1 f4_124 f3_124)
      intro x2_90 x3_90 x4_90 M_90 N_90 k_90 kn_90 p_jA_90 p_jB_90 p_jH_90 p_jK_90 p_jL_90 p_jR_90 p_jS_90 p_jT_90 f0_90 f1_90 f2_90 f3_90 hm_90
      obtain ⟨u0_jB_90, u1_jB_90, u2_jB_90, u3_jB_90, u4_jB_90, u5_jB_90⟩ := id p_jB_90
      obtain ⟨u0_jS_90, u1_jS_90, u2_jS_90, u3_jS_90, u4_jS_90, u5_jS_90, u6_jS_90, u7_jS_90⟩ := jS.ints p_jS_90
      obtain ⟨u0_jT_90, u1_jT_90, u2_jT_90, u3_jT_90, u4_jT_90, u5_jT_90⟩ := id p_jT_90
      rw [D_X8_apart_90]
      refine vIf (fun h_96 => ?_) (fun h_96 => ?_)
      · have i_96 := Int32.le_iff_toInt_le.mp h_96
        (try simp only [Int32.toInt_add, Int32.toInt_sub, Int32.toInt_mul, Int32.toInt_toInt64, Int64.toInt_add, z_m1, Int32.reduceToInt, Int64.reduceToInt, Int32.reduceToNatClampNeg, Int.bmod_def] at i_96)
        refine vB (v_X8_laysAll p_jB_90 p_jS_90 p_jR_90 (by first | omega | (simp only [Int32.toInt_add, Int32.toInt_sub, Int32.toInt_mul, Int32.toInt_toInt64, Int64.toInt_add, z_m1, Int32.reduceToInt, Int64.reduceToInt, Int32.reduceToNatClampNeg, Int.bmod_def, or_true, true_or, and_true, true_and] <;> omega))) (fun e_135 f_135 q_135 => ?_)
        have k_135 : ∀ a j, ¬ WM_X8_apart P a j → e_135.1 a j = M0 a j := fun a j h => (q_135.1 a j (wz_M_X8_laysAll_X8_apart h)).trans (k_90 a j h)
        have kn_135 : ∀ a j, ¬ WN_X8_apart P a j → e_135.2 a j = N0 a j := fun a j h => (q_135.2.1 a j (wz_N_X8_laysAll_X8_apart h)).trans (kn_90 a j h)
        have c7_135 : Int32.toInt (e_135.1 P 7) = Int32.toInt (M_90 P 7) := congrArg Int32.toInt (q_135.1 P 7 (wc_X8_laysAll_7))
        have c8_135 : Int32.toInt (e_135.1 P 8) = Int32.toInt (M_90 P 8) := congrArg Int32.toInt (q_135.1 P 8 (wc_X8_laysAll_8))
        have n_135 : nA P e_135.1 = nA P M_90 := nA_congr (fun a j h => q_135.1 a j (wf_nA_X8_laysAll h))
        have p_jA_135 : jA P e_135.1 := jA.mono p_jA_90 (fun a j h => q_135.1 a j (wf_jA_X8_laysAll h))
        have p_jK_135 : jK P e_135.1 := jK.mono p_jK_90 (fun a j h => q_135.1 a j (wf_jK_X8_laysAll h))
        have p_jS_135 : jS P e_135.1 := jS.mono p_jS_90 (fun a j h => q_135.1 a j (wf_jS_X8_laysAll h))
        obtain ⟨u0_jS_135, u1_jS_135, u2_jS_135, u3_jS_135, u4_jS_135, u5_jS_135, u6_jS_135, u7_jS_135⟩ := jS.ints p_jS_135
        have p_jT_135 : jT P e_135.1 := jT.mono p_jT_90 (fun a j h => q_135.1 a j (wf_jT_X8_laysAll h))
        obtain ⟨u0_jT_135, u1_jT_135, u2_jT_135, u3_jT_135, u4_jT_135, u5_jT_135⟩ := id p_jT_135
        obtain ⟨x0_135, x1_135, x2_135, x3_135, x4_135⟩ := q_135.2.2
        obtain ⟨u0_jB_135, u1_jB_135, u2_jB_135, u3_jB_135, u4_jB_135, u5_jB_135⟩ := id x0_135
        (try simp only [Int32.toInt_add, Int32.toInt_sub, Int32.toInt_mul, Int32.toInt_toInt64, Int64.toInt_add, z_m1, Int32.reduceToInt, Int64.reduceToInt, Int32.reduceToNatClampNeg, Int.bmod_def] at x4_135)
        exact T_138 _ _ _ k_135 kn_135 p_jA_135 x0_135 x2_135 p_jK_135 x1_135 x3_135 p_jS_135 p_jT_135 (by first | exact Or.inl rfl | exact Or.inr rfl | assumption)
      · have i_96 := Int32.lt_iff_toInt_lt.mp (Int32.not_le.mp h_96)
        (try simp only [Int32.toInt_add, Int32.toInt_sub, Int32.toInt_mul, Int32.toInt_toInt64, Int64.toInt_add, z_m1, Int32.reduceToInt, Int64.reduceToInt, Int32.reduceToNatClampNeg, Int.bmod_def] at i_96)
        refine vI (vp_of (by first | omega | (simp only [Int32.toInt_add, Int32.toInt_sub, Int32.toInt_mul, Int32.toInt_toInt64, Int64.toInt_add, z_m1, Int32.reduceToInt, Int64.reduceToInt, Int32.reduceToNatClampNeg, Int.bmod_def, or_true, true_or, and_true, true_and] <;> omega)) (by first | omega | (simp only [Int32.toInt_add, Int32.toInt_sub, Int32.toInt_mul, Int32.toInt_toInt64, Int64.toInt_add, z_m1, Int32.reduceToInt, Int64.reduceToInt, Int32.reduceToNatClampNeg, Int.bmod_def, or_true, true_or, and_true, true_and] <;> omega))) ?_
        refine vIf (fun h_113 => ?_) (fun h_113 => ?_)
        · have i_113 := congrArg Int32.toInt h_113
          (try simp only [Int32.toInt_add, Int32.toInt_sub, Int32.toInt_mul, Int32.toInt_toInt64, Int64.toInt_add, z_m1, Int32.reduceToInt, Int64.reduceToInt, Int32.reduceToNatClampNeg, Int.bmod_def] at i_113)
          exact T_124 _ _ _ _ _ _ _ k_90 kn_90 p_jA_90 p_jB_90 p_jH_90 p_jK_90 p_jL_90 p_jR_90 p_jS_90 p_jT_90 (by first | exact Or.inl rfl | exact Or.inr rfl | assumption) (by first | omega | (simp only [Int32.toInt_add, Int32.toInt_sub, Int32.toInt_mul, Int32.toInt_toInt64, Int64.toInt_add, z_m1, Int32.reduceToInt, Int64.reduceToInt, Int32.reduceToNatClampNeg, Int.bmod_def, or_true, true_or, and_true, true_and] <;> omega)) (by first | omega | (simp only [Int32.toInt_add, Int32.toInt_sub, Int32.toInt_mul, Int32.toInt_toInt64, Int64.toInt_add, z_m1, Int32.reduceToInt, Int64.reduceToInt, Int32.reduceToNatClampNeg, Int.bmod_def, or_true, true_or, and_true, true_and] <;> omega)) hm_90 (by first | assumption | exact z_lt (by assumption) | exact z_lt2 (by assumption) | exact z_lt3 (by assumption) (by first | assumption | decide)) (by first | omega | (simp only [Int32.toInt_add, Int32.toInt_sub, Int32.toInt_mul, Int32.toInt_toInt64, Int64.toInt_add, z_m1, Int32.reduceToInt, Int64.reduceToInt, Int32.reduceToNatClampNeg, Int.bmod_def, or_true, true_or, and_true, true_and] <;> omega))
        · have i_113 : ¬ Int32.toInt ((M_90 (P + 11) x4_90.toNatClampNeg) &&& x2_90) = Int32.toInt (0 : Int32) := fun q => h_113 (Int32.toInt_inj.mp q)
          (try simp only [Int32.toInt_add, Int32.toInt_sub, Int32.toInt_mul, Int32.toInt_toInt64, Int64.toInt_add, z_m1, Int32.reduceToInt, Int64.reduceToInt, Int32.reduceToNatClampNeg, Int.bmod_def] at i_113)
          exact T_124 _ _ _ _ _ _ _ k_90 kn_90 p_jA_90 p_jB_90 p_jH_90 p_jK_90 p_jL_90 p_jR_90 p_jS_90 p_jT_90 (by first | exact Or.inl rfl | exact Or.inr rfl | assumption) (by first | omega | (simp only [Int32.toInt_add, Int32.toInt_sub, Int32.toInt_mul, Int32.toInt_toInt64, Int64.toInt_add, z_m1, Int32.reduceToInt, Int64.reduceToInt, Int32.reduceToNatClampNeg, Int.bmod_def, or_true, true_or, and_true, true_and] <;> omega)) (by first | omega | (simp only [Int32.toInt_add, Int32.toInt_sub, Int32.toInt_mul, Int32.toInt_toInt64, Int64.toInt_add, z_m1, Int32.reduceToInt, Int64.reduceToInt, Int32.reduceToNatClampNeg, Int.bmod_def, or_true, true_or, and_true, true_and] <;> omega)) hm_90 (by first | assumption | exact z_lt (by assumption) | exact z_lt2 (by assumption) | exact z_lt3 (by assumption) (by first | assumption | decide)) (by first | omega | (simp only [Int32.toInt_add, Int32.toInt_sub, Int32.toInt_mul, Int32.toInt_toInt64, Int64.toInt_add, z_m1, Int32.reduceToInt, Int64.reduceToInt, Int32.reduceToNatClampNeg, Int.bmod_def, or_true, true_or, and_true, true_and] <;> omega))
  have T_90 : ∀ (x2_90 : Int32) (x3_90 : Int32) (x4_90 : Int32) (M_90 : zMt) (N_90 : zNt), (∀ a j, ¬ WM_X8_apart P a j → M_90 a j = M0 a j) → (∀ a j, ¬ WN_X8_apart P a j → N_90 a j = N0 a j) → (jA P M_90) → (jB P M_90) → (jH P M_90) → (jK P M_90) → (jL P M_90) → (jR P M_90) → (jS P M_90) → (jT P M_90) → (x3_90 = 0 ∨ x3_90 = 1) → (0 ≤ Int32.toInt x4_90) → (Int32.toInt x4_90 ≤ 10) → (nA P M_90 ≤ 7) → ∃ r, D_X8_apart_90 P zFu x2_90 x3_90 x4_90 M_90 N_90 = some r ∧ ((∀ a j, ¬ WM_X8_apart P a j → r.2.1 a j = M0 a j) ∧ (∀ a j, ¬ WN_X8_apart P a j → r.2.2 a j = N0 a j) ∧ ((jB P r.2.1) ∧ (jS P r.2.1) ∧ (jR P r.2.1) ∧ (jK P r.2.1) ∧ (jT P r.2.1))) := fun x2_90 x3_90 x4_90 M_90 N_90 k_90 kn_90 p_jA_90 p_jB_90 p_jH_90 p_jK_90 p_jL_90 p_jR_90 p_jS_90 p_jT_90 f0_90 f1_90 f2_90 f3_90 => TL_90 zFu x2_90 x3_90 x4_90 M_90 N_90 k_90 kn_90 p_jA_90 p_jB_90 p_jH_90 p_jK_90 p_jL_90 p_jR_90 p_jS_90 p_jT_90 f0_90 f1_90 f2_90 f3_90 (zFu_up _)
  have T_77 : ∀ (x2_77 : Int32) (y0_77 : Int32) (M_77 : zMt) (N_77 : zNt), (∀ a j, ¬ WM_X8_apart P a j → M_77 a j = M0 a j) → (∀ a j, ¬ WN_X8_apart P a j → N_77 a j = N0 a j) → (jA P M_77) → (jB P M_77) → (jH P M_77) → (jK P M_77) → (jL P M_77) → (jR P M_77) → (jS P M_77) → (jT P M_77) → (y0_77 = 0 ∨ y0_77 = 1) → (Int32.toInt y0_77 = 0 ∨ nA P M_77 ≤ 7) → ∃ r, D_X8_apart_77 P x2_77 y0_77 M_77 N_77 = some r ∧ ((∀ a j, ¬ WM_X8_apart P a j → r.2.1 a j = M0 a j) ∧ (∀ a j, ¬ WN_X8_apart P a j → r.2.2 a j = N0 a j) ∧ ((jB P r.2.1) ∧ (jS P r.2.1) ∧ (jR P r.2.1) ∧ (jK P r.2.1) ∧ (jT P r.2.1))) := by
    intro x2_77 y0_77 M_77 N_77 k_77 kn_77 p_jA_77 p_jB_77 p_jH_77 p_jK_77 p_jL_77 p_jR_77 p_jS_77 p_jT_77 f0_77 f1_77
    obtain ⟨u0_jB_77, u1_jB_77, u2_jB_77, u3_jB_77, u4_jB_77, u5_jB_77⟩ := id p_jB_77
    obtain ⟨u0_jS_77, u1_jS_77, u2_jS_77, u3_jS_77, u4_jS_77, u5_jS_77, u6_jS_77, u7_jS_77⟩ := jS.ints p_jS_77
    obtain ⟨u0_jT_77, u1_jT_77, u2_jT_77, u3_jT_77, u4_jT_77, u5_jT_77⟩ := id p_jT_77
    unfold D_X8_apart_77
    refine vIf (fun h_79 => ?_) (fun h_79 => ?_)
    · have i_79 := congrArg Int32.toInt h_79
      (try simp only [Int32.toInt_add, Int32.toInt_sub, Int32.toInt_mul, Int32.toInt_toInt64, Int64.toInt_add, z_m1, Int32.reduceToInt, Int64.reduceToInt, Int32.reduceToNatClampNeg, Int.bmod_def] at i_79)
      exact T_138 _ _ _ k_77 kn_77 p_jA_77 p_jB_77 p_jH_77 p_jK_77 p_jL_77 p_jR_77 p_jS_77 p_jT_77 (by first | exact Or.inl rfl | exact Or.inr rfl | assumption)
    · have i_79 : ¬ Int32.toInt y0_77 = Int32.toInt (0 : Int32) := fun q => h_79 (Int32.toInt_inj.mp q)
      (try simp only [Int32.toInt_add, Int32.toInt_sub, Int32.toInt_mul, Int32.toInt_toInt64, Int64.toInt_add, z_m1, Int32.reduceToInt, Int64.reduceToInt, Int32.reduceToNatClampNeg, Int.bmod_def] at i_79)
      refine vLm (W := WM_X8_apart P) (fun a j h => (zu_ne (wq_X8_apart_M0_58 h)).trans (k_77 a j h)) (fun M_84 f_84 k_84 => ?_)
      have c7_84 : Int32.toInt (M_84 P 7) = Int32.toInt (M_77 P 7) := congrArg Int32.toInt ((congrFun (congrFun f_84.symm P) 7).trans (zu_ne (fun z => absurd z.2 (by decide))))
      have c8_84 : Int32.toInt (M_84 P 8) = Int32.toInt (M_77 P 8) := congrArg Int32.toInt ((congrFun (congrFun f_84.symm P) 8).trans (zu_ne (fun z => absurd z.2 (by decide))))
      have c33_84 : Int32.toInt (M_84 P 33) = Int32.toInt (M_77 P 33) := congrArg Int32.toInt ((congrFun (congrFun f_84.symm P) 33).trans (zu_ne (fun z => absurd z.2 (by decide))))
      have n_84 : nA P M_84 = nA P M_77 := nA_congr (fun a j h => (congrFun (congrFun f_84.symm a) j).trans (zu_ne (wf_nA_M0_58 h)))
      have p_jA_84 : jA P M_84 := jA.mono p_jA_77 (fun a j h => (congrFun (congrFun f_84.symm a) j).trans (zu_ne (wf_jA_M0_58 h)))
      have p_jB_84 : jB P M_84 := jB.mono p_jB_77 (fun a j h => (congrFun (congrFun f_84.symm a) j).trans (zu_ne (wf_jB_M0_58 h)))
      obtain ⟨u0_jB_84, u1_jB_84, u2_jB_84, u3_jB_84, u4_jB_84, u5_jB_84⟩ := id p_jB_84
      have p_jH_84 : jH P M_84 := jH.mono p_jH_77 (fun a j h => (congrFun (congrFun f_84.symm a) j).trans (zu_ne (wf_jH_M0_58 h)))
      have p_jK_84 : jK P M_84 := jK.mono p_jK_77 (fun a j h => (congrFun (congrFun f_84.symm a) j).trans (zu_ne (wf_jK_M0_58 h)))
      have p_jL_84 : jL P M_84 := jL.mono p_jL_77 (fun a j h => (congrFun (congrFun f_84.symm a) j).trans (zu_ne (wf_jL_M0_58 h)))
      have p_jR_84 : jR P M_84 := jR.mono p_jR_77 (fun a j h => (congrFun (congrFun f_84.symm a) j).trans (zu_ne (wf_jR_M0_58 h)))
      have p_jS_84 : jS P M_84 := jS.mono p_jS_77 (fun a j h => (congrFun (congrFun f_84.symm a) j).trans (zu_ne (wf_jS_M0_58 h)))
      obtain ⟨u0_jS_84, u1_jS_84, u2_jS_84, u3_jS_84, u4_jS_84, u5_jS_84, u6_jS_84, u7_jS_84⟩ := jS.ints p_jS_84
      have p_jT_84 : jT P M_84 := jT.mono p_jT_77 (fun a j h => (congrFun (congrFun f_84.symm a) j).trans (zu_ne (wf_jT_M0_58 h)))
      obtain ⟨u0_jT_84, u1_jT_84, u2_jT_84, u3_jT_84, u4_jT_84, u5_jT_84⟩ := id p_jT_84
      exact T_90 _ _ _ _ _ k_84 kn_77 p_jA_84 p_jB_84 p_jH_84 p_jK_84 p_jL_84 p_jR_84 p_jS_84 p_jT_84 (by first | exact Or.inl rfl | exact Or.inr rfl | assumption) (by first | omega | (simp only [Int32.toInt_add, Int32.toInt_sub, Int32.toInt_mul, Int32.toInt_toInt64, Int64.toInt_add, z_m1, Int32.reduceToInt, Int64.reduceToInt, Int32.reduceToNatClampNeg, Int.bmod_def, or_true, true_or, and_true, true_and] <;> omega)) (by first | omega | (simp only [Int32.toInt_add, Int32.toInt_sub, Int32.toInt_mul, Int32.toInt_toInt64, Int64.toInt_add, z_m1, Int32.reduceToInt, Int64.reduceToInt, Int32.reduceToNatClampNeg, Int.bmod_def, or_true, true_or, and_true, true_and] <;> omega)) (by first | omega | (simp only [Int32.toInt_add, Int32.toInt_sub, Int32.toInt_mul, Int32.toInt_toInt64, Int64.toInt_add, z_m1, Int32.reduceToInt, Int64.reduceToInt, Int32.reduceToNatClampNeg, Int.bmod_def, or_true, true_or, and_true, true_and] <;> omega))
  have TL_19 : ∀ u : Nat, ∀ (x1_19 : Int32) (x2_19 : Int32) (x3_19 : Int32) (M_19 : zMt) (N_19 : zNt), (∀ a j, ¬ WM_X8_apart P a j → M_19 a j = M0 a j) → (∀ a j, ¬ WN_X8_apart P a j → N_19 a j = N0 a j) → (jB P M_19) → (jK P M_19) → (jR P M_19) → (jS P M_19) → (jT P M_19) → (0 ≤ Int32.toInt x3_19) → (Int32.toInt x3_19 ≤ 10) → (0 ≤ Int32.toInt x1_19 ∧ Int32.toInt x1_19 < Int32.toInt (M_19 (P + 1) 70)) → (2147483648 - Int32.toInt x3_19).toNat < u → ∃ r, D_X8_apart_19 P u x1_19 x2_19 x3_19 M_19 N_19 = some r ∧ ((∀ a j, ¬ WM_X8_apart P a j → r.2.1 a j = M0 a j) ∧ (∀ a j, ¬ WN_X8_apart P a j → r.2.2 a j = N0 a j) ∧ ((jB P r.2.1) ∧ (jS P r.2.1) ∧ (jR P r.2.1) ∧ (jK P r.2.1) ∧ (jT P r.2.1))) := by
    intro u
    induction u with
    | zero => intro x1_19 x2_19 x3_19 M_19 N_19 k_19 kn_19 p_jB_19 p_jK_19 p_jR_19 p_jS_19 p_jT_19 f0_19 f1_19 f2_19 hm_19; exact absurd hm_19 (Nat.not_lt_zero _)
    | succ u_19 ih_19 =>
      have T_48 : ∀ (x1_48 : Int32) (x3_48 : Int32) (y0_48 : Int32) (y1_48 : Int32) (M_48 : zMt) (N_48 : zNt), (∀ a j, ¬ WM_X8_apart P a j → M_48 a j = M0 a j) → (∀ a j, ¬ WN_X8_apart P a j → N_48 a j = N0 a j) → (jB P M_48) → (jK P M_48) → (jR P M_48) → (jS P M_48) → (jT P M_48) → (0 ≤ Int32.toInt x3_48) → (Int32.toInt x3_48 < Int32.toInt (M_48 P 8)) → ((2147483648 - Int32.toInt x3_48).toNat < u_19 + 1) → (Int32.toInt x3_48 < 2147483647) → (0 ≤ Int32.toInt x1_48 ∧ Int32.toInt x1_48 < Int32.toInt (M_48 (P + 1) 70)) → ∃ r, D_X8_apart_48 P (D_X8_apart_19 P u_19) x1_48 x3_48 y0_48 y1_48 M_48 N_48 = some r ∧ ((∀ a j, ¬ WM_X8_apart P a j → r.2.1 a j = M0 a j) ∧ (∀ a j, ¬ WN_X8_apart P a j → r.2.2 a j = N0 a j) ∧ ((jB P r.2.1) ∧ (jS P r.2.1) ∧ (jR P r.2.1) ∧ (jK P r.2.1) ∧ (jT P r.2.1))) := by
        intro x1_48 x3_48 y0_48 y1_48 M_48 N_48 k_48 kn_48 p_jB_48 p_jK_48 p_jR_48 p_jS_48 p_jT_48 f0_48 f1_48 f2_48 f3_48 f4_48
        obtain ⟨u0_jB_48, u1_jB_48, u2_jB_48, u3_jB_48, u4_jB_48, u5_jB_48⟩ := id p_jB_48
        obtain ⟨u0_jS_48, u1_jS_48, u2_jS_48, u3_jS_48, u4_jS_48, u5_jS_48, u6_jS_48, u7_jS_48⟩ := jS.ints p_jS_48
        obtain ⟨u0_jT_48, u1_jT_48, u2_jT_48, u3_jT_48, u4_jT_48, u5_jT_48⟩ := id p_jT_48
        unfold D_X8_apart_48
        exact ih_19 _ _ _ _ _ k_48 kn_48 p_jB_48 p_jK_48 p_jR_48 p_jS_48 p_jT_48 (by first | omega | (simp only [Int32.toInt_add, Int32.toInt_sub, Int32.toInt_mul, Int32.toInt_toInt64, Int64.toInt_add, z_m1, Int32.reduceToInt, Int64.reduceToInt, Int32.reduceToNatClampNeg, Int.bmod_def, or_true, true_or, and_true, true_and] <;> omega)) (by first | omega | (simp only [Int32.toInt_add, Int32.toInt_sub, Int32.toInt_mul, Int32.toInt_toInt64, Int64.toInt_add, z_m1, Int32.reduceToInt, Int64.reduceToInt, Int32.reduceToNatClampNeg, Int.bmod_def, or_true, true_or, and_true, true_and] <;> omega)) (by first | omega | (simp only [Int32.toInt_add, Int32.toInt_sub, Int32.toInt_mul, Int32.toInt_toInt64, Int64.toInt_add, z_m1, Int32.reduceToInt, Int64.reduceToInt, Int32.reduceToNatClampNeg, Int.bmod_def, or_true, true_or, and_true, true_and] <;> omega)) (z_up1 f3_48 f2_48)
      intro x1_19 x2_19 x3_19 M_19 N_19 k_19 kn_19 p_jB_19 p_jK_19 p_jR_19 p_jS_19 p_jT_19 f0_19 f1_19 f2_19 hm_19
      obtain ⟨u0_jB_19, u1_jB_19, u2_jB_19, u3_jB_19, u4_jB_19, u5_jB_19⟩ := id p_jB_19
      obtain ⟨u0_jS_19, u1_jS_19, u2_jS_19, u3_jS_19, u4_jS_19, u5_jS_19, u6_jS_19, u7_jS_19⟩ := jS.ints p_jS_19
      obtain ⟨u0_jT_19, u1_jT_19, u2_jT_19, u3_jT_19, u4_jT_19, u5_jT_19⟩ := id p_jT_19
      rw [D_X8_apart_19]
      refine vIf (fun h_24 => ?_) (fun h_24 => ?_)
      · have i_24 := Int32.le_iff_toInt_le.mp h_24
        (try simp only [Int32.toInt_add, Int32.toInt_sub, Int32.toInt_mul, Int32.toInt_toInt64, Int64.toInt_add, z_m1, Int32.reduceToInt, Int64.reduceToInt, Int32.reduceToNatClampNeg, Int.bmod_def] at i_24)
        refine vB (v_X8_putsAside p_jB_19 p_jS_19) (fun e_57 f_57 q_57 => ?_)
        have k_57 : ∀ a j, ¬ WM_X8_apart P a j → e_57 a j = M0 a j := fun a j h => (q_57.1 a j (wz_M_X8_putsAside_X8_apart h)).trans (k_19 a j h)
        have c7_57 : Int32.toInt (e_57 P 7) = Int32.toInt (M_19 P 7) := congrArg Int32.toInt (q_57.1 P 7 (wc_X8_putsAside_7))
        have c8_57 : Int32.toInt (e_57 P 8) = Int32.toInt (M_19 P 8) := congrArg Int32.toInt (q_57.1 P 8 (wc_X8_putsAside_8))
        have c33_57 : Int32.toInt (e_57 P 33) = Int32.toInt (M_19 P 33) := congrArg Int32.toInt (q_57.1 P 33 (wc_X8_putsAside_33))
        have n_57 : nA P e_57 = nA P M_19 := nA_congr (fun a j h => q_57.1 a j (wf_nA_X8_putsAside h))
        have p_jB_57 : jB P e_57 := jB.mono p_jB_19 (fun a j h => q_57.1 a j (wf_jB_X8_putsAside h))
        obtain ⟨u0_jB_57, u1_jB_57, u2_jB_57, u3_jB_57, u4_jB_57, u5_jB_57⟩ := id p_jB_57
        have p_jK_57 : jK P e_57 := jK.mono p_jK_19 (fun a j h => q_57.1 a j (wf_jK_X8_putsAside h))
        have p_jR_57 : jR P e_57 := jR.mono p_jR_19 (fun a j h => q_57.1 a j (wf_jR_X8_putsAside h))
        have p_jS_57 : jS P e_57 := jS.mono p_jS_19 (fun a j h => q_57.1 a j (wf_jS_X8_putsAside h))
        obtain ⟨u0_jS_57, u1_jS_57, u2_jS_57, u3_jS_57, u4_jS_57, u5_jS_57, u6_jS_57, u7_jS_57⟩ := jS.ints p_jS_57
        have p_jT_57 : jT P e_57 := jT.mono p_jT_19 (fun a j h => q_57.1 a j (wf_jT_X8_putsAside h))
        obtain ⟨u0_jT_57, u1_jT_57, u2_jT_57, u3_jT_57, u4_jT_57, u5_jT_57⟩ := id p_jT_57
        have x0_57 := q_57.2
        refine vB (v_X8_splits p_jB_57 p_jS_57 (by first | omega | (simp only [Int32.toInt_add, Int32.toInt_sub, Int32.toInt_mul, Int32.toInt_toInt64, Int64.toInt_add, z_m1, Int32.reduceToInt, Int64.reduceToInt, Int32.reduceToNatClampNeg, Int.bmod_def, or_true, true_or, and_true, true_and] <;> omega)) (by rw [q_57.1 (P + 1) 70 (by unfold WM_X8_putsAside; omega)]; omega)) (fun e_62 f_62 q_62 => ?_)
        have k_62 : ∀ a j, ¬ WM_X8_apart P a j → e_62 a j = M0 a j := fun a j h => (q_62.1 a j (wz_M_X8_splits_X8_apart h)).trans (k_57 a j h)
        have c7_62 : Int32.toInt (e_62 P 7) = Int32.toInt (e_57 P 7) := congrArg Int32.toInt (q_62.1 P 7 (wc_X8_splits_7))
        have c8_62 : Int32.toInt (e_62 P 8) = Int32.toInt (e_57 P 8) := congrArg Int32.toInt (q_62.1 P 8 (wc_X8_splits_8))
        have c33_62 : Int32.toInt (e_62 P 33) = Int32.toInt (e_57 P 33) := congrArg Int32.toInt (q_62.1 P 33 (wc_X8_splits_33))
        have p_jB_62 : jB P e_62 := jB.mono p_jB_57 (fun a j h => q_62.1 a j (wf_jB_X8_splits h))
        obtain ⟨u0_jB_62, u1_jB_62, u2_jB_62, u3_jB_62, u4_jB_62, u5_jB_62⟩ := id p_jB_62
        have p_jK_62 : jK P e_62 := jK.mono p_jK_57 (fun a j h => q_62.1 a j (wf_jK_X8_splits h))
        have p_jR_62 : jR P e_62 := jR.mono p_jR_57 (fun a j h => q_62.1 a j (wf_jR_X8_splits h))
        have p_jT_62 : jT P e_62 := jT.mono p_jT_57 (fun a j h => q_62.1 a j (wf_jT_X8_splits h))
        obtain ⟨u0_jT_62, u1_jT_62, u2_jT_62, u3_jT_62, u4_jT_62, u5_jT_62⟩ := id p_jT_62
        have p_jA_62 : jA P e_62 := jA.mono x0_57 (fun a j h => q_62.1 a j (wf_jA_X8_splits h))
        have x0_62 := q_62.2
        obtain ⟨u0_jS_62, u1_jS_62, u2_jS_62, u3_jS_62, u4_jS_62, u5_jS_62, u6_jS_62, u7_jS_62⟩ := jS.ints x0_62
        refine vB (v_X8_areMany p_jB_62 x0_62) (fun e_66 f_66 q_66 => ?_)
        have k_66 : ∀ a j, ¬ WM_X8_apart P a j → e_66.2 a j = M0 a j := fun a j h => (q_66.1 a j (wz_M_X8_areMany_X8_apart h)).trans (k_62 a j h)
        have b_66 := q_66.2.1
        have c7_66 : Int32.toInt (e_66.2 P 7) = Int32.toInt (e_62 P 7) := congrArg Int32.toInt (q_66.1 P 7 (wc_X8_areMany_7))
        have c8_66 : Int32.toInt (e_66.2 P 8) = Int32.toInt (e_62 P 8) := congrArg Int32.toInt (q_66.1 P 8 (wc_X8_areMany_8))
        have n_66 : nA P e_66.2 = nA P e_62 := nA_congr (fun a j h => q_66.1 a j (wf_nA_X8_areMany h))
        have p_jK_66 : jK P e_66.2 := jK.mono p_jK_62 (fun a j h => q_66.1 a j (wf_jK_X8_areMany h))
        have p_jR_66 : jR P e_66.2 := jR.mono p_jR_62 (fun a j h => q_66.1 a j (wf_jR_X8_areMany h))
        have p_jT_66 : jT P e_66.2 := jT.mono p_jT_62 (fun a j h => q_66.1 a j (wf_jT_X8_areMany h))
        obtain ⟨u0_jT_66, u1_jT_66, u2_jT_66, u3_jT_66, u4_jT_66, u5_jT_66⟩ := id p_jT_66
        have p_jA_66 : jA P e_66.2 := jA.mono p_jA_62 (fun a j h => q_66.1 a j (wf_jA_X8_areMany h))
        have p_jS_66 : jS P e_66.2 := jS.mono x0_62 (fun a j h => q_66.1 a j (wf_jS_X8_areMany h))
        obtain ⟨u0_jS_66, u1_jS_66, u2_jS_66, u3_jS_66, u4_jS_66, u5_jS_66, u6_jS_66, u7_jS_66⟩ := jS.ints p_jS_66
        obtain ⟨x0_66, x1_66, x2_66, x3_66, x4_66⟩ := q_66.2.2
        obtain ⟨u0_jB_66, u1_jB_66, u2_jB_66, u3_jB_66, u4_jB_66, u5_jB_66⟩ := id x0_66
        (try simp only [Int32.toInt_add, Int32.toInt_sub, Int32.toInt_mul, Int32.toInt_toInt64, Int64.toInt_add, z_m1, Int32.reduceToInt, Int64.reduceToInt, Int32.reduceToNatClampNeg, Int.bmod_def] at x3_66)
        (try simp only [Int32.toInt_add, Int32.toInt_sub, Int32.toInt_mul, Int32.toInt_toInt64, Int64.toInt_add, z_m1, Int32.reduceToInt, Int64.reduceToInt, Int32.reduceToNatClampNeg, Int.bmod_def] at x4_66)
        refine vIf (fun h_69 => ?_) (fun h_69 => ?_)
        · have i_69 := congrArg Int32.toInt h_69
          (try simp only [Int32.toInt_add, Int32.toInt_sub, Int32.toInt_mul, Int32.toInt_toInt64, Int64.toInt_add, z_m1, Int32.reduceToInt, Int64.reduceToInt, Int32.reduceToNatClampNeg, Int.bmod_def] at i_69)
          exact T_77 _ _ _ _ k_66 kn_19 p_jA_66 x0_66 x2_66 p_jK_66 x1_66 p_jR_66 p_jS_66 p_jT_66 (by first | exact Or.inl rfl | exact Or.inr rfl | assumption) (by first | omega | (simp only [Int32.toInt_add, Int32.toInt_sub, Int32.toInt_mul, Int32.toInt_toInt64, Int64.toInt_add, z_m1, Int32.reduceToInt, Int64.reduceToInt, Int32.reduceToNatClampNeg, Int.bmod_def, or_true, true_or, and_true, true_and] <;> omega))
        · have i_69 : ¬ Int32.toInt e_66.1 = Int32.toInt (0 : Int32) := fun q => h_69 (Int32.toInt_inj.mp q)
          (try simp only [Int32.toInt_add, Int32.toInt_sub, Int32.toInt_mul, Int32.toInt_toInt64, Int64.toInt_add, z_m1, Int32.reduceToInt, Int64.reduceToInt, Int32.reduceToNatClampNeg, Int.bmod_def] at i_69)
          exact T_77 _ _ _ _ k_66 kn_19 p_jA_66 x0_66 x2_66 p_jK_66 x1_66 p_jR_66 p_jS_66 p_jT_66 (by first | exact Or.inl rfl | exact Or.inr rfl | assumption) (by first | omega | (simp only [Int32.toInt_add, Int32.toInt_sub, Int32.toInt_mul, Int32.toInt_toInt64, Int64.toInt_add, z_m1, Int32.reduceToInt, Int64.reduceToInt, Int32.reduceToNatClampNeg, Int.bmod_def, or_true, true_or, and_true, true_and] <;> omega))
      · have i_24 := Int32.lt_iff_toInt_lt.mp (Int32.not_le.mp h_24)
        (try simp only [Int32.toInt_add, Int32.toInt_sub, Int32.toInt_mul, Int32.toInt_toInt64, Int64.toInt_add, z_m1, Int32.reduceToInt, Int64.reduceToInt, Int32.reduceToNatClampNeg, Int.bmod_def] at i_24)
        refine vI (vp_of (by first | omega | (simp only [Int32.toInt_add, Int32.toInt_sub, Int32.toInt_mul, Int32.toInt_toInt64, Int64.toInt_add, z_m1, Int32.reduceToInt, Int64.reduceToInt, Int32.reduceToNatClampNeg, Int.bmod_def, or_true, true_or, and_true, true_and] <;> omega)) (by first | omega | (simp only [Int32.toInt_add, Int32.toInt_sub, Int32.toInt_mul, Int32.toInt_toInt64, Int64.toInt_add, z_m1, Int32.reduceToInt, Int64.reduceToInt, Int32.reduceToNatClampNeg, Int.bmod_def, or_true, true_or, and_true, true_and] <;> omega))) ?_
        refine vIf (fun h_38 => ?_) (fun h_38 => ?_)
        · have i_38 := congrArg Int32.toInt h_38
          (try simp only [Int32.toInt_add, Int32.toInt_sub, Int32.toInt_mul, Int32.toInt_toInt64, Int64.toInt_add, z_m1, Int32.reduceToInt, Int64.reduceToInt, Int32.reduceToNatClampNeg, Int.bmod_def] at i_38)
          exact T_48 _ _ _ _ _ _ k_19 kn_19 p_jB_19 p_jK_19 p_jR_19 p_jS_19 p_jT_19 (by first | omega | (simp only [Int32.toInt_add, Int32.toInt_sub, Int32.toInt_mul, Int32.toInt_toInt64, Int64.toInt_add, z_m1, Int32.reduceToInt, Int64.reduceToInt, Int32.reduceToNatClampNeg, Int.bmod_def, or_true, true_or, and_true, true_and] <;> omega)) (by first | omega | (simp only [Int32.toInt_add, Int32.toInt_sub, Int32.toInt_mul, Int32.toInt_toInt64, Int64.toInt_add, z_m1, Int32.reduceToInt, Int64.reduceToInt, Int32.reduceToNatClampNeg, Int.bmod_def, or_true, true_or, and_true, true_and] <;> omega)) hm_19 (by first | assumption | exact z_lt (by assumption) | exact z_lt2 (by assumption) | exact z_lt3 (by assumption) (by first | assumption | decide)) (by first | omega | (simp only [Int32.toInt_add, Int32.toInt_sub, Int32.toInt_mul, Int32.toInt_toInt64, Int64.toInt_add, z_m1, Int32.reduceToInt, Int64.reduceToInt, Int32.reduceToNatClampNeg, Int.bmod_def, or_true, true_or, and_true, true_and] <;> omega))
        · have i_38 : ¬ Int32.toInt (M_19 (P + 1) ((10 : Int32) + x3_19).toNatClampNeg) = Int32.toInt x1_19 := fun q => h_38 (Int32.toInt_inj.mp q)
          (try simp only [Int32.toInt_add, Int32.toInt_sub, Int32.toInt_mul, Int32.toInt_toInt64, Int64.toInt_add, z_m1, Int32.reduceToInt, Int64.reduceToInt, Int32.reduceToNatClampNeg, Int.bmod_def] at i_38)
          exact T_48 _ _ _ _ _ _ k_19 kn_19 p_jB_19 p_jK_19 p_jR_19 p_jS_19 p_jT_19 (by first | omega | (simp only [Int32.toInt_add, Int32.toInt_sub, Int32.toInt_mul, Int32.toInt_toInt64, Int64.toInt_add, z_m1, Int32.reduceToInt, Int64.reduceToInt, Int32.reduceToNatClampNeg, Int.bmod_def, or_true, true_or, and_true, true_and] <;> omega)) (by first | omega | (simp only [Int32.toInt_add, Int32.toInt_sub, Int32.toInt_mul, Int32.toInt_toInt64, Int64.toInt_add, z_m1, Int32.reduceToInt, Int64.reduceToInt, Int32.reduceToNatClampNeg, Int.bmod_def, or_true, true_or, and_true, true_and] <;> omega)) hm_19 (by first | assumption | exact z_lt (by assumption) | exact z_lt2 (by assumption) | exact z_lt3 (by assumption) (by first | assumption | decide)) (by first | omega | (simp only [Int32.toInt_add, Int32.toInt_sub, Int32.toInt_mul, Int32.toInt_toInt64, Int64.toInt_add, z_m1, Int32.reduceToInt, Int64.reduceToInt, Int32.reduceToNatClampNeg, Int.bmod_def, or_true, true_or, and_true, true_and] <;> omega))
  have T_19 : ∀ (x1_19 : Int32) (x2_19 : Int32) (x3_19 : Int32) (M_19 : zMt) (N_19 : zNt), (∀ a j, ¬ WM_X8_apart P a j → M_19 a j = M0 a j) → (∀ a j, ¬ WN_X8_apart P a j → N_19 a j = N0 a j) → (jB P M_19) → (jK P M_19) → (jR P M_19) → (jS P M_19) → (jT P M_19) → (0 ≤ Int32.toInt x3_19) → (Int32.toInt x3_19 ≤ 10) → (0 ≤ Int32.toInt x1_19 ∧ Int32.toInt x1_19 < Int32.toInt (M_19 (P + 1) 70)) → ∃ r, D_X8_apart_19 P zFu x1_19 x2_19 x3_19 M_19 N_19 = some r ∧ ((∀ a j, ¬ WM_X8_apart P a j → r.2.1 a j = M0 a j) ∧ (∀ a j, ¬ WN_X8_apart P a j → r.2.2 a j = N0 a j) ∧ ((jB P r.2.1) ∧ (jS P r.2.1) ∧ (jR P r.2.1) ∧ (jK P r.2.1) ∧ (jT P r.2.1))) := fun x1_19 x2_19 x3_19 M_19 N_19 k_19 kn_19 p_jB_19 p_jK_19 p_jR_19 p_jS_19 p_jT_19 f0_19 f1_19 f2_19 => TL_19 zFu x1_19 x2_19 x3_19 M_19 N_19 k_19 kn_19 p_jB_19 p_jK_19 p_jR_19 p_jS_19 p_jT_19 f0_19 f1_19 f2_19 (zFu_up _)
  unfold D_X8_apart
  refine vB (v_X8_isParty p_jS) (fun e_2 f_2 q_2 => ?_)
  have b_2 := q_2.1
  have x0_2 := q_2.2
  (try simp only [Int32.toInt_add, Int32.toInt_sub, Int32.toInt_mul, Int32.toInt_toInt64, Int64.toInt_add, z_m1, Int32.reduceToInt, Int64.reduceToInt, Int32.reduceToNatClampNeg, Int.bmod_def] at x0_2)
  refine vIf (fun h_5 => ?_) (fun h_5 => ?_)
  · have i_5 := congrArg Int32.toInt h_5
    (try simp only [Int32.toInt_add, Int32.toInt_sub, Int32.toInt_mul, Int32.toInt_toInt64, Int64.toInt_add, z_m1, Int32.reduceToInt, Int64.reduceToInt, Int32.reduceToNatClampNeg, Int.bmod_def] at i_5)
    refine vB (v_X8_refuse) (fun e_10 f_10 q_10 => ?_)
    have k_10 : ∀ a j, ¬ WM_X8_apart P a j → e_10.2 a j = M0 a j := fun a j h => (q_10 a j (wz_M_X8_refuse_X8_apart h))
    have c7_10 : Int32.toInt (e_10.2 P 7) = Int32.toInt (M0 P 7) := congrArg Int32.toInt (q_10 P 7 (wc_X8_refuse_7))
    have c8_10 : Int32.toInt (e_10.2 P 8) = Int32.toInt (M0 P 8) := congrArg Int32.toInt (q_10 P 8 (wc_X8_refuse_8))
    have c33_10 : Int32.toInt (e_10.2 P 33) = Int32.toInt (M0 P 33) := congrArg Int32.toInt (q_10 P 33 (wc_X8_refuse_33))
    have n_10 : nA P e_10.2 = nA P M0 := nA_congr (fun a j h => q_10 a j (wf_nA_X8_refuse h))
    have p_jB_10 : jB P e_10.2 := jB.mono p_jB (fun a j h => q_10 a j (wf_jB_X8_refuse h))
    obtain ⟨u0_jB_10, u1_jB_10, u2_jB_10, u3_jB_10, u4_jB_10, u5_jB_10⟩ := id p_jB_10
    have p_jS_10 : jS P e_10.2 := jS.mono p_jS (fun a j h => q_10 a j (wf_jS_X8_refuse h))
    obtain ⟨u0_jS_10, u1_jS_10, u2_jS_10, u3_jS_10, u4_jS_10, u5_jS_10, u6_jS_10, u7_jS_10⟩ := jS.ints p_jS_10
    have p_jR_10 : jR P e_10.2 := jR.mono p_jR (fun a j h => q_10 a j (wf_jR_X8_refuse h))
    have p_jK_10 : jK P e_10.2 := jK.mono p_jK (fun a j h => q_10 a j (wf_jK_X8_refuse h))
    have p_jT_10 : jT P e_10.2 := jT.mono p_jT (fun a j h => q_10 a j (wf_jT_X8_refuse h))
    obtain ⟨u0_jT_10, u1_jT_10, u2_jT_10, u3_jT_10, u4_jT_10, u5_jT_10⟩ := id p_jT_10
    exact ⟨_, rfl, k_10, (fun _ _ _ => rfl), ⟨p_jB_10, p_jS_10, p_jR_10, p_jK_10, p_jT_10⟩⟩
  · have i_5 : ¬ Int32.toInt e_2 = Int32.toInt (0 : Int32) := fun q => h_5 (Int32.toInt_inj.mp q)
    (try simp only [Int32.toInt_add, Int32.toInt_sub, Int32.toInt_mul, Int32.toInt_toInt64, Int64.toInt_add, z_m1, Int32.reduceToInt, Int64.reduceToInt, Int32.reduceToNatClampNeg, Int.bmod_def] at i_5)
    exact T_19 _ _ _ _ _ (fun _ _ _ => rfl) (fun _ _ _ => rfl) p_jB p_jK p_jR p_jS p_jT (by first | omega | (simp only [Int32.toInt_add, Int32.toInt_sub, Int32.toInt_mul, Int32.toInt_toInt64, Int64.toInt_add, z_m1, Int32.reduceToInt, Int64.reduceToInt, Int32.reduceToNatClampNeg, Int.bmod_def, or_true, true_or, and_true, true_and] <;> omega)) (by first | omega | (simp only [Int32.toInt_add, Int32.toInt_sub, Int32.toInt_mul, Int32.toInt_toInt64, Int64.toInt_add, z_m1, Int32.reduceToInt, Int64.reduceToInt, Int32.reduceToNatClampNeg, Int.bmod_def, or_true, true_or, and_true, true_and] <;> omega)) (by first | omega | (simp only [Int32.toInt_add, Int32.toInt_sub, Int32.toInt_mul, Int32.toInt_toInt64, Int64.toInt_add, z_m1, Int32.reduceToInt, Int64.reduceToInt, Int32.reduceToNatClampNeg, Int.bmod_def, or_true, true_or, and_true, true_and] <;> omega))
def WM_X8_split (P : Nat) (a j : Nat) : Prop := (P + 1 ≤ a ∧ a < P + 2) ∨ (P + 4 ≤ a ∧ a < P + 5) ∨ (P + 11 ≤ a ∧ a < P + 18) ∨ (a = P ∧ (j = 6 ∨ j = 9 ∨ j = 12 ∨ j = 33))
theorem wz_M_X8_refuse_X8_split {P a j : Nat} (h : ¬ WM_X8_split P a j) : ¬ WM_X8_refuse P a j := by unfold WM_X8_refuse; unfold WM_X8_split at h; omega
theorem wz_M_X8_keeps_X8_split {P a j : Nat} (h : ¬ WM_X8_split P a j) : ¬ WM_X8_keeps P a j := by unfold WM_X8_keeps; unfold WM_X8_split at h; omega
theorem wz_M_X8_splits_X8_split {P a j : Nat} (h : ¬ WM_X8_split P a j) : ¬ WM_X8_splits P a j := by unfold WM_X8_splits; unfold WM_X8_split at h; omega
theorem wz_M_X8_laysApplicants_X8_split {P a j : Nat} (h : ¬ WM_X8_split P a j) : ¬ WM_X8_laysApplicants P a j := by unfold WM_X8_laysApplicants; unfold WM_X8_split at h; omega
theorem wz_M_X8_gives_X8_split {P a j : Nat} (h : ¬ WM_X8_split P a j) : ¬ WM_X8_gives P a j := by unfold WM_X8_gives; unfold WM_X8_split at h; omega
set_option maxRecDepth 100000 in
set_option maxHeartbeats 4000000 in
theorem v_X8_split {P : Nat} {v0 : Int32} {M0 : zMt}  (p_jB : jB P M0) (p_jS : jS P M0) (p_jR : jR P M0) (p_jK : jK P M0) (p_jT : jT P M0) : ∃ r, D_X8_split P v0 M0 = some r ∧ ((∀ a j, ¬ WM_X8_split P a j → r.2 a j = M0 a j) ∧ ((jB P r.2) ∧ (jS P r.2) ∧ (jR P r.2) ∧ (jK P r.2) ∧ (jT P r.2))) := by
  obtain ⟨u0_jB, u1_jB, u2_jB, u3_jB, u4_jB, u5_jB⟩ := id p_jB
  obtain ⟨u0_jS, u1_jS, u2_jS, u3_jS, u4_jS, u5_jS, u6_jS, u7_jS⟩ := jS.ints p_jS
  obtain ⟨u0_jT, u1_jT, u2_jT, u3_jT, u4_jT, u5_jT⟩ := id p_jT
  unfold D_X8_split
  refine vB (v_X8_isParty p_jS) (fun e_2 f_2 q_2 => ?_)
  have b_2 := q_2.1
  have x0_2 := q_2.2
  (try simp only [Int32.toInt_add, Int32.toInt_sub, Int32.toInt_mul, Int32.toInt_toInt64, Int64.toInt_add, z_m1, Int32.reduceToInt, Int64.reduceToInt, Int32.reduceToNatClampNeg, Int.bmod_def] at x0_2)
  refine vIf (fun h_5 => ?_) (fun h_5 => ?_)
  · have i_5 := congrArg Int32.toInt h_5
    (try simp only [Int32.toInt_add, Int32.toInt_sub, Int32.toInt_mul, Int32.toInt_toInt64, Int64.toInt_add, z_m1, Int32.reduceToInt, Int64.reduceToInt, Int32.reduceToNatClampNeg, Int.bmod_def] at i_5)
    refine vB (v_X8_refuse) (fun e_10 f_10 q_10 => ?_)
    have k_10 : ∀ a j, ¬ WM_X8_split P a j → e_10.2 a j = M0 a j := fun a j h => (q_10 a j (wz_M_X8_refuse_X8_split h))
    have c7_10 : Int32.toInt (e_10.2 P 7) = Int32.toInt (M0 P 7) := congrArg Int32.toInt (q_10 P 7 (wc_X8_refuse_7))
    have c8_10 : Int32.toInt (e_10.2 P 8) = Int32.toInt (M0 P 8) := congrArg Int32.toInt (q_10 P 8 (wc_X8_refuse_8))
    have c33_10 : Int32.toInt (e_10.2 P 33) = Int32.toInt (M0 P 33) := congrArg Int32.toInt (q_10 P 33 (wc_X8_refuse_33))
    have n_10 : nA P e_10.2 = nA P M0 := nA_congr (fun a j h => q_10 a j (wf_nA_X8_refuse h))
    have p_jB_10 : jB P e_10.2 := jB.mono p_jB (fun a j h => q_10 a j (wf_jB_X8_refuse h))
    obtain ⟨u0_jB_10, u1_jB_10, u2_jB_10, u3_jB_10, u4_jB_10, u5_jB_10⟩ := id p_jB_10
    have p_jS_10 : jS P e_10.2 := jS.mono p_jS (fun a j h => q_10 a j (wf_jS_X8_refuse h))
    obtain ⟨u0_jS_10, u1_jS_10, u2_jS_10, u3_jS_10, u4_jS_10, u5_jS_10, u6_jS_10, u7_jS_10⟩ := jS.ints p_jS_10
    have p_jR_10 : jR P e_10.2 := jR.mono p_jR (fun a j h => q_10 a j (wf_jR_X8_refuse h))
    have p_jK_10 : jK P e_10.2 := jK.mono p_jK (fun a j h => q_10 a j (wf_jK_X8_refuse h))
    have p_jT_10 : jT P e_10.2 := jT.mono p_jT (fun a j h => q_10 a j (wf_jT_X8_refuse h))
    obtain ⟨u0_jT_10, u1_jT_10, u2_jT_10, u3_jT_10, u4_jT_10, u5_jT_10⟩ := id p_jT_10
    exact ⟨_, rfl, k_10, ⟨p_jB_10, p_jS_10, p_jR_10, p_jK_10, p_jT_10⟩⟩
  · have i_5 : ¬ Int32.toInt e_2 = Int32.toInt (0 : Int32) := fun q => h_5 (Int32.toInt_inj.mp q)
    (try simp only [Int32.toInt_add, Int32.toInt_sub, Int32.toInt_mul, Int32.toInt_toInt64, Int64.toInt_add, z_m1, Int32.reduceToInt, Int64.reduceToInt, Int32.reduceToNatClampNeg, Int.bmod_def] at i_5)
    refine vB (v_X8_keeps p_jB p_jS p_jK p_jT) (fun e_15 f_15 q_15 => ?_)
    have k_15 : ∀ a j, ¬ WM_X8_split P a j → e_15 a j = M0 a j := fun a j h => (q_15.1 a j (wz_M_X8_keeps_X8_split h))
    have c7_15 : Int32.toInt (e_15 P 7) = Int32.toInt (M0 P 7) := congrArg Int32.toInt (q_15.1 P 7 (wc_X8_keeps_7))
    have c8_15 : Int32.toInt (e_15 P 8) = Int32.toInt (M0 P 8) := congrArg Int32.toInt (q_15.1 P 8 (wc_X8_keeps_8))
    have c33_15 : Int32.toInt (e_15 P 33) = Int32.toInt (M0 P 33) := congrArg Int32.toInt (q_15.1 P 33 (wc_X8_keeps_33))
    have n_15 : nA P e_15 = nA P M0 := nA_congr (fun a j h => q_15.1 a j (wf_nA_X8_keeps h))
    have p_jB_15 : jB P e_15 := jB.mono p_jB (fun a j h => q_15.1 a j (wf_jB_X8_keeps h))
    obtain ⟨u0_jB_15, u1_jB_15, u2_jB_15, u3_jB_15, u4_jB_15, u5_jB_15⟩ := id p_jB_15
    have p_jS_15 : jS P e_15 := jS.mono p_jS (fun a j h => q_15.1 a j (wf_jS_X8_keeps h))
    obtain ⟨u0_jS_15, u1_jS_15, u2_jS_15, u3_jS_15, u4_jS_15, u5_jS_15, u6_jS_15, u7_jS_15⟩ := jS.ints p_jS_15
    have p_jR_15 : jR P e_15 := jR.mono p_jR (fun a j h => q_15.1 a j (wf_jR_X8_keeps h))
    obtain ⟨x0_15, x1_15⟩ := q_15.2
    obtain ⟨u0_jT_15, u1_jT_15, u2_jT_15, u3_jT_15, u4_jT_15, u5_jT_15⟩ := id x1_15
    refine vB (v_X8_splits p_jB_15 p_jS_15 (by first | omega | (simp only [Int32.toInt_add, Int32.toInt_sub, Int32.toInt_mul, Int32.toInt_toInt64, Int64.toInt_add, z_m1, Int32.reduceToInt, Int64.reduceToInt, Int32.reduceToNatClampNeg, Int.bmod_def, or_true, true_or, and_true, true_and] <;> omega)) (by rw [q_15.1 (P + 1) 70 (by unfold WM_X8_keeps; omega)]; omega)) (fun e_20 f_20 q_20 => ?_)
    have k_20 : ∀ a j, ¬ WM_X8_split P a j → e_20 a j = M0 a j := fun a j h => (q_20.1 a j (wz_M_X8_splits_X8_split h)).trans (k_15 a j h)
    have c7_20 : Int32.toInt (e_20 P 7) = Int32.toInt (e_15 P 7) := congrArg Int32.toInt (q_20.1 P 7 (wc_X8_splits_7))
    have c8_20 : Int32.toInt (e_20 P 8) = Int32.toInt (e_15 P 8) := congrArg Int32.toInt (q_20.1 P 8 (wc_X8_splits_8))
    have c33_20 : Int32.toInt (e_20 P 33) = Int32.toInt (e_15 P 33) := congrArg Int32.toInt (q_20.1 P 33 (wc_X8_splits_33))
    have p_jB_20 : jB P e_20 := jB.mono p_jB_15 (fun a j h => q_20.1 a j (wf_jB_X8_splits h))
    obtain ⟨u0_jB_20, u1_jB_20, u2_jB_20, u3_jB_20, u4_jB_20, u5_jB_20⟩ := id p_jB_20
    have p_jR_20 : jR P e_20 := jR.mono p_jR_15 (fun a j h => q_20.1 a j (wf_jR_X8_splits h))
    have p_jK_20 : jK P e_20 := jK.mono x0_15 (fun a j h => q_20.1 a j (wf_jK_X8_splits h))
    have p_jT_20 : jT P e_20 := jT.mono x1_15 (fun a j h => q_20.1 a j (wf_jT_X8_splits h))
    obtain ⟨u0_jT_20, u1_jT_20, u2_jT_20, u3_jT_20, u4_jT_20, u5_jT_20⟩ := id p_jT_20
    have x0_20 := q_20.2
    obtain ⟨u0_jS_20, u1_jS_20, u2_jS_20, u3_jS_20, u4_jS_20, u5_jS_20, u6_jS_20, u7_jS_20⟩ := jS.ints x0_20
    refine vB (v_X8_laysApplicants p_jB_20 x0_20) (fun e_24 f_24 q_24 => ?_)
    have k_24 : ∀ a j, ¬ WM_X8_split P a j → e_24 a j = M0 a j := fun a j h => (q_24.1 a j (wz_M_X8_laysApplicants_X8_split h)).trans (k_20 a j h)
    have c7_24 : Int32.toInt (e_24 P 7) = Int32.toInt (e_20 P 7) := congrArg Int32.toInt (q_24.1 P 7 (wc_X8_laysApplicants_7))
    have c8_24 : Int32.toInt (e_24 P 8) = Int32.toInt (e_20 P 8) := congrArg Int32.toInt (q_24.1 P 8 (wc_X8_laysApplicants_8))
    have n_24 : nA P e_24 = nA P e_20 := nA_congr (fun a j h => q_24.1 a j (wf_nA_X8_laysApplicants h))
    have p_jR_24 : jR P e_24 := jR.mono p_jR_20 (fun a j h => q_24.1 a j (wf_jR_X8_laysApplicants h))
    have p_jK_24 : jK P e_24 := jK.mono p_jK_20 (fun a j h => q_24.1 a j (wf_jK_X8_laysApplicants h))
    have p_jT_24 : jT P e_24 := jT.mono p_jT_20 (fun a j h => q_24.1 a j (wf_jT_X8_laysApplicants h))
    obtain ⟨u0_jT_24, u1_jT_24, u2_jT_24, u3_jT_24, u4_jT_24, u5_jT_24⟩ := id p_jT_24
    have p_jS_24 : jS P e_24 := jS.mono x0_20 (fun a j h => q_24.1 a j (wf_jS_X8_laysApplicants h))
    obtain ⟨u0_jS_24, u1_jS_24, u2_jS_24, u3_jS_24, u4_jS_24, u5_jS_24, u6_jS_24, u7_jS_24⟩ := jS.ints p_jS_24
    obtain ⟨x0_24, x1_24, x2_24, x3_24⟩ := q_24.2
    obtain ⟨u0_jB_24, u1_jB_24, u2_jB_24, u3_jB_24, u4_jB_24, u5_jB_24⟩ := id x0_24
    (try simp only [Int32.toInt_add, Int32.toInt_sub, Int32.toInt_mul, Int32.toInt_toInt64, Int64.toInt_add, z_m1, Int32.reduceToInt, Int64.reduceToInt, Int32.reduceToNatClampNeg, Int.bmod_def] at x3_24)
    refine vB (v_X8_gives) (fun e_32 f_32 q_32 => ?_)
    have k_32 : ∀ a j, ¬ WM_X8_split P a j → e_32.2 a j = M0 a j := fun a j h => (q_32 a j (wz_M_X8_gives_X8_split h)).trans (k_24 a j h)
    have c7_32 : Int32.toInt (e_32.2 P 7) = Int32.toInt (e_24 P 7) := congrArg Int32.toInt (q_32 P 7 (wc_X8_gives_7))
    have c8_32 : Int32.toInt (e_32.2 P 8) = Int32.toInt (e_24 P 8) := congrArg Int32.toInt (q_32 P 8 (wc_X8_gives_8))
    have c33_32 : Int32.toInt (e_32.2 P 33) = Int32.toInt (e_24 P 33) := congrArg Int32.toInt (q_32 P 33 (wc_X8_gives_33))
    have n_32 : nA P e_32.2 = nA P e_24 := nA_congr (fun a j h => q_32 a j (wf_nA_X8_gives h))
    have p_jR_32 : jR P e_32.2 := jR.mono p_jR_24 (fun a j h => q_32 a j (wf_jR_X8_gives h))
    have p_jK_32 : jK P e_32.2 := jK.mono p_jK_24 (fun a j h => q_32 a j (wf_jK_X8_gives h))
    have p_jT_32 : jT P e_32.2 := jT.mono p_jT_24 (fun a j h => q_32 a j (wf_jT_X8_gives h))
    obtain ⟨u0_jT_32, u1_jT_32, u2_jT_32, u3_jT_32, u4_jT_32, u5_jT_32⟩ := id p_jT_32
    have p_jS_32 : jS P e_32.2 := jS.mono p_jS_24 (fun a j h => q_32 a j (wf_jS_X8_gives h))
    obtain ⟨u0_jS_32, u1_jS_32, u2_jS_32, u3_jS_32, u4_jS_32, u5_jS_32, u6_jS_32, u7_jS_32⟩ := jS.ints p_jS_32
    have p_jB_32 : jB P e_32.2 := jB.mono x0_24 (fun a j h => q_32 a j (wf_jB_X8_gives h))
    obtain ⟨u0_jB_32, u1_jB_32, u2_jB_32, u3_jB_32, u4_jB_32, u5_jB_32⟩ := id p_jB_32
    have p_jL_32 : jL P e_32.2 := jL.mono x1_24 (fun a j h => q_32 a j (wf_jL_X8_gives h))
    have p_jH_32 : jH P e_32.2 := jH.mono x2_24 (fun a j h => q_32 a j (wf_jH_X8_gives h))
    exact ⟨_, rfl, k_32, ⟨p_jB_32, p_jS_32, p_jR_32, p_jK_32, p_jT_32⟩⟩
