theorem h_X8_laysJoined {P h o m a1 a2 : Nat} {M0 : zMt} (hB : jB P M0) (hS : jS P M0) (hm : (M0 P 33).toInt = m) (m8 : m ≤ 8) (hh : (h : Int) < (M0 P 8).toInt) (hoo : (o : Int) < (M0 P 8).toInt) (hne : h ≠ o) (hJ : jQ P (M0 P 8).toInt M0 m) (ha1 : a1 < m) (e1 : M0 (P + 11) a1 = (1 : Int32) <<< (nI h &&& 31)) (ha2 : a2 < m) (e2 : M0 (P + 11) a2 = (1 : Int32) <<< (nI o &&& 31)) : ∃ r, D_X8_laysJoined P (nI h) (nI o) M0 = some r ∧ ((∀ x j, ¬ WA P x j → r.2 x j = M0 x j) ∧ jB P r.2 ∧ jL P r.2 ∧ (r.2 P 33).toInt ≤ 7 ∧ 0 ≤ r.1.toInt ∧ r.1.toInt < 7) := by
  obtain ⟨b1, b2, b3, b4, b5, b6⟩ := id hB
  have h12 : a1 ≠ a2 := fun z => by
    subst z
    rw [e1] at e2
    have q1 := (bitAt_one h (by omega) h (by omega)).mpr rfl
    rw [e2] at q1
    exact hne ((bitAt_one o (by omega) h (by omega)).mp q1).symm
  -- all are laid
  have L133 : ∀ (u i w mm : Nat) (M : zMt), w < 7 → mm ≤ 7 → (M P 33).toInt = mm → i ≤ mm → mm - i < u → (∀ x j, ¬ WA P x j → M x j = M0 x j) → jQ P (M0 P 8).toInt M mm → (∀ a : Nat, a < i → 1 ≤ (M (P + 14) a).toInt ∧ (M (P + 14) a).toInt ≤ 10 ∧ 1 ≤ (M (P + 17) a).toInt ∧ (M (P + 17) a).toInt ≤ 401) → ∃ r, D_X8_laysJoined_133 P u (nI w) (nI i) M = some r ∧ ((∀ x j, ¬ WA P x j → r.2 x j = M0 x j) ∧ jB P r.2 ∧ jL P r.2 ∧ (r.2 P 33).toInt ≤ 7 ∧ 0 ≤ r.1.toInt ∧ r.1.toInt < 7) := by
    intro u
    induction u with
    | zero => intro i w mm M h1 h2 h3 h4 h5; omega
    | succ u ih =>
      intro i w mm M hw hmm h33 hi hu k hQ hT
      have e8 : M P 8 = M0 P 8 := k P 8 (by unfold WA; omega)
      have e7 : M P 7 = M0 P 7 := k P 7 (by unfold WA; omega)
      have hit : (nI i).toInt = i := nI_toInt (by omega)
      have hwt : (nI w).toInt = w := nI_toInt (by omega)
      have hBM : jB P M := by
        unfold jB
        rw [e8, e7]
        exact ⟨b1, b2, b3, b4, by omega, by omega⟩
      rw [D_X8_laysJoined_133]
      refine vIf (fun hc => ?_) (fun hc => ?_)
      · have hge := Int32.le_iff_toInt_le.mp hc
        rw [hit] at hge
        refine ⟨_, rfl, k, hBM, ?_, ?_, ?_, ?_⟩
        · intro a ha
          have ha' : (a : Int) < (M P 33).toInt := ha
          obtain ⟨q1, q2, _⟩ := hQ a (by omega)
          obtain ⟨q4, q5, q6, q7⟩ := hT a (by omega)
          exact ⟨q1, q2, q4, q5, q6, q7⟩
        · show (M P 33).toInt ≤ 7
          omega
        · show 0 ≤ (nI w).toInt
          omega
        · show (nI w).toInt < 7
          omega
      · have hlt := Int32.lt_iff_toInt_lt.mp (Int32.not_le.mp hc)
        rw [hit] at hlt
        have hSM : jS P M := hS.mono (fun a j h => k a j (by unfold WA; omega))
        refine vB (v_X8_laysOne (a := i) hBM hSM (by omega) (by
          obtain ⟨_, _, x, hx, hb⟩ := hQ i (by omega)
          exact ⟨x, by rw [e8]; omega, hb⟩)) (fun M1 f1 q1 => ?_)
        obtain ⟨k1, t1, t2, t3, t4⟩ := q1
        rw [nI_1]
        refine ih (i + 1) w mm M1 hw hmm (by rw [k1 P 33 (by unfold WL1; omega)]; exact h33) (by omega) (by omega) (fun x j h => (k1 x j (by unfold WL1; unfold WA at h; omega)).trans (k x j h)) (fun a ha => ?_) (fun a ha => ?_)
        · rw [k1 (P + 13) a (by unfold WL1; omega), k1 (P + 11) a (by unfold WL1; omega)]
          exact hQ a ha
        · by_cases q : a = i
          · subst q; exact ⟨t1, t2, t3, t4⟩
          · rw [k1 (P + 14) a (by unfold WL1; omega), k1 (P + 17) a (by unfold WL1; omega)]
            exact hT a (by omega)
  -- all but the two come down
  have L5 : ∀ (u k w : Nat) (M : zMt), k ≤ m → m - k < u → w + (if a1 < k then 1 else 0) + (if a2 < k then 1 else 0) ≤ k → (∀ x j, ¬ WA P x j → M x j = M0 x j) → M P 33 = M0 P 33 → jQ P (M0 P 8).toInt M w → (∀ a, k ≤ a → M (P + 11) a = M0 (P + 11) a ∧ M (P + 13) a = M0 (P + 13) a) → ∃ r, D_X8_laysJoined_5 P u (nI h) (nI o) (nI w) (nI k) M = some r ∧ ((∀ x j, ¬ WA P x j → r.2 x j = M0 x j) ∧ jB P r.2 ∧ jL P r.2 ∧ (r.2 P 33).toInt ≤ 7 ∧ 0 ≤ r.1.toInt ∧ r.1.toInt < 7) := by
    intro u
    induction u with
    | zero => intro k w M h1 h2; omega
    | succ u ih =>
      intro k w M hk hu hc kk h33 hQ hr
      have hkt : (nI k).toInt = k := nI_toInt (by omega)
      have hwk : w ≤ k := by omega
      have hcw : (nI w).toNatClampNeg = w := nI_clamp (by omega)
      have hck : (nI k).toNatClampNeg = k := nI_clamp (by omega)
      rw [D_X8_laysJoined_5, h33]
      refine vIf (fun hg => ?_) (fun hg => ?_)
      · have hge := Int32.le_iff_toInt_le.mp hg
        rw [hkt, hm] at hge
        have hkm : k = m := by omega
        subst hkm
        rw [if_pos ha1, if_pos ha2] at hc
        have vw : vp_in (nI w) 10 := vp_in_nI (by omega) (by decide)
        refine vI vw ?_
        rw [hcw]
        refine vLm (W := WA P) (M0 := M0) (fun x j h => (zu_ne (by unfold WA at h; omega)).trans (kk x j h)) (fun M1 f1 k1 => ?_)
        refine vI vw ?_
        refine vLm (W := WA P) (M0 := M0) (fun x j h => (zu_ne (by unfold WA at h; omega)).trans (k1 x j h)) (fun M2 f2 k2 => ?_)
        refine vI vw ?_
        refine vLm (W := WA P) (M0 := M0) (fun x j h => (zu_ne (by unfold WA at h; omega)).trans (k2 x j h)) (fun M3 f3 k3 => ?_)
        rw [nI_1]
        refine vLm (W := WA P) (M0 := M0) (fun x j h => (zu_ne (by unfold WA at h; omega)).trans (k3 x j h)) (fun M4 f4 k4 => ?_)
        have f11 : ∀ a : Nat, a < w → M4 (P + 11) a = M (P + 11) a := fun a ha => by rw [← f4, zu_ne (by omega), ← f3, zu_ne (by omega), ← f2, zu_ne (by omega), ← f1, zu_ne (by omega)]
        have f13 : ∀ a : Nat, a < w → M4 (P + 13) a = M (P + 13) a := fun a ha => by rw [← f4, zu_ne (by omega), ← f3, zu_ne (by omega), ← f2, zu_ne (by omega), ← f1, zu_ne (by omega)]
        have f11c : M4 (P + 11) w = ((1 : Int32) <<< (nI h &&& 31)) ||| ((1 : Int32) <<< (nI o &&& 31)) := by rw [← f4, zu_ne (by omega), ← f3, zu_ne (by omega), ← f2, zu_ne (by omega), ← f1, zu_eq]
        have f13c : M4 (P + 13) w = nI (20 + 3 * h) := by
          rw [← f4, zu_ne (by omega), ← f3, zu_eq, n_mul3, show (20 : Int32) = nI 20 from rfl, nI_add]
        refine L133 zFu 0 w (w + 1) M4 (by omega) (by omega) (by rw [← f4, zu_eq, nI_toInt (by omega)]) (by omega) (by unfold zFu; omega) k4 ?_ (fun a ha => absurd ha (Nat.not_lt_zero a))
        refine hQ.put (fun a ha => ⟨f13 a ha, f11 a ha⟩) ⟨?_, ?_, h, hh, ?_⟩
        · rw [f13c, nI_toInt (by omega)]; omega
        · rw [f13c, nI_toInt (by omega)]; omega
        · rw [f11c, bitAt_or (by omega)]
          exact Or.inl ((bitAt_one h (by omega) h (by omega)).mpr rfl)
      · have hlt := Int32.lt_iff_toInt_lt.mp (Int32.not_le.mp hg)
        rw [hkt, hm] at hlt
        have vk : vp_in (nI k) 10 := vp_in_nI (by omega) (by decide)
        have vw : vp_in (nI w) 10 := vp_in_nI (by omega) (by decide)
        have hrk := hr k (by omega)
        refine vI vk ?_
        rw [hck, hcw, hrk.1]
        have hsk : w + (if a1 < k + 1 then 1 else 0) + (if a2 < k + 1 then 1 else 0) ≤ k + 1 := by
          by_cases q1 : a1 < k
          · rw [if_pos q1] at hc
            rw [if_pos (show a1 < k + 1 by omega)]
            by_cases q2 : a2 < k
            · rw [if_pos q2] at hc; rw [if_pos (show a2 < k + 1 by omega)]; omega
            · rw [if_neg q2] at hc; split <;> omega
          · rw [if_neg q1] at hc
            by_cases q2 : a2 < k
            · rw [if_pos q2] at hc; rw [if_pos (show a2 < k + 1 by omega)]; split <;> omega
            · rw [if_neg q2] at hc
              by_cases z : a1 = k
              · rw [if_neg (show ¬ a2 < k + 1 by omega)]; split <;> omega
              · rw [if_neg (show ¬ a1 < k + 1 by omega)]; split <;> omega
        have T85 : ∃ r, D_X8_laysJoined_85 P (D_X8_laysJoined_5 P u) (nI h) (nI o) (nI w) (nI k) M = some r ∧ ((∀ x j, ¬ WA P x j → r.2 x j = M0 x j) ∧ jB P r.2 ∧ jL P r.2 ∧ (r.2 P 33).toInt ≤ 7 ∧ 0 ≤ r.1.toInt ∧ r.1.toInt < 7) := by
          unfold D_X8_laysJoined_85
          rw [nI_1]
          exact ih (k + 1) w M (by omega) (by omega) hsk kk h33 hQ (fun a ha => hr a (by omega))
        refine vIf (fun _ => T85) (fun hn1 => ?_)
        refine vI vk ?_
        refine vIf (fun _ => T85) (fun hn2 => ?_)
        have hk1 : k ≠ a1 := fun z => by subst z; exact hn1 e1
        have hk2 : k ≠ a2 := fun z => by subst z; exact hn2 e2
        refine vI vk (vI vw ?_)
        refine vLm (W := WA P) (M0 := M0) (fun x j h => (zu_ne (by unfold WA at h; omega)).trans (kk x j h)) (fun M1 f1 k1 => ?_)
        refine vI vk (vI vw ?_)
        refine vLm (W := WA P) (M0 := M0) (fun x j h => (zu_ne (by unfold WA at h; omega)).trans (k1 x j h)) (fun M2 f2 k2 => ?_)
        refine vI vk (vI vw ?_)
        refine vLm (W := WA P) (M0 := M0) (fun x j h => (zu_ne (by unfold WA at h; omega)).trans (k2 x j h)) (fun M3 f3 k3 => ?_)
        unfold D_X8_laysJoined_85
        rw [nI_1, nI_1]
        have f11 : ∀ a : Nat, a ≠ w → M3 (P + 11) a = M (P + 11) a := fun a ha => by rw [← f3, zu_ne (by omega), ← f2, zu_ne (by omega), ← f1, zu_ne (by omega)]
        have f13 : ∀ a : Nat, a ≠ w → M3 (P + 13) a = M (P + 13) a := fun a ha => by rw [← f3, zu_ne (by omega), ← f2, zu_ne (by omega), ← f1, zu_ne (by omega)]
        have f11c : M3 (P + 11) w = M0 (P + 11) k := by rw [← f3, zu_ne (by omega), ← f2, zu_ne (by omega), ← f1, zu_eq]
        have f13c : M3 (P + 13) w = M0 (P + 13) k := by
          rw [← f3, zu_eq, ← f2, zu_ne (by omega), ← f1, zu_ne (by omega)]
          exact hrk.2
        refine ih (k + 1) (w + 1) M3 (by omega) (by omega) ?_ k3 ?_ ?_ (fun a ha => ?_)
        · by_cases q1 : a1 < k
          · rw [if_pos q1] at hc
            rw [if_pos (show a1 < k + 1 by omega)]
            by_cases q2 : a2 < k
            · rw [if_pos q2] at hc; rw [if_pos (show a2 < k + 1 by omega)]; omega
            · rw [if_neg q2] at hc; rw [if_neg (show ¬ a2 < k + 1 by omega)]; omega
          · rw [if_neg q1] at hc
            rw [if_neg (show ¬ a1 < k + 1 by omega)]
            by_cases q2 : a2 < k
            · rw [if_pos q2] at hc; rw [if_pos (show a2 < k + 1 by omega)]; omega
            · rw [if_neg q2] at hc; rw [if_neg (show ¬ a2 < k + 1 by omega)]; omega
        · rw [← f3, zu_ne (by omega), ← f2, zu_ne (by omega), ← f1, zu_ne (by omega)]; exact h33
        · refine hQ.put (fun a ha => ⟨f13 a (by omega), f11 a (by omega)⟩) ?_
          rw [f11c, f13c]
          exact hJ k (by omega)
        · rw [f11 a (by omega), f13 a (by omega)]
          exact hr a (by omega)
  unfold D_X8_laysJoined
  refine L5 zFu 0 0 M0 (by omega) (by unfold zFu; omega) ?_ (fun _ _ _ => rfl) rfl (fun a ha => absurd ha (Nat.not_lt_zero a)) (fun _ _ => ⟨rfl, rfl⟩)
  rw [if_neg (Nat.not_lt_zero a1), if_neg (Nat.not_lt_zero a2)]
  omega
