/-! a party is read -/
/-- parties are told to the hunters below k -/
def jRowQ (r : Nat → Int32) (U H G : Int) (k : Nat) (s : Int32) : Prop :=
  (∀ h : Nat, h < 10 → 0 ≤ (r h).toInt ∧ (r h).toInt ≤ 20) ∧
  (∀ h : Nat, h < 10 → -1 ≤ (r (10 + h)).toInt ∧ (r (10 + h)).toInt < G + 1 ∧ ((h : Int) < H ∨ (r (10 + h)).toInt = -1)) ∧
  (∀ k : Nat, 20 ≤ k → k < 62 → -1 ≤ (r k).toInt ∧ (r k).toInt < U) ∧
  (∀ u : Nat, u < 5 → 0 ≤ (r (62 + u)).toInt ∧ (r (62 + u)).toInt ≤ 20) ∧
  (0 ≤ (r 67).toInt ∧ (r 67).toInt ≤ 2 ∧ 0 ≤ (r 68).toInt ∧ (r 68).toInt ≤ 100 ∧ 0 ≤ (r 69).toInt ∧ (r 69).toInt ≤ 100) ∧
  (∀ p : Nat, (p : Int) < G → ∃ h : Nat, (h : Int) < H ∧ (r (10 + h)).toInt = p) ∧
  (∀ h : Nat, k ≤ h → (h : Int) < H → bitAt s h → (r (10 + h)).toInt = -1) ∧
  ((∃ h : Nat, (h : Int) < H ∧ (r (10 + h)).toInt = G) ∨ ∃ h : Nat, k ≤ h ∧ (h : Int) < H ∧ bitAt s h)
theorem jRowQ.fin {r : Nat → Int32} {U H G : Int} {k : Nat} {s : Int32} (h : jRowQ r U H G k s) (hk : H ≤ k) : jRowP r U H (G + 1) := by
  obtain ⟨s1, s2, s3, s4, s5, s6, s7, s8⟩ := h
  refine ⟨s1, s2, s3, s4, s5, fun p hp => ?_⟩
  by_cases q : (p : Int) < G
  · exact s6 p q
  · rcases s8 with ⟨x, h1, h2⟩ | ⟨x, h1, h2, _⟩
    · exact ⟨x, h1, by omega⟩
    · omega
theorem jRowQ.skip {r : Nat → Int32} {U H G : Int} {k : Nat} {s : Int32} (h : jRowQ r U H G k s) (hb : ¬ bitAt s k) : jRowQ r U H G (k + 1) s := by
  obtain ⟨s1, s2, s3, s4, s5, s6, s7, s8⟩ := h
  refine ⟨s1, s2, s3, s4, s5, s6, fun x hx => s7 x (by omega), ?_⟩
  rcases s8 with q | ⟨x, h1, h2, h3⟩
  · exact Or.inl q
  · have : x ≠ k := fun z => hb (z ▸ h3)
    exact Or.inr ⟨x, by omega, h2, h3⟩
theorem jRowQ.wr {r r' : Nat → Int32} {U H G : Int} {k : Nat} {s : Int32} (h : jRowQ r U H G k s) (hk : (k : Int) < H) (hH : H ≤ 10) (hG : 0 ≤ G) (hb : bitAt s k) (e : ∀ j, ¬ j = 10 + k → r' j = r j) (e1 : (r' (10 + k)).toInt = G) : jRowQ r' U H G (k + 1) s := by
  obtain ⟨s1, s2, s3, s4, s5, s6, s7, s8⟩ := h
  have hm := s7 k (Nat.le_refl k) hk hb
  refine ⟨fun x hx => ?_, fun x hx => ?_, fun x h1 h2 => ?_, fun x hx => ?_, ?_, fun p hp => ?_, fun x h1 h2 h3 => ?_, Or.inl ⟨k, hk, e1⟩⟩
  · rw [e x (by omega)]; exact s1 x hx
  · by_cases q : x = k
    · subst q; omega
    · rw [e (10 + x) (by omega)]; exact s2 x hx
  · rw [e x (by omega)]; exact s3 x h1 h2
  · rw [e (62 + x) (by omega)]; exact s4 x hx
  · rw [e 67 (by omega), e 68 (by omega), e 69 (by omega)]; exact s5
  · obtain ⟨x, h1, h2⟩ := s6 p hp
    have : x ≠ k := fun z => by subst z; omega
    exact ⟨x, h1, by rw [e (10 + x) (by omega)]; exact h2⟩
  · rw [e (10 + x) (by omega)]; exact s7 x (by omega) h2 h3
theorem w_party161 {P : Nat} {x : Int64} {s : Int32} : ∀ (u k : Nat) (M : zMt) (N : zNt), jY P M → (M P 30).toInt ≤ 3 → (k : Int) ≤ (M P 29).toInt → 10 - k < u → jRowQ (M (P + 2)) (M P 28).toInt (M P 29).toInt (M P 30).toInt k s → ∃ r, D_X8_readParty_161 P u x s (nI k) M N = some r ∧ ((∀ a j, ¬ (a = P + 2 ∨ (a = P ∧ j = 30)) → r.2.1 a j = M a j) ∧ (∀ a j, ¬ a = P + 10 → r.2.2 a j = N a j) ∧ r.1 = 1 ∧ jY P r.2.1 ∧ jZ P r.2.1) := by
  have o1 : (1 : Int32).toInt = 1 := by decide
  intro u
  induction u with
  | zero => intro k M N _ _ _ h; omega
  | succ u ih =>
    intro k M N hY hG hk hu hQ
    obtain ⟨y1, y2, y3, y4, y5, y6⟩ := id hY
    rw [D_X8_readParty_161]
    refine vIf (fun hc => ?_) (fun hc => ?_)
    · have hc := Int32.le_iff_toInt_le.mp hc
      rw [nI_toInt (by omega)] at hc
      refine vI (vp_of (by omega) (by omega)) ?_
      refine vLn (W := fun a _ => a = P + 10) (M0 := N) (fun a j (h : ¬ a = P + 10) => zu_ne (by omega)) (fun N1 fN kN => ?_)
      refine vLm (W := fun a j => a = P ∧ j = 30) (M0 := M) (fun a j (h : ¬ (a = P ∧ j = 30)) => zu_ne (by omega)) (fun M1 fM kM => ?_)
      have kM : ∀ a j, ¬ (a = P ∧ j = 30) → M1 a j = M a j := kM
      have e30 : (M P 30 + 1).toInt = (M P 30).toInt + 1 := by rw [z_add (by rw [o1]; omega) (by rw [o1]; omega), o1]
      refine ⟨_, rfl, fun a j h => kM a j (by omega), kN, rfl, jY.put hY fM (Or.inr (Or.inr ⟨rfl, by omega, by omega⟩)), ?_⟩
      show jZ P M1
      unfold jZ
      rw [kM P 28 (by omega), kM P 29 (by omega), show M1 (P + 2) = M (P + 2) from funext fun j => kM (P + 2) j (by omega), show M1 P 30 = M P 30 + 1 by rw [← fM, zu_eq], e30]
      exact hQ.fin hc
    · have hlt : (k : Int) < (M P 29).toInt := by
        have := Int32.lt_iff_toInt_lt.mp (Int32.not_le.mp hc)
        rw [nI_toInt (by omega)] at this
        exact this
      refine vB v_X8_has (fun e f q => ?_)
      refine vIf (fun h1 => ?_) (fun h1 => ?_)
      · unfold D_X8_readParty_193
        rw [nI_1]
        have hb : ¬ bitAt s k := fun hb => by
          rcases q.2 with ⟨a, _⟩ | ⟨_, b⟩
          · rw [a] at h1; exact absurd h1 (by decide)
          · exact b hb
        exact ih (k + 1) M N hY hG (by omega) (by omega) (hQ.skip hb)
      · have hb : bitAt s k := by
          rcases q.2 with ⟨_, b⟩ | ⟨a, _⟩
          · exact b
          · exact absurd a h1
        have e10 : (10 : Int32) + nI k = nI (10 + k) := (show ∀ k, k < 10 → (10 : Int32) + nI k = nI (10 + k) by decide) k (by omega)
        rw [e10]
        refine vI (vp_in_nI (by omega) (by decide)) ?_
        rw [nI_clamp (by omega)]
        refine vLm (W := fun a j => a = P + 2) (M0 := M) (fun a j (h : ¬ a = P + 2) => zu_ne (by omega)) (fun M1 fM kM => ?_)
        have kM : ∀ a j, ¬ a = P + 2 → M1 a j = M a j := kM
        unfold D_X8_readParty_193
        rw [nI_1]
        have hQ' : jRowQ (M1 (P + 2)) (M1 P 28).toInt (M1 P 29).toInt (M1 P 30).toInt (k + 1) s := by
          rw [kM P 28 (by omega), kM P 29 (by omega), kM P 30 (by omega)]
          exact hQ.wr hlt y4 y5 hb (fun j hj => by rw [← fM]; exact zu_ne (by omega)) (by rw [← fM, zu_eq])
        obtain ⟨r, h2, h3, h4, h5, h6, h7⟩ := ih (k + 1) M1 N (hY.mono (fun a j h => kM a j (by omega))) (by rw [kM P 30 (by omega)]; exact hG) (by rw [kM P 29 (by omega)]; omega) (by omega) hQ'
        exact ⟨r, h2, fun a j h => (h3 a j h).trans (kM a j (by omega)), h4, h5, h6, h7⟩
def jMt (P : Nat) (M : zMt) (s : Int32) : Prop := ∀ h : Nat, h < 10 → bitAt s h → (h : Int) < (M P 29).toInt ∧ (M (P + 2) (10 + h)).toInt = -1
def jWP (P a j : Nat) : Prop := a = P + 2 ∨ (a = P ∧ ((16 ≤ j ∧ j ≤ 22) ∨ j = 30))
def jWN (P a j : Nat) : Prop := a = P + 10 ∨ (a = P ∧ (j = 24 ∨ j = 32))
def jPG (P : Nat) (M0 : zMt) (N0 : zNt) (r : Int32 × zMt × zNt) : Prop := (∀ a j, ¬ jWP P a j → r.2.1 a j = M0 a j) ∧ (∀ a j, ¬ jWN P a j → r.2.2 a j = N0 a j) ∧ (r.1 = 0 ∨ r.1 = 1) ∧ jX P r.2.1 ∧ jY P r.2.1 ∧ jZ P r.2.1 ∧ (M0 P 17).toInt ≤ (r.2.1 P 17).toInt
theorem w_partyBad {P : Nat} {M0 M : zMt} {N0 N : zNt} {v : Int32} (k : ∀ a j, ¬ jWP P a j → M a j = M0 a j) (kn : ∀ a j, ¬ jWN P a j → N a j = N0 a j) (hX : jX P M) (hY : jY P M) (hZ : jZ P M) (hl : (M0 P 17).toInt ≤ (M P 17).toInt) : ∃ r, (zB (D_X8_bad P v M) fun e => some (e.1, e.2, N)) = some r ∧ jPG P M0 N0 r := by
  refine vB v_X8_bad (fun e f q => ?_)
  obtain ⟨q1, q2, q3⟩ := q
  have k1 : ∀ a j, ¬ (a = P ∧ (j = 21 ∨ j = 22)) → e.2 a j = M a j := q1
  refine ⟨_, rfl, fun a j h => (k1 a j (by unfold jWP at h; omega)).trans (k a j h), kn, q2, hX.mono (fun a j h => k1 a j (by omega)), hY.mono (fun a j h => k1 a j (by omega)), hZ.mono (fun a j h => k1 a j (by omega)), ?_⟩
  show _ ≤ (e.2 P 17).toInt
  rw [k1 P 17 (by omega)]
  exact hl
theorem w_party40 {P : Nat} {x : Int64} {M0 : zMt} {N0 : zNt} : ∀ (u : Nat) (s x4 : Int32) (M : zMt) (N : zNt), (∀ a j, ¬ jWP P a j → M a j = M0 a j) → (∀ a j, ¬ jWN P a j → N a j = N0 a j) → jX P M → jY P M → jZ P M → (M0 P 17).toInt ≤ (M P 17).toInt → (M P 30).toInt ≤ 3 → jMt P M s → 0 ≤ x4.toInt → x4.toInt ≤ 4 → (x4.toInt = 0 ∨ ∃ h, h < 10 ∧ bitAt s h) → (4 - x4.toInt).toNat < u → ∃ r, D_X8_readParty_40 P u x s x4 M N = some r ∧ jPG P M0 N0 r := by
  have o1 : (1 : Int32).toInt = 1 := by decide
  have o2 : (2 : Int32).toInt = 2 := by decide
  have o4 : (4 : Int32).toInt = 4 := by decide
  have om : (-1 : Int32).toInt = -1 := by decide
  intro u
  induction u with
  | zero => intro s x4 M N _ _ _ _ _ _ _ _ _ _ _ h; omega
  | succ u ih =>
    intro s x4 M N k kn hX hY hZ hl hG hm h0 h4 hb hu
    obtain ⟨y1, y2, y3, y4, y5, y6⟩ := id hY
    have T53 : ∃ r, D_X8_readParty_53 P (D_X8_readParty_40 P u) x s x4 M N = some r ∧ jPG P M0 N0 r := by
      unfold D_X8_readParty_53
      have B2 : ∃ r, D_X8_readParty_66 P M N = some r ∧ jPG P M0 N0 r := w_partyBad k kn hX hY hZ hl
      have B4 : ∃ r, D_X8_readParty_134 P M N = some r ∧ jPG P M0 N0 r := w_partyBad k kn hX hY hZ hl
      refine vB v_X8_isName (fun e f q => ?_)
      refine vIf (fun _ => B2) (fun _ => ?_)
      refine vIf (fun _ => B2) (fun hx => ?_)
      have hx4 : ¬ x4.toInt = 4 := fun z => hx (Int32.toInt_inj.mp (z.trans o4.symm))
      refine vB (v_X8_found (by omega) (by omega)) (fun e2 f2 q2 => ?_)
      refine vIf (fun _ => B4) (fun h3 => ?_)
      have he : ¬ e2.toInt = -1 := fun z => h3 (Int32.toInt_inj.mp (z.trans om.symm))
      have e20 : 0 ≤ e2.toInt := by omega
      have e2H : e2.toInt < (M P 29).toInt := by omega
      obtain ⟨n, hn⟩ : ∃ n : Nat, e2 = nI n := ⟨_, z_toN e20⟩
      have hnI : n < 2147483648 ∨ True := Or.inr trivial
      have hnn : (e2.toInt.toNat : Int) = e2.toInt := by omega
      have hn2 : e2 = nI e2.toInt.toNat := z_toN e20
      clear hn hnI n
      revert hn2 hnn
      generalize e2.toInt.toNat = n
      intro hnn hn2
      have hn10 : n < 10 := by omega
      subst hn2
      have e10 : (10 : Int32) + nI n = nI (10 + n) := (show ∀ k, k < 10 → (10 : Int32) + nI k = nI (10 + k) by decide) n hn10
      rw [e10]
      refine vI (vp_in_nI (by omega) (by decide)) ?_
      rw [nI_clamp (by omega)]
      refine vIf (fun h5 => ?_) (fun _ => B4)
      have z20 := z_at20 e20 (by omega)
      refine vI (vp_of (by omega) (by omega)) ?_
      refine vIf (fun h6 => ?_) (fun _ => B4)
      refine vB v_X8_has (fun e3 f3 q3 => ?_)
      refine vIf (fun h7 => ?_) (fun _ => B4)
      refine vB (v_X8_next hX) (fun e4 f4 q4 => ?_)
      obtain ⟨k4, kn4, -, x4', -, l4, -⟩ := q4
      have k4 : ∀ a j, ¬ (a = P ∧ (j = 16 ∨ j = 17 ∨ j = 18 ∨ j = 19 ∨ j = 20)) → e4.2.1 a j = M a j := k4
      have kn4 : ∀ a j, ¬ (a = P ∧ (j = 24)) → e4.2.2 a j = N a j := kn4
      have ex : (x4 + 1).toInt = x4.toInt + 1 := by rw [z_add (by rw [o1]; omega) (by rw [o1]; omega), o1]
      have hbit : ∀ h, h < 10 → (bitAt (s ||| ((1 : Int32) <<< (nI n &&& 31))) h ↔ bitAt s h ∨ n = h) := fun h hh => by
        rw [bitAt_or hh]
        exact or_congr Iff.rfl (bitAt_one n hn10 h hh)
      refine ih _ _ _ _ (fun a j h => (k4 a j (by unfold jWP at h; omega)).trans (k a j h)) (fun a j h => (kn4 a j (by unfold jWN at h; omega)).trans (kn a j h)) x4' (hY.mono (fun a j h => k4 a j (by omega))) (hZ.mono (fun a j h => k4 a j (by omega))) (by omega) (by rw [k4 P 30 (by omega)]; exact hG) ?_ (by omega) (by omega) (Or.inr ⟨n, hn10, (hbit n hn10).mpr (Or.inr rfl)⟩) (by omega)
      intro h hh hs
      rw [k4 P 29 (by omega), k4 (P + 2) (10 + h) (by omega)]
      rcases (hbit h hh).mp hs with q | q
      · exact hm h hh q
      · subst q
        refine ⟨by omega, by rw [h5]; exact om⟩
    rw [D_X8_readParty_40]
    refine vIf (fun _ => T53) (fun hc => ?_)
    have hc2 : 2 ≤ x4.toInt := by
      have := Int32.le_iff_toInt_le.mp (Int32.not_lt.mp hc)
      omega
    refine vB v_X8_isName (fun e f q => ?_)
    refine vIf (fun _ => ?_) (fun _ => T53)
    have hQ : jRowQ (M (P + 2)) (M P 28).toInt (M P 29).toInt (M P 30).toInt 0 s := by
      obtain ⟨s1, s2, s3, s4, s5, s6⟩ := hZ
      refine ⟨s1, fun h hh => ?_, s3, s4, s5, s6, fun h _ hh hs => (hm h (by omega) hs).2, Or.inr ?_⟩
      · have := s2 h hh
        omega
      · rcases hb with z | ⟨h, hh, hs⟩
        · omega
        · exact ⟨h, Nat.zero_le h, (hm h hh hs).1, hs⟩
    obtain ⟨r, h1, h2, h3, h4, h5, h6⟩ := w_party161 (P := P) (x := x) zFu 0 M N hY hG (by omega) (by unfold zFu; omega) hQ
    rw [show nI 0 = (0 : Int32) by decide] at h1
    refine ⟨r, h1, fun a j h => (h2 a j (by unfold jWP at h; omega)).trans (k a j h), fun a j h => (h3 a j (by unfold jWN at h; omega)).trans (kn a j h), Or.inr h4, hX.mono (fun a j h => h2 a j (by omega)), h5, h6, ?_⟩
    rw [h2 P 17 (by omega)]
    exact hl
theorem h_X8_readParty {P : Nat} {M0 : zMt} {N0 : zNt} (hX : jX P M0) (hY : jY P M0) (hZ : jZ P M0) : ∃ r, D_X8_readParty P M0 N0 = some r ∧ jPG P M0 N0 r := by
  have o4 : (4 : Int32).toInt = 4 := by decide
  have o0 : (0 : Int32).toInt = 0 := by decide
  obtain ⟨y1, y2, y3, y4, y5, y6⟩ := id hY
  unfold D_X8_readParty
  refine vIf (fun _ => w_partyBad (fun _ _ _ => rfl) (fun _ _ _ => rfl) hX hY hZ (Int.le_refl _)) (fun hc => ?_)
  have hc4 : ¬ (M0 P 30).toInt = 4 := fun z => hc (Int32.toInt_inj.mp (z.trans o4.symm))
  refine vB (v_X8_next hX) (fun e f q => ?_)
  obtain ⟨k1, kn1, -, hX1, r1, l1, -⟩ := q
  have k1 : ∀ a j, ¬ (a = P ∧ (j = 16 ∨ j = 17 ∨ j = 18 ∨ j = 19 ∨ j = 20)) → e.2.1 a j = M0 a j := k1
  have kn1 : ∀ a j, ¬ (a = P ∧ (j = 24)) → e.2.2 a j = N0 a j := kn1
  have hY1 : jY P e.2.1 := hY.mono (fun a j h => k1 a j (by omega))
  have hZ1 : jZ P e.2.1 := hZ.mono (fun a j h => k1 a j (by omega))
  refine vIf (fun h1 => absurd r1 (by rw [h1]; decide)) (fun _ => ?_)
  refine vB (v_X8_newName hX1 hY1) (fun e2 f2 q2 => ?_)
  obtain ⟨k2, kn2, r2, hX2, l2⟩ := q2
  have k2 : ∀ a j, ¬ (a = P ∧ (j = 16 ∨ j = 17 ∨ j = 18 ∨ j = 19 ∨ j = 20 ∨ j = 21 ∨ j = 22)) → e2.2.1 a j = e.2.1 a j := k2
  have kn2 : ∀ a j, ¬ (a = P ∧ (j = 24 ∨ j = 32)) → e2.2.2 a j = e.2.2 a j := kn2
  have hY2 : jY P e2.2.1 := hY1.mono (fun a j h => k2 a j (by omega))
  have hZ2 : jZ P e2.2.1 := hZ1.mono (fun a j h => k2 a j (by omega))
  have k3 : ∀ a j, ¬ jWP P a j → e2.2.1 a j = M0 a j := fun a j h => (k2 a j (by unfold jWP at h; omega)).trans (k1 a j (by unfold jWP at h; omega))
  have kn3 : ∀ a j, ¬ jWN P a j → e2.2.2 a j = N0 a j := fun a j h => (kn2 a j (by unfold jWN at h; omega)).trans (kn1 a j (by unfold jWN at h; omega))
  refine vIf (fun _ => ⟨_, rfl, k3, kn3, Or.inl rfl, hX2, hY2, hZ2, by show _ ≤ (e2.2.1 P 17).toInt; omega⟩) (fun _ => ?_)
  refine w_party40 zFu _ _ _ _ k3 kn3 hX2 hY2 hZ2 (by omega) ?_ (fun h _ hs => absurd hs bitAt_0) (by decide) (by decide) (Or.inl o0) (by unfold zFu; rw [o0]; omega)
  rw [k2 P 30 (by omega), k1 P 30 (by omega)]
  omega
