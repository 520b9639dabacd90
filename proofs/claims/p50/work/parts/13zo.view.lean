/-! THE POOL'S VIEW: T i j is what the class's pool keeps in its row i; gP says what it can be, mP that the reference has laid the same -/
abbrev tP (Q : Nat) (A : zMt) : zMt := fun i j => A (Q + i) j
/-- small whole numbers -/
def isN (x : Int32) (lo hi : Nat) : Prop := ∃ v : Nat, lo ≤ v ∧ v ≤ hi ∧ x = nI v
theorem isN.i {x : Int32} {lo hi : Nat} (h : isN x lo hi) (hh : hi < 2147483648) : (lo : Int) ≤ x.toInt ∧ x.toInt ≤ hi := by
  obtain ⟨v, h1, h2, h3⟩ := h
  rw [h3, nI_toInt (by omega)]
  omega
theorem isN.of {x : Int32} {lo hi : Nat} (h1 : (lo : Int) ≤ x.toInt) (h2 : x.toInt ≤ hi) : isN x lo hi := by
  have hlt := Int32.toInt_lt x
  refine ⟨x.toInt.toNat, by omega, by omega, Int32.toInt_inj.mp ?_⟩
  rw [nI_toInt (by omega)]
  omega
/-- choices: c of them, units below U, the others none -/
def isW (T : zMt) (a U : Nat) : Prop := ∃ c, c ≤ 3 ∧ T 11 a = nI c ∧ (∀ k, k < c → ∃ u, u < U ∧ T 12 (3 * a + k) = nI u) ∧ (∀ k, c ≤ k → k < 3 → T 12 (3 * a + k) = -1)
def gP (T : zMt) (n U : Nat) : Prop := n ≤ 10 ∧ U ≤ 5 ∧ T 0 1 = nI n ∧ T 0 0 = nI U ∧ (∀ a, a < n → isN (T 5 a) 1 10 ∧ isN (T 7 a) 0 20 ∧ isN (T 8 a) 1 401 ∧ isW T a U) ∧ (T 0 2).toInt = St (T 8) 0 n ∧ ((T 0 3 = 0 ∧ ∀ u, u < U → T 2 u ≤ 0) ∨ (T 0 3 = 1 ∧ ∃ u, u < U ∧ ¬ T 2 u ≤ 0))
def mP (P : Nat) (B : zMt) (T : zMt) (n U : Nat) : Prop := B P 33 = nI n ∧ B P 7 = nI U ∧ (∀ a, a < n → B (P + 11) a = T 9 a ∧ B (P + 12) a = T 10 a ∧ B (P + 14) a = T 5 a ∧ B (P + 15) a = T 6 a ∧ B (P + 16) a = T 7 a ∧ B (P + 17) a = T 8 a ∧ ∃ base, 20 ≤ base ∧ base < 62 ∧ B (P + 13) a = nI base ∧ ∀ k, k < 3 → B (P + 1) (base + k) = T 12 (3 * a + k)) ∧ (∀ u, u < U → B (P + 1) (62 + u) = T 1 u ∧ B (P + 1) (62 + u) * B (P + 1) 68 / 100 = T 2 u ∧ B (P + 1) (62 + u) * B (P + 1) 69 / 100 = T 3 u)
theorem mP.m {P : Nat} {B B' T : zMt} {n U : Nat} (hU5 : U ≤ 5) (w : mP P B T n U) (h0 : B' P 33 = B P 33) (h7 : B' P 7 = B P 7) (h1 : ∀ j, 20 ≤ j → j < 70 → B' (P + 1) j = B (P + 1) j) (k : ∀ i j, P + 11 ≤ i → i ≤ P + 17 → B' i j = B i j) : mP P B' T n U := by
  obtain ⟨w1, w2, w3, w4⟩ := w
  refine ⟨h0.trans w1, h7.trans w2, fun a ha => ?_, fun u hu => ?_⟩
  · obtain ⟨v1, v2, v3, v4, v5, v6, base, b0, b1, b2, b3⟩ := w3 a ha
    exact ⟨(k _ _ (by omega) (by omega)).trans v1, (k _ _ (by omega) (by omega)).trans v2, (k _ _ (by omega) (by omega)).trans v3, (k _ _ (by omega) (by omega)).trans v4, (k _ _ (by omega) (by omega)).trans v5, (k _ _ (by omega) (by omega)).trans v6, base, b0, b1, (k _ _ (by omega) (by omega)).trans b2, fun x hx => (h1 _ (by omega) (by omega)).trans (b3 x hx)⟩
  · rw [h1 (62 + u) (by omega) (by omega), h1 68 (by omega) (by omega), h1 69 (by omega) (by omega)]
    exact w4 u hu
theorem fr_ex {r : Nat → Int32} {a : Nat} : ∀ n, a < fr r n → ∃ h, h < n ∧ r (10 + h) = -1 ∧ fr r h = a
  | 0, ha => absurd ha (Nat.not_lt_zero a)
  | n + 1, ha => by
    have e : fr r (n + 1) = fr r n + (if r (10 + n) = -1 then 1 else 0) := rfl
    by_cases q : a < fr r n
    · obtain ⟨h, h1, h2, h3⟩ := fr_ex n q
      exact ⟨h, by omega, h2, h3⟩
    · by_cases z : r (10 + n) = -1
      · rw [e, if_pos z] at ha
        exact ⟨n, by omega, z, by omega⟩
      · rw [e, if_neg z] at ha
        omega
theorem ap_ex {r : Nat → Int32} {H G a : Nat} (ha : a < fr r H + G) (hG : G ≤ 4) (hp : ∀ p, p < G → ∃ h, h < H ∧ r (10 + h) = nI p) : ∃ h, memb r H a h := by
  by_cases q : a < fr r H
  · obtain ⟨h, h1, h2, h3⟩ := fr_ex H q
    exact ⟨h, h1, Or.inl ⟨h2, h3⟩⟩
  · obtain ⟨h, h1, h2⟩ := hp (a - fr r H) (by omega)
    exact ⟨h, h1, Or.inr ⟨by omega, h2⟩⟩
theorem base_ex {r : Nat → Int32} {H G a : Nat} (hH : H ≤ 10) (ha : a < fr r H + G) (hG : G ≤ 4) : ∃ base, isBase r H a base ∧ 20 ≤ base ∧ base ≤ 59 := by
  by_cases q : a < fr r H
  · obtain ⟨h, h1, h2, h3⟩ := fr_ex H q
    exact ⟨20 + 3 * h, Or.inl ⟨h, h1, h2, h3, rfl⟩, by omega, by omega⟩
  · exact ⟨50 + 3 * (a - fr r H), Or.inr ⟨by omega, rfl⟩, by omega, by omega⟩
theorem base_rng {r : Nat → Int32} {H G a base : Nat} (hH : H ≤ 10) (ha : a < fr r H + G) (hG : G ≤ 4) (hb : isBase r H a base) : 20 ≤ base ∧ base ≤ 59 := by
  rcases hb with ⟨h, h1, h2, h3, h4⟩ | ⟨h1, h2⟩ <;> omega
theorem sm_pts {r : Nat → Int32} {H a : Nat} (hr : ∀ h, h < 10 → 0 ≤ (r h).toInt ∧ (r h).toInt ≤ 20) : ∀ n, n ≤ 10 → 0 ≤ (sm r r H a n).toInt ∧ (sm r r H a n).toInt ≤ 20 * (cnt r H a n)
  | 0, _ => by
    show 0 ≤ (0 : Int32).toInt ∧ (0 : Int32).toInt ≤ 20 * ((0 : Nat) : Int)
    decide
  | n + 1, hn => by
    have ih := sm_pts (H := H) (a := a) hr n (by omega)
    have hc := cnt_le r H a n
    have h0 := hr n (by omega)
    have e1 : sm r r H a (n + 1) = if memb r H a n then sm r r H a n + r n else sm r r H a n := rfl
    have e2 : cnt r H a (n + 1) = if memb r H a n then cnt r H a n + 1 else cnt r H a n := rfl
    rw [e1, e2]
    by_cases q : memb r H a n
    · rw [if_pos q, if_pos q, z_add (by omega) (by omega)]
      omega
    · rw [if_neg q, if_neg q]
      exact ih
theorem sN_rng {r : Nat → Int32} {H a h : Nat} (hm : memb r H a h) (hH : H ≤ 10) : isN (sN r H a) 1 10 := by
  unfold sN
  rw [sm_one]
  have h1 := cnt_pos hm H hm.1
  have h2 := cnt_le r H a H
  exact ⟨_, h1, by omega, rfl⟩
theorem sP_rng {r : Nat → Int32} {H a h : Nat} (hm : memb r H a h) (hH : H ≤ 10) (hr : ∀ h, h < 10 → 0 ≤ (r h).toInt ∧ (r h).toInt ≤ 20) : isN (sP r H a) 0 20 := by
  have h1 := cnt_pos hm H hm.1
  have h2 := cnt_le r H a H
  have h3 := sm_pts (H := H) (a := a) hr H hH
  have e : (sN r H a).toInt = cnt r H a H := by
    unfold sN
    rw [sm_one, nI_toInt (by omega)]
  have := z_div (x := sm r r H a H) (y := sN r H a) (c := 20) h3.1 (by omega) (by rw [e]; exact h3.2) (by omega)
  exact isN.of (by show ((0 : Nat) : Int) ≤ _; exact this.1) this.2
theorem sT_rng {r : Nat → Int32} {H a h : Nat} (hm : memb r H a h) (hH : H ≤ 10) (hr : ∀ h, h < 10 → 0 ≤ (r h).toInt ∧ (r h).toInt ≤ 20) : isN (sT r H a) 1 401 := by
  obtain ⟨p, _, h2, h3⟩ := sP_rng hm hH hr
  have h4 : ∀ p, p ≤ 20 → isN (1 + nI p) 1 401 ∧ isN (1 + nI p * nI p) 1 401 := fun p hp => by
    have e1 : (nI p).toInt = p := nI_toInt (by omega)
    have o1 : (1 : Int32).toInt = 1 := by decide
    have hpp : (p : Int) * (p : Int) ≤ 400 := by
      have := Nat.mul_le_mul hp hp
      have e : ((p * p : Nat) : Int) = (p : Int) * (p : Int) := by exact_mod_cast rfl
      omega
    have hp0 : 0 ≤ (p : Int) * (p : Int) := by
      have e : ((p * p : Nat) : Int) = (p : Int) * (p : Int) := by exact_mod_cast rfl
      omega
    have e2 : (nI p * nI p).toInt = (p : Int) * (p : Int) := by rw [z_mul (by rw [e1]; omega) (by rw [e1]; omega), e1]
    constructor
    · refine isN.of ?_ ?_ <;> rw [z_add (by omega) (by omega), o1, e1] <;> omega
    · refine isN.of ?_ ?_ <;> rw [z_add (by omega) (by omega), o1, e2] <;> omega
  unfold sT
  rw [h3]
  by_cases q0 : r 67 = 0
  · rw [if_pos q0]; exact ⟨1, by omega, by omega, by decide⟩
  · rw [if_neg q0]
    by_cases q1 : r 67 = 1
    · rw [if_pos q1]; exact (h4 p h2).1
    · rw [if_neg q1]; exact (h4 p h2).2
theorem sTs_St {r t : Nat → Int32} {H : Nat} : ∀ n, n ≤ 10 → (∀ a, a < n → t a = sT r H a ∧ isN (t a) 1 401) → (sTs r H n).toInt = St t 0 n
  | 0, _, _ => by show (0 : Int32).toInt = 0; decide
  | n + 1, hn, h => by
    have ih := sTs_St (r := r) (H := H) n (by omega) (fun a ha => h a (by omega))
    obtain ⟨h1, h2⟩ := h n (by omega)
    have h3 := h2.i (by omega)
    have h4 := St_le (t := t) (b := 0) n (fun a ha => by
      have := (h a (by omega)).2.i (by omega)
      omega)
    show (sTs r H n + sT r H n).toInt = St t 0 n + _
    rw [if_neg bit_0, ← h1, z_add (by omega) (by omega), ih]
theorem St_congr {t t' : Nat → Int32} {b : Int32} : ∀ n, (∀ a, a < n → t a = t' a) → St t b n = St t' b n
  | 0, _ => rfl
  | n + 1, h => by
    show St t b n + _ = St t' b n + _
    rw [St_congr n (fun a ha => h a (by omega)), h n (by omega)]
theorem t_view {Q U H G : Nat} {A : zMt} {r g : Nat → Int32} (hH : H ≤ 10) (hG : G ≤ 4) (hU : U ≤ 5) (hFG : fr r H + G ≤ 10) (hR : jRow r U H) (hp : ∀ p, p < G → ∃ h, h < H ∧ r (10 + h) = nI p) (cu : cU Q A r U) (cl : cL Q A r g H G) : gP (tP Q A) (fr r H + G) U := by
  obtain ⟨u1, u2, u3⟩ := cu
  obtain ⟨l1, l2, l3⟩ := cl
  have hT : ∀ a, a < fr r H + G → isN (sT r H a) 1 401 := fun a ha => by
    obtain ⟨h, hm⟩ := ap_ex ha hG hp
    exact sT_rng hm hH hR.1
  refine ⟨hFG, hU, l1, u1, fun a ha => ?_, ?_, u3⟩
  · obtain ⟨h, hm⟩ := ap_ex ha hG hp
    obtain ⟨q1, q2, q3, q4, q5, q6, q7, q8⟩ := l3 a ha
    refine ⟨?_, ?_, ?_, ?_⟩
    · show isN (A (Q + 5) a) 1 10
      rw [q4]; exact sN_rng hm hH
    · show isN (A (Q + 7) a) 0 20
      rw [q6]; exact sP_rng hm hH hR.1
    · show isN (A (Q + 8) a) 1 401
      rw [q7]; exact hT a ha
    · obtain ⟨base, b1, b2, b3⟩ := base_ex hH ha hG
      obtain ⟨c, c1, c2, c3, c4⟩ := q3 base b1
      refine ⟨c, c1, c2, fun k hk => ?_, fun k hk hk3 => ?_⟩
      · have h1 := hR.2.2.1 (base + k) (by omega) (by omega)
        have h2 := (c4 k (by omega)).mp hk
        have h3 : ¬ (r (base + k)).toInt = -1 := fun z => h2 (Int32.toInt_inj.mp (by rw [z]; decide))
        obtain ⟨v, v1, v2, v3⟩ := isN.of (x := r (base + k)) (lo := 0) (hi := U - 1) (by show ((0 : Nat) : Int) ≤ _; omega) (by omega)
        exact ⟨v, by omega, (c3 k (by omega)).trans v3⟩
      · show A (Q + 12) (3 * a + k) = -1
        rw [c3 k hk3]
        by_cases z : r (base + k) = -1
        · exact z
        · have := (c4 k hk3).mpr z
          omega
  · show (A Q 2).toInt = St (A (Q + 8)) 0 (fr r H + G)
    rw [l2]
    exact sTs_St _ hFG (fun a ha => ⟨(l3 a ha).2.2.2.2.2.2.1, by rw [(l3 a ha).2.2.2.2.2.2.1]; exact hT a ha⟩)
theorem t_view8 {Q P U H G : Nat} {A B : zMt} {r g : Nat → Int32} (hH : H ≤ 10) (hG : G ≤ 4) (cu : cU Q A r U) (cl : cL Q A r g H G) (hU : U ≤ 5) (ml : mL P B r g H G) (hr : ∀ j, j < 82 → B (P + 1) j = r j) (h7 : B P 7 = nI U) : mP P B (tP Q A) (fr r H + G) U := by
  obtain ⟨u1, u2, u3⟩ := cu
  obtain ⟨l1, l2, l3⟩ := cl
  obtain ⟨m1, m2⟩ := ml
  refine ⟨m1, h7, fun a ha => ?_, fun u hu => ?_⟩
  · obtain ⟨q1, q2, q3, q4, q5, q6, q7, q8⟩ := l3 a ha
    obtain ⟨p1, p2, ⟨base, b1, b2, b3⟩, p4, p5, p6, p7⟩ := m2 a ha
    refine ⟨p1.trans q1.symm, p2.trans q2.symm, p4.trans q4.symm, p5.trans q5.symm, p6.trans q6.symm, p7.trans q7.symm, base, (base_rng hH ha hG b1).1, b2, b3, fun k hk => ?_⟩
    obtain ⟨c, c1, c2, c3, c4⟩ := q3 base b1
    rw [hr _ (by omega)]
    exact (c3 k hk).symm
  · obtain ⟨v1, v2, v3⟩ := u2 u hu
    rw [hr _ (by omega), hr 68 (by omega), hr 69 (by omega)]
    exact ⟨v1.symm, v2.symm, v3.symm⟩
/-- which applicant a hunter stands in -/
def aOf (T : zMt) (h : Nat) : Nat := (T 4 h).toNatClampNeg
def gH (T : zMt) (n H : Nat) : Prop := ∀ h, h < H → aOf T h < n ∧ T 4 h = nI (aOf T h) ∧ ∀ b, b < n → (bitAt (T 9 b) h ↔ b = aOf T h)
theorem t_viewH {Q U H G : Nat} {A : zMt} {r g : Nat → Int32} (hH : H ≤ 10) (hG : G ≤ 4) (hFG : fr r H + G ≤ 10) (hr : ∀ h, h < H → r (10 + h) = -1 ∨ ∃ p, p < G ∧ r (10 + h) = nI p) (cl : cL Q A r g H G) : gH (tP Q A) (fr r H + G) H := by
  obtain ⟨l1, l2, l3⟩ := cl
  intro h hh
  have hex : ∃ a, a < fr r H + G ∧ memb r H a h := by
    rcases hr h hh with z | ⟨p, hp, z⟩
    · have := fr_lt hh z
      exact ⟨fr r h, by omega, hh, Or.inl ⟨z, rfl⟩⟩
    · exact ⟨fr r H + p, by omega, (memb_party (by omega) hh).mpr z⟩
  obtain ⟨a, ha, hm⟩ := hex
  have e4 : A (Q + 4) h = nI a := (l3 a ha).2.2.2.2.2.2.2 h hm
  have ea : aOf (tP Q A) h = a := by
    show (A (Q + 4) h).toNatClampNeg = a
    rw [e4, nI_clamp (by omega)]
  rw [ea]
  refine ⟨ha, e4, fun b hb => ?_⟩
  show bitAt (A (Q + 9) b) h ↔ b = a
  rw [(l3 b hb).1, bv_bit H hH h (by omega)]
  constructor
  · rintro ⟨_, z⟩
    exact memb_one z hm (by omega) (by omega)
  · intro z
    subst z
    exact ⟨hh, hm⟩
