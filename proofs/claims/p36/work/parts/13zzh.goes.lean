/-! the odds: the reference's walk through all orders -/
def tUf (T s : zMt) (x : Int64) (u : Nat) : Nat → Nat → Int64
  | 0, _ => 0
  | d + 1, k => (if s 0 k = nI u then x * Int32.toInt64 (T 5 k) else 0) + tUf T s x u d (k + 1)
theorem mm_addsL {P n U : Nat} {B T s : zMt} {x : Int64} (hg : gP T n U) (hn : n ≤ 7) (hm : mP P B T n U) (hs : rM P B s n U) (ok : okS T s n U) : ∀ (d k v : Nat) (N : zNt), k + d = n → d < v → ∃ N2, D_X8_adds_5 P v x (nI (hvN s k)) (nI k) B N = D_X8_adds_5 P (0 + 1) x (nI (hvN s n)) (nI n) B N2 ∧ (∀ a u, a < n → u < U → N2 (P + 24) (5 * a + u) = N (P + 24) (5 * a + u) + (if k ≤ a ∧ s 0 a = nI u then x else 0)) ∧ (∀ a, a < n → N2 (P + 25) a = N (P + 25) a + (if k ≤ a ∧ ¬ s 0 a = -1 ∧ s 0 a = T 12 (3 * a) then x else 0)) ∧ (∀ a, a < n → N2 (P + 26) a = N (P + 26) a + (if k ≤ a ∧ ¬ s 0 a = -1 ∧ s 1 a = 1 then x else 0)) ∧ (∀ a o, a < n → o < n → N2 (P + 27) (7 * a + o) = N (P + 27) (7 * a + o) + (if k ≤ a ∧ ¬ s 0 a = -1 ∧ ¬ s 0 o = -1 then x else 0)) ∧ (∀ u, u < U → N2 (P + 28) u = N (P + 28) u + tUf T s x u d k) ∧ (∀ i j, ¬ (P + 24 ≤ i ∧ i ≤ P + 28) → N2 i j = N i j) := by
  intro d
  induction d with
  | zero =>
    intro k v N hk hv
    obtain ⟨v, rfl⟩ : ∃ y, v = y + 1 := ⟨v - 1, by omega⟩
    have : k = n := by omega
    subst this
    have hle : nI k ≤ nI k := (nI_leI (by omega) (by omega)).mpr (Nat.le_refl k)
    refine ⟨N, by rw [D_X8_adds_5, D_X8_adds_5, hm.1, if_pos hle, if_pos hle], fun a u ha hu => ?_, fun a ha => ?_, fun a ha => ?_, fun a o ha ho => ?_, fun u hu => (Int64.add_zero _).symm, fun _ _ _ => rfl⟩
    · rw [if_neg (fun z => by omega), Int64.add_zero]
    · rw [if_neg (fun z => by omega), Int64.add_zero]
    · rw [if_neg (fun z => by omega), Int64.add_zero]
    · rw [if_neg (fun z => by omega), Int64.add_zero]
  | succ d ih =>
    intro k v N hk hv
    obtain ⟨v, rfl⟩ : ∃ y, v = y + 1 := ⟨v - 1, by omega⟩
    obtain ⟨N1, e, a1, a2, a3, a4, a5, a6⟩ := mm_add1 (x := x) (N := N) (v := v) hg hn (show k < n by omega) hm hs ok
    obtain ⟨N2, f, b1, b2, b3, b4, b5, b6⟩ := ih (k + 1) v N1 (by omega) (by omega)
    refine ⟨N2, e.trans f, fun a u ha hu => ?_, fun a ha => ?_, fun a ha => ?_, fun a o ha ho => ?_, fun u hu => ?_, fun i j h => (b6 i j h).trans (a6 i j h)⟩
    · rw [b1 a u ha hu, a1 a u ha hu]
      exact i_split
    · rw [b2 a ha, a2 a ha]
      exact i_split
    · rw [b3 a ha, a3 a ha]
      exact i_split
    · rw [b4 a o ha ho, a4 a o ha ho]
      exact i_split
    · rw [b5 u hu, a5 u hu]
      show _ = N (P + 28) u + ((if s 0 k = nI u then x * Int32.toInt64 (T 5 k) else 0) + tUf T s x u d (k + 1))
      rw [Int64.add_assoc]
theorem mm_a208 {P n U S : Nat} {B T s : zMt} {N : zNt} {y1 y2 : Int64} (hg : gP T n U) (hS : S < 128) (hm : mP P B T n U) (hs : rM P B s n U) : ∃ B', D_X8_adds_208 P (nI S) y1 y2 B N = some (B', zu N P 59 (y1 + y2)) ∧ B' P 54 = (B P 54 &&& nI S) ∧ B' P 55 = (B P 55 ||| nI S) ∧ (∀ R, R < 128 → B' (P + 29) R = if S = R then 1 else B (P + 29) R) ∧ B' P 56 = (if tg T s n < B P 56 then tg T s n else B P 56) ∧ B' P 57 = (if B P 57 < tg T s n then tg T s n else B P 57) ∧ (∀ i j, ¬ (i = P ∧ 54 ≤ j ∧ j ≤ 57) → ¬ i = P + 29 → B' i j = B i j) := by
  have g1 := hg.1
  have g2 := hg.2.1
  unfold D_X8_adds_208 zI
  rw [zLt_eq, zLt_eq, zLt_eq, if_neg (vp_in_nI hS (by decide)), nI_clamp (by omega), zLt_eq]
  have k3 : ∀ i j, ¬ (i = P ∧ 54 ≤ j ∧ j ≤ 57) → ¬ i = P + 29 → zu (zu (zu B P 54 (B P 54 &&& nI S)) P 55 (zu B P 54 (B P 54 &&& nI S) P 55 ||| nI S)) (P + 29) S 1 i j = B i j := fun i j h1 h2 => (zu_ne (by omega)).trans ((zu_ne (by omega)).trans (zu_ne (by omega)))
  have c54 : zu (zu (zu B P 54 (B P 54 &&& nI S)) P 55 (zu B P 54 (B P 54 &&& nI S) P 55 ||| nI S)) (P + 29) S 1 P 54 = (B P 54 &&& nI S) := (zu_ne (by omega)).trans ((zu_ne (by omega)).trans zu_eq)
  have c55 : zu (zu (zu B P 54 (B P 54 &&& nI S)) P 55 (zu B P 54 (B P 54 &&& nI S) P 55 ||| nI S)) (P + 29) S 1 P 55 = (B P 55 ||| nI S) := by
    rw [zu_ne (by omega), zu_eq, zu_ne (by omega)]
  have c56 : zu (zu (zu B P 54 (B P 54 &&& nI S)) P 55 (zu B P 54 (B P 54 &&& nI S) P 55 ||| nI S)) (P + 29) S 1 P 56 = B P 56 := (zu_ne (by omega)).trans ((zu_ne (by omega)).trans (zu_ne (by omega)))
  have c57 : zu (zu (zu B P 54 (B P 54 &&& nI S)) P 55 (zu B P 54 (B P 54 &&& nI S) P 55 ||| nI S)) (P + 29) S 1 P 57 = B P 57 := (zu_ne (by omega)).trans ((zu_ne (by omega)).trans (zu_ne (by omega)))
  have c29 : ∀ R, R < 128 → zu (zu (zu B P 54 (B P 54 &&& nI S)) P 55 (zu B P 54 (B P 54 &&& nI S) P 55 ||| nI S)) (P + 29) S 1 (P + 29) R = if S = R then 1 else B (P + 29) R := fun R hR => by
    by_cases q : S = R
    · subst q
      rw [if_pos rfl, zu_eq]
    · rw [if_neg q, zu_ne (by omega), zu_ne (by omega), zu_ne (by omega)]
  generalize zu (zu (zu B P 54 (B P 54 &&& nI S)) P 55 (zu B P 54 (B P 54 &&& nI S) P 55 ||| nI S)) (P + 29) S 1 = M3 at k3 c54 c55 c56 c57 c29
  have t3 : D_X8_givenTags P M3 = some (tg T s n) := mm_tags g1 (hm.m g2 (k3 _ _ (by omega) (by omega)) (k3 _ _ (by omega) (by omega)) (fun j _ _ => k3 _ _ (by omega) (by omega)) (fun i j _ _ => k3 _ _ (by omega) (by omega))) (hs.k (fun i j _ _ => k3 _ _ (by omega) (by omega)))
  rw [zB_s t3, zLt_eq]
  have k4 : ∀ i j, ¬ (i = P ∧ j = 56) → zu M3 P 56 (if tg T s n < M3 P 56 then tg T s n else M3 P 56) i j = M3 i j := fun i j h => zu_ne h
  have e56 : zu M3 P 56 (if tg T s n < M3 P 56 then tg T s n else M3 P 56) P 56 = if tg T s n < B P 56 then tg T s n else B P 56 := by
    rw [zu_eq, c56]
  generalize zu M3 P 56 (if tg T s n < M3 P 56 then tg T s n else M3 P 56) = M4 at k4 e56
  have t4 : D_X8_givenTags P M4 = some (tg T s n) := mm_tags g1 (hm.m g2 ((k4 _ _ (by omega)).trans (k3 _ _ (by omega) (by omega))) ((k4 _ _ (by omega)).trans (k3 _ _ (by omega) (by omega))) (fun j _ _ => (k4 _ _ (by omega)).trans (k3 _ _ (by omega) (by omega))) (fun i j _ _ => (k4 _ _ (by omega)).trans (k3 _ _ (by omega) (by omega)))) (hs.k (fun i j _ _ => (k4 _ _ (by omega)).trans (k3 _ _ (by omega) (by omega))))
  rw [zB_s t4, zLt_eq, k4 P 57 (by omega), c57]
  refine ⟨_, rfl, (zu_ne (by omega)).trans ((k4 _ _ (by omega)).trans c54), (zu_ne (by omega)).trans ((k4 _ _ (by omega)).trans c55), fun R hR => (zu_ne (by omega)).trans ((k4 _ _ (by omega)).trans (c29 R hR)), (zu_ne (by omega)).trans e56, zu_eq, fun i j h1 h2 => (zu_ne (by omega)).trans ((k4 _ _ (by omega)).trans (k3 i j h1 h2))⟩
/-- what the reference has of the leaves so far -/
def rI (P : Nat) (B : zMt) (N : zNt) (T : zMt) (U n : Nat) (L : List lY) : Prop :=
  (∀ a u, a < n → u < U → N (P + 24) (5 * a + u) = lsum (fun y => if rs T 10 U n y.1 0 a = nI u then y.2 else 0) L) ∧
  (∀ a, a < n → N (P + 25) a = lsum (fun y => if ¬ rs T 10 U n y.1 0 a = -1 ∧ rs T 10 U n y.1 0 a = T 12 (3 * a) then y.2 else 0) L) ∧
  (∀ a, a < n → N (P + 26) a = lsum (fun y => if ¬ rs T 10 U n y.1 0 a = -1 ∧ rs T 10 U n y.1 1 a = 1 then y.2 else 0) L) ∧
  (∀ a o, a < n → o < n → N (P + 27) (7 * a + o) = lsum (fun y => if ¬ rs T 10 U n y.1 0 a = -1 ∧ ¬ rs T 10 U n y.1 0 o = -1 then y.2 else 0) L) ∧
  (∀ u, u < U → N (P + 28) u = lsum (fun y => tUf T (rs T 10 U n y.1) y.2 u n 0) L) ∧
  (N P 59 = lsum (fun y => if (B P 58 &&& (nI (hvN (rs T 10 U n y.1) n) ^^^ (-1 : Int32))) = 0 then y.2 else 0) L) ∧
  (∀ S, S < 128 → B (P + 29) S = seenF (fun y => hvN (rs T 10 U n y.1) n) S L) ∧
  B P 54 = L.foldl (fun c y => c &&& nI (hvN (rs T 10 U n y.1) n)) (((1 : Int32) <<< (nI n &&& 31)) - 1) ∧
  B P 55 = L.foldl (fun c y => c ||| nI (hvN (rs T 10 U n y.1) n)) 0 ∧
  B P 56 = L.foldl (fun c y => if tg T (rs T 10 U n y.1) n < c then tg T (rs T 10 U n y.1) n else c) 1000 ∧
  B P 57 = L.foldl (fun c y => if c < tg T (rs T 10 U n y.1) n then tg T (rs T 10 U n y.1) n else c) 0
theorem rI.k {P U n : Nat} {B B' T : zMt} {N N' : zNt} {L : List lY} (h : rI P B N T U n L) (a : ∀ i j, ((i = P ∧ 54 ≤ j ∧ j ≤ 58) ∨ i = P + 29) → B' i j = B i j) (b : ∀ i j, ((i = P ∧ j = 59) ∨ (P + 24 ≤ i ∧ i ≤ P + 28)) → N' i j = N i j) : rI P B' N' T U n L := by
  obtain ⟨h1, h2, h3, h4, h5, h6, h7, h8, h9, h10, h11⟩ := h
  refine ⟨fun x u hx hu => (b _ _ (by omega)).trans (h1 x u hx hu), fun x hx => (b _ _ (by omega)).trans (h2 x hx), fun x hx => (b _ _ (by omega)).trans (h3 x hx), fun x o hx ho => (b _ _ (by omega)).trans (h4 x o hx ho), fun u hu => (b _ _ (by omega)).trans (h5 u hu), ?_, fun S hS => (a _ _ (by omega)).trans (h7 S hS), (a _ _ (by omega)).trans h8, (a _ _ (by omega)).trans h9, (a _ _ (by omega)).trans h10, (a _ _ (by omega)).trans h11⟩
  rw [b _ _ (by omega), a P 58 (by omega)]
  exact h6
theorem mm_leaf {P n U : Nat} {B T : zMt} {N : zNt} {x : Int64} {l : Nat → Nat} {L : List lY} (hg : gP T n U) (hn : n ≤ 7) (hm : mP P B T n U) (hl : ∀ k, k < n → l k < n) (hs : rM P B (rs T 10 U n l) n U) (hI : rI P B N T U n L) : ∃ B' N', D_X8_adds P x B N = some (B', N') ∧ rI P B' N' T U n (L ++ [(l, x)]) ∧ (∀ i j, ¬ (i = P ∧ 54 ≤ j ∧ j ≤ 57) → ¬ i = P + 29 → B' i j = B i j) ∧ (∀ i j, ¬ (i = P ∧ j = 59) → ¬ (P + 24 ≤ i ∧ i ≤ P + 28) → N' i j = N i j) := by
  have ok := rs_ok (wo := 10) hg hl
  obtain ⟨N2, e, b1, b2, b3, b4, b5, b6⟩ := mm_addsL (x := x) hg hn hm hs ok n 0 zFu N (by omega) (by unfold zFu; omega)
  rw [show nI 0 = (0 : Int32) by decide, show nI (hvN (rs T 10 U n l) 0) = (0 : Int32) by show nI 0 = 0; decide] at e
  have hlt := hvN_lt (s := rs T 10 U n l) n
  have hp : 2 ^ n ≤ 2 ^ 7 := Nat.pow_le_pow_right (by omega) hn
  have hS : hvN (rs T 10 U n l) n < 128 := by omega
  have hle : nI n ≤ nI n := (nI_leI (by omega) (by omega)).mpr (Nat.le_refl n)
  obtain ⟨h1, h2, h3, h4, h5, h6, h7, h8, h9, h10, h11⟩ := hI
  have go : ∀ y2 : Int64, y2 = (if (B P 58 &&& (nI (hvN (rs T 10 U n l) n) ^^^ (-1 : Int32))) = 0 then x else 0) → ∃ B' N', D_X8_adds_208 P (nI (hvN (rs T 10 U n l) n)) (N2 P 59) y2 B N2 = some (B', N') ∧ rI P B' N' T U n (L ++ [(l, x)]) ∧ (∀ i j, ¬ (i = P ∧ 54 ≤ j ∧ j ≤ 57) → ¬ i = P + 29 → B' i j = B i j) ∧ (∀ i j, ¬ (i = P ∧ j = 59) → ¬ (P + 24 ≤ i ∧ i ≤ P + 28) → N' i j = N i j) := fun y2 hy => by
    obtain ⟨B', f, c1, c2, c3, c4, c5, c6⟩ := mm_a208 (N := N2) (y1 := N2 P 59) (y2 := y2) hg hS hm hs
    refine ⟨B', _, f, ⟨fun a u ha hu => ?_, fun a ha => ?_, fun a ha => ?_, fun a o ha ho => ?_, fun u hu => ?_, ?_, fun S hS' => ?_, ?_, ?_, ?_, ?_⟩, c6, fun i j g1 g2 => (zu_ne g1).trans (b6 i j g2)⟩
    · rw [lsum_1, zu_ne (by omega), b1 a u ha hu, h1 a u ha hu]
      refine congrArg (fun z => _ + z) ?_
      by_cases q : rs T 10 U n l 0 a = nI u
      · rw [if_pos ⟨Nat.zero_le a, q⟩, if_pos q]
      · rw [if_neg (fun z => q z.2), if_neg q]
    · rw [lsum_1, zu_ne (by omega), b2 a ha, h2 a ha]
      refine congrArg (fun z => _ + z) ?_
      by_cases q : ¬ rs T 10 U n l 0 a = -1 ∧ rs T 10 U n l 0 a = T 12 (3 * a)
      · rw [if_pos ⟨Nat.zero_le a, q⟩, if_pos q]
      · rw [if_neg (fun z => q z.2), if_neg q]
    · rw [lsum_1, zu_ne (by omega), b3 a ha, h3 a ha]
      refine congrArg (fun z => _ + z) ?_
      by_cases q : ¬ rs T 10 U n l 0 a = -1 ∧ rs T 10 U n l 1 a = 1
      · rw [if_pos ⟨Nat.zero_le a, q⟩, if_pos q]
      · rw [if_neg (fun z => q z.2), if_neg q]
    · rw [lsum_1, zu_ne (by omega), b4 a o ha ho, h4 a o ha ho]
      refine congrArg (fun z => _ + z) ?_
      by_cases q : ¬ rs T 10 U n l 0 a = -1 ∧ ¬ rs T 10 U n l 0 o = -1
      · rw [if_pos ⟨Nat.zero_le a, q⟩, if_pos q]
      · rw [if_neg (fun z => q z.2), if_neg q]
    · rw [lsum_1, zu_ne (by omega), b5 u hu, h5 u hu]
    · rw [lsum_1, zu_eq, b6 _ _ (by omega), h6, c6 P 58 (by omega) (by omega), hy]
    · rw [seenF_1, c3 S hS', h7 S hS']
    · rw [List.foldl_append, c1, h8]
      rfl
    · rw [List.foldl_append, c2, h9]
      rfl
    · rw [List.foldl_append, c4, h10]
      rfl
    · rw [List.foldl_append, c5, h11]
      rfl
  unfold D_X8_adds
  rw [e, D_X8_adds_5, hm.1, if_pos hle]
  by_cases q : (B P 58 &&& (nI (hvN (rs T 10 U n l) n) ^^^ (-1 : Int32))) = 0
  · rw [if_pos q]
    exact go x (by rw [if_pos q])
  · rw [if_neg q]
    exact go 0 (by rw [if_neg q])
