def jT (P : Nat) (M : zMt) : Prop := 0 ≤ (M P 9).toInt ∧ (M P 9).toInt ≤ 8 ∧ 0 ≤ (M P 11).toInt ∧ (M P 11).toInt ≤ 700 ∧ 0 ≤ (M P 64).toInt ∧ (M P 64).toInt ≤ 64
theorem jT.mono {P : Nat} {M M' : zMt} (h : jT P M) (hf : ∀ a j, (a = P ∧ (j = 9 ∨ j = 11 ∨ j = 64)) → M' a j = M a j) : jT P M' := by
  unfold jT
  rw [hf P 9 (by omega), hf P 11 (by omega), hf P 64 (by omega)]
  exact h
/-- the rows that are kept -/
def jK (P : Nat) (M : zMt) : Prop := ∀ k : Nat, (k : Int) < (M P 9).toInt → jRow (fun j => M (P + 4) (82 * k + j)) (M P 7).toInt (M P 8).toInt
theorem jK.mono {P : Nat} {M M' : zMt} (h : jK P M) (hf : ∀ a j, ((a = P ∧ (j = 7 ∨ j = 8 ∨ j = 9)) ∨ a = P + 4) → M' a j = M a j) : jK P M' := by
  intro k hk
  rw [hf P 9 (by omega)] at hk
  rw [hf P 7 (by omega), hf P 8 (by omega), show M' (P + 4) = M (P + 4) from funext fun j => hf (P + 4) j (by omega)]
  exact h k hk
/-- the row that is put aside -/
def jA (P : Nat) (M : zMt) : Prop := jRow (M (P + 3)) (M P 7).toInt (M P 8).toInt
theorem jA.mono {P : Nat} {M M' : zMt} (h : jA P M) (hf : ∀ a j, (a = P + 3 ∨ (a = P ∧ (j = 7 ∨ j = 8))) → M' a j = M a j) : jA P M' := by
  unfold jA
  rw [hf P 7 (by omega), hf P 8 (by omega), show M' (P + 3) = M (P + 3) from funext fun j => hf (P + 3) j (by omega)]
  exact h
theorem jR.put {P k : Nat} {M M' : zMt} {v : Int32} (h : jR P M) (f : zu M (P + 19) k v = M') (h0 : -1 ≤ v.toInt) (h1 : v.toInt ≤ 4) : jR P M' := by
  intro a ha
  subst f
  by_cases q : a = k
  · subst q
    rw [zu_eq]
    exact ⟨h0, h1⟩
  · rw [zu_ne (by omega)]
    exact h a ha
/-- a number of the row becomes another, where it may -/
theorem jS.put {P k : Nat} {M M' : zMt} {v : Int32} (h : jS P M) (hH : (M P 8).toInt ≤ 10) (f : zu M (P + 1) k v = M') (hk : (k < 10 ∧ 0 ≤ v.toInt ∧ v.toInt ≤ 20) ∨ (20 ≤ k ∧ k < 62 ∧ -1 ≤ v.toInt ∧ v.toInt < (M P 7).toInt) ∨ (62 ≤ k ∧ k < 67 ∧ 0 ≤ v.toInt ∧ v.toInt ≤ 20) ∨ (k = 67 ∧ 0 ≤ v.toInt ∧ v.toInt ≤ 2) ∨ (68 ≤ k ∧ k < 70 ∧ 0 ≤ v.toInt ∧ v.toInt ≤ 100) ∨ 71 ≤ k) : jS P M' := by
  subst f
  obtain ⟨s1, s2, s3, s4, s5, s6⟩ := id h
  unfold jS
  rw [congrFun (zu_row (show P ≠ P + 1 by omega)) 7, congrFun (zu_row (show P ≠ P + 1 by omega)) 8]
  have e : ∀ j, ¬ j = k → zu M (P + 1) k v (P + 1) j = M (P + 1) j := fun j hj => zu_ne (by omega)
  have e70 : zu M (P + 1) k v (P + 1) 70 = M (P + 1) 70 := e 70 (by omega)
  have g : ∀ (j : Nat) (lo hi : Int), (lo ≤ (M (P + 1) j).toInt ∧ (M (P + 1) j).toInt ≤ hi) → (j = k → lo ≤ v.toInt ∧ v.toInt ≤ hi) → lo ≤ (zu M (P + 1) k v (P + 1) j).toInt ∧ (zu M (P + 1) k v (P + 1) j).toInt ≤ hi := fun j lo hi h1 h2 => by
    by_cases q : j = k
    · have := h2 q
      subst q
      rw [zu_eq]
      exact this
    · rw [e j q]; exact h1
  refine ⟨fun x hx => g x 0 20 (s1 x hx) (fun q => by omega), fun x hx => ?_, fun x h1 h2 => ?_, fun u hu => g (62 + u) 0 20 (s4 u hu) (fun q => by omega), ?_, fun p hp => ?_⟩
  · rw [e70, e (10 + x) (by omega)]
    exact s2 x hx
  · have := g x (-1) ((M P 7).toInt - 1) (by have := s3 x h1 h2; omega) (fun q => by omega)
    omega
  · have a7 := g 67 0 2 (by omega) (fun q => by omega)
    have a8 := g 68 0 100 (by omega) (fun q => by omega)
    have a9 := g 69 0 100 (by omega) (fun q => by omega)
    rw [e70]
    omega
  · rw [e70] at hp
    obtain ⟨x, h1, h2⟩ := s6 p hp
    exact ⟨x, h1, by rw [e (10 + x) (by omega)]; exact h2⟩
/-- sets of seven -/
theorem z_set7 {s a : Int32} (h : 0 ≤ s.toInt ∧ s.toInt ≤ 127) (h0 : 0 ≤ a.toInt) (h1 : a.toInt < 7) : 0 ≤ (s ||| (1 : Int32) <<< (a &&& 31)).toInt ∧ (s ||| (1 : Int32) <<< (a &&& 31)).toInt ≤ 127 := by
  have key : ∀ k : Nat, k < 7 → ∀ n : Nat, n < 128 → 0 ≤ (nI n ||| (1 : Int32) <<< (nI k &&& 31)).toInt ∧ (nI n ||| (1 : Int32) <<< (nI k &&& 31)).toInt ≤ 127 := by decide +kernel
  have ea : a = nI a.toInt.toNat := Int32.toInt_inj.mp (by rw [nI_toInt (by omega)]; omega)
  have es : s = nI s.toInt.toNat := Int32.toInt_inj.mp (by rw [nI_toInt (by omega)]; omega)
  rw [ea, es]
  exact key _ (by omega) _ (by omega)
theorem jRow.congr {r r' : Nat → Int32} {U H : Int} (h : jRow r U H) (hH : H ≤ 10) (e : ∀ j, j < 82 → r' j = r j) : jRow r' U H := by
  obtain ⟨s1, s2, s3, s4, s5, s6⟩ := h
  refine ⟨fun x hx => ?_, fun x hx => ?_, fun k h1 h2 => ?_, fun u hu => ?_, ?_, fun p hp => ?_⟩
  · rw [e x (by omega)]; exact s1 x hx
  · rw [e (10 + x) (by omega), e 70 (by omega)]; exact s2 x hx
  · rw [e k (by omega)]; exact s3 k h1 h2
  · rw [e (62 + u) (by omega)]; exact s4 u hu
  · rw [e 67 (by omega), e 68 (by omega), e 69 (by omega), e 70 (by omega)]; exact s5
  · rw [e 70 (by omega)] at hp
    obtain ⟨x, h1, h2⟩ := s6 p hp
    exact ⟨x, h1, by rw [e (10 + x) (by omega)]; exact h2⟩
theorem z_inc {x : Int32} (h : x.toInt < 2147483647) : (x + 1).toInt = x.toInt + 1 := by
  have o1 : (1 : Int32).toInt = 1 := by decide
  have := Int32.le_toInt x
  rw [z_add (by omega) (by omega), o1]
theorem z_next0 {P : Nat} {M : zMt} {h : Int32} (hH : jH P M) (h0 : 0 ≤ h.toInt) (h1 : h.toInt < (M P 8).toInt) : ∃ a : Nat, Int32.toInt (0 : Int32) ≤ a ∧ (a : Int) < Int32.toInt (M P 33) ∧ bitAt (M (P + 11) a) (Int32.toInt h).toNat := by
  obtain ⟨a, a1, a2⟩ := hH h.toInt.toNat (by omega)
  exact ⟨a, by rw [show (0 : Int32).toInt = 0 by decide]; omega, a1, a2⟩
theorem z_next {P : Nat} {M : zMt} {x h e : Int32} (hx : 0 ≤ x.toInt) (hm : Int32.toInt (M P 33) ≤ 10) (hh : 0 ≤ h.toInt) (ex : ∃ a : Nat, Int32.toInt x ≤ a ∧ (a : Int) < Int32.toInt (M P 33) ∧ bitAt (M (P + 11) a) (Int32.toInt h).toNat) (q : (e = 1 ∧ ((M (P + 11) x.toNatClampNeg >>> (h &&& 31)) &&& 1) = 1) ∨ (e = 0 ∧ ¬ ((M (P + 11) x.toNatClampNeg >>> (h &&& 31)) &&& 1) = 1)) (he : e = 0) : ∃ a : Nat, Int32.toInt (x + 1) ≤ a ∧ (a : Int) < Int32.toInt (M P 33) ∧ bitAt (M (P + 11) a) (Int32.toInt h).toNat := by
  obtain ⟨a, a1, a2, a3⟩ := ex
  have hb : ¬ ((M (P + 11) x.toNatClampNeg >>> (h &&& 31)) &&& 1) = 1 := by
    rcases q with ⟨q, _⟩ | ⟨_, q⟩
    · rw [q] at he; exact absurd he (by decide)
    · exact q
  have hn : h = nI h.toInt.toNat := Int32.toInt_inj.mp (by rw [nI_toInt (by have := Int32.toInt_lt h; omega)]; omega)
  have hc := z_cl hx
  refine ⟨a, ?_, a2, a3⟩
  rw [z_inc (by omega)]
  have : (a : Int) ≠ x.toInt := fun z => by
    have ea : a = x.toNatClampNeg := by omega
    rw [hn, ← ea] at hb
    exact hb a3
  omega
theorem jT.put64 {P : Nat} {M M' : zMt} {v : Int32} (h : jT P M) (f : zu M P 64 v = M') (h0 : 0 ≤ v.toInt) (h1 : v.toInt ≤ 64) : jT P M' := by
  subst f
  obtain ⟨a, b, c, d, _, _⟩ := h
  unfold jT
  rw [zu_ne (by omega), zu_ne (by omega), zu_eq]
  exact ⟨a, b, c, d, h0, h1⟩
