/-! p52: who is picked, unit by unit: the best by points, then by the order -/
def sst (T : zMt) (b : Option Nat) (a : Nat) : Option Nat := match b with
  | none => some a
  | some y => if T 7 y < T 7 a then some a else some y
def pOk (T : zMt) (L : List Nat) : Prop := ∀ x, x ∈ L → ∃ p, p < 21 ∧ T 7 x = nI p
theorem sst_bk {T : zMt} {L : List Nat} {a : Nat} (ha : ∃ p, p < 21 ∧ T 7 a = nI p) : sst T (bk T L 21).head? a = (bk T (L ++ [a]) 21).head? := by
  obtain ⟨p0, h0, e0⟩ := ha
  obtain ⟨X, Y, h1, h2, h3, h4⟩ := bk_ins (l := L) e0 21 h0 (by omega)
  rw [h1, h2]
  cases X with
  | nil =>
    cases Y with
    | nil => rfl
    | cons y Y =>
      obtain ⟨-, p, hp, ep⟩ := h4 y List.mem_cons_self
      show (if T 7 y < T 7 a then some a else some y) = some a
      rw [if_pos (by rw [ep, e0]; exact (nI_ltI (by omega) (by omega)).mpr hp)]
  | cons x X =>
    obtain ⟨-, p, hp, hp2, ep⟩ := h3 x List.mem_cons_self
    show (if T 7 x < T 7 a then some a else some x) = some x
    rw [if_neg (by rw [ep, e0]; exact fun q => by have := (nI_ltI (by omega) (by omega)).mp q; omega)]
theorem scan_bk {T : zMt} : ∀ (L' L : List Nat), pOk T L' → L'.foldl (sst T) (bk T L 21).head? = (bk T (L ++ L') 21).head?
  | [], L, _ => by rw [List.append_nil]; rfl
  | a :: r, L, h => by
    rw [List.foldl_cons, sst_bk (h a List.mem_cons_self), scan_bk r (L ++ [a]) (fun x hx => h x (List.mem_cons_of_mem _ hx)), List.append_assoc]
    rfl
theorem bk_nil {T : zMt} : ∀ m, bk T [] m = []
  | 0 => rfl
  | m + 1 => by
    show pf T m [] ++ bk T [] m = []
    rw [bk_nil m]
    rfl
theorem scan {T : zMt} {L : List Nat} (h : pOk T L) : L.foldl (sst T) none = (bk T L 21).head? := by
  have := scan_bk L [] h
  rw [bk_nil] at this
  exact this
theorem pf_filter {T : zMt} {p : Nat} {q : Nat → Bool} : ∀ L : List Nat, pf T p (L.filter q) = (pf T p L).filter q
  | [] => rfl
  | a :: L => by
    have e : pf T p (a :: L) = if T 7 a = nI p then a :: pf T p L else pf T p L := rfl
    rw [e]
    by_cases h : q a = true
    · rw [List.filter_cons_of_pos h]
      have e2 : pf T p (a :: L.filter q) = if T 7 a = nI p then a :: pf T p (L.filter q) else pf T p (L.filter q) := rfl
      rw [e2, pf_filter L]
      by_cases z : T 7 a = nI p
      · rw [if_pos z, if_pos z, List.filter_cons_of_pos h]
      · rw [if_neg z, if_neg z]
    · rw [List.filter_cons_of_neg h, pf_filter L]
      by_cases z : T 7 a = nI p
      · rw [if_pos z, List.filter_cons_of_neg h]
      · rw [if_neg z]
theorem bk_filter {T : zMt} {q : Nat → Bool} {L : List Nat} : ∀ m, bk T (L.filter q) m = (bk T L m).filter q
  | 0 => rfl
  | m + 1 => by
    show pf T m (L.filter q) ++ bk T (L.filter q) m = (pf T m L ++ bk T L m).filter q
    rw [pf_filter, bk_filter m, List.filter_append]
theorem pf_nodup {T : zMt} {p : Nat} : ∀ {L : List Nat}, L.Nodup → (pf T p L).Nodup
  | [], _ => List.nodup_nil
  | a :: L, h => by
    have h2 := List.nodup_cons.mp h
    show (if T 7 a = nI p then a :: pf T p L else pf T p L).Nodup
    by_cases z : T 7 a = nI p
    · rw [if_pos z]
      exact List.nodup_cons.mpr ⟨fun q => h2.1 (pf_mem L a q).1, pf_nodup h2.2⟩
    · rw [if_neg z]; exact pf_nodup h2.2
theorem bk_nodup {T : zMt} {L : List Nat} (h : L.Nodup) : ∀ m, m < 2147483648 → (bk T L m).Nodup
  | 0, _ => List.nodup_nil
  | m + 1, hm => by
    show (pf T m L ++ bk T L m).Nodup
    refine List.nodup_append.mpr ⟨pf_nodup h, bk_nodup h m (by omega), fun a ha b hb e => ?_⟩
    subst e
    obtain ⟨-, e1⟩ := pf_mem L a ha
    obtain ⟨-, p, hp, e2⟩ := bk_mem m a hb
    have := nI_inj (by omega) (by omega) (e1.symm.trans e2)
    omega
/-- without the first k of them -/
theorem drop_filter {F : List Nat} (h : F.Nodup) (k : Nat) : F.filter (fun a => !(F.take k).contains a) = F.drop k := by
  have e : F = F.take k ++ F.drop k := (List.take_append_drop k F).symm
  have hn := h
  rw [e] at hn
  obtain ⟨-, -, hd⟩ := List.nodup_append.mp hn
  have e1 : (F.take k).filter (fun a => !(F.take k).contains a) = [] := by
    rw [List.filter_eq_nil_iff]
    intro a ha
    simp [ha]
  have e2 : (F.drop k).filter (fun a => !(F.take k).contains a) = F.drop k := by
    rw [List.filter_eq_self]
    intro a ha
    have : ¬ a ∈ F.take k := fun q => hd a q a ha rfl
    simp [this]
  have e3 : (F.take k ++ F.drop k).filter (fun a => !(F.take k).contains a) = F.drop k := by rw [List.filter_append, e1, e2, List.nil_append]
  rw [← e] at e3
  exact e3
/-- the k-th pick: the scan over those that are not yet passed -/
theorem pick {T : zMt} {L : List Nat} {q : Nat → Bool} (hL : L.Nodup) (hp : pOk T L) (k : Nat) : ((L.filter q).filter (fun a => !((bk T (L.filter q) 21).take k).contains a)).foldl (sst T) none = (bk T (L.filter q) 21)[k]? := by
  rw [scan (fun x hx => hp x (List.mem_filter.mp (List.mem_filter.mp hx).1).1), bk_filter, drop_filter (bk_nodup (hL.sublist List.filter_sublist) 21 (by omega)), List.head?_drop]
/-- the others are passed over by f1 -/
theorem fL_filter {T : zMt} {wo u : Nat} : ∀ (L : List Nat) (s : zMt), fL T wo u (L.filter (fun a => decide (T 12 (3 * a) = nI u))) s = fL T wo u L s
  | [], _ => rfl
  | a :: L, s => by
    by_cases z : T 12 (3 * a) = nI u
    · rw [List.filter_cons_of_pos (by rw [decide_eq_true_eq]; exact z)]
      show fL T wo u (L.filter _) (f1 T wo u s a) = fL T wo u L (f1 T wo u s a)
      exact fL_filter L _
    · rw [List.filter_cons_of_neg (by rw [decide_eq_true_eq]; exact z)]
      show fL T wo u (L.filter _) s = fL T wo u L (f1 T wo u s a)
      rw [f1_id z]
      exact fL_filter L s
/-- the places of an order are different -/
theorem LOs.bit {t : Nat → Int32} {n : Nat} {l : Nat → Nat} (hn : n ≤ 10) : ∀ (c i : Nat) (x : Int64) (s b : Int32), LOs t n l c i x s b → ∀ k, i ≤ k → k < i + c → ¬ bitAt b (l k)
  | 0, i, _, _, _, _, k, k1, k2 => by omega
  | c + 1, i, x, s, b, h, k, k1, k2 => by
    obtain ⟨h1, h2, -, -, h5⟩ := h
    by_cases z : k = i
    · subst z; exact h2
    · intro q
      have hk := h5.lt c (i + 1) _ _ _ k (by omega) (by omega)
      exact h5.bit hn c (i + 1) _ _ _ k (by omega) (by omega) ((bitK_or (by omega) (by omega)).mpr (Or.inl q))
theorem LOs.inj {t : Nat → Int32} {n : Nat} {l : Nat → Nat} (hn : n ≤ 10) : ∀ (c i : Nat) (x : Int64) (s b : Int32), LOs t n l c i x s b → ∀ k k', i ≤ k → k < k' → k' < i + c → ¬ l k = l k'
  | 0, i, _, _, _, _, k, k', k1, k2, k3 => by omega
  | c + 1, i, x, s, b, h, k, k', k1, k2, k3 => by
    obtain ⟨h1, h2, -, -, h5⟩ := h
    by_cases z : k = i
    · subst z
      intro q
      have hk := h5.lt c (k + 1) _ _ _ k' (by omega) (by omega)
      exact h5.bit hn c (k + 1) _ _ _ k' (by omega) (by omega) ((bitK_or (by omega) (by omega)).mpr (Or.inr q))
    · exact h5.inj hn c (i + 1) _ _ _ k k' (by omega) k2 (by omega)
theorem lp_nodup {l : Nat → Nat} : ∀ m, (∀ k k', k < k' → k' < m → ¬ l k = l k') → (lp l m).Nodup
  | 0, _ => List.nodup_nil
  | m + 1, h => by
    show (lp l m ++ [l m]).Nodup
    refine List.nodup_append.mpr ⟨lp_nodup m (fun k k' a b => h k k' a (by omega)), List.nodup_cons.mpr ⟨List.not_mem_nil, List.nodup_nil⟩, fun a ha b hb e => ?_⟩
    rw [List.mem_singleton.mp hb] at e
    have : ∀ j, a ∈ lp l j → ∃ k, k < j ∧ l k = a := fun j => by
      induction j with
      | zero => intro hx; exact absurd hx List.not_mem_nil
      | succ j ih =>
        intro hx
        have hx' : a ∈ lp l j ++ [l j] := hx
        rcases List.mem_append.mp hx' with z | z
        · obtain ⟨k, hk, e⟩ := ih z
          exact ⟨k, by omega, e⟩
        · exact ⟨j, by omega, (List.mem_singleton.mp z).symm⟩
    obtain ⟨k, hk, ek⟩ := this m ha
    exact h k m hk (by omega) (ek.trans e)

