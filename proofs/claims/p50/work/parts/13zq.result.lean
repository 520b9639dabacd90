/-! THE RESULT, told out of a pool's view T: s 0 a is what a has, s 1 a its round, s 2 u what is left of u, s 3 u what is left for guests; wo is one who asks for nothing -/
def gT (T s : zMt) (a u : Nat) (rd : Int32) : zMt := zu (zu (zu (zu s 0 a (nI u)) 1 a rd) 2 u (s 2 u - T 5 a)) 3 u (s 3 u - T 6 a)
/-- the first round: one applicant at one unit -/
def f1 (T : zMt) (wo u : Nat) (s : zMt) (a : Nat) : zMt := if ¬ a = wo ∧ T 12 (3 * a) = nI u ∧ T 5 a ≤ s 2 u - T 1 u + T 2 u ∧ T 6 a ≤ s 3 u then gT T s a u 1 else s
theorem gT_0 {T s : zMt} {a u : Nat} {rd : Int32} : gT T s a u rd 0 a = nI u := by unfold gT; rw [zu_ne (by omega), zu_ne (by omega), zu_ne (by omega), zu_eq]
theorem gT_1 {T s : zMt} {a u : Nat} {rd : Int32} : gT T s a u rd 1 a = rd := by unfold gT; rw [zu_ne (by omega), zu_ne (by omega), zu_eq]
theorem gT_2 {T s : zMt} {a u : Nat} {rd : Int32} : gT T s a u rd 2 u = s 2 u - T 5 a := by unfold gT; rw [zu_ne (by omega), zu_eq]
theorem gT_3 {T s : zMt} {a u : Nat} {rd : Int32} : gT T s a u rd 3 u = s 3 u - T 6 a := by unfold gT; rw [zu_eq]
theorem gT_out {T s : zMt} {a u i j : Nat} {rd : Int32} (h1 : ¬ ((i = 0 ∨ i = 1) ∧ j = a)) (h2 : ¬ ((i = 2 ∨ i = 3) ∧ j = u)) : gT T s a u rd i j = s i j := by
  unfold gT
  rw [zu_ne (by omega), zu_ne (by omega), zu_ne (by omega), zu_ne (by omega)]
theorem f1_out {T s : zMt} {wo a u i j : Nat} (h1 : ¬ ((i = 0 ∨ i = 1) ∧ j = a)) (h2 : ¬ ((i = 2 ∨ i = 3) ∧ j = u)) : f1 T wo u s a i j = s i j := by
  unfold f1
  by_cases q : ¬ a = wo ∧ T 12 (3 * a) = nI u ∧ T 5 a ≤ s 2 u - T 1 u + T 2 u ∧ T 6 a ≤ s 3 u
  · rw [if_pos q]; exact gT_out h1 h2
  · rw [if_neg q]
theorem f1_dep {T s s' : zMt} {wo a u : Nat} (h0 : s' 0 a = s 0 a) (h1 : s' 1 a = s 1 a) (h2 : s' 2 u = s 2 u) (h3 : s' 3 u = s 3 u) : f1 T wo u s' a 0 a = f1 T wo u s a 0 a ∧ f1 T wo u s' a 1 a = f1 T wo u s a 1 a ∧ f1 T wo u s' a 2 u = f1 T wo u s a 2 u ∧ f1 T wo u s' a 3 u = f1 T wo u s a 3 u := by
  unfold f1
  rw [h2, h3]
  by_cases q : ¬ a = wo ∧ T 12 (3 * a) = nI u ∧ T 5 a ≤ s 2 u - T 1 u + T 2 u ∧ T 6 a ≤ s 3 u
  · rw [if_pos q, if_pos q, gT_0, gT_0, gT_1, gT_1, gT_2, gT_2, gT_3, gT_3, h2, h3]
    exact ⟨rfl, rfl, rfl, rfl⟩
  · rw [if_neg q, if_neg q]
    exact ⟨h0, h1, h2, h3⟩
theorem f1_id {T s : zMt} {wo a u : Nat} (h : ¬ T 12 (3 * a) = nI u) : f1 T wo u s a = s := by
  unfold f1
  rw [if_neg (fun z => h z.2.1)]
theorem f1_comm {T s : zMt} {wo u v a b : Nat} (hu : u < 2147483648) (hv : v < 2147483648) (h : ¬ u = v) : f1 T wo u (f1 T wo v s b) a = f1 T wo v (f1 T wo u s a) b := by
  by_cases qa : T 12 (3 * a) = nI u
  · by_cases qb : T 12 (3 * b) = nI v
    · have hab : ¬ a = b := fun z => by
        subst z
        rw [qa] at qb
        exact h (nI_inj hu hv qb)
      have da := f1_dep (T := T) (s := s) (s' := f1 T wo v s b) (wo := wo) (a := a) (u := u) (f1_out (by omega) (by omega)) (f1_out (by omega) (by omega)) (f1_out (by omega) (by omega)) (f1_out (by omega) (by omega))
      have db := f1_dep (T := T) (s := s) (s' := f1 T wo u s a) (wo := wo) (a := b) (u := v) (f1_out (by omega) (by omega)) (f1_out (by omega) (by omega)) (f1_out (by omega) (by omega)) (f1_out (by omega) (by omega))
      funext i j
      by_cases c1 : (i = 0 ∨ i = 1) ∧ j = a
      · rw [f1_out (u := v) (a := b) (by omega) (by omega)]
        obtain ⟨c | c, d⟩ := c1
        · subst c; subst d; exact da.1
        · subst c; subst d; exact da.2.1
      · by_cases c2 : (i = 2 ∨ i = 3) ∧ j = u
        · rw [f1_out (u := v) (a := b) (by omega) (by omega)]
          obtain ⟨c | c, d⟩ := c2
          · subst c; subst d; exact da.2.2.1
          · subst c; subst d; exact da.2.2.2
        · rw [f1_out (u := u) (a := a) c1 c2]
          by_cases c3 : (i = 0 ∨ i = 1) ∧ j = b
          · obtain ⟨c | c, d⟩ := c3
            · subst c; subst d; exact db.1.symm
            · subst c; subst d; exact db.2.1.symm
          · by_cases c4 : (i = 2 ∨ i = 3) ∧ j = v
            · obtain ⟨c | c, d⟩ := c4
              · subst c; subst d; exact db.2.2.1.symm
              · subst c; subst d; exact db.2.2.2.symm
            · rw [f1_out (u := v) (a := b) c3 c4, f1_out (u := v) (a := b) c3 c4, f1_out (u := u) (a := a) c1 c2]
    · rw [f1_id qb, f1_id qb]
  · rw [f1_id qa, f1_id qa]
/-- one applicant at all units below U; one unit for all; all units for all -/
def fA (T : zMt) (wo : Nat) (a : Nat) : Nat → zMt → zMt
  | 0, s => s
  | u + 1, s => f1 T wo u (fA T wo a u s) a
def fL (T : zMt) (wo u : Nat) : List Nat → zMt → zMt
  | [], s => s
  | a :: l, s => fL T wo u l (f1 T wo u s a)
def fU (T : zMt) (wo : Nat) (l : List Nat) : Nat → zMt → zMt
  | 0, s => s
  | u + 1, s => fL T wo u l (fU T wo l u s)
def fC (T : zMt) (wo U : Nat) : List Nat → zMt → zMt
  | [], s => s
  | a :: l, s => fC T wo U l (fA T wo a U s)
theorem fL_comm {T : zMt} {wo u v a : Nat} (hu : u < 2147483648) (hv : v < 2147483648) (h : ¬ u = v) : ∀ (l : List Nat) (s : zMt), f1 T wo v (fL T wo u l s) a = fL T wo u l (f1 T wo v s a)
  | [], _ => rfl
  | b :: l, s => by
    show f1 T wo v (fL T wo u l (f1 T wo u s b)) a = fL T wo u l (f1 T wo u (f1 T wo v s a) b)
    rw [fL_comm hu hv h l, f1_comm hu hv h]
theorem fU_comm {T : zMt} {wo v a : Nat} {l : List Nat} (hv : v < 2147483648) : ∀ (u : Nat) (s : zMt), u ≤ v → f1 T wo v (fU T wo l u s) a = fU T wo l u (f1 T wo v s a)
  | 0, _, _ => rfl
  | u + 1, s, h => by
    show f1 T wo v (fL T wo u l (fU T wo l u s)) a = fL T wo u l (fU T wo l u (f1 T wo v s a))
    rw [fL_comm (by omega) hv (by omega), fU_comm hv u s (by omega)]
theorem fU_cons {T : zMt} {wo a : Nat} {l : List Nat} : ∀ (u : Nat) (s : zMt), u < 2147483648 → fU T wo (a :: l) u s = fU T wo l u (fA T wo a u s)
  | 0, _, _ => rfl
  | u + 1, s, h => by
    show fL T wo u l (f1 T wo u (fU T wo (a :: l) u s) a) = fL T wo u l (fU T wo l u (f1 T wo u (fA T wo a u s) a))
    rw [fU_cons u s (by omega), fU_comm (by omega) u _ (Nat.le_refl u)]
theorem fU_fC {T : zMt} {wo U : Nat} (hU : U < 2147483648) : ∀ (l : List Nat) (s : zMt), fU T wo l U s = fC T wo U l s
  | [], s => by
    have : ∀ u, fU T wo [] u s = s := fun u => by
      induction u with
      | zero => rfl
      | succ u ih => exact ih
    exact this U
  | a :: l, s => by
    rw [fU_cons U s hU]
    exact fU_fC hU l _
theorem fL_app {T : zMt} {wo u : Nat} : ∀ (l l' : List Nat) (s : zMt), fL T wo u (l ++ l') s = fL T wo u l' (fL T wo u l s)
  | [], _, _ => rfl
  | a :: l, l', s => fL_app l l' _
/-- who asks for nothing does nothing; who asks for w does it there -/
theorem fA_none {T : zMt} {wo a : Nat} {s : zMt} : ∀ U, (∀ u, u < U → ¬ T 12 (3 * a) = nI u) → fA T wo a U s = s
  | 0, _ => rfl
  | U + 1, h => by
    show f1 T wo U (fA T wo a U s) a = s
    rw [f1_id (h U (by omega)), fA_none U (fun u hu => h u (by omega))]
theorem fA_wo {T : zMt} {a : Nat} {s : zMt} : ∀ U, fA T a a U s = s
  | 0 => rfl
  | U + 1 => by
    show f1 T a U (fA T a a U s) a = s
    unfold f1
    rw [if_neg (fun z => z.1 rfl), fA_wo U]
theorem fA_one {T : zMt} {wo a w : Nat} {s : zMt} (hw : T 12 (3 * a) = nI w) (hw5 : w < 2147483648) : ∀ U, U < 2147483648 → fA T wo a U s = if w < U then f1 T wo w s a else s
  | 0, _ => by rw [if_neg (by omega)]; rfl
  | U + 1, h => by
    show f1 T wo U (fA T wo a U s) a = _
    rw [fA_one hw hw5 U (by omega)]
    by_cases q : w = U
    · subst q
      rw [if_neg (by omega), if_pos (by omega)]
    · rw [f1_id (by rw [hw]; exact fun z => q (nI_inj hw5 (by omega) z))]
      by_cases z : w < U
      · rw [if_pos z, if_pos (by omega)]
      · rw [if_neg z, if_neg (by omega)]
/-- the line as lists -/
def lr (l : Nat → Nat) : Nat → Nat → List Nat
  | 0, _ => []
  | c + 1, k => l k :: lr l c (k + 1)
def lp (l : Nat → Nat) : Nat → List Nat
  | 0 => []
  | k + 1 => lp l k ++ [l k]
theorem lp_lr {l : Nat → Nat} : ∀ c i, lp l i ++ lr l c i = lp l (i + c)
  | 0, i => by
    show lp l i ++ [] = lp l i
    rw [List.append_nil]
  | c + 1, i => by
    have e : lp l i ++ lr l (c + 1) i = lp l (i + 1) ++ lr l c (i + 1) := by
      show lp l i ++ (l i :: lr l c (i + 1)) = (lp l i ++ [l i]) ++ lr l c (i + 1)
      rw [List.append_assoc]
      rfl
    rw [e, lp_lr c (i + 1), show i + 1 + c = i + (c + 1) by omega]
theorem lp_len {l : Nat → Nat} : ∀ k, (lp l k).length = k
  | 0 => rfl
  | k + 1 => by
    show (lp l k ++ [l k]).length = k + 1
    rw [List.length_append, lp_len k]
    rfl
theorem lp_mem {l : Nat → Nat} {n : Nat} : ∀ k, (∀ i, i < k → l i < n) → ∀ x, x ∈ lp l k → x < n
  | 0, _, x, hx => absurd hx (List.not_mem_nil)
  | k + 1, h, x, hx => by
    have hx' : x ∈ lp l k ++ [l k] := hx
    rcases List.mem_append.mp hx' with z | z
    · exact lp_mem k (fun i hi => h i (by omega)) x z
    · rw [List.mem_singleton.mp z]
      exact h k (by omega)
/-- those with POINTS below m, those with more ahead, in their order else -/
def pf (T : zMt) (p : Nat) : List Nat → List Nat
  | [] => []
  | a :: l => if T 7 a = nI p then a :: pf T p l else pf T p l
def bk (T : zMt) (l : List Nat) : Nat → List Nat
  | 0 => []
  | p + 1 => pf T p l ++ bk T l p
theorem pf_app {T : zMt} {p : Nat} : ∀ l l' : List Nat, pf T p (l ++ l') = pf T p l ++ pf T p l'
  | [], _ => rfl
  | a :: l, l' => by
    show (if T 7 a = nI p then a :: pf T p (l ++ l') else pf T p (l ++ l')) = (if T 7 a = nI p then a :: pf T p l else pf T p l) ++ pf T p l'
    by_cases q : T 7 a = nI p
    · rw [if_pos q, if_pos q, pf_app l l']
      rfl
    · rw [if_neg q, if_neg q, pf_app l l']
theorem pf_mem {T : zMt} {p : Nat} : ∀ (l : List Nat) (x : Nat), x ∈ pf T p l → x ∈ l ∧ T 7 x = nI p
  | [], x, hx => absurd hx (List.not_mem_nil)
  | a :: l, x, hx => by
    have hx' : x ∈ (if T 7 a = nI p then a :: pf T p l else pf T p l) := hx
    by_cases q : T 7 a = nI p
    · rw [if_pos q] at hx'
      rcases List.mem_cons.mp hx' with z | z
      · subst z
        exact ⟨List.mem_cons_self, q⟩
      · have := pf_mem l x z
        exact ⟨List.mem_cons_of_mem _ this.1, this.2⟩
    · rw [if_neg q] at hx'
      have := pf_mem l x hx'
      exact ⟨List.mem_cons_of_mem _ this.1, this.2⟩
theorem bk_mem {T : zMt} {l : List Nat} : ∀ (m : Nat) (x : Nat), x ∈ bk T l m → x ∈ l ∧ ∃ p, p < m ∧ T 7 x = nI p
  | 0, x, hx => absurd hx (List.not_mem_nil)
  | m + 1, x, hx => by
    have hx' : x ∈ pf T m l ++ bk T l m := hx
    rcases List.mem_append.mp hx' with z | z
    · have := pf_mem l x z
      exact ⟨this.1, m, by omega, this.2⟩
    · obtain ⟨h1, p, h2, h3⟩ := bk_mem m x z
      exact ⟨h1, p, by omega, h3⟩
theorem bk_low {T : zMt} {l : List Nat} {a p0 : Nat} (ha : T 7 a = nI p0) (hp : p0 < 2147483648) : ∀ m, m ≤ p0 → bk T (l ++ [a]) m = bk T l m
  | 0, _ => rfl
  | m + 1, h => by
    show pf T m (l ++ [a]) ++ bk T (l ++ [a]) m = pf T m l ++ bk T l m
    rw [pf_app, bk_low ha hp m (by omega)]
    have e : pf T m [a] = [] := by
      show (if T 7 a = nI m then [a] else []) = []
      rw [if_neg (by rw [ha]; exact fun z => absurd (nI_inj hp (by omega) z) (by omega))]
    rw [e, List.append_nil]
/-- where a new one comes into the row -/
theorem bk_ins {T : zMt} {l : List Nat} {a p0 : Nat} (ha : T 7 a = nI p0) : ∀ m, p0 < m → m < 2147483648 → ∃ X Y, bk T l m = X ++ Y ∧ bk T (l ++ [a]) m = X ++ a :: Y ∧ (∀ x, x ∈ X → x ∈ l ∧ ∃ p, p0 ≤ p ∧ p < m ∧ T 7 x = nI p) ∧ (∀ x, x ∈ Y → x ∈ l ∧ ∃ p, p < p0 ∧ T 7 x = nI p)
  | 0, h, _ => absurd h (Nat.not_lt_zero p0)
  | m + 1, h, hm => by
    by_cases q : p0 = m
    · subst q
      refine ⟨pf T p0 l, bk T l p0, rfl, ?_, fun x hx => ?_, fun x hx => bk_mem p0 x hx⟩
      · show pf T p0 (l ++ [a]) ++ bk T (l ++ [a]) p0 = _
        rw [pf_app, bk_low ha (by omega) p0 (Nat.le_refl p0)]
        have e : pf T p0 [a] = [a] := by
          show (if T 7 a = nI p0 then [a] else []) = [a]
          rw [if_pos ha]
        rw [e, List.append_assoc]
        rfl
      · have := pf_mem l x hx
        exact ⟨this.1, p0, Nat.le_refl p0, by omega, this.2⟩
    · obtain ⟨X, Y, h1, h2, h3, h4⟩ := bk_ins ha m (by omega) (by omega)
      refine ⟨pf T m l ++ X, Y, ?_, ?_, fun x hx => ?_, h4⟩
      · show pf T m l ++ bk T l m = _
        rw [h1, List.append_assoc]
      · show pf T m (l ++ [a]) ++ bk T (l ++ [a]) m = _
        have e : pf T m [a] = [] := by
          show (if T 7 a = nI m then [a] else []) = []
          rw [if_neg (by rw [ha]; exact fun z => q (nI_inj (by omega) (by omega) z))]
        rw [pf_app, e, List.append_nil, h2, List.append_assoc]
      · rcases List.mem_append.mp hx with z | z
        · have := pf_mem l x z
          exact ⟨this.1, m, by omega, by omega, this.2⟩
        · obtain ⟨h5, p, h6, h7, h8⟩ := h3 x z
          exact ⟨h5, p, h6, by omega, h8⟩
theorem bk_len {T : zMt} {l : Nat → Nat} : ∀ k, (∀ i, i < k → ∃ p, p < 21 ∧ T 7 (l i) = nI p) → (bk T (lp l k) 21).length = k
  | 0, _ => by
    have : ∀ m, bk T [] m = [] := fun m => by
      induction m with
      | zero => rfl
      | succ m ih => exact ih
    show (bk T [] 21).length = 0
    rw [this]
    rfl
  | k + 1, h => by
    have ih := bk_len (T := T) (l := l) k (fun i hi => h i (by omega))
    obtain ⟨p, h1, h2⟩ := h k (by omega)
    obtain ⟨X, Y, h3, h4, _⟩ := bk_ins (l := lp l k) h2 21 h1 (by omega)
    show (bk T (lp l k ++ [l k]) 21).length = k + 1
    rw [h3, List.length_append] at ih
    rw [h4, List.length_append, List.length_cons]
    omega
/-- the second round -/
def wu (T : zMt) (a k : Nat) : Nat := (T 12 (3 * a + k)).toNatClampNeg
def s2 (T s : zMt) (a : Nat) : Nat → Nat → zMt
  | 0, _ => s
  | c + 1, k => if T 5 a ≤ s 2 (wu T a k) ∧ T 6 a ≤ s 3 (wu T a k) then gT T s a (wu T a k) 2 else s2 T s a c (k + 1)
def f2 (T : zMt) (wo : Nat) (s : zMt) (a : Nat) : zMt := if s 0 a = -1 ∧ ¬ a = wo then s2 T s a (T 11 a).toNatClampNeg 0 else s
def fS (T : zMt) (wo : Nat) : List Nat → zMt → zMt
  | [], s => s
  | a :: l, s => fS T wo l (f2 T wo s a)
def s0 (T : zMt) : zMt := fun i j => if i = 0 then -1 else if i = 1 then 0 else if i = 2 then T 1 j else T 3 j
/-- all of it -/
def rs (T : zMt) (wo U n : Nat) (l : Nat → Nat) : zMt := fS T wo (lp l n) (fC T wo U (bk T (lp l n) 21) (s0 T))
/-- what it is in the class, and in the reference -/
def rC (S : Nat) (A s : zMt) (n U : Nat) : Prop := (∀ a, a < n → A (S + 2) a = s 0 a ∧ A (S + 3) a = s 1 a) ∧ (∀ u, u < U → A (S + 4) u = s 2 u ∧ A (S + 5) u = s 3 u)
def rM (P : Nat) (B s : zMt) (n U : Nat) : Prop := (∀ a, a < n → B (P + 19) a = s 0 a ∧ B (P + 20) a = s 1 a) ∧ (∀ u, u < U → B (P + 21) u = s 2 u ∧ B (P + 22) u = s 3 u)
