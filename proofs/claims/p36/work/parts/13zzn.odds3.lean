/-! the odds: ends, both sides -/
theorem t_rfsO {C P : Nat} {A B : zMt} {NA NB : zNt} {v v' : Int32} (h : oD C A NA) : two (zB (D_X7_refuse C v A) fun e => some (e.1, e.2, NA)) (zB (D_X8_refuse P v' B) fun e => some (e.1, e.2, NB)) (fun a b => a.1 = b.1 ∧ oD C a.2.1 a.2.2) :=
  two.l (e := ((-1 : Int32), zu A C 0 v)) rfl (two.r (e := ((-1 : Int32), zu (zu B P 6 (0 : Int32)) P 12 v')) rfl (two.mk ⟨rfl, h.k (fun i j h => zu_ne (by omega)) (fun _ _ _ _ => rfl)⟩))
theorem t_ansO {C P : Nat} {A B : zMt} {NA NB : zNt} {x y : Int32} (h : oD C A NA) (e : x = y) : two (zB (D_X7_answer C x A) fun e => some (e.1, e.2, NA)) (zB (D_X8_gives P y B) fun e => some (e.1, e.2, NB)) (fun a b => a.1 = b.1 ∧ oD C a.2.1 a.2.2) :=
  two.l (e := (x, zu A C 0 (0 : Int32))) rfl (two.r (e := (y, zu (zu B P 6 (0 : Int32)) P 12 (0 : Int32))) rfl (two.mk ⟨e, h.k (fun i j h => zu_ne (by omega)) (fun _ _ _ _ => rfl)⟩))
theorem seenF_01 {g : lY → Nat} {S : Nat} : ∀ L : List lY, (seenF g S L = 0 ∧ ¬ ∃ y, y ∈ L ∧ g y = S) ∨ (seenF g S L = 1 ∧ ∃ y, y ∈ L ∧ g y = S)
  | [] => Or.inl ⟨rfl, fun ⟨y, h, _⟩ => absurd h List.not_mem_nil⟩
  | z :: L => by
    have e : seenF g S (z :: L) = if g z = S then 1 else seenF g S L := rfl
    rw [e]
    by_cases q : g z = S
    · rw [if_pos q]
      exact Or.inr ⟨rfl, z, List.mem_cons_self, q⟩
    · rw [if_neg q]
      rcases seenF_01 (g := g) (S := S) L with ⟨h1, h2⟩ | ⟨h1, y, h2, h3⟩
      · refine Or.inl ⟨h1, fun ⟨y, h3, h4⟩ => ?_⟩
        rcases List.mem_cons.mp h3 with w | w
        · exact q (w ▸ h4)
        · exact h2 ⟨y, w, h4⟩
      · exact Or.inr ⟨h1, y, List.mem_cons_of_mem z h2, h3⟩
theorem t_ends {C P : Nat} {A B : zMt} {NA NB : zNt} (w0 : eqE C P A B) (hD : oD C A NA) (_hJ : jJ P B) : two (D_X7_ends C A NA) (D_X8_ends P B NB) (fun a b => a.1 = b.1 ∧ oD C a.2.1 a.2.2) := by
  obtain ⟨r, g, U, H, G, K, w⟩ := w0
  unfold D_X7_ends D_X8_ends
  obtain ⟨n, B2, hn, hn10, e91, hO⟩ := t_odds (NB := NB) w hD
  rw [e91]
  rcases hO with ⟨h7, m1, A', N', T, B', N2, p1, p2, p3, p4, p5, p6, p7, p8, p9, p10⟩ | ⟨h7, m1⟩
  · rw [if_pos ((nI_7i hn10).mpr h7)]
    refine two.l p1 (two.r m1 ?_)
    rw [if_pos rfl]
    refine two.r p2 ?_
    have go : ∀ (v k : Nat), k ≤ 128 → 128 - k < v → D_X8_ends_21 P v (zsum (A' (C + 114)) k) (nI k) B' N2 = zB (D_X8_gives P (zsum (A' (C + 114)) 128) B') fun e => some (e.1, e.2, N2) := by
      intro v
      induction v with
      | zero => intro k _ h; omega
      | succ v ih =>
        intro k hk hv
        rw [D_X8_ends_21]
        by_cases hc : 128 ≤ k
        · rw [if_pos (by exact (leL (x := 128) (a := 128) (by decide) (by decide) (by omega)).mpr hc), show k = 128 by omega]
        · rw [if_neg (by intro z; exact hc ((leL (x := 128) (a := 128) (by decide) (by decide) (by omega)).mp z))]
          unfold zI D_X8_ends_43
          have ea : A' (C + 114) k = seenF (fun y => hvN (rs T 10 U n y.1) n) k (lvA T n) := p6.2.1 k (by omega)
          rw [if_neg (vp_in_nI (show k < 128 by omega) (by decide)), nI_clamp (by omega), p8.2.2.2.2.2.2.1 k (by omega)]
          have := ih (k + 1) (by omega) (by omega)
          rw [zsum_s, ea, ← nI_add1] at this
          rcases seenF_01 (g := fun y => hvN (rs T 10 U n y.1) n) (S := k) (lvA T n) with ⟨h1, -⟩ | ⟨h1, -⟩
          · rw [h1] at this ⊢
            rw [if_pos rfl]
            exact this
          · rw [h1] at this ⊢
            rw [if_neg n10]
            exact this
    have := go zFu 0 (by omega) (by unfold zFu; omega)
    rw [show nI 0 = (0 : Int32) by decide, show ∀ f : Nat → Int32, zsum f 0 = (0 : Int32) from fun _ => rfl] at this
    show two _ (D_X8_ends_21 P zFu (0 : Int32) (0 : Int32) B' N2) _
    rw [this]
    exact t_ansO p7 rfl
  · rw [if_neg (fun z => h7 ((nI_7i hn10).mp z))]
    refine two.r m1 ?_
    rw [if_neg n10]
    exact t_rfsO hD
