/-! many, both sides -/
theorem t_ans {C P : Nat} {A B : zMt} {x y : Int32} (h : x = y) : two (zB (D_X7_answer C x A) fun e => some (e.1, e.2)) (zB (D_X8_gives P y B) fun e => some (e.1, e.2)) (fun a b => a.1 = b.1) :=
  two.l (e := (x, zu A C 0 (0 : Int32))) rfl (two.r (e := (y, zu (zu B P 6 (0 : Int32)) P 12 (0 : Int32))) rfl (two.mk h))
theorem t_rfs {C P : Nat} {A B : zMt} {v v' : Int32} : two (zB (D_X7_refuse C v A) fun e => some (e.1, e.2)) (zB (D_X8_refuse P v' B) fun e => some (e.1, e.2)) (fun a b => a.1 = b.1) :=
  two.l (e := ((-1 : Int32), zu A C 0 v)) rfl (two.r (e := ((-1 : Int32), zu (zu B P 6 (0 : Int32)) P 12 v')) rfl (two.mk rfl))
theorem zsum_pad {f : Nat → Int32} {U : Nat} : ∀ n, U ≤ n → (∀ u, U ≤ u → u < n → f u = 0) → zsum f n = zsum f U
  | 0, h, _ => by rw [show U = 0 by omega]
  | n + 1, h, k => by
    by_cases q : U = n + 1
    · rw [q]
    · rw [zsum_s, zsum_pad n (by omega) (fun u h1 h2 => k u h1 (by omega)), k n (by omega) (by omega), Int32.add_zero]
theorem mm_m162 {P U : Nat} {f : Nat → Int32} {B : zMt} (hU : U ≤ 5) (h7 : B P 7 = nI U) (hf : ∀ u, u < U → B (P + 1) (62 + u) = f u) : ∀ (v k : Nat), k ≤ U → U - k < v → D_X8_many_162 P v (zsum f k) (nI k) B = some (zsum f U, zu (zu B P 6 (0 : Int32)) P 12 (0 : Int32)) := by
  intro v
  induction v with
  | zero => intro k _ h; omega
  | succ v ih =>
    intro k hk hv
    rw [D_X8_many_162, h7]
    by_cases hc : U ≤ k
    · rw [if_pos (by exact (nI_leI (by omega) (by omega)).mpr hc), show k = U by omega]
      rfl
    · rw [if_neg (by intro z; exact hc ((nI_leI (by omega) (by omega)).mp z)), nI_62 k (by omega)]
      unfold zI
      rw [if_neg (vp_in_nI (show 62 + k < 82 by omega) (by decide)), nI_clamp (by omega), hf k (by omega), nI_add1, ← zsum_s]
      exact ih (k + 1) (by omega) (by omega)
theorem mm_m196 {P H : Nat} {g : Nat → Int32} {B : zMt} (hH : H ≤ 10) (h8 : B P 8 = nI H) (hg : ∀ h, h < H → B (P + 5) h = g h ∧ (g h = 0 ∨ g h = 1)) : ∀ (v k : Nat), k ≤ H → H - k < v → D_X8_many_196 P v (zsum g k) (nI k) B = some (zsum g H, zu (zu B P 6 (0 : Int32)) P 12 (0 : Int32)) := by
  intro v
  induction v with
  | zero => intro k _ h; omega
  | succ v ih =>
    intro k hk hv
    rw [D_X8_many_196, h8]
    by_cases hc : H ≤ k
    · rw [if_pos (by exact (nI_leI (by omega) (by omega)).mpr hc), show k = H by omega]
      rfl
    · obtain ⟨e1, e2⟩ := hg k (by omega)
      rw [if_neg (by intro z; exact hc ((nI_leI (by omega) (by omega)).mp z))]
      unfold zI
      rw [if_neg (vp_in_nI (show k < 10 by omega) (by decide)), nI_clamp (by omega), e1]
      have := ih (k + 1) (by omega) (by omega)
      rw [zsum_s] at this
      unfold D_X8_many_219
      rw [nI_add1]
      rcases e2 with z | z
      · rw [z] at this ⊢
        rw [if_pos rfl]
        exact this
      · rw [z] at this ⊢
        rw [if_neg (by decide)]
        exact this
theorem t_many {C P : Nat} {A B : zMt} {v0 : Int32} (w0 : eqE C P A B) (_hJ : jJ P B) : two (D_X7_many C v0 A) (D_X8_many P v0 B) (fun a b => a.1 = b.1) := by
  obtain ⟨r, g, U, H, G, K, w⟩ := w0
  obtain ⟨n, B1, hn, l1, l2, l3, l4, l5⟩ := t_laid w
  obtain ⟨w1, w2, w3, w4, w5, w6, w7, w8, w9⟩ := w.k (A' := A) (B' := B1) (fun _ _ _ _ => rfl) (fun i j _ => l5 i j (by omega) (by omega))
  obtain ⟨⟨c1, c2, c3, c4, c5, c6, c7⟩, r1, r2, r3, r4, r5, r6, r9, ⟨s1, s2, s3, s4⟩, u3, u4, u5⟩ := w6
  unfold D_X7_many D_X8_many
  refine two.r l1 ?_
  refine two.ite Iff.rfl (fun _ => t_ans (c4.trans w3.symm)) (fun _ => ?_)
  refine two.ite Iff.rfl (fun _ => t_ans (c5.trans w4.symm)) (fun _ => ?_)
  refine two.ite Iff.rfl (fun _ => two.ir (by unfold vp_in; decide) (t_ans ?_)) (fun _ => ?_)
  · rw [show (70 : Int32).toNatClampNeg = 70 by decide, w1 70 (by omega)]
    exact c6.trans c7.symm
  refine two.ite Iff.rfl (fun _ => t_ans ((show A (C + 91) 1 = nI n from l2.2.2.1).trans l4.1.symm)) (fun _ => ?_)
  refine two.ite Iff.rfl (fun _ => two.ir (by unfold vp_in; decide) (t_ans ?_)) (fun _ => ?_)
  · rw [show (67 : Int32).toNatClampNeg = 67 by decide, w1 67 (by omega)]
    exact s1
  refine two.ite Iff.rfl (fun _ => two.ir (by unfold vp_in; decide) (t_ans ?_)) (fun _ => ?_)
  · rw [show (68 : Int32).toNatClampNeg = 68 by decide, w1 68 (by omega)]
    exact s2
  refine two.ite Iff.rfl (fun _ => two.ir (by unfold vp_in; decide) (t_ans ?_)) (fun _ => ?_)
  · rw [show (69 : Int32).toNatClampNeg = 69 by decide, w1 69 (by omega)]
    exact s3
  refine two.ite Iff.rfl (fun _ => two.ir (by unfold vp_in; decide) (t_ans ?_)) (fun _ => ?_)
  · rw [show (71 : Int32).toNatClampNeg = 71 by decide, w1 71 (by omega)]
    exact s4
  refine two.ite Iff.rfl (fun _ => t_ans (w9.2.1.trans w9.2.2.1.symm)) (fun _ => ?_)
  refine two.ite Iff.rfl (fun _ => ?_) (fun _ => ?_)
  · have e := mm_m162 (P := P) (f := A (C + 18)) c1 w3 (fun u hu => (w1 _ (by omega)).trans (r1 u (by omega)).symm) zFu 0 (by omega) (by unfold zFu; omega)
    rw [show nI 0 = (0 : Int32) by decide, show zsum (A (C + 18)) 0 = (0 : Int32) from rfl] at e
    rw [e]
    exact two.l (e := (zsum (A (C + 18)) 5, zu A C 0 (0 : Int32))) rfl (two.mk (zsum_pad 5 c1 u4))
  refine two.ite Iff.rfl (fun _ => ?_) (fun _ => t_rfs)
  · have e := mm_m196 (P := P) (g := A (C + 20)) c2 w4 (fun h hh => by
      obtain ⟨z1, z2⟩ := r3 h hh
      rw [w2 h (by omega)]
      exact ⟨z1.symm, by rw [show A (C + 20) h = g h from z1]; exact z2⟩) zFu 0 (by omega) (by unfold zFu; omega)
    rw [show nI 0 = (0 : Int32) by decide, show zsum (A (C + 20)) 0 = (0 : Int32) from rfl] at e
    rw [e]
    exact two.l (e := (zsum (A (C + 20)) 10, zu A C 0 (0 : Int32))) rfl (two.mk (zsum_pad 10 c2 u5))
