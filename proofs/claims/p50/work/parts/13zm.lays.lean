/-! the reference lays the applicants -/
def cnt (r : Nat → Int32) (H a : Nat) : Nat → Nat
  | 0 => 0
  | h + 1 => if memb r H a h then cnt r H a h + 1 else cnt r H a h
theorem cnt_le (r : Nat → Int32) (H a : Nat) : ∀ n, cnt r H a n ≤ n
  | 0 => Nat.le_refl 0
  | n + 1 => by
    have := cnt_le r H a n
    show (if memb r H a n then cnt r H a n + 1 else cnt r H a n) ≤ n + 1
    split <;> omega
theorem sm_one {r : Nat → Int32} {H a : Nat} : ∀ n, sm (fun _ => 1) r H a n = nI (cnt r H a n)
  | 0 => by show (0 : Int32) = nI 0; decide
  | n + 1 => by
    show (if memb r H a n then sm (fun _ => 1) r H a n + 1 else sm (fun _ => 1) r H a n) = nI (if memb r H a n then cnt r H a n + 1 else cnt r H a n)
    rw [sm_one n]
    by_cases q : memb r H a n
    · rw [if_pos q, if_pos q]; exact nI_add1
    · rw [if_neg q, if_neg q]
theorem cnt_pos {r : Nat → Int32} {H a h : Nat} (hm : memb r H a h) : ∀ n, h < n → 1 ≤ cnt r H a n
  | 0, hn => absurd hn (Nat.not_lt_zero h)
  | n + 1, hn => by
    show 1 ≤ (if memb r H a n then cnt r H a n + 1 else cnt r H a n)
    by_cases q : h = n
    · subst q; rw [if_pos hm]; omega
    · have := cnt_pos hm n (by omega)
      split <;> omega
theorem sN_ne {r : Nat → Int32} {H a h : Nat} (hm : memb r H a h) (hH : H ≤ 10) : ¬ sN r H a = 0 := by
  unfold sN
  rw [sm_one]
  have h1 := cnt_pos hm H hm.1
  have h2 := cnt_le r H a H
  exact fun z => absurd (nI_inj (b := 0) (by omega) (by omega) z) (by omega)
/-- one applicant -/
theorem mm_one18 {P H a : Nat} {r g : Nat → Int32} (hH : H ≤ 10) (ha : a < 10) (hg : ∀ h, h < H → g h = 0 ∨ g h = 1) (hne : ¬ sN r H a = 0) : ∀ (u k : Nat) (B : zMt), B P 8 = nI H → (∀ j, j < 82 → B (P + 1) j = r j) → (∀ h, h < H → B (P + 5) h = g h) → B (P + 11) a = bv r H a H → B (P + 14) a = sm (fun _ => 1) r H a k → B (P + 15) a = sm g r H a k → k ≤ H → H - k < u → ∃ B', D_X8_laysOne_18 P u (nI a) (sm r r H a k) (nI k) B = some B' ∧ B' (P + 14) a = sN r H a ∧ B' (P + 15) a = sG g r H a ∧ B' (P + 16) a = sP r H a ∧ B' (P + 17) a = sT r H a ∧ (∀ i j, ¬ (P + 14 ≤ i ∧ i ≤ P + 17 ∧ j = a) → B' i j = B i j) := by
  intro u
  induction u with
  | zero => intro k B _ _ _ _ _ _ _ h; omega
  | succ u ih =>
    intro k B h8 hr hg5 hb h14 h15 hk hu
    rw [D_X8_laysOne_18, h8]
    unfold zI
    have ia : ¬ (nI a < 0 ∨ 10 ≤ (nI a).toNatClampNeg) := vp_in_nI ha (by decide)
    by_cases hc : H ≤ k
    · have hkH : k = H := by omega
      subst hkH
      rw [if_pos (by exact (nI_leI (by omega) (by omega)).mpr hc), if_neg ia, nI_clamp (by omega), h14]
      unfold zZ
      rw [if_neg (by exact hne), if_neg (ci ha (by omega)), zLt_eq, if_neg (by decide)]
      have e67 : zu B (P + 16) a (sm r r k a k / sm (fun _ => 1) r k a k) (P + 1) (67 : Int32).toNatClampNeg = r 67 := by
        rw [show (67 : Int32).toNatClampNeg = 67 by decide, zu_ne (by omega)]
        exact hr 67 (by omega)
      have e16 : zu B (P + 16) a (sm r r k a k / sm (fun _ => 1) r k a k) (P + 16) a = sP r k a := zu_eq
      rw [e67, e16]
      have fin : ∀ v : Int32, v = sT r k a → ∃ B', D_X8_laysOne_162 P (nI a) v (zu B (P + 16) a (sm r r k a k / sm (fun _ => 1) r k a k)) = some B' ∧ B' (P + 14) a = sN r k a ∧ B' (P + 15) a = sG g r k a ∧ B' (P + 16) a = sP r k a ∧ B' (P + 17) a = sT r k a ∧ (∀ i j, ¬ (P + 14 ≤ i ∧ i ≤ P + 17 ∧ j = a) → B' i j = B i j) := fun v hv => by
        unfold D_X8_laysOne_162 zI
        rw [if_neg ia, nI_clamp (by omega), zLt_eq]
        refine ⟨_, rfl, (zu_ne (by omega)).trans ((zu_ne (by omega)).trans h14), (zu_ne (by omega)).trans ((zu_ne (by omega)).trans h15), (zu_ne (by omega)).trans zu_eq, zu_eq.trans hv, fun i j h => (zu_ne (by omega)).trans (zu_ne (by omega))⟩
      by_cases q0 : r 67 = 0
      · rw [if_pos q0]
        exact fin _ (by unfold sT; rw [if_pos q0])
      · rw [if_neg q0, if_neg (by decide)]
        by_cases q1 : r 67 = 1
        · rw [if_pos q1, if_neg (ci ha (by omega))]
          exact fin _ (by unfold sT; rw [if_neg q0, if_pos q1])
        · rw [if_neg q1, if_neg (ci ha (by omega)), if_neg (ci ha (by omega))]
          exact fin _ (by unfold sT; rw [if_neg q0, if_neg q1])
    · have hlt : k < H := by omega
      have ik : ¬ (nI k < 0 ∨ 10 ≤ (nI k).toNatClampNeg) := vp_in_nI (by omega) (by decide)
      rw [if_neg (by intro z; exact hc ((nI_leI (by omega) (by omega)).mp z)), if_neg ia, nI_clamp (by omega), hb]
      have hbit := bv_bit (r := r) (H := H) (a := a) H hH k (by omega)
      obtain ⟨e, he, hq⟩ := v_X8_has (v0 := bv r H a H) (v1 := nI k)
      rw [zB_s he]
      have s1 : sm (fun _ => 1) r H a (k + 1) = if memb r H a k then sm (fun _ => 1) r H a k + 1 else sm (fun _ => 1) r H a k := rfl
      have s2 : sm g r H a (k + 1) = if memb r H a k then sm g r H a k + g k else sm g r H a k := rfl
      have s3 : sm r r H a (k + 1) = if memb r H a k then sm r r H a k + r k else sm r r H a k := rfl
      by_cases hm : memb r H a k
      · have he0 : ¬ e = 0 := fun z => by
          rcases hq.2 with ⟨w, _⟩ | ⟨_, w⟩
          · rw [z] at w; exact absurd w (by decide)
          · exact w (hbit.mpr ⟨hlt, hm⟩)
        rw [if_neg he0, if_neg (ci ha (by omega)), if_neg (ci ha (by omega)), zLt_eq, if_neg (ci ha (by omega)), if_neg ik, nI_clamp (by omega), h14]
        have e5 : zu B (P + 14) a (sm (fun _ => 1) r H a k + 1) (P + 5) k = g k := (zu_ne (by omega)).trans (hg5 k hlt)
        have e15 : zu B (P + 14) a (sm (fun _ => 1) r H a k + 1) (P + 15) a = sm g r H a k := (zu_ne (by omega)).trans h15
        rw [e5, e15]
        have fin : D_X8_laysOne_73 P (D_X8_laysOne_18 P u) (nI a) (sm r r H a k) (nI k) (nI a) (sm g r H a k) (g k) (zu B (P + 14) a (sm (fun _ => 1) r H a k + 1)) = D_X8_laysOne_18 P u (nI a) (sm r r H a (k + 1)) (nI (k + 1)) (zu (zu B (P + 14) a (sm (fun _ => 1) r H a k + 1)) (P + 15) a (sm g r H a k + g k)) := by
          unfold D_X8_laysOne_73 zI
          have e0 : (0 : Int32) + nI k = nI k := (show ∀ k, k < 10 → (0 : Int32) + nI k = nI k by decide) k (by omega)
          rw [if_neg ia, nI_clamp (by omega), zLt_eq, e0, if_neg (vp_in_nI (by omega) (by decide)), nI_clamp (by omega)]
          unfold D_X8_laysOne_86
          rw [nI_add1, s3, if_pos hm, zu_ne (by omega), zu_ne (by omega), hr k (by omega)]
        have hgo : ∃ B', D_X8_laysOne_73 P (D_X8_laysOne_18 P u) (nI a) (sm r r H a k) (nI k) (nI a) (sm g r H a k) (g k) (zu B (P + 14) a (sm (fun _ => 1) r H a k + 1)) = some B' ∧ B' (P + 14) a = sN r H a ∧ B' (P + 15) a = sG g r H a ∧ B' (P + 16) a = sP r H a ∧ B' (P + 17) a = sT r H a ∧ (∀ i j, ¬ (P + 14 ≤ i ∧ i ≤ P + 17 ∧ j = a) → B' i j = B i j) := by
          rw [fin]
          have kk : ∀ i j, ¬ (P + 14 ≤ i ∧ i ≤ P + 17 ∧ j = a) → zu (zu B (P + 14) a (sm (fun _ => 1) r H a k + 1)) (P + 15) a (sm g r H a k + g k) i j = B i j := fun i j h => (zu_ne (by omega)).trans (zu_ne (by omega))
          obtain ⟨B', f1, f2, f3, f4, f5, f6⟩ := ih (k + 1) (zu (zu B (P + 14) a (sm (fun _ => 1) r H a k + 1)) (P + 15) a (sm g r H a k + g k)) ((kk P 8 (by omega)).trans h8) (fun j hj => (kk (P + 1) j (by omega)).trans (hr j hj)) (fun h hh => (kk (P + 5) h (by omega)).trans (hg5 h hh)) ((kk (P + 11) a (by omega)).trans hb) ((zu_ne (by omega)).trans (zu_eq.trans (by rw [s1, if_pos hm]))) (zu_eq.trans (by rw [s2, if_pos hm])) (by omega) (by omega)
          exact ⟨B', f1, f2, f3, f4, f5, fun i j h => (f6 i j h).trans (kk i j h)⟩
        rcases hg k hlt with z | z
        · rw [if_pos z]
          rw [z] at hgo
          exact hgo
        · rw [if_neg (by rw [z]; decide)]
          rw [z] at hgo
          exact hgo
      · have he0 : e = 0 := by
          rcases hq.2 with ⟨_, w⟩ | ⟨w, _⟩
          · exact absurd (hbit.mp w).2 hm
          · exact w
        rw [if_pos he0]
        unfold D_X8_laysOne_86
        rw [nI_add1]
        have t := ih (k + 1) B h8 hr hg5 hb (h14.trans (by rw [s1, if_neg hm])) (h15.trans (by rw [s2, if_neg hm])) (by omega) (by omega)
        rw [s3, if_neg hm] at t
        exact t
theorem mm_one {P H a : Nat} {r g : Nat → Int32} {B : zMt} (hH : H ≤ 10) (ha : a < 10) (hg : ∀ h, h < H → g h = 0 ∨ g h = 1) (hne : ¬ sN r H a = 0) (h8 : B P 8 = nI H) (hr : ∀ j, j < 82 → B (P + 1) j = r j) (hg5 : ∀ h, h < H → B (P + 5) h = g h) (hb : B (P + 11) a = bv r H a H) : ∃ B', D_X8_laysOne P (nI a) B = some B' ∧ B' (P + 14) a = sN r H a ∧ B' (P + 15) a = sG g r H a ∧ B' (P + 16) a = sP r H a ∧ B' (P + 17) a = sT r H a ∧ (∀ i j, ¬ (P + 14 ≤ i ∧ i ≤ P + 17 ∧ j = a) → B' i j = B i j) := by
  have ia : ¬ (nI a < 0 ∨ 10 ≤ (nI a).toNatClampNeg) := vp_in_nI ha (by decide)
  unfold D_X8_laysOne zI
  rw [if_neg ia, nI_clamp (by omega), zLt_eq, if_neg (ci ha (by omega)), zLt_eq]
  have kk : ∀ i j, ¬ (P + 14 ≤ i ∧ i ≤ P + 17 ∧ j = a) → zu (zu B (P + 14) a 0) (P + 15) a 0 i j = B i j := fun i j h => (zu_ne (by omega)).trans (zu_ne (by omega))
  obtain ⟨B', f1, f2, f3, f4, f5, f6⟩ := mm_one18 (r := r) (g := g) hH ha hg hne zFu 0 (zu (zu B (P + 14) a 0) (P + 15) a 0) ((kk P 8 (by omega)).trans h8) (fun j hj => (kk (P + 1) j (by omega)).trans (hr j hj)) (fun h hh => (kk (P + 5) h (by omega)).trans (hg5 h hh)) ((kk (P + 11) a (by omega)).trans hb) ((zu_ne (by omega)).trans zu_eq) zu_eq (by omega) (by unfold zFu; omega)
  rw [show nI 0 = (0 : Int32) by decide] at f1
  exact ⟨B', f1, f2, f3, f4, f5, fun i j h => (f6 i j h).trans (kk i j h)⟩
/-- bits, party and place of one applicant -/
def mF (P : Nat) (B : zMt) (r : Nat → Int32) (H a : Nat) : Prop := B (P + 11) a = bv r H a H ∧ B (P + 12) a = (if a < fr r H then -1 else nI (a - fr r H)) ∧ ∃ base, isBase r H a base ∧ base < 62 ∧ B (P + 13) a = nI base
theorem mF.k {P : Nat} {B B' : zMt} {r : Nat → Int32} {H a : Nat} (h : mF P B r H a) (k : ∀ i, (P + 11 ≤ i ∧ i ≤ P + 13) → B' i a = B i a) : mF P B' r H a := by
  obtain ⟨h1, h2, base, h3, h4, h5⟩ := h
  exact ⟨(k _ (by omega)).trans h1, (k _ (by omega)).trans h2, base, h3, h4, (k _ (by omega)).trans h5⟩
/-- the free hunters -/
theorem mm_lays7 {P H : Nat} {r : Nat → Int32} (hH : H ≤ 10) : ∀ (u k : Nat) (B : zMt), B P 8 = nI H → (∀ j, j < 82 → B (P + 1) j = r j) → B P 33 = nI (fr r k) → k ≤ H → H - k < u → (∀ a, a < fr r k → mF P B r H a) → ∃ B', D_X8_laysApplicants_7 P u (nI k) B = D_X8_laysApplicants_86 P zFu (0 : Int32) B' ∧ B' P 33 = nI (fr r H) ∧ (∀ a, a < fr r H → mF P B' r H a) ∧ (∀ i j, ¬ (i = P ∧ j = 33) → ¬ (P + 11 ≤ i ∧ i ≤ P + 13) → B' i j = B i j) := by
  intro u
  induction u with
  | zero => intro k B _ _ _ _ h; omega
  | succ u ih =>
    intro k B h8 hr h33 hk hu hF
    have hle := fr_le r k
    rw [D_X8_laysApplicants_7, h8]
    by_cases hc : H ≤ k
    · have : k = H := by omega
      subst this
      rw [if_pos (by exact (nI_leI (by omega) (by omega)).mpr hc)]
      exact ⟨B, rfl, h33, hF, fun _ _ _ _ => rfl⟩
    · have e10 : (10 : Int32) + nI k = nI (10 + k) := (show ∀ k, k < 10 → (10 : Int32) + nI k = nI (10 + k) by decide) k (by omega)
      rw [if_neg (by intro z; exact hc ((nI_leI (by omega) (by omega)).mp z)), e10]
      unfold zI
      rw [if_neg (vp_in_nI (by omega) (by decide)), nI_clamp (by omega), hr _ (by omega), h33]
      have i33 : ¬ (nI (fr r k) < 0 ∨ 10 ≤ (nI (fr r k)).toNatClampNeg) := vp_in_nI (by omega) (by decide)
      have efr : fr r (k + 1) = fr r k + (if r (10 + k) = -1 then 1 else 0) := rfl
      by_cases q : r (10 + k) = -1
      · have e20 : (20 : Int32) + (3 : Int32) * nI k = nI (20 + 3 * k) := (show ∀ k, k < 10 → (20 : Int32) + (3 : Int32) * nI k = nI (20 + 3 * k) by decide) k (by omega)
        rw [if_pos q, if_neg i33, nI_clamp (by omega), zLt_eq, e20]
        rw [show zu B (P + 11) (fr r k) ((1 : Int32) <<< (nI k &&& 31)) P 33 = nI (fr r k) from (zu_ne (by omega)).trans h33]
        rw [if_neg i33, nI_clamp (by omega), zLt_eq]
        rw [show zu (zu B (P + 11) (fr r k) ((1 : Int32) <<< (nI k &&& 31))) (P + 12) (fr r k) (-1) P 33 = nI (fr r k) from (zu_ne (by omega)).trans ((zu_ne (by omega)).trans h33)]
        rw [if_neg i33, nI_clamp (by omega), zLt_eq]
        rw [show zu (zu (zu B (P + 11) (fr r k) ((1 : Int32) <<< (nI k &&& 31))) (P + 12) (fr r k) (-1)) (P + 13) (fr r k) (nI (20 + 3 * k)) P 33 = nI (fr r k) from (zu_ne (by omega)).trans ((zu_ne (by omega)).trans ((zu_ne (by omega)).trans h33))]
        rw [zLt_eq, nI_add1]
        unfold D_X8_laysApplicants_78
        rw [nI_add1]
        generalize hB1 : zu (zu (zu (zu B (P + 11) (fr r k) ((1 : Int32) <<< (nI k &&& 31))) (P + 12) (fr r k) (-1)) (P + 13) (fr r k) (nI (20 + 3 * k))) P 33 (nI (fr r k + 1)) = B1
        have k1 : ∀ i j, ¬ (i = P ∧ j = 33) → ¬ (P + 11 ≤ i ∧ i ≤ P + 13 ∧ j = fr r k) → B1 i j = B i j := fun i j h1 h2 => by
          rw [← hB1, zu_ne (by omega), zu_ne (by omega), zu_ne (by omega), zu_ne (by omega)]
        have v33 : B1 P 33 = nI (fr r (k + 1)) := by rw [← hB1, zu_eq, efr, if_pos q]
        have v11 : B1 (P + 11) (fr r k) = (1 : Int32) <<< (nI k &&& 31) := by rw [← hB1, zu_ne (by omega), zu_ne (by omega), zu_ne (by omega), zu_eq]
        have v12 : B1 (P + 12) (fr r k) = -1 := by rw [← hB1, zu_ne (by omega), zu_ne (by omega), zu_eq]
        have v13 : B1 (P + 13) (fr r k) = nI (20 + 3 * k) := by rw [← hB1, zu_ne (by omega), zu_eq]
        obtain ⟨B', f1, f2, f3, f4⟩ := ih (k + 1) B1 ((k1 P 8 (by omega) (by omega)).trans h8) (fun j hj => (k1 (P + 1) j (by omega) (by omega)).trans (hr j hj)) v33 (by omega) (by omega) (fun a ha => by
          rw [efr, if_pos q] at ha
          by_cases z : a = fr r k
          · subst z
            have hlt := fr_lt (show k < H by omega) q
            refine ⟨?_, ?_, 20 + 3 * k, Or.inl ⟨k, by omega, q, rfl, rfl⟩, by omega, v13⟩
            · rw [v11, bv_free hH (by omega) q H (Nat.le_refl H), if_pos (by omega)]
            · rw [v12, if_pos hlt]
          · exact (hF a (by omega)).k (fun i hi => k1 i a (by omega) (by omega)))
        exact ⟨B', f1, f2, f3, fun i j h1 h2 => (f4 i j h1 h2).trans (k1 i j h1 (by omega))⟩
      · rw [if_neg q]
        unfold D_X8_laysApplicants_78
        rw [nI_add1]
        exact ih (k + 1) B h8 hr (by rw [efr, if_neg q]; exact h33) (by omega) (by omega) (fun a ha => by
          rw [efr, if_neg q] at ha
          exact hF a ha)
/-- one party -/
theorem mm_lays109 {P H p F : Nat} {r : Nat → Int32} {k86 : Int32 → zMt → Option zMt} (hH : H ≤ 10) (hp : p < 4) (hF : F = fr r H) (hFp : F + p < 10) : ∀ (u k : Nat) (B : zMt), B P 8 = nI H → (∀ j, j < 82 → B (P + 1) j = r j) → B P 33 = nI (F + p) → B (P + 11) (F + p) = bv r H (F + p) k → k ≤ H → H - k < u → ∃ B', D_X8_laysApplicants_109 P k86 u (nI p) (nI k) B = k86 (nI (p + 1)) B' ∧ B' P 33 = nI (F + p + 1) ∧ B' (P + 11) (F + p) = bv r H (F + p) H ∧ B' (P + 12) (F + p) = nI p ∧ B' (P + 13) (F + p) = nI (50 + 3 * p) ∧ (∀ i j, ¬ (i = P ∧ j = 33) → ¬ (P + 11 ≤ i ∧ i ≤ P + 13 ∧ j = F + p) → B' i j = B i j) := by
  intro u
  induction u with
  | zero => intro k B _ _ _ _ _ h; omega
  | succ u ih =>
    intro k B h8 hr h33 hb hk hu
    have i33 : ¬ (nI (F + p) < 0 ∨ 10 ≤ (nI (F + p)).toNatClampNeg) := vp_in_nI (by omega) (by decide)
    rw [D_X8_laysApplicants_109, h8, h33]
    unfold zI
    by_cases hc : H ≤ k
    · have : k = H := by omega
      subst this
      have e50 : (50 : Int32) + (3 : Int32) * nI p = nI (50 + 3 * p) := (show ∀ k, k < 4 → (50 : Int32) + (3 : Int32) * nI k = nI (50 + 3 * k) by decide) p hp
      rw [if_pos (by exact (nI_leI (by omega) (by omega)).mpr hc), if_neg i33, nI_clamp (by omega), zLt_eq, e50]
      rw [show zu B (P + 12) (F + p) (nI p) P 33 = nI (F + p) from (zu_ne (by omega)).trans h33]
      rw [if_neg i33, nI_clamp (by omega), zLt_eq]
      rw [show zu (zu B (P + 12) (F + p) (nI p)) (P + 13) (F + p) (nI (50 + 3 * p)) P 33 = nI (F + p) from (zu_ne (by omega)).trans ((zu_ne (by omega)).trans h33)]
      rw [zLt_eq, nI_add1, nI_add1]
      refine ⟨_, rfl, zu_eq, (zu_ne (by omega)).trans ((zu_ne (by omega)).trans ((zu_ne (by omega)).trans hb)), (zu_ne (by omega)).trans ((zu_ne (by omega)).trans zu_eq), (zu_ne (by omega)).trans zu_eq, fun i j h1 h2 => (zu_ne (by omega)).trans ((zu_ne (by omega)).trans (zu_ne (by omega)))⟩
    · have hlt : k < H := by omega
      have e10 : (10 : Int32) + nI k = nI (10 + k) := (show ∀ k, k < 10 → (10 : Int32) + nI k = nI (10 + k) by decide) k (by omega)
      rw [if_neg (by intro z; exact hc ((nI_leI (by omega) (by omega)).mp z)), if_neg i33, e10, if_neg (vp_in_nI (by omega) (by decide)), nI_clamp (by omega), hr _ (by omega), nI_clamp (by omega), hb]
      have hbv : bv r H (F + p) (k + 1) = if memb r H (F + p) k then bv r H (F + p) k ||| ((1 : Int32) <<< (nI k &&& 31)) else bv r H (F + p) k := rfl
      have hm : memb r H (F + p) k ↔ r (10 + k) = nI p := by rw [hF]; exact memb_party hp hlt
      have fin : ∀ y : Int32, (bv r H (F + p) k ||| y) = bv r H (F + p) (k + 1) → ∃ B', D_X8_laysApplicants_147 P k86 (D_X8_laysApplicants_109 P k86 u) (nI p) (nI k) (nI (F + p)) (bv r H (F + p) k) y B = k86 (nI (p + 1)) B' ∧ B' P 33 = nI (F + p + 1) ∧ B' (P + 11) (F + p) = bv r H (F + p) H ∧ B' (P + 12) (F + p) = nI p ∧ B' (P + 13) (F + p) = nI (50 + 3 * p) ∧ (∀ i j, ¬ (i = P ∧ j = 33) → ¬ (P + 11 ≤ i ∧ i ≤ P + 13 ∧ j = F + p) → B' i j = B i j) := fun y hy => by
        unfold D_X8_laysApplicants_147 zI
        rw [if_neg i33, nI_clamp (by omega), zLt_eq, hy, nI_add1]
        have k1 : ∀ i j, ¬ (i = P + 11 ∧ j = F + p) → zu B (P + 11) (F + p) (bv r H (F + p) (k + 1)) i j = B i j := fun i j h => zu_ne h
        obtain ⟨B', f1, f2, f3, f4, f5, f6⟩ := ih (k + 1) (zu B (P + 11) (F + p) (bv r H (F + p) (k + 1))) ((k1 P 8 (by omega)).trans h8) (fun j hj => (k1 (P + 1) j (by omega)).trans (hr j hj)) ((k1 P 33 (by omega)).trans h33) zu_eq (by omega) (by omega)
        exact ⟨B', f1, f2, f3, f4, f5, fun i j h1 h2 => (f6 i j h1 h2).trans (k1 i j (by omega))⟩
      by_cases q : r (10 + k) = nI p
      · rw [if_pos q]
        exact fin _ (by rw [hbv, if_pos (hm.mpr q)])
      · rw [if_neg q]
        exact fin _ (by rw [hbv, if_neg (fun z => q (hm.mp z)), Int32.or_zero])
/-- the parties -/
theorem mm_lays86 {P H G F : Nat} {r : Nat → Int32} (hH : H ≤ 10) (hG : G ≤ 4) (hF : F = fr r H) (hFG : F + G ≤ 10) : ∀ (u p : Nat) (B : zMt), B P 8 = nI H → (∀ j, j < 82 → B (P + 1) j = r j) → r 70 = nI G → B P 33 = nI (F + p) → p ≤ G → G - p < u → (∀ a, a < F + p → mF P B r H a) → ∃ B', D_X8_laysApplicants_86 P u (nI p) B = D_X8_laysApplicants_198 P zFu (0 : Int32) B' ∧ B' P 33 = nI (F + G) ∧ (∀ a, a < F + G → mF P B' r H a) ∧ (∀ i j, ¬ (i = P ∧ j = 33) → ¬ (P + 11 ≤ i ∧ i ≤ P + 13) → B' i j = B i j) := by
  intro u
  induction u with
  | zero => intro p B _ _ _ _ _ h; omega
  | succ u ih =>
    intro p B h8 hr h70 h33 hp hu hA
    rw [D_X8_laysApplicants_86]
    unfold zI
    rw [if_neg (by decide), show (70 : Int32).toNatClampNeg = 70 by decide, hr 70 (by omega), h70]
    by_cases hc : G ≤ p
    · have : p = G := by omega
      subst this
      rw [if_pos (by exact (nI_leI (by omega) (by omega)).mpr hc)]
      exact ⟨B, rfl, h33, hA, fun _ _ _ _ => rfl⟩
    · have i33 : ¬ (nI (F + p) < 0 ∨ 10 ≤ (nI (F + p)).toNatClampNeg) := vp_in_nI (by omega) (by decide)
      rw [if_neg (by intro z; exact hc ((nI_leI (by omega) (by omega)).mp z)), h33, if_neg i33, nI_clamp (by omega), zLt_eq]
      have k1 : ∀ i j, ¬ (i = P + 11 ∧ j = F + p) → zu B (P + 11) (F + p) (0 : Int32) i j = B i j := fun i j h => zu_ne h
      obtain ⟨B1, f1, f2, f3, f4, f5, f6⟩ := mm_lays109 (k86 := D_X8_laysApplicants_86 P u) hH (show p < 4 by omega) hF (by omega) zFu 0 (zu B (P + 11) (F + p) (0 : Int32)) ((k1 P 8 (by omega)).trans h8) (fun j hj => (k1 (P + 1) j (by omega)).trans (hr j hj)) ((k1 P 33 (by omega)).trans h33) zu_eq (by omega) (by unfold zFu; omega)
      rw [show nI 0 = (0 : Int32) by decide] at f1
      rw [f1]
      have k2 : ∀ i j, ¬ (i = P ∧ j = 33) → ¬ (P + 11 ≤ i ∧ i ≤ P + 13 ∧ j = F + p) → B1 i j = B i j := fun i j h1 h2 => (f6 i j h1 h2).trans (k1 i j (by omega))
      obtain ⟨B2, g1, g2, g3, g4⟩ := ih (p + 1) B1 ((k2 P 8 (by omega) (by omega)).trans h8) (fun j hj => (k2 (P + 1) j (by omega) (by omega)).trans (hr j hj)) h70 f2 (by omega) (by omega) (fun a ha => by
        by_cases z : a = F + p
        · subst z
          refine ⟨f3, ?_, 50 + 3 * p, Or.inr ⟨by omega, by omega⟩, by omega, f5⟩
          rw [f4, if_neg (by omega), show F + p - fr r H = p by omega]
        · exact (hA a (by omega)).k (fun i hi => k2 i a (by omega) (by omega)))
      exact ⟨B2, g1, g2, g3, fun i j h1 h2 => (g4 i j h1 h2).trans (k2 i j h1 (by omega))⟩
/-- sizes and the rest -/
theorem mm_lays198 {P H T : Nat} {r g : Nat → Int32} (hH : H ≤ 10) (hT : T ≤ 10) (hg : ∀ h, h < H → g h = 0 ∨ g h = 1) (hne : ∀ a, a < T → ¬ sN r H a = 0) : ∀ (u i : Nat) (B : zMt), B P 8 = nI H → (∀ j, j < 82 → B (P + 1) j = r j) → (∀ h, h < H → B (P + 5) h = g h) → B P 33 = nI T → (∀ a, a < T → mF P B r H a) → i ≤ T → T - i < u → (∀ a, a < i → B (P + 14) a = sN r H a ∧ B (P + 15) a = sG g r H a ∧ B (P + 16) a = sP r H a ∧ B (P + 17) a = sT r H a) → ∃ B', D_X8_laysApplicants_198 P u (nI i) B = some B' ∧ (∀ a, a < T → mF P B' r H a) ∧ (∀ a, a < T → B' (P + 14) a = sN r H a ∧ B' (P + 15) a = sG g r H a ∧ B' (P + 16) a = sP r H a ∧ B' (P + 17) a = sT r H a) ∧ (∀ x j, ¬ (P + 14 ≤ x ∧ x ≤ P + 17) → B' x j = B x j) := by
  intro u
  induction u with
  | zero => intro i B _ _ _ _ _ _ h; omega
  | succ u ih =>
    intro i B h8 hr hg5 h33 hF hi hu hv
    rw [D_X8_laysApplicants_198, h33]
    by_cases hc : T ≤ i
    · rw [if_pos (by exact (nI_leI (by omega) (by omega)).mpr hc)]
      exact ⟨B, rfl, hF, fun a ha => hv a (by omega), fun _ _ _ => rfl⟩
    · rw [if_neg (by intro z; exact hc ((nI_leI (by omega) (by omega)).mp z))]
      obtain ⟨B1, f1, f2, f3, f4, f5, f6⟩ := mm_one (P := P) (a := i) (B := B) hH (by omega) hg (hne i (by omega)) h8 hr hg5 (hF i (by omega)).1
      rw [zB_s f1, nI_add1]
      have k1 : ∀ x j, ¬ (P + 14 ≤ x ∧ x ≤ P + 17 ∧ j = i) → B1 x j = B x j := f6
      obtain ⟨B2, g1, g2, g3, g4⟩ := ih (i + 1) B1 ((k1 P 8 (by omega)).trans h8) (fun j hj => (k1 (P + 1) j (by omega)).trans (hr j hj)) (fun h hh => (k1 (P + 5) h (by omega)).trans (hg5 h hh)) ((k1 P 33 (by omega)).trans h33) (fun a ha => (hF a ha).k (fun x hx => k1 x a (by omega))) (by omega) (by omega) (fun a ha => by
        by_cases z : a = i
        · subst z; exact ⟨f2, f3, f4, f5⟩
        · rw [k1 (P + 14) a (by omega), k1 (P + 15) a (by omega), k1 (P + 16) a (by omega), k1 (P + 17) a (by omega)]
          exact hv a (by omega))
      exact ⟨B2, g1, g2, g3, fun x j h => (g4 x j h).trans (k1 x j (by omega))⟩
theorem mm_lays {P H G : Nat} {r g : Nat → Int32} {B : zMt} (hH : H ≤ 10) (hG : G ≤ 4) (hFG : fr r H + G ≤ 10) (hg : ∀ h, h < H → g h = 0 ∨ g h = 1) (hne : ∀ a, a < fr r H + G → ¬ sN r H a = 0) (h8 : B P 8 = nI H) (hr : ∀ j, j < 82 → B (P + 1) j = r j) (hg5 : ∀ h, h < H → B (P + 5) h = g h) (h70 : r 70 = nI G) : ∃ B', D_X8_laysApplicants P B = some B' ∧ mL P B' r g H G ∧ (∀ i j, ¬ (i = P ∧ j = 33) → ¬ (P + 11 ≤ i ∧ i ≤ P + 17) → B' i j = B i j) := by
  unfold D_X8_laysApplicants
  rw [zLt_eq]
  have k0 : ∀ i j, ¬ (i = P ∧ j = 33) → zu B P 33 (0 : Int32) i j = B i j := fun i j h => zu_ne h
  obtain ⟨B1, a1, a2, a3, a4⟩ := mm_lays7 (r := r) hH zFu 0 (zu B P 33 (0 : Int32)) ((k0 P 8 (by omega)).trans h8) (fun j hj => (k0 (P + 1) j (by omega)).trans (hr j hj)) (zu_eq.trans (show (0 : Int32) = nI 0 by decide)) (by omega) (by unfold zFu; omega) (fun a ha => absurd ha (Nat.not_lt_zero a))
  rw [show nI 0 = (0 : Int32) by decide] at a1
  have k1 : ∀ i j, ¬ (i = P ∧ j = 33) → ¬ (P + 11 ≤ i ∧ i ≤ P + 13) → B1 i j = B i j := fun i j h1 h2 => (a4 i j h1 h2).trans (k0 i j h1)
  obtain ⟨B2, b1, b2, b3, b4⟩ := mm_lays86 (r := r) hH hG rfl hFG zFu 0 B1 ((k1 P 8 (by omega) (by omega)).trans h8) (fun j hj => (k1 (P + 1) j (by omega) (by omega)).trans (hr j hj)) h70 a2 (by omega) (by unfold zFu; omega) a3
  rw [show nI 0 = (0 : Int32) by decide] at b1
  have k2 : ∀ i j, ¬ (i = P ∧ j = 33) → ¬ (P + 11 ≤ i ∧ i ≤ P + 13) → B2 i j = B i j := fun i j h1 h2 => (b4 i j h1 h2).trans (k1 i j h1 h2)
  obtain ⟨B3, d1, d2, d3, d4⟩ := mm_lays198 (r := r) (g := g) hH hFG hg hne zFu 0 B2 ((k2 P 8 (by omega) (by omega)).trans h8) (fun j hj => (k2 (P + 1) j (by omega) (by omega)).trans (hr j hj)) (fun h hh => (k2 (P + 5) h (by omega) (by omega)).trans (hg5 h hh)) b2 b3 (by omega) (by unfold zFu; omega) (fun a ha => absurd ha (Nat.not_lt_zero a))
  rw [show nI 0 = (0 : Int32) by decide] at d1
  refine ⟨B3, a1.trans (b1.trans d1), ⟨(d4 P 33 (by omega)).trans b2, fun a ha => ?_⟩, fun i j h1 h2 => (d4 i j (by omega)).trans (k2 i j h1 (by omega))⟩
  obtain ⟨e1, e2, base, e3, e4, e5⟩ := d2 a ha
  obtain ⟨e6, e7, e8, e9⟩ := d3 a ha
  exact ⟨e1, e2, ⟨base, e3, e4, e5⟩, e6, e7, e8, e9⟩
