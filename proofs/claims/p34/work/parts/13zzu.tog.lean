/-! a list with a party more: what together asks of the class -/
def gR5 (R : Nat) (A : zMt) (r g : Nat → Int32) (H G : Nat) : Prop :=
  (H ≤ 10 ∧ G ≤ 5 ∧ A R 1 = nI H ∧ A R 2 = nI G ∧ A R 3 = r 67) ∧
  (∀ h, h < 10 → A (R + 2) h = r h) ∧
  (∀ h, h < H → A (R + 3) h = g h) ∧
  (∀ h, h < 10 → A (R + 4) h = r (10 + h)) ∧
  (∀ h, h < H → r (10 + h) = -1 → wsR R A r h (20 + 3 * h)) ∧
  (∀ h p, h < H → p < G → r (10 + h) = nI p → wsR R A r h (50 + 3 * p)) ∧
  (∀ p, p < G → ∃ h, h < H ∧ r (10 + h) = nI p)
theorem gR5.m {R : Nat} {A A' : zMt} {r g : Nat → Int32} {H G : Nat} (w : gR5 R A r g H G) (a : ∀ i j, R ≤ i → i < R + 8 → A' i j = A i j) : gR5 R A' r g H G := by
  obtain ⟨⟨c2, c3, c5, c6, c7⟩, r2, r3, r4, r5, r6, r9⟩ := w
  exact ⟨⟨c2, c3, (a _ _ (by omega) (by omega)).trans c5, (a _ _ (by omega) (by omega)).trans c6, (a _ _ (by omega) (by omega)).trans c7⟩, fun h hh => (a _ _ (by omega) (by omega)).trans (r2 h hh), fun h hh => (a _ _ (by omega) (by omega)).trans (r3 h hh), fun h hh => (a _ _ (by omega) (by omega)).trans (r4 h hh), fun h hh he => (r5 h hh he).k (a _ _ (by omega) (by omega)) (fun k _ => a _ _ (by omega) (by omega)) (fun _ _ => rfl), fun h p hh hp he => (r6 h p hh hp he).k (a _ _ (by omega) (by omega)) (fun k _ => a _ _ (by omega) (by omega)) (fun _ _ => rfl), r9⟩
theorem memb_one5 {r : Nat → Int32} {H a b h : Nat} (ha : memb r H a h) (hb : memb r H b h) (hA : a < fr r H + 5) (hB : b < fr r H + 5) : a = b := by
  obtain ⟨h1, p⟩ := ha
  obtain ⟨_, q⟩ := hb
  rcases p with ⟨p1, p2⟩ | ⟨p1, p2⟩
  · rcases q with ⟨q1, q2⟩ | ⟨q1, q2⟩
    · omega
    · rw [p1] at q2
      exact absurd q2.symm (nI_ne (by omega))
  · rcases q with ⟨q1, q2⟩ | ⟨q1, q2⟩
    · rw [q1] at p2
      exact absurd p2.symm (nI_ne (by omega))
    · rw [p2] at q2
      have := nI_inj (by omega) (by omega) q2
      omega
theorem memb_party5 {r : Nat → Int32} {H p h : Nat} (hh : h < H) : memb r H (fr r H + p) h ↔ r (10 + h) = nI p := by
  constructor
  · rintro ⟨h1, ⟨h2, h3⟩ | ⟨h2, h3⟩⟩
    · have := fr_lt hh h2; omega
    · rw [Nat.add_sub_cancel_left] at h3; exact h3
  · intro q
    exact ⟨hh, Or.inr ⟨by omega, by rw [Nat.add_sub_cancel_left]; exact q⟩⟩
theorem cc_g12x {Q R H G : Nat} {r g : Nat → Int32} (hd : R + 8 ≤ Q ∨ Q + 13 ≤ R) (hH : H ≤ 10) : ∀ (u k : Nat) (A : zMt), gR5 R A r g H G → A Q 1 = nI (fr r k) → k ≤ H → H - k < u → (∀ a, a < fr r k → rawC Q A r g H a) → ∃ A', D_X2_gather_12 Q R u (nI k) A = D_X2_gather_51 Q R zFu (0 : Int32) A' ∧ A' Q 1 = nI (fr r H) ∧ (∀ a, a < fr r H → rawC Q A' r g H a) ∧ (∀ i j, ¬ (i = Q ∧ j = 1) → ¬ (Q + 4 ≤ i ∧ i ≤ Q + 12) → A' i j = A i j) := by
  intro u
  induction u with
  | zero => intro k A _ _ _ h; omega
  | succ u ih =>
    intro k A w h1 hk hu hA
    have hle := fr_le r k
    have w0 := w
    obtain ⟨⟨c2, c3, c5, c6, c7⟩, r2, r3, r4, r5, r6, r9⟩ := w
    rw [D_X2_gather_12, c5]
    by_cases hc : H ≤ k
    · have : k = H := by omega
      subst this
      rw [if_pos (by exact (nI_leI (by omega) (by omega)).mpr hc)]
      exact ⟨A, rfl, h1, hA, fun _ _ _ _ => rfl⟩
    · have efr : fr r (k + 1) = fr r k + (if r (10 + k) = -1 then 1 else 0) := rfl
      rw [if_neg (by intro z; exact hc ((nI_leI (by omega) (by omega)).mp z)), zrd_nI (show k < 10 by omega) (by decide), r4 k (by omega)]
      by_cases q : r (10 + k) = -1
      · rw [if_pos q]
        obtain ⟨A1, f1, f2, f3, f4, f5, f6, f7, f8⟩ := cc_open (Q := Q) (n := fr r k) (A := A) (v := -1) (by omega) h1
        rw [zB_s f1]
        obtain ⟨A2, e1, e2, e3, e4, e5, e6, e7, e8, e9⟩ := cc_join (Q := Q) (R := R) (a := fr r k) (h := k) (A := A1) (by omega) (by omega) f2 hd
        rw [zB_s e1]
        unfold D_X2_gather_43
        rw [nI_add1]
        have fr1 : ∀ i j, R ≤ i → i < R + 8 → A1 i j = A i j := fun i j h2 h3 => f8 i j (by omega) (by omega)
        have fr2 : ∀ i j, R ≤ i → i < R + 8 → A2 i j = A i j := fun i j h2 h3 => (e9 i j (by omega) (by omega) (by omega)).trans (fr1 i j h2 h3)
        have hlt := fr_lt (show k < H by omega) q
        have kk : ∀ i j, ¬ (i = Q ∧ j = 1) → ¬ (Q + 4 ≤ i ∧ i ≤ Q + 12) → A2 i j = A i j := fun i j p s => (e9 i j (by omega) (by omega) (by omega)).trans (f8 i j p (by omega))
        have new : rawC Q A2 r g H (fr r k) := by
          refine ⟨?_, ?_, fun base hb => ?_, ?_, ?_, ?_, fun h hm => ?_⟩
          · rw [e6, f6, bv_free hH (by omega) q H (Nat.le_refl H), if_pos (by omega), Int32.zero_add]
          · rw [e9 _ _ (by omega) (by omega) (by omega), f7, if_pos hlt]
          · have hb' : base = 20 + 3 * k := by
              rcases hb with ⟨h', h2, h3, h4, h5⟩ | ⟨h2, _⟩
              · rw [h5, fr_inj h3 q h4]
              · omega
            rw [hb']
            exact (r5 k (by omega) q).c (e7.trans (fr1 _ _ (by omega) (by omega))) (fun x hx => (e8 x hx).trans (fr1 _ _ (by omega) (by omega)))
          · rw [e3, f3]
            unfold sN
            rw [sm_1 (by omega) q, Int32.zero_add]
          · rw [e4, f4, fr1 _ _ (by omega) (by omega), r3 k (by omega)]
            unfold sG
            rw [sm_1 (by omega) q, Int32.zero_add]
          · rw [e5, f5, fr1 _ _ (by omega) (by omega), r2 k (by omega), sm_1 (by omega) q, Int32.zero_add]
          · rw [(memb_free (by omega) q).mp hm]
            exact e2
        obtain ⟨A', g1, g2, g3, g4⟩ := ih (k + 1) A2 (w0.m fr2) (by rw [efr, if_pos q, e9 _ _ (by omega) (by omega) (by omega)]; exact f2) (by omega) (by omega) (fun a ha => by
          rw [efr, if_pos q] at ha
          by_cases z : a = fr r k
          · rw [z]; exact new
          · refine (hA a (by omega)).k (fun i h2 h3 => (e9 i a (by omega) (by omega) (by omega)).trans (f8 i a (by omega) (by omega))) (fun j h2 h3 => (e9 _ j (by omega) (by omega) (by omega)).trans (f8 _ j (by omega) (by omega))) (fun h hm => ?_)
            have hne : ¬ h = k := fun y => by
              rw [y] at hm
              exact z (memb_one5 hm ((memb_free (by omega) q).mpr rfl) (by omega) (by omega))
            exact (e9 _ h (by omega) (by omega) (by omega)).trans (f8 _ h (by omega) (by omega)))
        exact ⟨A', g1, g2, g3, fun i j p s => (g4 i j p s).trans (kk i j p s)⟩
      · rw [if_neg q]
        unfold D_X2_gather_43
        rw [nI_add1]
        exact ih (k + 1) A w0 (by rw [efr, if_neg q]; exact h1) (by omega) (by omega) (fun a ha => by
          rw [efr, if_neg q] at ha
          exact hA a ha)
theorem cc_g66x {Q R H G p : Nat} {r g : Nat → Int32} {k51 : Int32 → zMt → Option zMt} (hd : R + 8 ≤ Q ∨ Q + 13 ≤ R) (hH : H ≤ 10) (hp : p < G) (hFp : fr r H + p < 10) : ∀ (u k : Nat) (A : zMt), gR5 R A r g H G → A Q 1 = nI (fr r H + p + 1) → k ≤ H → H - k < u → (∀ a, a < fr r H + p → rawC Q A r g H a) → rawP Q A r g H (fr r H + p) k → ∃ A', D_X2_gather_66 Q R k51 u (nI p) (nI k) A = k51 (nI (p + 1)) A' ∧ A' Q 1 = nI (fr r H + p + 1) ∧ (∀ a, a < fr r H + p → rawC Q A' r g H a) ∧ rawP Q A' r g H (fr r H + p) H ∧ (∀ i j, ¬ (i = Q ∧ j = 1) → ¬ (Q + 4 ≤ i ∧ i ≤ Q + 12) → A' i j = A i j) := by
  intro u
  induction u with
  | zero => intro k A _ _ _ h; omega
  | succ u ih =>
    intro k A w h1 hk hu hA hP
    have w0 := w
    have hP0 := hP
    obtain ⟨⟨c2, c3, c5, c6, c7⟩, r2, r3, r4, r5, r6, r9⟩ := w
    obtain ⟨p1, p2, p3, p4, p5, p6, p7⟩ := hP
    rw [D_X2_gather_66, c5]
    by_cases hc : H ≤ k
    · have : k = H := by omega
      subst this
      rw [if_pos (by exact (nI_leI (by omega) (by omega)).mpr hc), nI_add1]
      exact ⟨A, rfl, h1, hA, hP0, fun _ _ _ _ => rfl⟩
    · have hm : memb r H (fr r H + p) k ↔ r (10 + k) = nI p := memb_party5 (by omega)
      rw [if_neg (by intro z; exact hc ((nI_leI (by omega) (by omega)).mp z)), zrd_nI (show k < 10 by omega) (by decide), r4 k (by omega)]
      have b1 : bv r H (fr r H + p) (k + 1) = if memb r H (fr r H + p) k then bv r H (fr r H + p) k ||| ((1 : Int32) <<< (nI k &&& 31)) else bv r H (fr r H + p) k := rfl
      have b2 : ∀ f : Nat → Int32, sm f r H (fr r H + p) (k + 1) = if memb r H (fr r H + p) k then sm f r H (fr r H + p) k + f k else sm f r H (fr r H + p) k := fun _ => rfl
      by_cases q : r (10 + k) = nI p
      · rw [if_pos q]
        obtain ⟨A2, e1, e2, e3, e4, e5, e6, e7, e8, e9⟩ := cc_join (Q := Q) (R := R) (a := fr r H + p) (h := k) (A := A) (by omega) (by omega) h1 hd
        rw [zB_s e1]
        unfold D_X2_gather_92
        rw [nI_add1]
        have hmk := hm.mpr q
        have fr2 : ∀ i j, R ≤ i → i < R + 8 → A2 i j = A i j := fun i j h2 h3 => e9 i j (by omega) (by omega) (by omega)
        have kk : ∀ i j, ¬ (i = Q ∧ j = 1) → ¬ (Q + 4 ≤ i ∧ i ≤ Q + 12) → A2 i j = A i j := fun i j p s => e9 i j (by omega) (by omega) (by omega)
        have sb : fr r H + p - fr r H = p := by omega
        obtain ⟨A', g1, g2, g3, g4, g5⟩ := ih (k + 1) A2 (w0.m fr2) ((e9 _ _ (by omega) (by omega) (by omega)).trans h1) (by omega) (by omega) (fun a ha => by
          refine (hA a ha).k (fun i h2 h3 => e9 i a (by omega) (by omega) (by omega)) (fun j h2 h3 => e9 _ j (by omega) (by omega) (by omega)) (fun h hmh => ?_)
          have hne : ¬ h = k := fun y => by
            rw [y] at hmh
            have := memb_one5 hmh hmk (by omega) (by omega)
            omega
          exact e9 _ h (by omega) (by omega) (by omega)) ⟨by rw [e6, p1, b1, if_pos hmk, bv_add (by omega)], (e9 _ _ (by omega) (by omega) (by omega)).trans p2, fun _ => by
            rw [sb]
            exact (r6 k p (by omega) hp q).c e7 e8, by rw [e3, p4, b2, if_pos hmk], by rw [e4, p5, r3 k (by omega), b2, if_pos hmk], by rw [e5, p6, r2 k (by omega), b2, if_pos hmk], fun h hh hmh => by
            by_cases y : h = k
            · rw [y]; exact e2
            · exact (e9 _ h (by omega) (by omega) (by omega)).trans (p7 h (by omega) hmh)⟩
        exact ⟨A', g1, g2, g3, g4, fun i j p s => (g5 i j p s).trans (kk i j p s)⟩
      · rw [if_neg q]
        unfold D_X2_gather_92
        rw [nI_add1]
        have hmk : ¬ memb r H (fr r H + p) k := fun z => q (hm.mp z)
        exact ih (k + 1) A w0 h1 (by omega) (by omega) hA ⟨by rw [p1, b1, if_neg hmk], p2, fun ⟨h, h2, h3⟩ => p3 ⟨h, by
          by_cases y : h = k
          · rw [y] at h3; exact absurd h3 hmk
          · omega, h3⟩, by rw [p4, b2, if_neg hmk], by rw [p5, b2, if_neg hmk], by rw [p6, b2, if_neg hmk], fun h hh hmh => p7 h (by
          by_cases y : h = k
          · rw [y] at hmh; exact absurd hmh hmk
          · omega) hmh⟩
theorem cc_g51x {Q R H G : Nat} {r g : Nat → Int32} (hd : R + 8 ≤ Q ∨ Q + 13 ≤ R) (hH : H ≤ 10) (hFG : fr r H + G ≤ 10) : ∀ (u p : Nat) (A : zMt), gR5 R A r g H G → A Q 1 = nI (fr r H + p) → p ≤ G → G - p < u → (∀ a, a < fr r H + p → rawC Q A r g H a) → ∃ A', D_X2_gather_51 Q R u (nI p) A = D_X2_gather_111 Q R zFu (0 : Int32) (zu A' Q 2 (0 : Int32)) ∧ A' Q 1 = nI (fr r H + G) ∧ (∀ a, a < fr r H + G → rawC Q A' r g H a) ∧ (∀ i j, ¬ (i = Q ∧ j = 1) → ¬ (Q + 4 ≤ i ∧ i ≤ Q + 12) → A' i j = A i j) := by
  intro u
  induction u with
  | zero => intro p A _ _ _ h; omega
  | succ u ih =>
    intro p A w h1 hp hu hA
    have w0 := w
    obtain ⟨⟨c2, c3, c5, c6, c7⟩, r2, r3, r4, r5, r6, r9⟩ := w
    rw [D_X2_gather_51, c6]
    by_cases hc : G ≤ p
    · have : p = G := by omega
      subst this
      rw [if_pos (by exact (nI_leI (by omega) (by omega)).mpr hc), zLt_eq]
      exact ⟨A, rfl, h1, hA, fun _ _ _ _ => rfl⟩
    · rw [if_neg (by intro z; exact hc ((nI_leI (by omega) (by omega)).mp z))]
      obtain ⟨A1, f1, f2, f3, f4, f5, f6, f7, f8⟩ := cc_open (Q := Q) (n := fr r H + p) (A := A) (v := nI p) (by omega) h1
      rw [zB_s f1]
      have fr1 : ∀ i j, R ≤ i → i < R + 8 → A1 i j = A i j := fun i j h2 h3 => f8 i j (by omega) (by omega)
      obtain ⟨A2, e1, e2, e3, e4, e5⟩ := cc_g66x (k51 := D_X2_gather_51 Q R u) hd hH (show p < G by omega) (by omega) zFu 0 A1 (w0.m fr1) f2 (by omega) (by unfold zFu; omega) (fun a ha => (hA a ha).k (fun i h2 h3 => f8 i a (by omega) (by omega)) (fun j h2 h3 => f8 _ j (by omega) (by omega)) (fun h _ => f8 _ h (by omega) (by omega))) ⟨f6, by rw [f7, show fr r H + p - fr r H = p by omega], fun ⟨h, h2, _⟩ => absurd h2 (Nat.not_lt_zero h), f3, f4, f5, fun h hh _ => absurd hh (Nat.not_lt_zero h)⟩
      rw [show nI 0 = (0 : Int32) by decide] at e1
      rw [e1]
      have k2 : ∀ i j, ¬ (i = Q ∧ j = 1) → ¬ (Q + 4 ≤ i ∧ i ≤ Q + 12) → A2 i j = A i j := fun i j p s => (e5 i j p s).trans (f8 i j p (by omega))
      have new : rawC Q A2 r g H (fr r H + p) := by
        obtain ⟨q1, q2, q3, q4, q5, q6, q7⟩ := e4
        refine ⟨q1, by rw [q2, if_neg (by omega)], fun base hb => ?_, q4, q5, q6, fun h hm => q7 h hm.1 hm⟩
        have hb' : base = 50 + 3 * (fr r H + p - fr r H) := by
          rcases hb with ⟨h', h2, h3, h4, h5⟩ | ⟨_, h2⟩
          · have := fr_lt h2 h3
            omega
          · exact h2
        rw [hb']
        obtain ⟨h, hh, he⟩ := r9 p (by omega)
        exact q3 ⟨h, hh, (memb_party5 hh).mpr he⟩
      obtain ⟨A', g1, g2, g3, g4⟩ := ih (p + 1) A2 (w0.m (fun i j h2 h3 => k2 i j (by omega) (by omega))) (by rw [e2]; rfl) (by omega) (by omega) (fun a ha => by
        by_cases z : a = fr r H + p
        · rw [z]; exact new
        · exact e3 a (by omega))
      exact ⟨A', g1, g2, g3, fun i j p s => (g4 i j p s).trans (k2 i j p s)⟩
theorem c_addParty5 {R H G : Nat} {s : Int32} (hH : H ≤ 10) : ∀ (u k : Nat) (A : zMt), A R 1 = nI H → A R 2 = nI G → k ≤ H → H - k < u → G < 5 → ∃ A', D_X4_addParty_2 R u s (nI k) A = some A' ∧ A' R 2 = nI (G + 1) ∧ (∀ h, k ≤ h → h < H → bitAt s h → A' (R + 4) h = nI G) ∧ (∀ r j, ¬ (r = R ∧ j = 2) → ¬ (r = R + 4 ∧ k ≤ j ∧ j < H ∧ bitAt s j) → A' r j = A r j) := by
  intro u
  induction u with
  | zero => intro k A _ _ _ h; omega
  | succ u ih =>
    intro k A h1 h2 hk hu hG
    rw [D_X4_addParty_2, h1]
    by_cases hc : H ≤ k
    · rw [if_pos ((nI_leI (by omega) (by omega)).mpr hc)]
      show ∃ A', some (zu A R 2 (A R 2 + 1)) = some A' ∧ _
      rw [h2, nI_add1]
      exact ⟨_, rfl, zu_eq, fun h q1 q2 => by omega, fun r j q _ => zu_ne q⟩
    · rw [if_neg (fun q => hc ((nI_leI (by omega) (by omega)).mp q))]
      by_cases hb : bitAt s k
      · rw [if_pos (show ((s >>> (nI k &&& 31)) &&& (1 : Int32)) = (1 : Int32) from hb), zwr_nI (by omega) (by decide), h2]
        show ∃ A', D_X4_addParty_2 R u s (nI k + 1) (zu A (R + 4) k (nI G)) = some A' ∧ _
        rw [nI_add1]
        obtain ⟨A', e1, e2, e3, e4⟩ := ih (k + 1) (zu A (R + 4) k (nI G)) ((zu_ne (by omega)).trans h1) ((zu_ne (by omega)).trans h2) (by omega) (by omega) hG
        refine ⟨A', e1, e2, fun h q1 q2 q3 => ?_, fun r j q1 q2 => (e4 r j q1 (fun z => q2 ⟨z.1, by omega, z.2.2⟩)).trans (zu_ne (fun z => q2 ⟨z.1, by omega, by omega, z.2 ▸ hb⟩))⟩
        by_cases z : h = k
        · subst z
          exact (e4 (R + 4) h (by omega) (by omega)).trans zu_eq
        · exact e3 h (by omega) q2 q3
      · rw [if_neg (show ¬ ((s >>> (nI k &&& 31)) &&& (1 : Int32)) = (1 : Int32) from hb)]
        show ∃ A', D_X4_addParty_2 R u s (nI k + 1) A = some A' ∧ _
        rw [nI_add1]
        obtain ⟨A', e1, e2, e3, e4⟩ := ih (k + 1) A h1 h2 (by omega) (by omega) hG
        refine ⟨A', e1, e2, fun h q1 q2 q3 => ?_, fun r j q1 q2 => e4 r j q1 (fun z => q2 ⟨z.1, by omega, z.2.2⟩)⟩
        have : h ≠ k := fun z => hb (z ▸ q3)
        exact e3 h (by omega) q2 q3
theorem mm_one18x {P H a : Nat} {r g : Nat → Int32} (hH : H ≤ 10) (ha : a < 10) (hg : ∀ h, h < H → g h = 0 ∨ g h = 1) (hne : ¬ sN r H a = 0) : ∀ (u k : Nat) (B : zMt), B P 8 = nI H → (∀ j, (j < 10 ∨ j = 67) → B (P + 1) j = r j) → (∀ h, h < H → B (P + 5) h = g h) → B (P + 11) a = bv r H a H → B (P + 14) a = sm (fun _ => 1) r H a k → B (P + 15) a = sm g r H a k → k ≤ H → H - k < u → ∃ B', D_X8_laysOne_18 P u (nI a) (sm r r H a k) (nI k) B = some B' ∧ B' (P + 14) a = sN r H a ∧ B' (P + 15) a = sG g r H a ∧ B' (P + 16) a = sP r H a ∧ B' (P + 17) a = sT r H a ∧ (∀ i j, ¬ (P + 14 ≤ i ∧ i ≤ P + 17 ∧ j = a) → B' i j = B i j) := by
  intro u
  induction u with
  | zero => intro k B _ _ _ _ _ _ _ h; omega
  | succ u ih =>
    intro k B h8 hr hg5 hb h14 h15 hk hu
    rw [D_X8_laysOne_18, h8]
    unfold zI
    have ia : ¬ (nI a < 0 ∨ 10 ≤ (nI a).toNatClampNeg) := vp_in_nI ha (by decide)
    by_cases hc : H ≤ k
    · have hkH : k = H := by omega
      subst hkH
      rw [if_pos (by exact (nI_leI (by omega) (by omega)).mpr hc), if_neg ia, nI_clamp (by omega), h14]
      unfold zZ
      rw [if_neg (by exact hne), if_neg (ci ha (by omega)), zLt_eq, if_neg (by decide)]
      have e67 : zu B (P + 16) a (sm r r k a k / sm (fun _ => 1) r k a k) (P + 1) (67 : Int32).toNatClampNeg = r 67 := by
        rw [show (67 : Int32).toNatClampNeg = 67 by decide, zu_ne (by omega)]
        exact hr 67 (by omega)
      have e16 : zu B (P + 16) a (sm r r k a k / sm (fun _ => 1) r k a k) (P + 16) a = sP r k a := zu_eq
      rw [e67, e16]
      have fin : ∀ v : Int32, v = sT r k a → ∃ B', D_X8_laysOne_162 P (nI a) v (zu B (P + 16) a (sm r r k a k / sm (fun _ => 1) r k a k)) = some B' ∧ B' (P + 14) a = sN r k a ∧ B' (P + 15) a = sG g r k a ∧ B' (P + 16) a = sP r k a ∧ B' (P + 17) a = sT r k a ∧ (∀ i j, ¬ (P + 14 ≤ i ∧ i ≤ P + 17 ∧ j = a) → B' i j = B i j) := fun v hv => by
        unfold D_X8_laysOne_162 zI
        rw [if_neg ia, nI_clamp (by omega), zLt_eq]
        refine ⟨_, rfl, (zu_ne (by omega)).trans ((zu_ne (by omega)).trans h14), (zu_ne (by omega)).trans ((zu_ne (by omega)).trans h15), (zu_ne (by omega)).trans zu_eq, zu_eq.trans hv, fun i j h => (zu_ne (by omega)).trans (zu_ne (by omega))⟩
      by_cases q0 : r 67 = 0
      · rw [if_pos q0]
        exact fin _ (by unfold sT; rw [if_pos q0])
      · rw [if_neg q0, if_neg (by decide)]
        by_cases q1 : r 67 = 1
        · rw [if_pos q1, if_neg (ci ha (by omega))]
          exact fin _ (by unfold sT; rw [if_neg q0, if_pos q1])
        · rw [if_neg q1, if_neg (ci ha (by omega)), if_neg (ci ha (by omega))]
          exact fin _ (by unfold sT; rw [if_neg q0, if_neg q1])
    · have hlt : k < H := by omega
      have ik : ¬ (nI k < 0 ∨ 10 ≤ (nI k).toNatClampNeg) := vp_in_nI (by omega) (by decide)
      rw [if_neg (by intro z; exact hc ((nI_leI (by omega) (by omega)).mp z)), if_neg ia, nI_clamp (by omega), hb]
      have hbit := bv_bit (r := r) (H := H) (a := a) H hH k (by omega)
      obtain ⟨e, he, hq⟩ := v_X8_has (v0 := bv r H a H) (v1 := nI k)
      rw [zB_s he]
      have s1 : sm (fun _ => 1) r H a (k + 1) = if memb r H a k then sm (fun _ => 1) r H a k + 1 else sm (fun _ => 1) r H a k := rfl
      have s2 : sm g r H a (k + 1) = if memb r H a k then sm g r H a k + g k else sm g r H a k := rfl
      have s3 : sm r r H a (k + 1) = if memb r H a k then sm r r H a k + r k else sm r r H a k := rfl
      by_cases hm : memb r H a k
      · have he0 : ¬ e = 0 := fun z => by
          rcases hq.2 with ⟨w, _⟩ | ⟨_, w⟩
          · rw [z] at w; exact absurd w (by decide)
          · exact w (hbit.mpr ⟨hlt, hm⟩)
        rw [if_neg he0, if_neg (ci ha (by omega)), if_neg (ci ha (by omega)), zLt_eq, if_neg (ci ha (by omega)), if_neg ik, nI_clamp (by omega), h14]
        have e5 : zu B (P + 14) a (sm (fun _ => 1) r H a k + 1) (P + 5) k = g k := (zu_ne (by omega)).trans (hg5 k hlt)
        have e15 : zu B (P + 14) a (sm (fun _ => 1) r H a k + 1) (P + 15) a = sm g r H a k := (zu_ne (by omega)).trans h15
        rw [e5, e15]
        have fin : D_X8_laysOne_73 P (D_X8_laysOne_18 P u) (nI a) (sm r r H a k) (nI k) (nI a) (sm g r H a k) (g k) (zu B (P + 14) a (sm (fun _ => 1) r H a k + 1)) = D_X8_laysOne_18 P u (nI a) (sm r r H a (k + 1)) (nI (k + 1)) (zu (zu B (P + 14) a (sm (fun _ => 1) r H a k + 1)) (P + 15) a (sm g r H a k + g k)) := by
          unfold D_X8_laysOne_73 zI
          have e0 : (0 : Int32) + nI k = nI k := (show ∀ k, k < 10 → (0 : Int32) + nI k = nI k by decide) k (by omega)
          rw [if_neg ia, nI_clamp (by omega), zLt_eq, e0, if_neg (vp_in_nI (by omega) (by decide)), nI_clamp (by omega)]
          unfold D_X8_laysOne_86
          rw [nI_add1, s3, if_pos hm, zu_ne (by omega), zu_ne (by omega), hr k (by omega)]
        have hgo : ∃ B', D_X8_laysOne_73 P (D_X8_laysOne_18 P u) (nI a) (sm r r H a k) (nI k) (nI a) (sm g r H a k) (g k) (zu B (P + 14) a (sm (fun _ => 1) r H a k + 1)) = some B' ∧ B' (P + 14) a = sN r H a ∧ B' (P + 15) a = sG g r H a ∧ B' (P + 16) a = sP r H a ∧ B' (P + 17) a = sT r H a ∧ (∀ i j, ¬ (P + 14 ≤ i ∧ i ≤ P + 17 ∧ j = a) → B' i j = B i j) := by
          rw [fin]
          have kk : ∀ i j, ¬ (P + 14 ≤ i ∧ i ≤ P + 17 ∧ j = a) → zu (zu B (P + 14) a (sm (fun _ => 1) r H a k + 1)) (P + 15) a (sm g r H a k + g k) i j = B i j := fun i j h => (zu_ne (by omega)).trans (zu_ne (by omega))
          obtain ⟨B', f1, f2, f3, f4, f5, f6⟩ := ih (k + 1) (zu (zu B (P + 14) a (sm (fun _ => 1) r H a k + 1)) (P + 15) a (sm g r H a k + g k)) ((kk P 8 (by omega)).trans h8) (fun j hj => (kk (P + 1) j (by omega)).trans (hr j hj)) (fun h hh => (kk (P + 5) h (by omega)).trans (hg5 h hh)) ((kk (P + 11) a (by omega)).trans hb) ((zu_ne (by omega)).trans (zu_eq.trans (by rw [s1, if_pos hm]))) (zu_eq.trans (by rw [s2, if_pos hm])) (by omega) (by omega)
          exact ⟨B', f1, f2, f3, f4, f5, fun i j h => (f6 i j h).trans (kk i j h)⟩
        rcases hg k hlt with z | z
        · rw [if_pos z]
          rw [z] at hgo
          exact hgo
        · rw [if_neg (by rw [z]; decide)]
          rw [z] at hgo
          exact hgo
      · have he0 : e = 0 := by
          rcases hq.2 with ⟨_, w⟩ | ⟨w, _⟩
          · exact absurd (hbit.mp w).2 hm
          · exact w
        rw [if_pos he0]
        unfold D_X8_laysOne_86
        rw [nI_add1]
        have t := ih (k + 1) B h8 hr hg5 hb (h14.trans (by rw [s1, if_neg hm])) (h15.trans (by rw [s2, if_neg hm])) (by omega) (by omega)
        rw [s3, if_neg hm] at t
        exact t
theorem mm_onex {P H a : Nat} {r g : Nat → Int32} {B : zMt} (hH : H ≤ 10) (ha : a < 10) (hg : ∀ h, h < H → g h = 0 ∨ g h = 1) (hne : ¬ sN r H a = 0) (h8 : B P 8 = nI H) (hr : ∀ j, (j < 10 ∨ j = 67) → B (P + 1) j = r j) (hg5 : ∀ h, h < H → B (P + 5) h = g h) (hb : B (P + 11) a = bv r H a H) : ∃ B', D_X8_laysOne P (nI a) B = some B' ∧ B' (P + 14) a = sN r H a ∧ B' (P + 15) a = sG g r H a ∧ B' (P + 16) a = sP r H a ∧ B' (P + 17) a = sT r H a ∧ (∀ i j, ¬ (P + 14 ≤ i ∧ i ≤ P + 17 ∧ j = a) → B' i j = B i j) := by
  have ia : ¬ (nI a < 0 ∨ 10 ≤ (nI a).toNatClampNeg) := vp_in_nI ha (by decide)
  unfold D_X8_laysOne zI
  rw [if_neg ia, nI_clamp (by omega), zLt_eq, if_neg (ci ha (by omega)), zLt_eq]
  have kk : ∀ i j, ¬ (P + 14 ≤ i ∧ i ≤ P + 17 ∧ j = a) → zu (zu B (P + 14) a 0) (P + 15) a 0 i j = B i j := fun i j h => (zu_ne (by omega)).trans (zu_ne (by omega))
  obtain ⟨B', f1, f2, f3, f4, f5, f6⟩ := mm_one18x (r := r) (g := g) hH ha hg hne zFu 0 (zu (zu B (P + 14) a 0) (P + 15) a 0) ((kk P 8 (by omega)).trans h8) (fun j hj => (kk (P + 1) j (by omega)).trans (hr j hj)) (fun h hh => (kk (P + 5) h (by omega)).trans (hg5 h hh)) ((kk (P + 11) a (by omega)).trans hb) ((zu_ne (by omega)).trans zu_eq) zu_eq (by omega) (by unfold zFu; omega)
  rw [show nI 0 = (0 : Int32) by decide] at f1
  exact ⟨B', f1, f2, f3, f4, f5, fun i j h => (f6 i j h).trans (kk i j h)⟩
theorem cc_gunits5 {Q R U : Nat} {A : zMt} {r : Nat → Int32} (c1 : U ≤ 5) (c4 : A R 0 = nI U) (r1 : ∀ u, u < 5 → A (R + 1) u = r (62 + u)) (s2 : A R 4 = r 68) (s3 : A R 5 = r 69) (hd : R + 8 ≤ Q ∨ Q + 13 ≤ R) : ∃ A', D_X2_gatherUnits Q R A = some A' ∧ cU Q A' r U ∧ (∀ i j, ¬ (i = Q ∧ (j = 0 ∨ j = 3)) → ¬ (Q + 1 ≤ i ∧ i ≤ Q + 3) → A' i j = A i j) := by
  unfold D_X2_gatherUnits
  rw [zLt_eq, c4, zLt_eq]
  have k1 : ∀ i j, ¬ (i = Q ∧ (j = 0 ∨ j = 3)) → zu (zu A Q 0 (nI U)) Q 3 (0 : Int32) i j = A i j := fun i j h => (zu_ne (by omega)).trans (zu_ne (by omega))
  obtain ⟨A', f1, f2, f3⟩ := cc_gU15 (r := r) c1 hd zFu 0 (zu (zu A Q 0 (nI U)) Q 3 (0 : Int32)) ((zu_ne (by omega)).trans zu_eq) (fun u hu => (k1 _ _ (by omega)).trans (r1 u hu)) ((k1 _ _ (by omega)).trans s2) ((k1 _ _ (by omega)).trans s3) (by omega) (by unfold zFu; omega) (fun i hi => absurd hi (Nat.not_lt_zero i)) (Or.inl ⟨zu_eq, fun i hi => absurd hi (Nat.not_lt_zero i)⟩)
  rw [show nI 0 = (0 : Int32) by decide] at f1
  exact ⟨A', f1, f2, fun i j h1 h2 => (f3 i j (by omega) h2).trans (k1 i j h1)⟩
theorem cc_gather5 {Q R U H G : Nat} {A : zMt} {r r0 g : Nat → Int32} (w : gR5 R A r g H G) (c1 : U ≤ 5) (c4 : A R 0 = nI U) (r1 : ∀ u, u < 5 → A (R + 1) u = r0 (62 + u)) (s2 : A R 4 = r0 68) (s3 : A R 5 = r0 69) (hd : R + 8 ≤ Q ∨ Q + 13 ≤ R) (hFG : fr r H + G ≤ 10) (hlaw : r 67 = 0 ∨ r 67 = 1 ∨ r 67 = 2) (hne : ∀ a, a < fr r H + G → ¬ sN r H a = 0) : ∃ A', D_X2_gather Q R A = some A' ∧ cU Q A' r0 U ∧ cL Q A' r g H G ∧ (∀ i j, (i < Q ∨ Q + 13 ≤ i) → A' i j = A i j) := by
  have w0 := w
  obtain ⟨⟨c2, c3, c5, c6, c7⟩, r2, r3, r4, r5, r6, r9⟩ := w
  unfold D_X2_gather
  obtain ⟨A1, f1, f2, f3⟩ := cc_gunits5 (Q := Q) c1 c4 r1 s2 s3 hd
  rw [zB_s f1, zLt_eq]
  have k1 : ∀ i j, ¬ (i = Q ∧ j = 1) → zu A1 Q 1 (0 : Int32) i j = A1 i j := fun i j h => zu_ne h
  have k2 : ∀ i j, ¬ i = Q → ¬ (Q + 1 ≤ i ∧ i ≤ Q + 3) → zu A1 Q 1 (0 : Int32) i j = A i j := fun i j h h' => (k1 i j (by omega)).trans (f3 i j (by omega) h')
  have w1 := w0.m (A' := zu A1 Q 1 (0 : Int32)) (fun i j h2 h3 => k2 i j (by omega) (by omega))
  obtain ⟨A2, g1, g2, g3, g4⟩ := cc_g12x (r := r) (g := g) hd c2 zFu 0 (zu A1 Q 1 (0 : Int32)) w1 (zu_eq.trans (show (0 : Int32) = nI 0 by decide)) (by omega) (by unfold zFu; omega) (fun a ha => absurd ha (Nat.not_lt_zero a))
  rw [show nI 0 = (0 : Int32) by decide] at g1
  rw [g1]
  have w2 := w1.m (A' := A2) (fun i j h2 h3 => g4 i j (by omega) (by omega))
  obtain ⟨A3, i1, i2, i3, i4⟩ := cc_g51x (r := r) (g := g) hd c2 hFG zFu 0 A2 w2 g2 (by omega) (by unfold zFu; omega) g3
  rw [show nI 0 = (0 : Int32) by decide] at i1
  rw [i1]
  have w3 := w2.m (A' := A3) (fun i j h2 h3 => i4 i j (by omega) (by omega))
  have k3 : ∀ i j, ¬ (i = Q ∧ j = 2) → zu A3 Q 2 (0 : Int32) i j = A3 i j := fun i j h => zu_ne h
  obtain ⟨A4, j1, j2, j3, j4, j5⟩ := cc_g111 (Q := Q) (R := R) (H := H) (T := fr r H + G) (r := r) (g := g) hd hFG hlaw hne zFu 0 (zu A3 Q 2 (0 : Int32)) ((k3 _ _ (by omega)).trans w3.1.2.2.2.2) ((k3 _ _ (by omega)).trans i2) zu_eq (by omega) (by unfold zFu; omega) (fun a _ ha => (i3 a ha).k (fun x _ _ => k3 x a (by omega)) (fun j _ _ => k3 _ j (by omega)) (fun h _ => k3 _ h (by omega))) (fun a ha => absurd ha (Nat.not_lt_zero a))
  rw [show nI 0 = (0 : Int32) by decide] at j1
  have kf : ∀ i j, ¬ (i = Q ∧ (j = 1 ∨ j = 2)) → ¬ (Q + 4 ≤ i ∧ i ≤ Q + 12) → A4 i j = A1 i j := fun i j p q => by
    rw [j5 i j (by omega) (by omega), k3 i j (by omega), i4 i j (by omega) q, g4 i j (by omega) q, k1 i j (by omega)]
  refine ⟨A4, j1, ?_, ⟨j2, j3, j4⟩, fun i j h => (kf i j (by omega) (by omega)).trans (f3 i j (by omega) (by omega))⟩
  obtain ⟨u1, u2, u4⟩ := f2
  refine ⟨(kf _ _ (by omega) (by omega)).trans u1, fun u hu => ?_, ?_⟩
  · rw [kf _ _ (by omega) (by omega), kf _ _ (by omega) (by omega), kf _ _ (by omega) (by omega)]
    exact u2 u hu
  · rcases u4 with ⟨z0, al⟩ | ⟨z1, i0, h1, h2⟩
    · exact Or.inl ⟨(kf _ _ (by omega) (by omega)).trans z0, fun i hi => by rw [kf _ _ (by omega) (by omega)]; exact al i hi⟩
    · exact Or.inr ⟨(kf _ _ (by omega) (by omega)).trans z1, i0, h1, by rw [kf _ _ (by omega) (by omega)]; exact h2⟩
