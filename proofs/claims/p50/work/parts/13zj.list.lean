theorem ci {a n : Nat} (h : a < n) (hn : n < 2147483648) : ¬ (nI a < 0 ∨ n ≤ a) := by
  have := vp_in_nI h (by omega)
  unfold vp_in at this
  rw [nI_clamp (by omega)] at this
  exact this
/-! THE LIST between calls: the class's register at R, the reference's row r, its guests g -/
def wsR (R : Nat) (A : zMt) (r : Nat → Int32) (h base : Nat) : Prop := ∃ c, c ≤ 3 ∧ A (R + 5) h = nI c ∧ (∀ k, k < 3 → A (R + 6) (3 * h + k) = r (base + k)) ∧ (∀ k, k < 3 → (k < c ↔ ¬ r (base + k) = -1))
def gR (R : Nat) (A : zMt) (r g : Nat → Int32) (U H G : Nat) : Prop :=
  (U ≤ 5 ∧ H ≤ 10 ∧ G ≤ 4 ∧ A R 0 = nI U ∧ A R 1 = nI H ∧ A R 2 = nI G ∧ r 70 = nI G) ∧
  (∀ u, u < 5 → A (R + 1) u = r (62 + u)) ∧
  (∀ h, h < 10 → A (R + 2) h = r h) ∧
  (∀ h, h < H → A (R + 3) h = g h ∧ (g h = 0 ∨ g h = 1)) ∧
  (∀ h, h < 10 → A (R + 4) h = r (10 + h) ∧ (A (R + 4) h = -1 ∨ ∃ p, p < G ∧ A (R + 4) h = nI p) ∧ (h < H ∨ A (R + 4) h = -1)) ∧
  (∀ h, h < H → A (R + 4) h = -1 → wsR R A r h (20 + 3 * h)) ∧
  (∀ h p, h < H → p < G → A (R + 4) h = nI p → wsR R A r h (50 + 3 * p)) ∧
  (∀ p, p < G → ∃ h, h < H ∧ A (R + 4) h = nI p) ∧
  (A R 3 = r 67 ∧ A R 4 = r 68 ∧ A R 5 = r 69 ∧ A R 6 = r 71) ∧ (∀ h, h < 10 → A (R + 7) h = r (72 + h)) ∧ (∀ u, U ≤ u → u < 5 → A (R + 1) u = 0) ∧ (∀ h, H ≤ h → h < 10 → A (R + 3) h = 0)
theorem wsR.k {R R' : Nat} {A A' : zMt} {r r' : Nat → Int32} {h base : Nat} (w : wsR R A r h base) (a5 : A' (R' + 5) h = A (R + 5) h) (a6 : ∀ k, k < 3 → A' (R' + 6) (3 * h + k) = A (R + 6) (3 * h + k)) (b : ∀ k, k < 3 → r' (base + k) = r (base + k)) : wsR R' A' r' h base := by
  obtain ⟨c, h1, h2, h3, h4⟩ := w
  refine ⟨c, h1, by rw [a5]; exact h2, fun k hk => ?_, fun k hk => ?_⟩
  · rw [a6 k hk, b k hk]; exact h3 k hk
  · rw [b k hk]; exact h4 k hk
/-- the same list elsewhere -/
theorem gR.k {R R' : Nat} {A A' : zMt} {r r' g g' : Nat → Int32} {U H G : Nat} (w : gR R A r g U H G) (a0 : ∀ j, j < 7 → A' R' j = A R j) (a1 : ∀ j, j < 5 → A' (R' + 1) j = A (R + 1) j) (a2 : ∀ j, j < 10 → A' (R' + 2) j = A (R + 2) j) (a3 : ∀ j, j < 10 → A' (R' + 3) j = A (R + 3) j) (a4 : ∀ j, j < 10 → A' (R' + 4) j = A (R + 4) j) (a5 : ∀ j, j < 10 → A' (R' + 5) j = A (R + 5) j) (a6 : ∀ j, j < 30 → A' (R' + 6) j = A (R + 6) j) (a7 : ∀ j, j < 10 → A' (R' + 7) j = A (R + 7) j) (b : ∀ j, j < 82 → r' j = r j) (c : ∀ j, j < 10 → g' j = g j) : gR R' A' r' g' U H G := by
  obtain ⟨⟨c1, c2, c3, c4, c5, c6, c7⟩, r1, r2, r3, r4, r5, r6, r9, ⟨s1, s2, s3, s4⟩, u3, u4, u5⟩ := w
  refine ⟨⟨c1, c2, c3, (a0 0 (by omega)).trans c4, (a0 1 (by omega)).trans c5, (a0 2 (by omega)).trans c6, (b 70 (by omega)).trans c7⟩, fun u hu => ?_, fun h hh => ?_, fun h hh => ?_, fun h hh => ?_, fun h hh he => ?_, fun h p hh hp he => ?_, fun p hp => ?_, ⟨?_, ?_, ?_, ?_⟩, fun h hh => ?_, fun u hu1 hu2 => ?_, fun h hh1 hh2 => ?_⟩
  · rw [a1 u hu, b _ (by omega)]; exact r1 u hu
  · rw [a2 h hh, b _ (by omega)]; exact r2 h hh
  · rw [a3 h (by omega), c h (by omega)]; exact r3 h hh
  · rw [a4 h hh, b _ (by omega)]; exact r4 h hh
  · rw [a4 h (by omega)] at he
    exact (r5 h hh he).k (a5 h (by omega)) (fun k hk => a6 _ (by omega)) (fun k hk => b _ (by omega))
  · rw [a4 h (by omega)] at he
    exact (r6 h p hh hp he).k (a5 h (by omega)) (fun k hk => a6 _ (by omega)) (fun k hk => b _ (by omega))
  · obtain ⟨h, h1, h2⟩ := r9 p hp
    exact ⟨h, h1, (a4 h (by omega)).trans h2⟩
  · rw [a0 3 (by omega), b 67 (by omega)]; exact s1
  · rw [a0 4 (by omega), b 68 (by omega)]; exact s2
  · rw [a0 5 (by omega), b 69 (by omega)]; exact s3
  · rw [a0 6 (by omega), b 71 (by omega)]; exact s4
  · rw [a7 h hh, b _ (by omega)]; exact u3 h hh
  · rw [a1 u hu2]; exact u4 u hu1 hu2
  · rw [a3 h hh2]; exact u5 h hh1 hh2
/-- nothing of it touched -/
theorem gR.m {R : Nat} {A A' : zMt} {r r' g g' : Nat → Int32} {U H G : Nat} (w : gR R A r g U H G) (a : ∀ i j, R ≤ i → i < R + 8 → A' i j = A i j) (b : ∀ j, j < 82 → r' j = r j) (c : ∀ j, j < 10 → g' j = g j) : gR R A' r' g' U H G :=
  w.k (fun j _ => a _ j (by omega) (by omega)) (fun j _ => a _ j (by omega) (by omega)) (fun j _ => a _ j (by omega) (by omega)) (fun j _ => a _ j (by omega) (by omega)) (fun j _ => a _ j (by omega) (by omega)) (fun j _ => a _ j (by omega) (by omega)) (fun j _ => a _ j (by omega) (by omega)) (fun j _ => a _ j (by omega) (by omega)) b c
/-- a register is copied -/
theorem cc_take {R S : Nat} {A : zMt} (hd : R + 8 ≤ S ∨ S + 8 ≤ R) : ∃ A', D_X4_take R S A = some A' ∧ (∀ j, j < 7 → A' R j = A S j) ∧ (∀ j, j < 5 → A' (R + 1) j = A (S + 1) j) ∧ (∀ j, j < 10 → A' (R + 2) j = A (S + 2) j) ∧ (∀ j, j < 10 → A' (R + 3) j = A (S + 3) j) ∧ (∀ j, j < 10 → A' (R + 4) j = A (S + 4) j) ∧ (∀ j, j < 10 → A' (R + 5) j = A (S + 5) j) ∧ (∀ j, j < 30 → A' (R + 6) j = A (S + 6) j) ∧ (∀ j, j < 10 → A' (R + 7) j = A (S + 7) j) ∧ (∀ i j, (i < R ∨ R + 8 ≤ i) → A' i j = A i j) := by
  unfold D_X4_take
  refine vLm (W := fun a j => a = R ∧ j = 0) (M0 := A) (fun a j (h : ¬ (a = R ∧ j = 0)) => zu_ne h) (fun M1 f1 k1 => ?_)
  have k1 : ∀ a j, ¬ (a = R ∧ j = 0) → M1 a j = A a j := k1
  have e1 : M1 R 0 = A S 0 := by rw [← f1, zu_eq]
  refine vLm (W := fun a j => a = R ∧ j = 1) (M0 := M1) (fun a j (h : ¬ (a = R ∧ j = 1)) => zu_ne h) (fun M2 f2 k2 => ?_)
  have k2 : ∀ a j, ¬ (a = R ∧ j = 1) → M2 a j = M1 a j := k2
  have e2 : M2 R 1 = M1 S 1 := by rw [← f2, zu_eq]
  refine vLm (W := fun a j => a = R ∧ j = 2) (M0 := M2) (fun a j (h : ¬ (a = R ∧ j = 2)) => zu_ne h) (fun M3 f3 k3 => ?_)
  have k3 : ∀ a j, ¬ (a = R ∧ j = 2) → M3 a j = M2 a j := k3
  have e3 : M3 R 2 = M2 S 2 := by rw [← f3, zu_eq]
  refine vLm (W := fun a j => a = R ∧ j = 3) (M0 := M3) (fun a j (h : ¬ (a = R ∧ j = 3)) => zu_ne h) (fun M4 f4 k4 => ?_)
  have k4 : ∀ a j, ¬ (a = R ∧ j = 3) → M4 a j = M3 a j := k4
  have e4 : M4 R 3 = M3 S 3 := by rw [← f4, zu_eq]
  refine vLm (W := fun a j => a = R ∧ j = 4) (M0 := M4) (fun a j (h : ¬ (a = R ∧ j = 4)) => zu_ne h) (fun M5 f5 k5 => ?_)
  have k5 : ∀ a j, ¬ (a = R ∧ j = 4) → M5 a j = M4 a j := k5
  have e5 : M5 R 4 = M4 S 4 := by rw [← f5, zu_eq]
  refine vLm (W := fun a j => a = R ∧ j = 5) (M0 := M5) (fun a j (h : ¬ (a = R ∧ j = 5)) => zu_ne h) (fun M6 f6 k6 => ?_)
  have k6 : ∀ a j, ¬ (a = R ∧ j = 5) → M6 a j = M5 a j := k6
  have e6 : M6 R 5 = M5 S 5 := by rw [← f6, zu_eq]
  refine vLm (W := fun a j => a = R ∧ j = 6) (M0 := M6) (fun a j (h : ¬ (a = R ∧ j = 6)) => zu_ne h) (fun M7 f7 k7 => ?_)
  have k7 : ∀ a j, ¬ (a = R ∧ j = 6) → M7 a j = M6 a j := k7
  have e7 : M7 R 6 = M6 S 6 := by rw [← f7, zu_eq]
  refine vLm (W := fun a _ => a = R + 1) (M0 := M7) (fun a j (h : ¬ a = R + 1) => zcpy_ne h) (fun M8 f8 k8 => ?_)
  have k8 : ∀ a j, ¬ a = R + 1 → M8 a j = M7 a j := k8
  have e8 : ∀ j, j < 5 → M8 (R + 1) j = M7 (S + 1) j := fun j hj => by rw [← f8, zcpy_in hj, zrd_nI hj (by decide)]
  refine vLm (W := fun a _ => a = R + 2) (M0 := M8) (fun a j (h : ¬ a = R + 2) => zcpy_ne h) (fun M9 f9 k9 => ?_)
  have k9 : ∀ a j, ¬ a = R + 2 → M9 a j = M8 a j := k9
  have e9 : ∀ j, j < 10 → M9 (R + 2) j = M8 (S + 2) j := fun j hj => by rw [← f9, zcpy_in hj, zrd_nI hj (by decide)]
  refine vLm (W := fun a _ => a = R + 3) (M0 := M9) (fun a j (h : ¬ a = R + 3) => zcpy_ne h) (fun M10 f10 k10 => ?_)
  have k10 : ∀ a j, ¬ a = R + 3 → M10 a j = M9 a j := k10
  have e10 : ∀ j, j < 10 → M10 (R + 3) j = M9 (S + 3) j := fun j hj => by rw [← f10, zcpy_in hj, zrd_nI hj (by decide)]
  refine vLm (W := fun a _ => a = R + 4) (M0 := M10) (fun a j (h : ¬ a = R + 4) => zcpy_ne h) (fun M11 f11 k11 => ?_)
  have k11 : ∀ a j, ¬ a = R + 4 → M11 a j = M10 a j := k11
  have e11 : ∀ j, j < 10 → M11 (R + 4) j = M10 (S + 4) j := fun j hj => by rw [← f11, zcpy_in hj, zrd_nI hj (by decide)]
  refine vLm (W := fun a _ => a = R + 5) (M0 := M11) (fun a j (h : ¬ a = R + 5) => zcpy_ne h) (fun M12 f12 k12 => ?_)
  have k12 : ∀ a j, ¬ a = R + 5 → M12 a j = M11 a j := k12
  have e12 : ∀ j, j < 10 → M12 (R + 5) j = M11 (S + 5) j := fun j hj => by rw [← f12, zcpy_in hj, zrd_nI hj (by decide)]
  refine vLm (W := fun a _ => a = R + 6) (M0 := M12) (fun a j (h : ¬ a = R + 6) => zcpy_ne h) (fun M13 f13 k13 => ?_)
  have k13 : ∀ a j, ¬ a = R + 6 → M13 a j = M12 a j := k13
  have e13 : ∀ j, j < 30 → M13 (R + 6) j = M12 (S + 6) j := fun j hj => by rw [← f13, zcpy_in hj, zrd_nI hj (by decide)]
  refine vLm (W := fun a _ => a = R + 7) (M0 := M13) (fun a j (h : ¬ a = R + 7) => zcpy_ne h) (fun M14 f14 k14 => ?_)
  have k14 : ∀ a j, ¬ a = R + 7 → M14 a j = M13 a j := k14
  have e14 : ∀ j, j < 10 → M14 (R + 7) j = M13 (S + 7) j := fun j hj => by rw [← f14, zcpy_in hj, zrd_nI hj (by decide)]
  have z0 : ∀ a j, ¬ a = R → M7 a j = A a j := fun a j h => by rw [k7 a j (by omega), k6 a j (by omega), k5 a j (by omega), k4 a j (by omega), k3 a j (by omega), k2 a j (by omega), k1 a j (by omega)]
  have zz : ∀ a j, (a < R ∨ R + 8 ≤ a) → M14 a j = A a j := fun a j h => by rw [k14 a j (by omega), k13 a j (by omega), k12 a j (by omega), k11 a j (by omega), k10 a j (by omega), k9 a j (by omega), k8 a j (by omega), z0 a j (by omega)]
  refine ⟨M14, rfl, fun j hj => ?_, fun j hj => ?_, fun j hj => ?_, fun j hj => ?_, fun j hj => ?_, fun j hj => ?_, fun j hj => ?_, fun j hj => ?_, zz⟩
  · have h7 : M14 R j = M7 R j := by rw [k14 R j (by omega), k13 R j (by omega), k12 R j (by omega), k11 R j (by omega), k10 R j (by omega), k9 R j (by omega), k8 R j (by omega)]
    rw [h7]
    have hc : j = 0 ∨ j = 1 ∨ j = 2 ∨ j = 3 ∨ j = 4 ∨ j = 5 ∨ j = 6 := by omega
    rcases hc with rfl | rfl | rfl | rfl | rfl | rfl | rfl
    · rw [k7 R 0 (by omega), k6 R 0 (by omega), k5 R 0 (by omega), k4 R 0 (by omega), k3 R 0 (by omega), k2 R 0 (by omega), e1]
    · rw [k7 R 1 (by omega), k6 R 1 (by omega), k5 R 1 (by omega), k4 R 1 (by omega), k3 R 1 (by omega), e2, k1 S 1 (by omega)]
    · rw [k7 R 2 (by omega), k6 R 2 (by omega), k5 R 2 (by omega), k4 R 2 (by omega), e3, k2 S 2 (by omega), k1 S 2 (by omega)]
    · rw [k7 R 3 (by omega), k6 R 3 (by omega), k5 R 3 (by omega), e4, k3 S 3 (by omega), k2 S 3 (by omega), k1 S 3 (by omega)]
    · rw [k7 R 4 (by omega), k6 R 4 (by omega), e5, k4 S 4 (by omega), k3 S 4 (by omega), k2 S 4 (by omega), k1 S 4 (by omega)]
    · rw [k7 R 5 (by omega), e6, k5 S 5 (by omega), k4 S 5 (by omega), k3 S 5 (by omega), k2 S 5 (by omega), k1 S 5 (by omega)]
    · rw [e7, k6 S 6 (by omega), k5 S 6 (by omega), k4 S 6 (by omega), k3 S 6 (by omega), k2 S 6 (by omega), k1 S 6 (by omega)]
  · rw [k14 (R + 1) j (by omega), k13 (R + 1) j (by omega), k12 (R + 1) j (by omega), k11 (R + 1) j (by omega), k10 (R + 1) j (by omega), k9 (R + 1) j (by omega), e8 j hj, z0 (S + 1) j (by omega)]
  · rw [k14 (R + 2) j (by omega), k13 (R + 2) j (by omega), k12 (R + 2) j (by omega), k11 (R + 2) j (by omega), k10 (R + 2) j (by omega), e9 j hj, k8 (S + 2) j (by omega), z0 (S + 2) j (by omega)]
  · rw [k14 (R + 3) j (by omega), k13 (R + 3) j (by omega), k12 (R + 3) j (by omega), k11 (R + 3) j (by omega), e10 j hj, k9 (S + 3) j (by omega), k8 (S + 3) j (by omega), z0 (S + 3) j (by omega)]
  · rw [k14 (R + 4) j (by omega), k13 (R + 4) j (by omega), k12 (R + 4) j (by omega), e11 j hj, k10 (S + 4) j (by omega), k9 (S + 4) j (by omega), k8 (S + 4) j (by omega), z0 (S + 4) j (by omega)]
  · rw [k14 (R + 5) j (by omega), k13 (R + 5) j (by omega), e12 j hj, k11 (S + 5) j (by omega), k10 (S + 5) j (by omega), k9 (S + 5) j (by omega), k8 (S + 5) j (by omega), z0 (S + 5) j (by omega)]
  · rw [k14 (R + 6) j (by omega), e13 j hj, k12 (S + 6) j (by omega), k11 (S + 6) j (by omega), k10 (S + 6) j (by omega), k9 (S + 6) j (by omega), k8 (S + 6) j (by omega), z0 (S + 6) j (by omega)]
  · rw [e14 j hj, k13 (S + 7) j (by omega), k12 (S + 7) j (by omega), k11 (S + 7) j (by omega), k10 (S + 7) j (by omega), k9 (S + 7) j (by omega), k8 (S + 7) j (by omega), z0 (S + 7) j (by omega)]
/-- a list copied is that list -/
theorem gR.take {R S : Nat} {A : zMt} {r g : Nat → Int32} {U H G : Nat} (w : gR S A r g U H G) (hd : R + 8 ≤ S ∨ S + 8 ≤ R) : ∃ A', D_X4_take R S A = some A' ∧ gR R A' r g U H G ∧ (∀ i j, (i < R ∨ R + 8 ≤ i) → A' i j = A i j) := by
  obtain ⟨A', h, a0, a1, a2, a3, a4, a5, a6, a7, k⟩ := cc_take (R := R) (S := S) (A := A) hd
  exact ⟨A', h, w.k a0 a1 a2 a3 a4 a5 a6 a7 (fun _ _ => rfl) (fun _ _ => rfl), k⟩
/-- what has been read is a list -/
theorem gR.ofD {Q P : Nat} {A B B' : zMt} {r g : Nat → Int32} {U H G : Nat} (hC : dC Q P A B U H G) (hR : dR Q P A B U H G) (b : ∀ j, j < 82 → ¬ j = 70 → r j = B (P + 2) j) (b70 : r 70 = nI G) (hg : ∀ h, h < H → g h = B (P + 6) h) : gR (Q + 1) A r g U H G := by
  obtain ⟨c1, c2, c3, c4, c5, c6, c7, c8, c9⟩ := hC
  obtain ⟨r1, r2, r3, r4, r5, r6, r7, r8, r9, ⟨s1, s2, s3⟩, ⟨u1, u2, u3, u4, u5⟩⟩ := hR
  have ws : ∀ h base, h < 10 → base + 3 ≤ 62 → wsh A B Q P h base → wsR (Q + 1) A r h base := fun h base hh hb w => by
    obtain ⟨c, w1, w2, w3, w4⟩ := w
    refine ⟨c, w1, w2, fun k hk => ?_, fun k hk => ?_⟩
    · rw [b _ (by omega) (by omega)]; exact w3 k hk
    · rw [b _ (by omega) (by omega)]; exact w4 k hk
  refine ⟨⟨c1, c2, c3, c4, c6, c8, b70⟩, fun u hu => ?_, fun h hh => ?_, fun h hh => ?_, fun h hh => ?_, fun h hh he => ws h _ (by omega) (by omega) (r5 h (by omega) he), fun h p hh hp he => ws h _ (by omega) (by omega) (r6 h p (by omega) hp he), r9, ⟨?_, ?_, ?_, ?_⟩, fun h hh => ?_, u4, u5⟩
  · rw [b _ (by omega) (by omega)]; exact r1 u hu
  · rw [b _ (by omega) (by omega)]; exact r2 h hh
  · obtain ⟨q1, q2⟩ := r3 h hh
    rw [hg h hh]
    exact ⟨q1, q1 ▸ q2⟩
  · rw [b _ (by omega) (by omega)]; exact r4 h hh
  · rw [b 67 (by omega) (by omega)]; exact s1
  · rw [b 68 (by omega) (by omega)]; exact s2
  · rw [b 69 (by omega) (by omega)]; exact s3
  · rw [b 71 (by omega) (by omega), u2]; exact u1
  · rw [b _ (by omega) (by omega), (u3 h hh).2]; exact (u3 h hh).1
