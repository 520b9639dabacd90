/-! the odds: the reference goes on through all orders -/
theorem mm_go25 {P n U : Nat} {B T : zMt} {N : zNt} {b x1 : Int32} {x : Int64} {rec : Int32 → Int32 → Int64 → zMt → zNt → Option (zMt × zNt)} (hn : n ≤ 7) (hm : mP P B T n U) : ∀ (v a : Nat), a ≤ n → n - a < v → D_X8_goesOn_25 P rec v x1 b x (Int64.ofInt (St (T 8) b a)) (nI a) B N = D_X8_goesOn_69 P rec zFu x1 b x (Int64.ofInt (St (T 8) b n)) (0 : Int32) B N := by
  intro v
  induction v with
  | zero => intro a _ h; omega
  | succ v ih =>
    intro a ha hv
    rw [D_X8_goesOn_25, hm.1]
    by_cases hc : n ≤ a
    · rw [if_pos (by exact (nI_leI (by omega) (by omega)).mpr hc), show a = n by omega]
    · rw [if_neg (by intro z; exact hc ((nI_leI (by omega) (by omega)).mp z))]
      have := ih (a + 1) (by omega) (by omega)
      have eS : St (T 8) b (a + 1) = St (T 8) b a + (if ((b >>> (nI a &&& 31)) &&& 1) = 1 then 0 else (T 8 a).toInt) := rfl
      by_cases q : ((b >>> (nI a &&& 31)) &&& 1) = 1
      · rw [zB_s (mm_has1 (b := b) (h := a) q), if_neg n10]
        unfold D_X8_goesOn_57
        rw [if_pos q, Int.add_zero] at eS
        rw [nI_add1, Int64.add_zero, ← eS]
        exact this
      · rw [zB_s (mm_has0 (b := b) (h := a) q), if_pos rfl]
        unfold zI D_X8_goesOn_57
        rw [if_neg q] at eS
        rw [if_neg (vp_in_nI (show a < 10 by omega) (by decide)), nI_clamp (by omega), (hm.2.2.1 a (by omega)).2.2.2.2.2.1, nI_add1, t_i64 (x := T 8 a) rfl, ← Int64.ofInt_add, ← eS]
        exact this
theorem mm_goes {P n U : Nat} {T : zMt} (hg : gP T n U) (hn : n ≤ 7) : ∀ (d k w : Nat) (b : Int32) (l : Nat → Nat) (x : Int64) (B : zMt) (N : zNt) (L : List lY), k + d = n → d < w → (∀ j, j < k → l j < n ∧ B (P + 18) j = nI (l j)) → cn b n = k → mP P B T n U → rI P B N T U n L → ∃ B' N', D_X8_goesOn P w (nI k) b x B N = some (B', N') ∧ rI P B' N' T U n (L ++ lv (T 8) n d k b l x) ∧ (∀ j, j < k → B' (P + 18) j = B (P + 18) j) ∧ (∀ i j, ¬ (i = P ∧ 54 ≤ j ∧ j ≤ 57) → ¬ i = P + 29 → ¬ (P + 18 ≤ i ∧ i ≤ P + 22) → B' i j = B i j) ∧ (∀ i j, ¬ (i = P ∧ j = 59) → ¬ (P + 24 ≤ i ∧ i ≤ P + 28) → N' i j = N i j) := by
  have hU := hg.2.1
  have ht : ∀ a, a < n → 1 ≤ (T 8 a).toInt ∧ (T 8 a).toInt ≤ 401 := fun a ha => (hg.2.2.2.2.1 a ha).2.2.1.i (by omega)
  intro d
  induction d with
  | zero =>
    intro k w b l x B N L hk hw hl hc hm hI
    obtain ⟨w, rfl⟩ : ∃ y, w = y + 1 := ⟨w - 1, by omega⟩
    have : k = n := by omega
    subst this
    obtain ⟨B1, e1, hM, k1⟩ := mm_results (wo := 10) (v1 := -1) hg hm (fun y hy => ⟨fun z => absurd z (nI_ne (by omega)), fun z => by omega⟩) hl
    have hm1 : mP P B1 T k U := hm.m hU (k1 _ _ (by omega)) (k1 _ _ (by omega)) (fun j _ _ => k1 _ _ (by omega)) (fun i j _ _ => k1 _ _ (by omega))
    obtain ⟨B2, N2, e2, f1, f2, f3⟩ := mm_leaf (x := x) (l := l) (L := L) hg hn hm1 (fun j hj => (hl j hj).1) hM (hI.k (fun i j h => k1 i j (by omega)) (fun _ _ _ => rfl))
    refine ⟨B2, N2, ?_, f1, fun j hj => (f2 _ _ (by omega) (by omega)).trans (k1 _ _ (by omega)), fun i j h1 h2 h3 => (f2 i j h1 h2).trans (k1 i j (by omega)), f3⟩
    rw [D_X8_goesOn, hm.1, if_pos rfl, zB_s e1, zB_s e2]
  | succ d ih =>
    intro k w b l x B N L hk hw hl hc hm hI
    obtain ⟨w, rfl⟩ : ∃ y, w = y + 1 := ⟨w - 1, by omega⟩
    have hge := St_ge (t := T 8) (b := b) n (fun a ha => (ht a ha).1)
    have hle := St_le (t := T 8) (b := b) n ht
    have hz : ¬ Int64.ofInt (St (T 8) b n) = 0 := fun z => by
      have h1 := congrArg Int64.toInt z
      have hs : (Int64.size : Int) = 18446744073709551616 := by decide
      rw [Int64.toInt_ofInt, Int.bmod_def, hs, show (0 : Int64).toInt = 0 by decide] at h1
      omega
    have e25 := mm_go25 (P := P) (b := b) (x1 := nI k) (x := x) (N := N) (rec := D_X8_goesOn P w) hn hm zFu 0 (by omega) (by unfold zFu; omega)
    rw [show nI 0 = (0 : Int32) by decide, show Int64.ofInt (St (T 8) b 0) = (0 : Int64) by show Int64.ofInt 0 = 0; decide] at e25
    rw [D_X8_goesOn, hm.1, if_neg (fun z => by have := nI_inj (by omega) (by omega) z; omega), e25]
    have inner : ∀ (v a : Nat) (B1 : zMt) (N1 : zNt), a ≤ n → n - a < v → (∀ j, j < k → B1 (P + 18) j = B (P + 18) j) → mP P B1 T n U → rI P B1 N1 T U n (L ++ lvL (fun a => if ((b >>> (nI a &&& 31)) &&& 1) = 1 then [] else lv (T 8) n d (k + 1) (b ||| ((1 : Int32) <<< (nI a &&& 31))) (fun j => if j = k then a else l j) ((x * Int32.toInt64 (T 8 a)) / Int64.ofInt (St (T 8) b n))) a) → ∃ B' N', D_X8_goesOn_69 P (D_X8_goesOn P w) v (nI k) b x (Int64.ofInt (St (T 8) b n)) (nI a) B1 N1 = some (B', N') ∧ rI P B' N' T U n (L ++ lvL (fun a => if ((b >>> (nI a &&& 31)) &&& 1) = 1 then [] else lv (T 8) n d (k + 1) (b ||| ((1 : Int32) <<< (nI a &&& 31))) (fun j => if j = k then a else l j) ((x * Int32.toInt64 (T 8 a)) / Int64.ofInt (St (T 8) b n))) n) ∧ (∀ j, j < k → B' (P + 18) j = B (P + 18) j) ∧ (∀ i j, ¬ (i = P ∧ 54 ≤ j ∧ j ≤ 57) → ¬ i = P + 29 → ¬ (P + 18 ≤ i ∧ i ≤ P + 22) → B' i j = B1 i j) ∧ (∀ i j, ¬ (i = P ∧ j = 59) → ¬ (P + 24 ≤ i ∧ i ≤ P + 28) → N' i j = N1 i j) := by
      intro v
      induction v with
      | zero => intro a B1 N1 _ h; omega
      | succ v ihv =>
        intro a B1 N1 ha hv hl1 hm1 hI1
        rw [D_X8_goesOn_69, hm1.1]
        by_cases hca : n ≤ a
        · have : a = n := by omega
          subst this
          rw [if_pos (by exact (nI_leI (by omega) (by omega)).mpr (Nat.le_refl a))]
          exact ⟨B1, N1, rfl, hI1, hl1, fun _ _ _ _ _ => rfl, fun _ _ _ _ => rfl⟩
        · rw [if_neg (by intro z; exact hca ((nI_leI (by omega) (by omega)).mp z))]
          by_cases q : ((b >>> (nI a &&& 31)) &&& 1) = 1
          · rw [zB_s (mm_has1 (b := b) (h := a) q), if_neg n10]
            unfold D_X8_goesOn_124
            rw [nI_add1]
            refine ihv (a + 1) B1 N1 (by omega) (by omega) hl1 hm1 ?_
            have e : lvL (fun a => if ((b >>> (nI a &&& 31)) &&& 1) = 1 then [] else lv (T 8) n d (k + 1) (b ||| ((1 : Int32) <<< (nI a &&& 31))) (fun j => if j = k then a else l j) ((x * Int32.toInt64 (T 8 a)) / Int64.ofInt (St (T 8) b n))) (a + 1) = lvL (fun a => if ((b >>> (nI a &&& 31)) &&& 1) = 1 then [] else lv (T 8) n d (k + 1) (b ||| ((1 : Int32) <<< (nI a &&& 31))) (fun j => if j = k then a else l j) ((x * Int32.toInt64 (T 8 a)) / Int64.ofInt (St (T 8) b n))) a := by
              show lvL _ a ++ (if ((b >>> (nI a &&& 31)) &&& 1) = 1 then [] else _) = _
              rw [if_pos q, List.append_nil]
            rw [e]
            exact hI1
          · rw [zB_s (mm_has0 (b := b) (h := a) q), if_pos rfl]
            unfold zI zZl
            rw [if_neg (vp_in_nI (show k < 10 by omega) (by decide)), nI_clamp (show k < 2147483648 by omega), zLt_eq, if_neg (vp_in_nI (show a < 10 by omega) (by decide)), nI_clamp (show a < 2147483648 by omega), if_neg hz, nI_add1]
            have kz : ∀ i j, ¬ (i = P + 18 ∧ j = k) → zu B1 (P + 18) k (nI a) i j = B1 i j := fun i j h => zu_ne h
            have ez : zu B1 (P + 18) k (nI a) (P + 18) k = nI a := zu_eq
            generalize zu B1 (P + 18) k (nI a) = B2 at kz ez
            have hcn := cn_or (show a < 10 by omega) q n (by omega)
            rw [if_pos (show a < n by omega)] at hcn
            have hm2 : mP P B2 T n U := hm1.m hU (kz _ _ (by omega)) (kz _ _ (by omega)) (fun j _ _ => kz _ _ (by omega)) (fun i j _ _ => kz _ _ (by omega))
            rw [(hm2.2.2.1 a (by omega)).2.2.2.2.2.1]
            obtain ⟨B3, N3, f1, f2, f3, f4, f5⟩ := ih (k + 1) w (b ||| ((1 : Int32) <<< (nI a &&& 31))) (fun j => if j = k then a else l j) ((x * Int32.toInt64 (T 8 a)) / Int64.ofInt (St (T 8) b n)) B2 N1 _ (by omega) (by omega) (fun j hj => by
              by_cases z : j = k
              · subst z
                exact ⟨by show (if j = j then a else l j) < n; rw [if_pos rfl]; omega, by show B2 (P + 18) j = nI (if j = j then a else l j); rw [if_pos rfl]; exact ez⟩
              · refine ⟨by show (if j = k then a else l j) < n; rw [if_neg z]; exact (hl j (by omega)).1, ?_⟩
                show B2 (P + 18) j = nI (if j = k then a else l j)
                rw [if_neg z, kz _ _ (by omega), hl1 j (by omega)]
                exact (hl j (by omega)).2) (by omega) hm2 (hI1.k (fun i j h => kz _ _ (by omega)) (fun _ _ _ => rfl))
            rw [zB_s f1]
            unfold D_X8_goesOn_124
            rw [nI_add1]
            have e : L ++ lvL (fun a => if ((b >>> (nI a &&& 31)) &&& 1) = 1 then [] else lv (T 8) n d (k + 1) (b ||| ((1 : Int32) <<< (nI a &&& 31))) (fun j => if j = k then a else l j) ((x * Int32.toInt64 (T 8 a)) / Int64.ofInt (St (T 8) b n))) (a + 1) = (L ++ lvL (fun a => if ((b >>> (nI a &&& 31)) &&& 1) = 1 then [] else lv (T 8) n d (k + 1) (b ||| ((1 : Int32) <<< (nI a &&& 31))) (fun j => if j = k then a else l j) ((x * Int32.toInt64 (T 8 a)) / Int64.ofInt (St (T 8) b n))) a) ++ lv (T 8) n d (k + 1) (b ||| ((1 : Int32) <<< (nI a &&& 31))) (fun j => if j = k then a else l j) ((x * Int32.toInt64 (T 8 a)) / Int64.ofInt (St (T 8) b n)) := by
              show L ++ (lvL _ a ++ (if ((b >>> (nI a &&& 31)) &&& 1) = 1 then [] else _)) = _
              rw [if_neg q, List.append_assoc]
            have hm3 : mP P B3 T n U := hm2.m hU (f4 _ _ (by omega) (by omega) (by omega)) (f4 _ _ (by omega) (by omega) (by omega)) (fun j _ _ => f4 _ _ (by omega) (by omega) (by omega)) (fun i j _ _ => f4 _ _ (by omega) (by omega) (by omega))
            obtain ⟨B4, N4, g1, g2, g3, g4, g5⟩ := ihv (a + 1) B3 N3 (by omega) (by omega) (fun j hj => (f3 j (by omega)).trans ((kz _ _ (by omega)).trans (hl1 j hj))) hm3 (by rw [e]; exact f2)
            exact ⟨B4, N4, g1, g2, g3, fun i j h1 h2 h3 => (g4 i j h1 h2 h3).trans ((f4 i j h1 h2 h3).trans (kz i j (by omega))), fun i j h1 h2 => (g5 i j h1 h2).trans (f5 i j h1 h2)⟩
    obtain ⟨B', N', f1, f2, f3, f4, f5⟩ := inner zFu 0 B N (by omega) (by unfold zFu; omega) (fun _ _ => rfl) hm (by
      show rI P B N T U n (L ++ [])
      rw [List.append_nil]
      exact hI)
    rw [show nI 0 = (0 : Int32) by decide] at f1
    exact ⟨B', N', f1, f2, f3, f4, f5⟩
