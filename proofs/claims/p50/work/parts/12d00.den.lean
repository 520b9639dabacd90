/-! PURE READINGS: D_m tells what the method m answers and what it leaves in the two tables (none: not told here); t_m says that the machine does just that. -/
abbrev zMt : Type := Nat → Nat → Int32
abbrev zNt : Type := Nat → Nat → Int64
/-- how often a loop's head is told at most -/
def zFu : Nat := 4294967297
def zLt {α β : Type} (a : α) (f : α → Option β) : Option β := f a
def zB {α β : Type} (o : Option α) (f : α → Option β) : Option β := match o with
  | none => none
  | some a => f a
def zI {β : Type} (i : Int32) (n : Nat) (o : Option β) : Option β := if i < 0 ∨ n ≤ i.toNatClampNeg then none else o
def zZ {β : Type} (y : Int32) (o : Option β) : Option β := if y = 0 then none else o
def zZl {β : Type} (y : Int64) (o : Option β) : Option β := if y = 0 then none else o
def zO {β : Type} (v : Int32) (o : Option β) : Option β := if v = 0 ∨ v = 1 then o else none
theorem zLtx {α β : Type} {a : α} {f : α → Option β} {r : β} (h : zLt a f = some r) : ∃ y, a = y ∧ f y = some r := ⟨a, rfl, h⟩
theorem zBx {α β : Type} {o : Option α} {f : α → Option β} {r : β} (h : zB o f = some r) : ∃ y, o = some y ∧ f y = some r := by
  cases o with
  | none => cases h
  | some a => exact ⟨a, rfl, h⟩
theorem zIx {β : Type} {i : Int32} {n : Nat} {o : Option β} {r : β} (h : zI i n o = some r) : vp_in i n ∧ o = some r := by
  unfold zI at h
  by_cases c : i < 0 ∨ n ≤ i.toNatClampNeg
  · rw [if_pos c] at h; cases h
  · rw [if_neg c] at h; exact ⟨c, h⟩
theorem zZx {β : Type} {y : Int32} {o : Option β} {r : β} (h : zZ y o = some r) : ¬ y = 0 ∧ o = some r := by
  unfold zZ at h
  by_cases c : y = 0
  · rw [if_pos c] at h; cases h
  · rw [if_neg c] at h; exact ⟨c, h⟩
theorem zZlx {β : Type} {y : Int64} {o : Option β} {r : β} (h : zZl y o = some r) : ¬ y = 0 ∧ o = some r := by
  unfold zZl at h
  by_cases c : y = 0
  · rw [if_pos c] at h; cases h
  · rw [if_neg c] at h; exact ⟨c, h⟩
theorem zOx {β : Type} {v : Int32} {o : Option β} {r : β} (h : zO v o = some r) : (v = 0 ∨ v = 1) ∧ o = some r := by
  unfold zO at h
  by_cases c : v = 0 ∨ v = 1
  · rw [if_pos c] at h; exact ⟨c, h⟩
  · rw [if_neg c] at h; cases h
theorem zi_1 {x : Int32} : x + Int32.ofInt 1 = x + 1 := by rw [show Int32.ofInt 1 = (1 : Int32) by decide]
theorem zi_m1 {x : Int32} : x + Int32.ofInt (-1) = x + (-1) := by rw [show Int32.ofInt (-1) = (-1 : Int32) by decide]
theorem zMu {l : Launch} {G : zG} {b : Nat} {y : MethodName} {cc : ByteArray} {nL : Nat} {ret : Option FieldType} {d : Nat} {av : List Value} {S : zS} {A B : zMt} {N : zNt} (h : zM l G b y cc nL ret d 0 0 av S (fun r z => r = none ∧ z = (S.1, A, N))) (he : A = B) : zM l G b y cc nL ret d 0 0 av S (fun r z => r = none ∧ z = (S.1, B, N)) := he ▸ h
theorem zMuN {l : Launch} {G : zG} {b : Nat} {y : MethodName} {cc : ByteArray} {nL : Nat} {ret : Option FieldType} {d : Nat} {av : List Value} {S : zS} {M : zMt} {A B : zNt} (h : zM l G b y cc nL ret d 0 0 av S (fun r z => r = none ∧ z = (S.1, M, A))) (he : A = B) : zM l G b y cc nL ret d 0 0 av S (fun r z => r = none ∧ z = (S.1, M, B)) := he ▸ h
theorem vLm {β : Type} {W : Nat → Nat → Prop} {M0 E : zMt} {f : zMt → Option β} {G : β → Prop} (hk : ∀ a j, ¬ W a j → E a j = M0 a j) (h : ∀ y : zMt, E = y → (∀ a j, ¬ W a j → y a j = M0 a j) → ∃ r, f y = some r ∧ G r) : ∃ r, zLt E f = some r ∧ G r := h E rfl hk
theorem vLn {β : Type} {W : Nat → Nat → Prop} {M0 E : zNt} {f : zNt → Option β} {G : β → Prop} (hk : ∀ a j, ¬ W a j → E a j = M0 a j) (h : ∀ y : zNt, E = y → (∀ a j, ¬ W a j → y a j = M0 a j) → ∃ r, f y = some r ∧ G r) : ∃ r, zLt E f = some r ∧ G r := h E rfl hk
theorem vB {α β : Type} {o : Option α} {f : α → Option β} {H : α → Prop} {G : β → Prop} (ho : ∃ e, o = some e ∧ H e) (h : ∀ e, o = some e → H e → ∃ r, f e = some r ∧ G r) : ∃ r, zB o f = some r ∧ G r := by
  obtain ⟨e, he, hh⟩ := ho
  rw [he]
  exact h e he hh
theorem vIf {β : Type} {c : Prop} [Decidable c] {a b : Option β} {G : β → Prop} (h1 : c → ∃ r, a = some r ∧ G r) (h2 : ¬ c → ∃ r, b = some r ∧ G r) : ∃ r, (if c then a else b) = some r ∧ G r := by
  by_cases h : c
  · rw [if_pos h]; exact h1 h
  · rw [if_neg h]; exact h2 h
theorem vI {β : Type} {i : Int32} {n : Nat} {o : Option β} {G : β → Prop} (hi : vp_in i n) (h : ∃ r, o = some r ∧ G r) : ∃ r, zI i n o = some r ∧ G r := by
  unfold zI
  rw [if_neg hi]
  exact h
theorem vZ {β : Type} {y : Int32} {o : Option β} {G : β → Prop} (hi : ¬ y = 0) (h : ∃ r, o = some r ∧ G r) : ∃ r, zZ y o = some r ∧ G r := by
  unfold zZ
  rw [if_neg hi]
  exact h
theorem vZl {β : Type} {y : Int64} {o : Option β} {G : β → Prop} (hi : ¬ y = 0) (h : ∃ r, o = some r ∧ G r) : ∃ r, zZl y o = some r ∧ G r := by
  unfold zZl
  rw [if_neg hi]
  exact h
theorem vO {β : Type} {v : Int32} {o : Option β} {G : β → Prop} (hi : v = 0 ∨ v = 1) (h : ∃ r, o = some r ∧ G r) : ∃ r, zO v o = some r ∧ G r := by
  unfold zO
  rw [if_pos hi]
  exact h
theorem z_lt {x E : Int32} (h : ¬ E ≤ x) : x.toInt < 2147483647 := by
  have h1 := Int32.lt_iff_toInt_lt.mp (Int32.not_le.mp h)
  have h2 := Int32.toInt_le E
  have h3 : Int32.maxValue.toInt = 2147483647 := by decide
  omega
theorem z_lt2 {x E : Int32} (h : x < E) : x.toInt < 2147483647 := z_lt (Int32.not_le.mpr h)
theorem z_lt3 {x E : Int32} (h : ¬ E < x) (hE : E.toInt < 2147483647) : x.toInt < 2147483647 := by
  have h1 := Int32.le_iff_toInt_le.mp (Int32.not_lt.mp h)
  omega
theorem z_up {x : Int32} {u : Nat} (h : x.toInt < 2147483647) (hm : (2147483648 - x.toInt).toNat < u + 1) : (2147483648 - (x + Int32.ofInt 1).toInt).toNat < u := by
  have h1 := Int32.le_toInt x
  have e1 : (Int32.ofInt 1).toInt = 1 := by decide
  rw [Int32.toInt_add, e1, Int.bmod_def]
  omega
theorem z_or01 {x y : Int32} (h : x = 0 ∨ x = 1) (h' : y = 0 ∨ y = 1) : x ||| y = 0 ∨ x ||| y = 1 := by
  rcases h with rfl | rfl <;> rcases h' with rfl | rfl <;> decide
theorem z_nzl {x : Int32} (h : ¬ x ≤ 0) : ¬ x.toInt64 = 0 := by
  have h1 := Int32.lt_iff_toInt_lt.mp (Int32.not_le.mp h)
  intro q
  have h2 := congrArg Int64.toInt q
  rw [Int32.toInt_toInt64] at h2
  have e0 : (0 : Int32).toInt = 0 := by decide
  have e1 : (0 : Int64).toInt = 0 := by decide
  omega
theorem z_gt {x : Int32} (h : ¬ x ≤ 0) : 0 < x.toInt := by
  have h1 := Int32.lt_iff_toInt_lt.mp (Int32.not_le.mp h)
  have e0 : (0 : Int32).toInt = 0 := by decide
  omega
theorem z_dn {x : Int32} {u : Nat} (h : 0 < x.toInt) (hm : x.toInt.toNat < u + 1) : (x + Int32.ofInt (-1)).toInt.toNat < u := by
  have h1 := Int32.toInt_le x
  have e1 : (Int32.ofInt (-1)).toInt = -1 := by decide
  rw [Int32.toInt_add, e1, Int.bmod_def]
  omega
theorem z_up1 {x : Int32} {u : Nat} (h : x.toInt < 2147483647) (hm : (2147483648 - x.toInt).toNat < u + 1) : (2147483648 - (x + 1).toInt).toNat < u := by
  rw [← zi_1]; exact z_up h hm
theorem z_dn1 {x : Int32} {u : Nat} (h : 0 < x.toInt) (hm : x.toInt.toNat < u + 1) : (x + (-1)).toInt.toNat < u := by
  rw [← zi_m1]; exact z_dn h hm
theorem zFu_up (x : Int32) : (2147483648 - x.toInt).toNat < zFu := by
  have h1 := Int32.le_toInt x
  unfold zFu
  omega
theorem zFu_dn (x : Int32) : x.toInt.toNat < zFu := by
  have h1 := Int32.toInt_lt x
  unfold zFu
  omega
theorem z_dep {x : Int32} {w : Nat} (h : ¬ 7 ≤ x) (hm : (7 - x.toInt).toNat < w + 1) : (7 - (x + 1).toInt).toNat < w := by
  have h1 := Int32.lt_iff_toInt_lt.mp (Int32.not_le.mp h)
  have e7 : (7 : Int32).toInt = 7 := by decide
  have e1 : (1 : Int32).toInt = 1 := by decide
  have h2 := Int32.le_toInt x
  rw [Int32.toInt_add, e1, Int.bmod_def]
  omega
theorem z_nlt {x : Int32} (h : 0 ≤ x.toInt) : ¬ x < 0 := fun q => by
  have := Int32.lt_iff_toInt_lt.mp q
  have e0 : (0 : Int32).toInt = 0 := by decide
  omega
theorem z_nn {x E : Int32} (h0 : 0 ≤ x.toInt) (h : ¬ E ≤ x) : 0 ≤ (x + 1).toInt := by
  have h1 := z_lt h
  have e1 : (1 : Int32).toInt = 1 := by decide
  rw [Int32.toInt_add, e1, Int.bmod_def]
  omega
section ZDN
variable {p : Program} {l : Launch} {e : Env} {R : Room} {s : State} {m : MethodId} {args : Array Value} {below : List Frame} {meth : Method} {c : Code} {G : zG} {b : Nat} {Q : State → Prop} {nc ns : Nat}
variable {cc : ByteArray} {pc nL : Nat} {own : String} {ls : List (Option Value)} {st : List Value} {L : List zC} {M M1 : zMt} {N N1 : zNt}
theorem d_puti (X : zOK p s m args meth c G b own cc nL) {idx ci k P z : Nat} {fs : List (Nat × Nat)} {x : Int32} (hf : zFl own idx ci k .int false) (hq : L[P]? = some (0, ci, fs)) (hk : fs[k]? = some (0, z)) (hd : decode cc pc = .ok (.putfield idx, 3)) (he : zu M P k x = M1) (kk : Zw p l e R s m args below meth c G b nL Q nc ns (pc + 3) ls st (L, M1, N)) : Zw p l e R s m args below meth c G b nL Q nc ns pc ls (.int x :: .ref P :: st) (L, M, N) := by
  subst he
  exact a_puti X hf hq hk hd kk
theorem d_putz (X : zOK p s m args meth c G b own cc nL) {idx ci k P z : Nat} {fs : List (Nat × Nat)} {x : Int32} (hx : x = 0 ∨ x = 1) (hf : zFl own idx ci k .boolean false) (hq : L[P]? = some (0, ci, fs)) (hk : fs[k]? = some (0, z)) (hd : decode cc pc = .ok (.putfield idx, 3)) (he : zu M P k x = M1) (kk : Zw p l e R s m args below meth c G b nL Q nc ns (pc + 3) ls st (L, M1, N)) : Zw p l e R s m args below meth c G b nL Q nc ns pc ls (.int x :: .ref P :: st) (L, M, N) := by
  subst he
  exact a_putz X hx hf hq hk hd kk
theorem d_putl (X : zOK p s m args meth c G b own cc nL) {idx ci k P z : Nat} {fs : List (Nat × Nat)} {x : Int64} (hf : zFl own idx ci k .long false) (hq : L[P]? = some (0, ci, fs)) (hk : fs[k]? = some (1, z)) (hd : decode cc pc = .ok (.putfield idx, 3)) (he : zu N P k x = N1) (kk : Zw p l e R s m args below meth c G b nL Q nc ns (pc + 3) ls st (L, M, N1)) : Zw p l e R s m args below meth c G b nL Q nc ns pc ls (.long x :: .ref P :: st) (L, M, N) := by
  subst he
  exact a_putl X hf hq hk hd kk
theorem d_iastore (X : zOK p s m args meth c G b own cc nL) {P n : Nat} {fs : List (Nat × Nat)} {i x : Int32} (hq : L[P]? = some (1, n, fs)) (hin : vp_in i n) (hd : decode cc pc = .ok (.iastore, 1)) (he : zu M P i.toNatClampNeg x = M1) (kk : Zw p l e R s m args below meth c G b nL Q nc ns (pc + 1) ls st (L, M1, N)) : Zw p l e R s m args below meth c G b nL Q nc ns pc ls (.int x :: .int i :: .ref P :: st) (L, M, N) := by
  subst he
  exact a_iastore X hq hin hd kk
theorem d_bastore (X : zOK p s m args meth c G b own cc nL) {P n : Nat} {fs : List (Nat × Nat)} {i x : Int32} (hx : x = 0 ∨ x = 1) (hq : L[P]? = some (2, n, fs)) (hin : vp_in i n) (hd : decode cc pc = .ok (.bastore, 1)) (he : zu M P i.toNatClampNeg x = M1) (kk : Zw p l e R s m args below meth c G b nL Q nc ns (pc + 1) ls st (L, M1, N)) : Zw p l e R s m args below meth c G b nL Q nc ns pc ls (.int x :: .int i :: .ref P :: st) (L, M, N) := by
  subst he
  exact a_bastore X hx hq hin hd kk
theorem d_lastore (X : zOK p s m args meth c G b own cc nL) {P n : Nat} {fs : List (Nat × Nat)} {i : Int32} {x : Int64} (hq : L[P]? = some (3, n, fs)) (hin : vp_in i n) (hd : decode cc pc = .ok (.lastore, 1)) (he : zu N P i.toNatClampNeg x = N1) (kk : Zw p l e R s m args below meth c G b nL Q nc ns (pc + 1) ls st (L, M, N1)) : Zw p l e R s m args below meth c G b nL Q nc ns pc ls (.long x :: .int i :: .ref P :: st) (L, M, N) := by
  subst he
  exact a_lastore X hq hin hd kk
end ZDN
theorem t_charAt {l : Launch} {G : zG} {b : Nat} {S : zS} {i : Nat} {k : Int32} (hi : i < zLit.length) (hj : vp_in k (zLen.getD i 0)) : zM l G b yJ0_charAt_5068e cJ0_charAt_5068e 2 (some .char) 3 0 0 [.ref (1000000 + zKa G i), .int k] S (fun r z => r = some (.int (zCh i k.toNatClampNeg)) ∧ z = S) := by
  have h0 : ¬ k < 0 := fun q => hj (Or.inl q)
  have h1 : k.toNatClampNeg < zLen.getD i 0 := Nat.not_le.mp (fun q => hj (Or.inr q))
  have e : k = nI k.toNatClampNeg := by
    have e1 : k.toNatClampNeg = k.toInt.toNat := rfl
    have e0 : (0 : Int32).toInt = 0 := by decide
    rw [Int32.lt_iff_toInt_lt] at h0
    have h2 := Int32.toInt_lt k
    apply Int32.toInt_inj.mp
    rw [nI_toInt (by omega), e1]
    omega
  have := c_charAt (l := l) (G := G) (b := b) (S := S) hi h1
  rwa [← e] at this
def zRec : Nat := 9
noncomputable def D_X5_rank_86 (Q : Nat) (A : Nat) (k2 : Int32 → zMt → Option (zMt)) (x2_86 : Int32) (x3_86 : Int32) (x5_86 : Int32) (M_86 : zMt) : Option (zMt) :=
  zLt (zwr M_86 (Q + 7) 10 x5_86 x3_86) fun M_93 =>
  k2 (x2_86 + 1) M_93
noncomputable def D_X5_rank_32 (Q : Nat) (A : Nat) (k2 : Int32 → zMt → Option (zMt)) : Nat → Int32 → Int32 → Int32 → Int32 → zMt → Option (zMt)
  | 0, _, _, _, _, _ => none
  | n + 1, x2_32, x3_32, x4_32, x5_32, M_32 =>
    if x5_32 ≤ 0 then
      D_X5_rank_86 Q A k2 x2_32 x3_32 x5_32 M_32
    else
      if x4_32 ≤ (zrd 0 (M_32 (A + 7)) 10 (zrd 0 (M_32 (Q + 7)) 10 (x5_32 - (1 : Int32)))) then
        D_X5_rank_86 Q A k2 x2_32 x3_32 x5_32 M_32
      else
        zLt (zwr M_32 (Q + 7) 10 x5_32 (zrd 0 (M_32 (Q + 7)) 10 (x5_32 - (1 : Int32)))) fun M_77 =>
        (D_X5_rank_32 Q A k2 n) x2_32 x3_32 x4_32 (x5_32 + (-1)) M_77
noncomputable def D_X5_rank_2 (Q : Nat) (A : Nat) : Nat → Int32 → zMt → Option (zMt)
  | 0, _, _ => none
  | n + 1, x2_2, M_2 =>
    if (M_2 A 1) ≤ x2_2 then
      some (M_2)
    else
      D_X5_rank_32 Q A (D_X5_rank_2 Q A n) zFu x2_2 (zrd 0 (M_2 (Q + 1)) 10 x2_2) (zrd 0 (M_2 (A + 7)) 10 (zrd 0 (M_2 (Q + 1)) 10 x2_2)) x2_2 M_2
noncomputable def D_X5_rank (Q : Nat) (A : Nat) (M : zMt) : Option (zMt) :=
  D_X5_rank_2 Q A zFu (0 : Int32) M
set_option maxRecDepth 100000 in
set_option maxHeartbeats 4000000 in
theorem t_X5_rank {l : Launch} {G : zG} {b : Nat} {L : List zC} {M : zMt} {N : zNt} {Q : Nat} {A : Nat}  (hQ : LX5 L Q) (hA : LX2 L A) {r : zMt} (h : D_X5_rank Q A M = some r) : zM l G b yX5_rank cX5_rank 6 none 1 0 0 [.ref Q, .ref A] (L, M, N) (fun r2 z => r2 = none ∧ z = (L, r, N)) := by
  refine zM.of miX5_rank (Nat.le_of_ble_eq_true rfl) ?_
  intro p e s m args below meth c X hr hname
  generalize hF : ((fun r2 z => r2 = none ∧ z = (L, r, N)) : Option Value → zS → Prop) = FQ
  change Zw p l e { frames := 1, cells := 0, slots := 0, locals := 80 * (1) } s m args below meth c G b 6 (MQ below (zQ G b FQ) args s 0 0 (fun q : Nat => b ≤ q)) 0 0 0 [some (.ref Q), some (.ref A), none, none, none, none] [] (L, M, N)
  have q_lt := hQ.1
  have q_o := hQ.2.1
  have q_line := hQ.2.2.1
  have q_ranked := hQ.2.2.2.2.2.2.2.2
  have a_lt := hA.1
  have a_o := hA.2.1
  have a_score := hA.2.2.2.2.2.2.2.2.1
  have L_2 : ∀ u : Nat, ∀ (x2_2 : Int32) (x3_2 : Option Value) (x4_2 : Option Value) (x5_2 : Option Value) (M_2 : zMt), D_X5_rank_2 Q A u x2_2 M_2 = some r → Zw p l e { frames := 1, cells := 0, slots := 0, locals := 80 * (1) } s m args below meth c G b 6 (MQ below (zQ G b FQ) args s 0 0 (fun q : Nat => b ≤ q)) 0 0 2 [some (.ref (Q)), some (.ref (A)), some (.int x2_2), x3_2, x4_2, x5_2] [] (L, M_2, N) := by
    intro u
    induction u with
    | zero => intro x2_2 x3_2 x4_2 x5_2 M_2 h; cases (show none = some r from h)
    | succ u_2 ih_2 =>
      have J_86 : ∀ (x2_86 : Int32) (x3_86 : Int32) (x4_86 : Int32) (x5_86 : Int32) (M_86 : zMt), D_X5_rank_86 Q A (D_X5_rank_2 Q A u_2) x2_86 x3_86 x5_86 M_86 = some r → Zw p l e { frames := 1, cells := 0, slots := 0, locals := 80 * (1) } s m args below meth c G b 6 (MQ below (zQ G b FQ) args s 0 0 (fun q : Nat => b ≤ q)) 0 0 86 [some (.ref (Q)), some (.ref (A)), some (.int x2_86), some (.int x3_86), some (.int x4_86), some (.int x5_86)] [] (L, M_86, N) := by
        intro x2_86 x3_86 x4_86 x5_86 M_86 h
        unfold D_X5_rank_86 at h
        refine a_aload_n X dX5_rank_86 rfl ?_
        refine a_getr X lf5_30 (by first | exact q_o | assumption) rfl (by omega) dX5_rank_87 ?_
        refine a_iload X dX5_rank_90 rfl ?_
        refine a_iload_n X dX5_rank_92 rfl ?_
        obtain ⟨M_93, f_93, h⟩ := zLtx h
        refine a_callSNu X dX5_rank_93 miX7_put lm5_62 (zMu (c_put (by first | exact q_ranked | assumption) (by decide)) f_93) rfl rfl (Nat.le_of_ble_eq_true rfl) ⟨by decide, by decide, by decide, by decide⟩ ?_
        refine a_iinc (v := x2_86 + 1) X dX5_rank_96 (by decide) rfl zi_1 ?_
        refine a_goto (tgt := 2) X dX5_rank_99 (by decide) ?_
        exact Zw.to2 (ih_2 _ _ _ _ _ h) rfl rfl rfl
      have L_32 : ∀ u : Nat, ∀ (x2_32 : Int32) (x3_32 : Int32) (x4_32 : Int32) (x5_32 : Int32) (M_32 : zMt), D_X5_rank_32 Q A (D_X5_rank_2 Q A u_2) u x2_32 x3_32 x4_32 x5_32 M_32 = some r → Zw p l e { frames := 1, cells := 0, slots := 0, locals := 80 * (1) } s m args below meth c G b 6 (MQ below (zQ G b FQ) args s 0 0 (fun q : Nat => b ≤ q)) 0 0 32 [some (.ref (Q)), some (.ref (A)), some (.int x2_32), some (.int x3_32), some (.int x4_32), some (.int x5_32)] [] (L, M_32, N) := by
        intro u
        induction u with
        | zero => intro x2_32 x3_32 x4_32 x5_32 M_32 h; cases (show none = some r from h)
        | succ u_32 ih_32 =>
          intro x2_32 x3_32 x4_32 x5_32 M_32 h
          rw [D_X5_rank_32] at h
          refine a_iload X dX5_rank_32 rfl ?_
          refine a_if_le (tgt := 86) X dX5_rank_34 (by decide) (fun h_34 => ?_) (fun h_34 => ?_)
          · replace h := (if_pos h_34).symm.trans h
            exact Zw.to2 (J_86 _ _ _ _ _ h) rfl rfl rfl
          · replace h := (if_neg h_34).symm.trans h
            refine a_aload_n X dX5_rank_37 rfl ?_
            refine a_getr X lf5_116 (by first | exact a_o | assumption) rfl (by omega) dX5_rank_38 ?_
            refine a_aload_n X dX5_rank_41 rfl ?_
            refine a_getr X lf5_30 (by first | exact q_o | assumption) rfl (by omega) dX5_rank_42 ?_
            refine a_iload X dX5_rank_45 rfl ?_
            refine a_iconst (v := 1) X dX5_rank_47 (by decide) ?_
            refine a_isub X dX5_rank_48 ?_
            refine a_callSNv X dX5_rank_49 miX7_cell lm5_69 (c_cell (by first | exact q_ranked | assumption) (by decide)) rfl rfl (Nat.le_of_ble_eq_true rfl) ⟨by decide, by decide, by decide, by decide⟩ ?_
            refine a_callSNv X dX5_rank_52 miX7_cell lm5_69 (c_cell (by first | exact a_score | assumption) (by decide)) rfl rfl (Nat.le_of_ble_eq_true rfl) ⟨by decide, by decide, by decide, by decide⟩ ?_
            refine a_iload X dX5_rank_55 rfl ?_
            refine a_icmp_ge (tgt := 86) X dX5_rank_57 (by decide) (fun h_57 => ?_) (fun h_57 => ?_)
            · replace h := (if_pos h_57).symm.trans h
              exact Zw.to2 (J_86 _ _ _ _ _ h) rfl rfl rfl
            · replace h := (if_neg h_57).symm.trans h
              refine a_aload_n X dX5_rank_60 rfl ?_
              refine a_getr X lf5_30 (by first | exact q_o | assumption) rfl (by omega) dX5_rank_61 ?_
              refine a_iload X dX5_rank_64 rfl ?_
              refine a_aload_n X dX5_rank_66 rfl ?_
              refine a_getr X lf5_30 (by first | exact q_o | assumption) rfl (by omega) dX5_rank_67 ?_
              refine a_iload X dX5_rank_70 rfl ?_
              refine a_iconst (v := 1) X dX5_rank_72 (by decide) ?_
              refine a_isub X dX5_rank_73 ?_
              refine a_callSNv X dX5_rank_74 miX7_cell lm5_69 (c_cell (by first | exact q_ranked | assumption) (by decide)) rfl rfl (Nat.le_of_ble_eq_true rfl) ⟨by decide, by decide, by decide, by decide⟩ ?_
              obtain ⟨M_77, f_77, h⟩ := zLtx h
              refine a_callSNu X dX5_rank_77 miX7_put lm5_62 (zMu (c_put (by first | exact q_ranked | assumption) (by decide)) f_77) rfl rfl (Nat.le_of_ble_eq_true rfl) ⟨by decide, by decide, by decide, by decide⟩ ?_
              refine a_iinc (v := x5_32 + (-1)) X dX5_rank_80 (by decide) rfl zi_m1 ?_
              refine a_goto (tgt := 32) X dX5_rank_83 (by decide) ?_
              exact Zw.to2 (ih_32 _ _ _ _ _ h) rfl rfl rfl
      have H_32 : ∀ (x2_32 : Int32) (x3_32 : Int32) (x4_32 : Int32) (x5_32 : Int32) (M_32 : zMt), D_X5_rank_32 Q A (D_X5_rank_2 Q A u_2) zFu x2_32 x3_32 x4_32 x5_32 M_32 = some r → Zw p l e { frames := 1, cells := 0, slots := 0, locals := 80 * (1) } s m args below meth c G b 6 (MQ below (zQ G b FQ) args s 0 0 (fun q : Nat => b ≤ q)) 0 0 32 [some (.ref (Q)), some (.ref (A)), some (.int x2_32), some (.int x3_32), some (.int x4_32), some (.int x5_32)] [] (L, M_32, N) := L_32 zFu
      intro x2_2 x3_2 x4_2 x5_2 M_2 h
      rw [D_X5_rank_2] at h
      refine a_iload_n X dX5_rank_2 rfl ?_
      refine a_aload_n X dX5_rank_3 rfl ?_
      refine a_geti X lf5_47 (by first | exact a_o | assumption) rfl dX5_rank_4 ?_
      refine a_icmp_ge (tgt := 102) X dX5_rank_7 (by decide) (fun h_7 => ?_) (fun h_7 => ?_)
      · replace h := (if_pos h_7).symm.trans h
        refine a_vret X hr dX5_rank_102 ⟨by decide, by decide⟩ ?_
        subst hF
        rw [← Option.some.inj h]
        exact ⟨rfl, rfl⟩
      · replace h := (if_neg h_7).symm.trans h
        refine a_aload_n X dX5_rank_10 rfl ?_
        refine a_getr X lf5_9 (by first | exact q_o | assumption) rfl (by omega) dX5_rank_11 ?_
        refine a_iload_n X dX5_rank_14 rfl ?_
        refine a_callSNv X dX5_rank_15 miX7_cell lm5_69 (c_cell (by first | exact q_line | assumption) (by decide)) rfl rfl (Nat.le_of_ble_eq_true rfl) ⟨by decide, by decide, by decide, by decide⟩ ?_
        refine a_istore_n X dX5_rank_18 (by decide) ?_
        refine a_aload_n X dX5_rank_19 rfl ?_
        refine a_getr X lf5_116 (by first | exact a_o | assumption) rfl (by omega) dX5_rank_20 ?_
        refine a_iload_n X dX5_rank_23 rfl ?_
        refine a_callSNv X dX5_rank_24 miX7_cell lm5_69 (c_cell (by first | exact a_score | assumption) (by decide)) rfl rfl (Nat.le_of_ble_eq_true rfl) ⟨by decide, by decide, by decide, by decide⟩ ?_
        refine a_istore X dX5_rank_27 (by decide) ?_
        refine a_iload_n X dX5_rank_29 rfl ?_
        refine a_istore X dX5_rank_30 (by decide) ?_
        exact Zw.to2 (H_32 _ _ _ _ _ h) rfl rfl rfl
  have H_2 : ∀ (x2_2 : Int32) (x3_2 : Option Value) (x4_2 : Option Value) (x5_2 : Option Value) (M_2 : zMt), D_X5_rank_2 Q A zFu x2_2 M_2 = some r → Zw p l e { frames := 1, cells := 0, slots := 0, locals := 80 * (1) } s m args below meth c G b 6 (MQ below (zQ G b FQ) args s 0 0 (fun q : Nat => b ≤ q)) 0 0 2 [some (.ref (Q)), some (.ref (A)), some (.int x2_2), x3_2, x4_2, x5_2] [] (L, M_2, N) := L_2 zFu
  unfold D_X5_rank at h
  refine a_iconst (v := 0) X dX5_rank_0 (by decide) ?_
  refine a_istore_n X dX5_rank_1 (by decide) ?_
  exact Zw.to2 (H_2 _ _ _ _ _ h) rfl rfl rfl
noncomputable def D_X2_wish (Q : Nat) (M : zMt) (v0 : Int32) (v1 : Int32) : Option (Int32) :=
  some ((zrd 0 (M (Q + 12)) 30 ((v0 * (3 : Int32)) + v1)))
set_option maxRecDepth 100000 in
set_option maxHeartbeats 4000000 in
theorem t_X2_wish {l : Launch} {G : zG} {b : Nat} {L : List zC} {M : zMt} {N : zNt} {Q : Nat} {v0 : Int32} {v1 : Int32} (hQ : LX2 L Q) {r : Int32} (h : D_X2_wish Q M v0 v1 = some r) : zM l G b yX2_wish cX2_wish 3 (some .int) 1 0 0 [.ref Q, .int v0, .int v1] (L, M, N) (fun r2 z => r2 = some (.int r) ∧ z = (L, M, N)) := by
  refine zM.of miX2_wish (Nat.le_of_ble_eq_true rfl) ?_
  intro p e s m args below meth c X hr hname
  generalize hF : ((fun r2 z => r2 = some (.int r) ∧ z = (L, M, N)) : Option Value → zS → Prop) = FQ
  change Zw p l e { frames := 1, cells := 0, slots := 0, locals := 80 * (1) } s m args below meth c G b 3 (MQ below (zQ G b FQ) args s 0 0 (fun q : Nat => b ≤ q)) 0 0 0 [some (.ref Q), some (.int v0), some (.int v1)] [] (L, M, N)
  have q_lt := hQ.1
  have q_o := hQ.2.1
  have q_wishes := hQ.2.2.2.2.2.2.2.2.2.2.2.2.2
  unfold D_X2_wish at h
  refine a_aload_n X dX2_wish_0 rfl ?_
  refine a_getr X lf2_45 (by first | exact q_o | assumption) rfl (by omega) dX2_wish_1 ?_
  refine a_iload_n X dX2_wish_4 rfl ?_
  refine a_iconst (v := 3) X dX2_wish_5 (by decide) ?_
  refine a_imul X dX2_wish_6 ?_
  refine a_iload_n X dX2_wish_7 rfl ?_
  refine a_iadd X dX2_wish_8 ?_
  refine a_callSNv X dX2_wish_9 miX7_cell lm2_62 (c_cell (by first | exact q_wishes | assumption) (by decide)) rfl rfl (Nat.le_of_ble_eq_true rfl) ⟨by decide, by decide, by decide, by decide⟩ ?_
  refine a_iret X hr dX2_wish_12 ⟨by decide, by decide⟩ ?_
  subst hF
  rw [← Option.some.inj h]
  exact ⟨rfl, rfl⟩
noncomputable def D_X2_fits_29 (Q : Nat) (M : zMt) (y0_29 : Int32) : Option (Int32) :=
  some (y0_29)
noncomputable def D_X2_fits_28 (Q : Nat) (M : zMt)  : Option (Int32) :=
  D_X2_fits_29 Q M (0 : Int32)
noncomputable def D_X2_fits (Q : Nat) (M : zMt) (v0 : Int32) (v1 : Int32) (v2 : Int32) : Option (Int32) :=
  if v1 < (zrd 0 (M (Q + 5)) 10 v0) then
    D_X2_fits_28 Q M
  else
    if v2 < (zrd 0 (M (Q + 6)) 10 v0) then
      D_X2_fits_28 Q M
    else
      D_X2_fits_29 Q M (1 : Int32)
set_option maxRecDepth 100000 in
set_option maxHeartbeats 4000000 in
theorem t_X2_fits {l : Launch} {G : zG} {b : Nat} {L : List zC} {M : zMt} {N : zNt} {Q : Nat} {v0 : Int32} {v1 : Int32} {v2 : Int32} (hQ : LX2 L Q) {r : Int32} (h : D_X2_fits Q M v0 v1 v2 = some r) : zM l G b yX2_fits cX2_fits 4 (some .boolean) 1 0 0 [.ref Q, .int v0, .int v1, .int v2] (L, M, N) (fun r2 z => r2 = some (.int r) ∧ z = (L, M, N) ∧ (r = 0 ∨ r = 1)) := by
  refine zM.of miX2_fits (Nat.le_of_ble_eq_true rfl) ?_
  intro p e s m args below meth c X hr hname
  generalize hF : ((fun r2 z => r2 = some (.int r) ∧ z = (L, M, N) ∧ (r = 0 ∨ r = 1)) : Option Value → zS → Prop) = FQ
  change Zw p l e { frames := 1, cells := 0, slots := 0, locals := 80 * (1) } s m args below meth c G b 4 (MQ below (zQ G b FQ) args s 0 0 (fun q : Nat => b ≤ q)) 0 0 0 [some (.ref Q), some (.int v0), some (.int v1), some (.int v2)] [] (L, M, N)
  have q_lt := hQ.1
  have q_o := hQ.2.1
  have q_size := hQ.2.2.2.2.2.2.1
  have q_guestCount := hQ.2.2.2.2.2.2.2.1
  have J_29 : ∀ (x1_29 : Int32) (x2_29 : Int32) (x3_29 : Int32) (y0_29 : Int32), (y0_29 = 0 ∨ y0_29 = 1) → D_X2_fits_29 Q M y0_29 = some r → Zw p l e { frames := 1, cells := 0, slots := 0, locals := 80 * (1) } s m args below meth c G b 4 (MQ below (zQ G b FQ) args s 0 0 (fun q : Nat => b ≤ q)) 0 0 29 [some (.ref (Q)), some (.int x1_29), some (.int x2_29), some (.int x3_29)] [.int y0_29] (L, M, N) := by
    intro x1_29 x2_29 x3_29 y0_29 fb_y0_29 h
    unfold D_X2_fits_29 at h
    refine a_zret X (by first | exact Or.inl rfl | exact Or.inr rfl | assumption) hr dX2_fits_29 ⟨by decide, by decide⟩ ?_
    subst hF
    rw [← Option.some.inj h]
    exact ⟨rfl, rfl, (by first | exact Or.inl rfl | exact Or.inr rfl | assumption)⟩
  have J_28 : ∀ (x1_28 : Int32) (x2_28 : Int32) (x3_28 : Int32), D_X2_fits_28 Q M = some r → Zw p l e { frames := 1, cells := 0, slots := 0, locals := 80 * (1) } s m args below meth c G b 4 (MQ below (zQ G b FQ) args s 0 0 (fun q : Nat => b ≤ q)) 0 0 28 [some (.ref (Q)), some (.int x1_28), some (.int x2_28), some (.int x3_28)] [] (L, M, N) := by
    intro x1_28 x2_28 x3_28 h
    unfold D_X2_fits_28 at h
    refine a_iconst (v := 0) X dX2_fits_28 (by decide) ?_
    exact Zw.to2 (J_29 _ _ _ _ (by first | exact Or.inl rfl | exact Or.inr rfl | assumption) h) rfl rfl rfl
  unfold D_X2_fits at h
  refine a_aload_n X dX2_fits_0 rfl ?_
  refine a_getr X lf2_24 (by first | exact q_o | assumption) rfl (by omega) dX2_fits_1 ?_
  refine a_iload_n X dX2_fits_4 rfl ?_
  refine a_callSNv X dX2_fits_5 miX7_cell lm2_62 (c_cell (by first | exact q_size | assumption) (by decide)) rfl rfl (Nat.le_of_ble_eq_true rfl) ⟨by decide, by decide, by decide, by decide⟩ ?_
  refine a_iload_n X dX2_fits_8 rfl ?_
  refine a_icmp_gt (tgt := 28) X dX2_fits_9 (by decide) (fun h_9 => ?_) (fun h_9 => ?_)
  · replace h := (if_pos h_9).symm.trans h
    exact Zw.to2 (J_28 _ _ _ h) rfl rfl rfl
  · replace h := (if_neg h_9).symm.trans h
    refine a_aload_n X dX2_fits_12 rfl ?_
    refine a_getr X lf2_27 (by first | exact q_o | assumption) rfl (by omega) dX2_fits_13 ?_
    refine a_iload_n X dX2_fits_16 rfl ?_
    refine a_callSNv X dX2_fits_17 miX7_cell lm2_62 (c_cell (by first | exact q_guestCount | assumption) (by decide)) rfl rfl (Nat.le_of_ble_eq_true rfl) ⟨by decide, by decide, by decide, by decide⟩ ?_
    refine a_iload_n X dX2_fits_20 rfl ?_
    refine a_icmp_gt (tgt := 28) X dX2_fits_21 (by decide) (fun h_21 => ?_) (fun h_21 => ?_)
    · replace h := (if_pos h_21).symm.trans h
      exact Zw.to2 (J_28 _ _ _ h) rfl rfl rfl
    · replace h := (if_neg h_21).symm.trans h
      refine a_iconst (v := 1) X dX2_fits_24 (by decide) ?_
      refine a_goto (tgt := 29) X dX2_fits_25 (by decide) ?_
      exact Zw.to2 (J_29 _ _ _ _ (by first | exact Or.inl rfl | exact Or.inr rfl | assumption) h) rfl rfl rfl
noncomputable def D_X5_hold (Q : Nat) (A : Nat) (v0 : Int32) (v1 : Int32) (v2 : Int32) (M : zMt) : Option (zMt) :=
  zLt (zwr M (Q + 2) 10 v0 v1) fun M_6 =>
  zLt (zwr M_6 (Q + 3) 10 v0 v2) fun M_16 =>
  zLt (zwr M_16 (Q + 4) 5 v1 (zrd 0 (M_16 (Q + 4)) 5 v1 + (-(zrd 0 (M_16 (A + 5)) 10 v0)))) fun M_33 =>
  zLt (zwr M_33 (Q + 5) 5 v1 (zrd 0 (M_33 (Q + 5)) 5 v1 + (-(zrd 0 (M_33 (A + 6)) 10 v0)))) fun M_50 =>
  some (M_50)
set_option maxRecDepth 100000 in
set_option maxHeartbeats 4000000 in
theorem t_X5_hold {l : Launch} {G : zG} {b : Nat} {L : List zC} {M : zMt} {N : zNt} {Q : Nat} {A : Nat} {v0 : Int32} {v1 : Int32} {v2 : Int32} (hQ : LX5 L Q) (hA : LX2 L A) {r : zMt} (h : D_X5_hold Q A v0 v1 v2 M = some r) : zM l G b yX5_hold cX5_hold 5 none 1 0 0 [.ref Q, .ref A, .int v0, .int v1, .int v2] (L, M, N) (fun r2 z => r2 = none ∧ z = (L, r, N)) := by
  refine zM.of miX5_hold (Nat.le_of_ble_eq_true rfl) ?_
  intro p e s m args below meth c X hr hname
  generalize hF : ((fun r2 z => r2 = none ∧ z = (L, r, N)) : Option Value → zS → Prop) = FQ
  change Zw p l e { frames := 1, cells := 0, slots := 0, locals := 80 * (1) } s m args below meth c G b 5 (MQ below (zQ G b FQ) args s 0 0 (fun q : Nat => b ≤ q)) 0 0 0 [some (.ref Q), some (.ref A), some (.int v0), some (.int v1), some (.int v2)] [] (L, M, N)
  have q_lt := hQ.1
  have q_o := hQ.2.1
  have q_unitOf := hQ.2.2.2.1
  have q_roundOf := hQ.2.2.2.2.1
  have q_leftTags := hQ.2.2.2.2.2.1
  have q_leftGuests := hQ.2.2.2.2.2.2.1
  have a_lt := hA.1
  have a_o := hA.2.1
  have a_size := hA.2.2.2.2.2.2.1
  have a_guestCount := hA.2.2.2.2.2.2.2.1
  unfold D_X5_hold at h
  refine a_aload_n X dX5_hold_0 rfl ?_
  refine a_getr X lf5_15 (by first | exact q_o | assumption) rfl (by omega) dX5_hold_1 ?_
  refine a_iload_n X dX5_hold_4 rfl ?_
  refine a_iload_n X dX5_hold_5 rfl ?_
  obtain ⟨M_6, f_6, h⟩ := zLtx h
  refine a_callSNu X dX5_hold_6 miX7_put lm5_62 (zMu (c_put (by first | exact q_unitOf | assumption) (by decide)) f_6) rfl rfl (Nat.le_of_ble_eq_true rfl) ⟨by decide, by decide, by decide, by decide⟩ ?_
  refine a_aload_n X dX5_hold_9 rfl ?_
  refine a_getr X lf5_18 (by first | exact q_o | assumption) rfl (by omega) dX5_hold_10 ?_
  refine a_iload_n X dX5_hold_13 rfl ?_
  refine a_iload X dX5_hold_14 rfl ?_
  obtain ⟨M_16, f_16, h⟩ := zLtx h
  refine a_callSNu X dX5_hold_16 miX7_put lm5_62 (zMu (c_put (by first | exact q_roundOf | assumption) (by decide)) f_16) rfl rfl (Nat.le_of_ble_eq_true rfl) ⟨by decide, by decide, by decide, by decide⟩ ?_
  refine a_aload_n X dX5_hold_19 rfl ?_
  refine a_getr X lf5_21 (by first | exact q_o | assumption) rfl (by omega) dX5_hold_20 ?_
  refine a_iload_n X dX5_hold_23 rfl ?_
  refine a_aload_n X dX5_hold_24 rfl ?_
  refine a_getr X lf5_106 (by first | exact a_o | assumption) rfl (by omega) dX5_hold_25 ?_
  refine a_iload_n X dX5_hold_28 rfl ?_
  refine a_callSNv X dX5_hold_29 miX7_cell lm5_69 (c_cell (by first | exact a_size | assumption) (by decide)) rfl rfl (Nat.le_of_ble_eq_true rfl) ⟨by decide, by decide, by decide, by decide⟩ ?_
  refine a_ineg X dX5_hold_32 ?_
  obtain ⟨M_33, f_33, h⟩ := zLtx h
  refine a_callSNu X dX5_hold_33 miX7_add lm5_109 (zMu (c_add (by first | exact q_leftTags | assumption) (by decide)) f_33) rfl rfl (Nat.le_of_ble_eq_true rfl) ⟨by decide, by decide, by decide, by decide⟩ ?_
  refine a_aload_n X dX5_hold_36 rfl ?_
  refine a_getr X lf5_24 (by first | exact q_o | assumption) rfl (by omega) dX5_hold_37 ?_
  refine a_iload_n X dX5_hold_40 rfl ?_
  refine a_aload_n X dX5_hold_41 rfl ?_
  refine a_getr X lf5_122 (by first | exact a_o | assumption) rfl (by omega) dX5_hold_42 ?_
  refine a_iload_n X dX5_hold_45 rfl ?_
  refine a_callSNv X dX5_hold_46 miX7_cell lm5_69 (c_cell (by first | exact a_guestCount | assumption) (by decide)) rfl rfl (Nat.le_of_ble_eq_true rfl) ⟨by decide, by decide, by decide, by decide⟩ ?_
  refine a_ineg X dX5_hold_49 ?_
  obtain ⟨M_50, f_50, h⟩ := zLtx h
  refine a_callSNu X dX5_hold_50 miX7_add lm5_109 (zMu (c_add (by first | exact q_leftGuests | assumption) (by decide)) f_50) rfl rfl (Nat.le_of_ble_eq_true rfl) ⟨by decide, by decide, by decide, by decide⟩ ?_
  refine a_vret X hr dX5_hold_53 ⟨by decide, by decide⟩ ?_
  subst hF
  rw [← Option.some.inj h]
  exact ⟨rfl, rfl⟩
noncomputable def D_X5_firstRound_91 (Q : Nat) (A : Nat) (k7 : Int32 → zMt → Option (zMt)) (x2_91 : Int32) (M_91 : zMt) : Option (zMt) :=
  k7 (x2_91 + 1) M_91
noncomputable def D_X5_firstRound_7 (Q : Nat) (A : Nat) : Nat → Int32 → zMt → Option (zMt)
  | 0, _, _ => none
  | n + 1, x2_7, M_7 =>
    if (M_7 A 1) ≤ x2_7 then
      some (M_7)
    else
      zB (D_X2_wish A M_7 (zrd 0 (M_7 (Q + 7)) 10 x2_7) (0 : Int32)) fun e_27 =>
      if e_27 = (-1 : Int32) then
        D_X5_firstRound_91 Q A (D_X5_firstRound_7 Q A n) x2_7 M_7
      else
        zB (D_X2_fits A M_7 (zrd 0 (M_7 (Q + 7)) 10 x2_7) (zrd 0 (M_7 (Q + 6)) 5 e_27) (zrd 0 (M_7 (Q + 5)) 5 e_27)) fun e_58 =>
        if e_58 = 0 then
          D_X5_firstRound_91 Q A (D_X5_firstRound_7 Q A n) x2_7 M_7
        else
          zLt (zwr M_7 (Q + 6) 5 e_27 (zrd 0 (M_7 (Q + 6)) 5 e_27 + (-(zrd 0 (M_7 (A + 5)) 10 (zrd 0 (M_7 (Q + 7)) 10 x2_7))))) fun M_79 =>
          zB (D_X5_hold Q A (zrd 0 (M_7 (Q + 7)) 10 x2_7) e_27 (1 : Int32) M_79) fun e_88 =>
          D_X5_firstRound_91 Q A (D_X5_firstRound_7 Q A n) x2_7 e_88
noncomputable def D_X5_firstRound (Q : Nat) (A : Nat) (M : zMt) : Option (zMt) :=
  zB (D_X5_rank Q A M) fun e_2 =>
  D_X5_firstRound_7 Q A zFu (0 : Int32) e_2
set_option maxRecDepth 100000 in
set_option maxHeartbeats 4000000 in
theorem t_X5_firstRound {l : Launch} {G : zG} {b : Nat} {L : List zC} {M : zMt} {N : zNt} {Q : Nat} {A : Nat}  (hQ : LX5 L Q) (hA : LX2 L A) {r : zMt} (h : D_X5_firstRound Q A M = some r) : zM l G b yX5_firstRound cX5_firstRound 5 none 2 0 0 [.ref Q, .ref A] (L, M, N) (fun r2 z => r2 = none ∧ z = (L, r, N)) := by
  refine zM.of miX5_firstRound (Nat.le_of_ble_eq_true rfl) ?_
  intro p e s m args below meth c X hr hname
  generalize hF : ((fun r2 z => r2 = none ∧ z = (L, r, N)) : Option Value → zS → Prop) = FQ
  change Zw p l e { frames := 2, cells := 0, slots := 0, locals := 80 * (2) } s m args below meth c G b 5 (MQ below (zQ G b FQ) args s 0 0 (fun q : Nat => b ≤ q)) 0 0 0 [some (.ref Q), some (.ref A), none, none, none] [] (L, M, N)
  have q_lt := hQ.1
  have q_o := hQ.2.1
  have q_leftGuests := hQ.2.2.2.2.2.2.1
  have q_leftPreferred := hQ.2.2.2.2.2.2.2.1
  have q_ranked := hQ.2.2.2.2.2.2.2.2
  have a_lt := hA.1
  have a_o := hA.2.1
  have a_size := hA.2.2.2.2.2.2.1
  have L_7 : ∀ u : Nat, ∀ (x2_7 : Int32) (x3_7 : Option Value) (x4_7 : Option Value) (M_7 : zMt), D_X5_firstRound_7 Q A u x2_7 M_7 = some r → Zw p l e { frames := 2, cells := 0, slots := 0, locals := 80 * (2) } s m args below meth c G b 5 (MQ below (zQ G b FQ) args s 0 0 (fun q : Nat => b ≤ q)) 0 0 7 [some (.ref (Q)), some (.ref (A)), some (.int x2_7), x3_7, x4_7] [] (L, M_7, N) := by
    intro u
    induction u with
    | zero => intro x2_7 x3_7 x4_7 M_7 h; cases (show none = some r from h)
    | succ u_7 ih_7 =>
      have J_91 : ∀ (x2_91 : Int32) (x3_91 : Int32) (x4_91 : Int32) (M_91 : zMt), D_X5_firstRound_91 Q A (D_X5_firstRound_7 Q A u_7) x2_91 M_91 = some r → Zw p l e { frames := 2, cells := 0, slots := 0, locals := 80 * (2) } s m args below meth c G b 5 (MQ below (zQ G b FQ) args s 0 0 (fun q : Nat => b ≤ q)) 0 0 91 [some (.ref (Q)), some (.ref (A)), some (.int x2_91), some (.int x3_91), some (.int x4_91)] [] (L, M_91, N) := by
        intro x2_91 x3_91 x4_91 M_91 h
        unfold D_X5_firstRound_91 at h
        refine a_iinc (v := x2_91 + 1) X dX5_firstRound_91 (by decide) rfl zi_1 ?_
        refine a_goto (tgt := 7) X dX5_firstRound_94 (by decide) ?_
        exact Zw.to2 (ih_7 _ _ _ _ h) rfl rfl rfl
      intro x2_7 x3_7 x4_7 M_7 h
      rw [D_X5_firstRound_7] at h
      refine a_iload_n X dX5_firstRound_7 rfl ?_
      refine a_aload_n X dX5_firstRound_8 rfl ?_
      refine a_geti X lf5_47 (by first | exact a_o | assumption) rfl dX5_firstRound_9 ?_
      refine a_icmp_ge (tgt := 97) X dX5_firstRound_12 (by decide) (fun h_12 => ?_) (fun h_12 => ?_)
      · replace h := (if_pos h_12).symm.trans h
        refine a_vret X hr dX5_firstRound_97 ⟨by decide, by decide⟩ ?_
        subst hF
        rw [← Option.some.inj h]
        exact ⟨rfl, rfl⟩
      · replace h := (if_neg h_12).symm.trans h
        refine a_aload_n X dX5_firstRound_15 rfl ?_
        refine a_getr X lf5_30 (by first | exact q_o | assumption) rfl (by omega) dX5_firstRound_16 ?_
        refine a_iload_n X dX5_firstRound_19 rfl ?_
        refine a_callSNv X dX5_firstRound_20 miX7_cell lm5_69 (c_cell (by first | exact q_ranked | assumption) (by decide)) rfl rfl (Nat.le_of_ble_eq_true rfl) ⟨by decide, by decide, by decide, by decide⟩ ?_
        refine a_istore_n X dX5_firstRound_23 (by decide) ?_
        refine a_aload_n X dX5_firstRound_24 rfl ?_
        refine a_iload_n X dX5_firstRound_25 rfl ?_
        refine a_iconst (v := 0) X dX5_firstRound_26 (by decide) ?_
        obtain ⟨e_27, f_27, h⟩ := zBx h
        refine a_callVv X dX5_firstRound_27 miX2_wish lm5_98 (t_X2_wish (by first | exact hA | assumption) f_27) (by first | exact a_o | assumption) rfl rfl rfl (Nat.le_of_ble_eq_true rfl) ⟨by decide, by decide, by decide, by decide⟩ ?_
        refine a_istore X dX5_firstRound_30 (by decide) ?_
        refine a_iload X dX5_firstRound_32 rfl ?_
        refine a_iconst (v := -1) X dX5_firstRound_34 (by decide) ?_
        refine a_icmp_eq (tgt := 91) X dX5_firstRound_35 (by decide) (fun h_35 => ?_) (fun h_35 => ?_)
        · replace h := (if_pos h_35).symm.trans h
          exact Zw.to2 (J_91 _ _ _ _ h) rfl rfl rfl
        · replace h := (if_neg h_35).symm.trans h
          refine a_aload_n X dX5_firstRound_38 rfl ?_
          refine a_iload_n X dX5_firstRound_39 rfl ?_
          refine a_aload_n X dX5_firstRound_40 rfl ?_
          refine a_getr X lf5_27 (by first | exact q_o | assumption) rfl (by omega) dX5_firstRound_41 ?_
          refine a_iload X dX5_firstRound_44 rfl ?_
          refine a_callSNv X dX5_firstRound_46 miX7_cell lm5_69 (c_cell (by first | exact q_leftPreferred | assumption) (by decide)) rfl rfl (Nat.le_of_ble_eq_true rfl) ⟨by decide, by decide, by decide, by decide⟩ ?_
          refine a_aload_n X dX5_firstRound_49 rfl ?_
          refine a_getr X lf5_24 (by first | exact q_o | assumption) rfl (by omega) dX5_firstRound_50 ?_
          refine a_iload X dX5_firstRound_53 rfl ?_
          refine a_callSNv X dX5_firstRound_55 miX7_cell lm5_69 (c_cell (by first | exact q_leftGuests | assumption) (by decide)) rfl rfl (Nat.le_of_ble_eq_true rfl) ⟨by decide, by decide, by decide, by decide⟩ ?_
          obtain ⟨e_58, f_58, h⟩ := zBx h
          refine a_callVx X dX5_firstRound_58 miX2_fits lm5_102 (t_X2_fits (by first | exact hA | assumption) f_58) (by first | exact a_o | assumption) rfl rfl rfl (Nat.le_of_ble_eq_true rfl) ⟨by decide, by decide, by decide, by decide⟩ (fun r_58 S_58 q_58 => ?_)
          obtain ⟨rfl, rfl, b_58⟩ := q_58
          refine a_if_eq (tgt := 91) X dX5_firstRound_61 (by decide) (fun h_61 => ?_) (fun h_61 => ?_)
          · replace h := (if_pos h_61).symm.trans h
            exact Zw.to2 (J_91 _ _ _ _ h) rfl rfl rfl
          · replace h := (if_neg h_61).symm.trans h
            refine a_aload_n X dX5_firstRound_64 rfl ?_
            refine a_getr X lf5_27 (by first | exact q_o | assumption) rfl (by omega) dX5_firstRound_65 ?_
            refine a_iload X dX5_firstRound_68 rfl ?_
            refine a_aload_n X dX5_firstRound_70 rfl ?_
            refine a_getr X lf5_106 (by first | exact a_o | assumption) rfl (by omega) dX5_firstRound_71 ?_
            refine a_iload_n X dX5_firstRound_74 rfl ?_
            refine a_callSNv X dX5_firstRound_75 miX7_cell lm5_69 (c_cell (by first | exact a_size | assumption) (by decide)) rfl rfl (Nat.le_of_ble_eq_true rfl) ⟨by decide, by decide, by decide, by decide⟩ ?_
            refine a_ineg X dX5_firstRound_78 ?_
            obtain ⟨M_79, f_79, h⟩ := zLtx h
            refine a_callSNu X dX5_firstRound_79 miX7_add lm5_109 (zMu (c_add (by first | exact q_leftPreferred | assumption) (by decide)) f_79) rfl rfl (Nat.le_of_ble_eq_true rfl) ⟨by decide, by decide, by decide, by decide⟩ ?_
            refine a_aload_n X dX5_firstRound_82 rfl ?_
            refine a_aload_n X dX5_firstRound_83 rfl ?_
            refine a_iload_n X dX5_firstRound_84 rfl ?_
            refine a_iload X dX5_firstRound_85 rfl ?_
            refine a_iconst (v := 1) X dX5_firstRound_87 (by decide) ?_
            obtain ⟨e_88, f_88, h⟩ := zBx h
            refine a_callVu X dX5_firstRound_88 miX5_hold lm5_112 (t_X5_hold (by first | exact hQ | assumption) (by first | exact hA | assumption) f_88) (by first | exact q_o | assumption) rfl rfl rfl (Nat.le_of_ble_eq_true rfl) ⟨by decide, by decide, by decide, by decide⟩ ?_
            exact Zw.to2 (J_91 _ _ _ _ h) rfl rfl rfl
  have H_7 : ∀ (x2_7 : Int32) (x3_7 : Option Value) (x4_7 : Option Value) (M_7 : zMt), D_X5_firstRound_7 Q A zFu x2_7 M_7 = some r → Zw p l e { frames := 2, cells := 0, slots := 0, locals := 80 * (2) } s m args below meth c G b 5 (MQ below (zQ G b FQ) args s 0 0 (fun q : Nat => b ≤ q)) 0 0 7 [some (.ref (Q)), some (.ref (A)), some (.int x2_7), x3_7, x4_7] [] (L, M_7, N) := L_7 zFu
  unfold D_X5_firstRound at h
  refine a_aload_n X dX5_firstRound_0 rfl ?_
  refine a_aload_n X dX5_firstRound_1 rfl ?_
  obtain ⟨e_2, f_2, h⟩ := zBx h
  refine a_callVu X dX5_firstRound_2 miX5_rank lm5_95 (t_X5_rank (by first | exact hQ | assumption) (by first | exact hA | assumption) f_2) (by first | exact q_o | assumption) rfl rfl rfl (Nat.le_of_ble_eq_true rfl) ⟨by decide, by decide, by decide, by decide⟩ ?_
  refine a_iconst (v := 0) X dX5_firstRound_5 (by decide) ?_
  refine a_istore_n X dX5_firstRound_6 (by decide) ?_
  exact Zw.to2 (H_7 _ _ _ _ h) rfl rfl rfl
noncomputable def D_X5_secondRound_108 (Q : Nat) (A : Nat) (k2 : Int32 → zMt → Option (zMt)) (x2_108 : Int32) (M_108 : zMt) : Option (zMt) :=
  k2 (x2_108 + 1) M_108
noncomputable def D_X5_secondRound_48 (Q : Nat) (A : Nat) (k2 : Int32 → zMt → Option (zMt)) : Nat → Int32 → Int32 → Int32 → Int32 → zMt → Option (zMt)
  | 0, _, _, _, _, _ => none
  | n + 1, x2_48, x3_48, x4_48, x5_48, M_48 =>
    if x4_48 ≤ x5_48 then
      D_X5_secondRound_108 Q A k2 x2_48 M_48
    else
      zB (D_X2_wish A M_48 x3_48 x5_48) fun e_59 =>
      zB (D_X2_fits A M_48 x3_48 (zrd 0 (M_48 (Q + 4)) 5 e_59) (zrd 0 (M_48 (Q + 5)) 5 e_59)) fun e_84 =>
      if e_84 = 0 then
        (D_X5_secondRound_48 Q A k2 n) x2_48 x3_48 x4_48 (x5_48 + 1) M_48
      else
        zB (D_X5_hold Q A x3_48 e_59 (2 : Int32) M_48) fun e_96 =>
        D_X5_secondRound_108 Q A k2 x2_48 e_96
noncomputable def D_X5_secondRound_43 (Q : Nat) (A : Nat) (k2 : Int32 → zMt → Option (zMt)) (x2_43 : Int32) (x3_43 : Int32) (y0_43 : Int32) (M_43 : zMt) : Option (zMt) :=
  D_X5_secondRound_48 Q A k2 zFu x2_43 x3_43 y0_43 (0 : Int32) M_43
noncomputable def D_X5_secondRound_2 (Q : Nat) (A : Nat) : Nat → Int32 → zMt → Option (zMt)
  | 0, _, _ => none
  | n + 1, x2_2, M_2 =>
    if (M_2 A 1) ≤ x2_2 then
      some (M_2)
    else
      if (zrd 0 (M_2 (Q + 2)) 10 (zrd 0 (M_2 (Q + 1)) 10 x2_2)) = (-1 : Int32) then
        D_X5_secondRound_43 Q A (D_X5_secondRound_2 Q A n) x2_2 (zrd 0 (M_2 (Q + 1)) 10 x2_2) (zrd 0 (M_2 (A + 11)) 10 (zrd 0 (M_2 (Q + 1)) 10 x2_2)) M_2
      else
        D_X5_secondRound_43 Q A (D_X5_secondRound_2 Q A n) x2_2 (zrd 0 (M_2 (Q + 1)) 10 x2_2) (0 : Int32) M_2
noncomputable def D_X5_secondRound (Q : Nat) (A : Nat) (M : zMt) : Option (zMt) :=
  D_X5_secondRound_2 Q A zFu (0 : Int32) M
set_option maxRecDepth 100000 in
set_option maxHeartbeats 4000000 in
theorem t_X5_secondRound {l : Launch} {G : zG} {b : Nat} {L : List zC} {M : zMt} {N : zNt} {Q : Nat} {A : Nat}  (hQ : LX5 L Q) (hA : LX2 L A) {r : zMt} (h : D_X5_secondRound Q A M = some r) : zM l G b yX5_secondRound cX5_secondRound 7 none 2 0 0 [.ref Q, .ref A] (L, M, N) (fun r2 z => r2 = none ∧ z = (L, r, N)) := by
  refine zM.of miX5_secondRound (Nat.le_of_ble_eq_true rfl) ?_
  intro p e s m args below meth c X hr hname
  generalize hF : ((fun r2 z => r2 = none ∧ z = (L, r, N)) : Option Value → zS → Prop) = FQ
  change Zw p l e { frames := 2, cells := 0, slots := 0, locals := 80 * (2) } s m args below meth c G b 7 (MQ below (zQ G b FQ) args s 0 0 (fun q : Nat => b ≤ q)) 0 0 0 [some (.ref Q), some (.ref A), none, none, none, none, none] [] (L, M, N)
  have q_lt := hQ.1
  have q_o := hQ.2.1
  have q_line := hQ.2.2.1
  have q_unitOf := hQ.2.2.2.1
  have q_leftTags := hQ.2.2.2.2.2.1
  have q_leftGuests := hQ.2.2.2.2.2.2.1
  have a_lt := hA.1
  have a_o := hA.2.1
  have a_wishCount := hA.2.2.2.2.2.2.2.2.2.2.2.2.1
  have L_2 : ∀ u : Nat, ∀ (x2_2 : Int32) (x3_2 : Option Value) (x4_2 : Option Value) (x5_2 : Option Value) (x6_2 : Option Value) (M_2 : zMt), D_X5_secondRound_2 Q A u x2_2 M_2 = some r → Zw p l e { frames := 2, cells := 0, slots := 0, locals := 80 * (2) } s m args below meth c G b 7 (MQ below (zQ G b FQ) args s 0 0 (fun q : Nat => b ≤ q)) 0 0 2 [some (.ref (Q)), some (.ref (A)), some (.int x2_2), x3_2, x4_2, x5_2, x6_2] [] (L, M_2, N) := by
    intro u
    induction u with
    | zero => intro x2_2 x3_2 x4_2 x5_2 x6_2 M_2 h; cases (show none = some r from h)
    | succ u_2 ih_2 =>
      have J_108 : ∀ (x2_108 : Int32) (x3_108 : Int32) (x4_108 : Int32) (x5_108 : Int32) (x6_108 : Option Value) (M_108 : zMt), D_X5_secondRound_108 Q A (D_X5_secondRound_2 Q A u_2) x2_108 M_108 = some r → Zw p l e { frames := 2, cells := 0, slots := 0, locals := 80 * (2) } s m args below meth c G b 7 (MQ below (zQ G b FQ) args s 0 0 (fun q : Nat => b ≤ q)) 0 0 108 [some (.ref (Q)), some (.ref (A)), some (.int x2_108), some (.int x3_108), some (.int x4_108), some (.int x5_108), x6_108] [] (L, M_108, N) := by
        intro x2_108 x3_108 x4_108 x5_108 x6_108 M_108 h
        unfold D_X5_secondRound_108 at h
        refine a_iinc (v := x2_108 + 1) X dX5_secondRound_108 (by decide) rfl zi_1 ?_
        refine a_goto (tgt := 2) X dX5_secondRound_111 (by decide) ?_
        exact Zw.to2 (ih_2 _ _ _ _ _ _ h) rfl rfl rfl
      have L_48 : ∀ u : Nat, ∀ (x2_48 : Int32) (x3_48 : Int32) (x4_48 : Int32) (x5_48 : Int32) (x6_48 : Option Value) (M_48 : zMt), D_X5_secondRound_48 Q A (D_X5_secondRound_2 Q A u_2) u x2_48 x3_48 x4_48 x5_48 M_48 = some r → Zw p l e { frames := 2, cells := 0, slots := 0, locals := 80 * (2) } s m args below meth c G b 7 (MQ below (zQ G b FQ) args s 0 0 (fun q : Nat => b ≤ q)) 0 0 48 [some (.ref (Q)), some (.ref (A)), some (.int x2_48), some (.int x3_48), some (.int x4_48), some (.int x5_48), x6_48] [] (L, M_48, N) := by
        intro u
        induction u with
        | zero => intro x2_48 x3_48 x4_48 x5_48 x6_48 M_48 h; cases (show none = some r from h)
        | succ u_48 ih_48 =>
          intro x2_48 x3_48 x4_48 x5_48 x6_48 M_48 h
          rw [D_X5_secondRound_48] at h
          refine a_iload X dX5_secondRound_48 rfl ?_
          refine a_iload X dX5_secondRound_50 rfl ?_
          refine a_icmp_ge (tgt := 108) X dX5_secondRound_52 (by decide) (fun h_52 => ?_) (fun h_52 => ?_)
          · replace h := (if_pos h_52).symm.trans h
            exact Zw.to2 (J_108 _ _ _ _ _ _ h) rfl rfl rfl
          · replace h := (if_neg h_52).symm.trans h
            refine a_aload_n X dX5_secondRound_55 rfl ?_
            refine a_iload_n X dX5_secondRound_56 rfl ?_
            refine a_iload X dX5_secondRound_57 rfl ?_
            obtain ⟨e_59, f_59, h⟩ := zBx h
            refine a_callVv X dX5_secondRound_59 miX2_wish lm5_98 (t_X2_wish (by first | exact hA | assumption) f_59) (by first | exact a_o | assumption) rfl rfl rfl (Nat.le_of_ble_eq_true rfl) ⟨by decide, by decide, by decide, by decide⟩ ?_
            refine a_istore X dX5_secondRound_62 (by decide) ?_
            refine a_aload_n X dX5_secondRound_64 rfl ?_
            refine a_iload_n X dX5_secondRound_65 rfl ?_
            refine a_aload_n X dX5_secondRound_66 rfl ?_
            refine a_getr X lf5_21 (by first | exact q_o | assumption) rfl (by omega) dX5_secondRound_67 ?_
            refine a_iload X dX5_secondRound_70 rfl ?_
            refine a_callSNv X dX5_secondRound_72 miX7_cell lm5_69 (c_cell (by first | exact q_leftTags | assumption) (by decide)) rfl rfl (Nat.le_of_ble_eq_true rfl) ⟨by decide, by decide, by decide, by decide⟩ ?_
            refine a_aload_n X dX5_secondRound_75 rfl ?_
            refine a_getr X lf5_24 (by first | exact q_o | assumption) rfl (by omega) dX5_secondRound_76 ?_
            refine a_iload X dX5_secondRound_79 rfl ?_
            refine a_callSNv X dX5_secondRound_81 miX7_cell lm5_69 (c_cell (by first | exact q_leftGuests | assumption) (by decide)) rfl rfl (Nat.le_of_ble_eq_true rfl) ⟨by decide, by decide, by decide, by decide⟩ ?_
            obtain ⟨e_84, f_84, h⟩ := zBx h
            refine a_callVx X dX5_secondRound_84 miX2_fits lm5_102 (t_X2_fits (by first | exact hA | assumption) f_84) (by first | exact a_o | assumption) rfl rfl rfl (Nat.le_of_ble_eq_true rfl) ⟨by decide, by decide, by decide, by decide⟩ (fun r_84 S_84 q_84 => ?_)
            obtain ⟨rfl, rfl, b_84⟩ := q_84
            refine a_if_eq (tgt := 102) X dX5_secondRound_87 (by decide) (fun h_87 => ?_) (fun h_87 => ?_)
            · replace h := (if_pos h_87).symm.trans h
              refine a_iinc (v := x5_48 + 1) X dX5_secondRound_102 (by decide) rfl zi_1 ?_
              refine a_goto (tgt := 48) X dX5_secondRound_105 (by decide) ?_
              exact Zw.to2 (ih_48 _ _ _ _ _ _ h) rfl rfl rfl
            · replace h := (if_neg h_87).symm.trans h
              refine a_aload_n X dX5_secondRound_90 rfl ?_
              refine a_aload_n X dX5_secondRound_91 rfl ?_
              refine a_iload_n X dX5_secondRound_92 rfl ?_
              refine a_iload X dX5_secondRound_93 rfl ?_
              refine a_iconst (v := 2) X dX5_secondRound_95 (by decide) ?_
              obtain ⟨e_96, f_96, h⟩ := zBx h
              refine a_callVu X dX5_secondRound_96 miX5_hold lm5_112 (t_X5_hold (by first | exact hQ | assumption) (by first | exact hA | assumption) f_96) (by first | exact q_o | assumption) rfl rfl rfl (Nat.le_of_ble_eq_true rfl) ⟨by decide, by decide, by decide, by decide⟩ ?_
              refine a_goto (tgt := 108) X dX5_secondRound_99 (by decide) ?_
              exact Zw.to2 (J_108 _ _ _ _ _ _ h) rfl rfl rfl
      have H_48 : ∀ (x2_48 : Int32) (x3_48 : Int32) (x4_48 : Int32) (x5_48 : Int32) (x6_48 : Option Value) (M_48 : zMt), D_X5_secondRound_48 Q A (D_X5_secondRound_2 Q A u_2) zFu x2_48 x3_48 x4_48 x5_48 M_48 = some r → Zw p l e { frames := 2, cells := 0, slots := 0, locals := 80 * (2) } s m args below meth c G b 7 (MQ below (zQ G b FQ) args s 0 0 (fun q : Nat => b ≤ q)) 0 0 48 [some (.ref (Q)), some (.ref (A)), some (.int x2_48), some (.int x3_48), some (.int x4_48), some (.int x5_48), x6_48] [] (L, M_48, N) := L_48 zFu
      have J_43 : ∀ (x2_43 : Int32) (x3_43 : Int32) (x4_43 : Option Value) (x5_43 : Option Value) (x6_43 : Option Value) (y0_43 : Int32) (M_43 : zMt), D_X5_secondRound_43 Q A (D_X5_secondRound_2 Q A u_2) x2_43 x3_43 y0_43 M_43 = some r → Zw p l e { frames := 2, cells := 0, slots := 0, locals := 80 * (2) } s m args below meth c G b 7 (MQ below (zQ G b FQ) args s 0 0 (fun q : Nat => b ≤ q)) 0 0 43 [some (.ref (Q)), some (.ref (A)), some (.int x2_43), some (.int x3_43), x4_43, x5_43, x6_43] [.int y0_43] (L, M_43, N) := by
        intro x2_43 x3_43 x4_43 x5_43 x6_43 y0_43 M_43 h
        unfold D_X5_secondRound_43 at h
        refine a_istore X dX5_secondRound_43 (by decide) ?_
        refine a_iconst (v := 0) X dX5_secondRound_45 (by decide) ?_
        refine a_istore X dX5_secondRound_46 (by decide) ?_
        exact Zw.to2 (H_48 _ _ _ _ _ _ h) rfl rfl rfl
      intro x2_2 x3_2 x4_2 x5_2 x6_2 M_2 h
      rw [D_X5_secondRound_2] at h
      refine a_iload_n X dX5_secondRound_2 rfl ?_
      refine a_aload_n X dX5_secondRound_3 rfl ?_
      refine a_geti X lf5_47 (by first | exact a_o | assumption) rfl dX5_secondRound_4 ?_
      refine a_icmp_ge (tgt := 114) X dX5_secondRound_7 (by decide) (fun h_7 => ?_) (fun h_7 => ?_)
      · replace h := (if_pos h_7).symm.trans h
        refine a_vret X hr dX5_secondRound_114 ⟨by decide, by decide⟩ ?_
        subst hF
        rw [← Option.some.inj h]
        exact ⟨rfl, rfl⟩
      · replace h := (if_neg h_7).symm.trans h
        refine a_aload_n X dX5_secondRound_10 rfl ?_
        refine a_getr X lf5_9 (by first | exact q_o | assumption) rfl (by omega) dX5_secondRound_11 ?_
        refine a_iload_n X dX5_secondRound_14 rfl ?_
        refine a_callSNv X dX5_secondRound_15 miX7_cell lm5_69 (c_cell (by first | exact q_line | assumption) (by decide)) rfl rfl (Nat.le_of_ble_eq_true rfl) ⟨by decide, by decide, by decide, by decide⟩ ?_
        refine a_istore_n X dX5_secondRound_18 (by decide) ?_
        refine a_aload_n X dX5_secondRound_19 rfl ?_
        refine a_getr X lf5_15 (by first | exact q_o | assumption) rfl (by omega) dX5_secondRound_20 ?_
        refine a_iload_n X dX5_secondRound_23 rfl ?_
        refine a_callSNv X dX5_secondRound_24 miX7_cell lm5_69 (c_cell (by first | exact q_unitOf | assumption) (by decide)) rfl rfl (Nat.le_of_ble_eq_true rfl) ⟨by decide, by decide, by decide, by decide⟩ ?_
        refine a_iconst (v := -1) X dX5_secondRound_27 (by decide) ?_
        refine a_icmp_ne (tgt := 42) X dX5_secondRound_28 (by decide) (fun h_28 => ?_) (fun h_28 => ?_)
        · replace h := (if_neg h_28).symm.trans h
          refine a_iconst (v := 0) X dX5_secondRound_42 (by decide) ?_
          exact Zw.to2 (J_43 _ _ _ _ _ _ _ h) rfl rfl rfl
        · replace h := (if_pos h_28).symm.trans h
          refine a_aload_n X dX5_secondRound_31 rfl ?_
          refine a_getr X lf5_119 (by first | exact a_o | assumption) rfl (by omega) dX5_secondRound_32 ?_
          refine a_iload_n X dX5_secondRound_35 rfl ?_
          refine a_callSNv X dX5_secondRound_36 miX7_cell lm5_69 (c_cell (by first | exact a_wishCount | assumption) (by decide)) rfl rfl (Nat.le_of_ble_eq_true rfl) ⟨by decide, by decide, by decide, by decide⟩ ?_
          refine a_goto (tgt := 43) X dX5_secondRound_39 (by decide) ?_
          exact Zw.to2 (J_43 _ _ _ _ _ _ _ h) rfl rfl rfl
  have H_2 : ∀ (x2_2 : Int32) (x3_2 : Option Value) (x4_2 : Option Value) (x5_2 : Option Value) (x6_2 : Option Value) (M_2 : zMt), D_X5_secondRound_2 Q A zFu x2_2 M_2 = some r → Zw p l e { frames := 2, cells := 0, slots := 0, locals := 80 * (2) } s m args below meth c G b 7 (MQ below (zQ G b FQ) args s 0 0 (fun q : Nat => b ≤ q)) 0 0 2 [some (.ref (Q)), some (.ref (A)), some (.int x2_2), x3_2, x4_2, x5_2, x6_2] [] (L, M_2, N) := L_2 zFu
  unfold D_X5_secondRound at h
  refine a_iconst (v := 0) X dX5_secondRound_0 (by decide) ?_
  refine a_istore_n X dX5_secondRound_1 (by decide) ?_
  exact Zw.to2 (H_2 _ _ _ _ _ _ h) rfl rfl rfl
noncomputable def D_X5_settle_110 (Q : Nat) (A : Nat) (M_110 : zMt) : Option (zMt) :=
  zB (D_X5_secondRound Q A M_110) fun e_112 =>
  some (e_112)
noncomputable def D_X5_settle_36 (Q : Nat) (A : Nat) : Nat → Int32 → zMt → Option (zMt)
  | 0, _, _ => none
  | n + 1, x2_36, M_36 =>
    if (M_36 A 0) ≤ x2_36 then
      if (M_36 A 3) = 0 then
        D_X5_settle_110 Q A M_36
      else
        zB (D_X5_firstRound Q A M_36) fun e_107 =>
        D_X5_settle_110 Q A e_107
    else
      zLt (zwr M_36 (Q + 4) 5 x2_36 (zrd 0 (M_36 (A + 1)) 5 x2_36)) fun M_57 =>
      zLt (zwr M_57 (Q + 6) 5 x2_36 (zrd 0 (M_57 (A + 2)) 5 x2_36)) fun M_73 =>
      zLt (zwr M_73 (Q + 5) 5 x2_36 (zrd 0 (M_73 (A + 3)) 5 x2_36)) fun M_89 =>
      (D_X5_settle_36 Q A n) (x2_36 + 1) M_89
noncomputable def D_X5_settle_2 (Q : Nat) (A : Nat) : Nat → Int32 → zMt → Option (zMt)
  | 0, _, _ => none
  | n + 1, x2_2, M_2 =>
    if (M_2 A 1) ≤ x2_2 then
      D_X5_settle_36 Q A zFu (0 : Int32) M_2
    else
      zLt (zwr M_2 (Q + 2) 10 x2_2 (-1 : Int32)) fun M_16 =>
      zLt (zwr M_16 (Q + 3) 10 x2_2 (0 : Int32)) fun M_25 =>
      (D_X5_settle_2 Q A n) (x2_2 + 1) M_25
noncomputable def D_X5_settle (Q : Nat) (A : Nat) (M : zMt) : Option (zMt) :=
  D_X5_settle_2 Q A zFu (0 : Int32) M
set_option maxRecDepth 100000 in
set_option maxHeartbeats 4000000 in
theorem t_X5_settle {l : Launch} {G : zG} {b : Nat} {L : List zC} {M : zMt} {N : zNt} {Q : Nat} {A : Nat}  (hQ : LX5 L Q) (hA : LX2 L A) {r : zMt} (h : D_X5_settle Q A M = some r) : zM l G b yX5_settle cX5_settle 3 none 3 0 0 [.ref Q, .ref A] (L, M, N) (fun r2 z => r2 = none ∧ z = (L, r, N)) := by
  refine zM.of miX5_settle (Nat.le_of_ble_eq_true rfl) ?_
  intro p e s m args below meth c X hr hname
  generalize hF : ((fun r2 z => r2 = none ∧ z = (L, r, N)) : Option Value → zS → Prop) = FQ
  change Zw p l e { frames := 3, cells := 0, slots := 0, locals := 80 * (3) } s m args below meth c G b 3 (MQ below (zQ G b FQ) args s 0 0 (fun q : Nat => b ≤ q)) 0 0 0 [some (.ref Q), some (.ref A), none] [] (L, M, N)
  have q_lt := hQ.1
  have q_o := hQ.2.1
  have q_unitOf := hQ.2.2.2.1
  have q_roundOf := hQ.2.2.2.2.1
  have q_leftTags := hQ.2.2.2.2.2.1
  have q_leftGuests := hQ.2.2.2.2.2.2.1
  have q_leftPreferred := hQ.2.2.2.2.2.2.2.1
  have a_lt := hA.1
  have a_o := hA.2.1
  have a_quota := hA.2.2.1
  have a_preferred := hA.2.2.2.1
  have a_forGuests := hA.2.2.2.2.1
  have J_110 : ∀ (x2_110 : Int32) (M_110 : zMt), D_X5_settle_110 Q A M_110 = some r → Zw p l e { frames := 3, cells := 0, slots := 0, locals := 80 * (3) } s m args below meth c G b 3 (MQ below (zQ G b FQ) args s 0 0 (fun q : Nat => b ≤ q)) 0 0 110 [some (.ref (Q)), some (.ref (A)), some (.int x2_110)] [] (L, M_110, N) := by
    intro x2_110 M_110 h
    unfold D_X5_settle_110 at h
    refine a_aload_n X dX5_settle_110 rfl ?_
    refine a_aload_n X dX5_settle_111 rfl ?_
    obtain ⟨e_112, f_112, h⟩ := zBx h
    refine a_callVu X dX5_settle_112 miX5_secondRound lm5_92 (t_X5_secondRound (by first | exact hQ | assumption) (by first | exact hA | assumption) f_112) (by first | exact q_o | assumption) rfl rfl rfl (Nat.le_of_ble_eq_true rfl) ⟨by decide, by decide, by decide, by decide⟩ ?_
    refine a_vret X hr dX5_settle_115 ⟨by decide, by decide⟩ ?_
    subst hF
    rw [← Option.some.inj h]
    exact ⟨rfl, rfl⟩
  have L_36 : ∀ u : Nat, ∀ (x2_36 : Int32) (M_36 : zMt), D_X5_settle_36 Q A u x2_36 M_36 = some r → Zw p l e { frames := 3, cells := 0, slots := 0, locals := 80 * (3) } s m args below meth c G b 3 (MQ below (zQ G b FQ) args s 0 0 (fun q : Nat => b ≤ q)) 0 0 36 [some (.ref (Q)), some (.ref (A)), some (.int x2_36)] [] (L, M_36, N) := by
    intro u
    induction u with
    | zero => intro x2_36 M_36 h; cases (show none = some r from h)
    | succ u_36 ih_36 =>
      intro x2_36 M_36 h
      rw [D_X5_settle_36] at h
      refine a_iload_n X dX5_settle_36 rfl ?_
      refine a_aload_n X dX5_settle_37 rfl ?_
      refine a_geti X lf5_73 (by first | exact a_o | assumption) rfl dX5_settle_38 ?_
      refine a_icmp_ge (tgt := 98) X dX5_settle_41 (by decide) (fun h_41 => ?_) (fun h_41 => ?_)
      · replace h := (if_pos h_41).symm.trans h
        refine a_aload_n X dX5_settle_98 rfl ?_
        refine a_geti X lf5_85 (by first | exact a_o | assumption) rfl dX5_settle_99 ?_
        refine a_if_eq (tgt := 110) X dX5_settle_102 (by decide) (fun h_102 => ?_) (fun h_102 => ?_)
        · replace h := (if_pos h_102).symm.trans h
          exact Zw.to2 (J_110 _ _ h) rfl rfl rfl
        · replace h := (if_neg h_102).symm.trans h
          refine a_aload_n X dX5_settle_105 rfl ?_
          refine a_aload_n X dX5_settle_106 rfl ?_
          obtain ⟨e_107, f_107, h⟩ := zBx h
          refine a_callVu X dX5_settle_107 miX5_firstRound lm5_89 (t_X5_firstRound (by first | exact hQ | assumption) (by first | exact hA | assumption) f_107) (by first | exact q_o | assumption) rfl rfl rfl (Nat.le_of_ble_eq_true rfl) ⟨by decide, by decide, by decide, by decide⟩ ?_
          exact Zw.to2 (J_110 _ _ h) rfl rfl rfl
      · replace h := (if_neg h_41).symm.trans h
        refine a_aload_n X dX5_settle_44 rfl ?_
        refine a_getr X lf5_21 (by first | exact q_o | assumption) rfl (by omega) dX5_settle_45 ?_
        refine a_iload_n X dX5_settle_48 rfl ?_
        refine a_aload_n X dX5_settle_49 rfl ?_
        refine a_getr X lf5_76 (by first | exact a_o | assumption) rfl (by omega) dX5_settle_50 ?_
        refine a_iload_n X dX5_settle_53 rfl ?_
        refine a_callSNv X dX5_settle_54 miX7_cell lm5_69 (c_cell (by first | exact a_quota | assumption) (by decide)) rfl rfl (Nat.le_of_ble_eq_true rfl) ⟨by decide, by decide, by decide, by decide⟩ ?_
        obtain ⟨M_57, f_57, h⟩ := zLtx h
        refine a_callSNu X dX5_settle_57 miX7_put lm5_62 (zMu (c_put (by first | exact q_leftTags | assumption) (by decide)) f_57) rfl rfl (Nat.le_of_ble_eq_true rfl) ⟨by decide, by decide, by decide, by decide⟩ ?_
        refine a_aload_n X dX5_settle_60 rfl ?_
        refine a_getr X lf5_27 (by first | exact q_o | assumption) rfl (by omega) dX5_settle_61 ?_
        refine a_iload_n X dX5_settle_64 rfl ?_
        refine a_aload_n X dX5_settle_65 rfl ?_
        refine a_getr X lf5_79 (by first | exact a_o | assumption) rfl (by omega) dX5_settle_66 ?_
        refine a_iload_n X dX5_settle_69 rfl ?_
        refine a_callSNv X dX5_settle_70 miX7_cell lm5_69 (c_cell (by first | exact a_preferred | assumption) (by decide)) rfl rfl (Nat.le_of_ble_eq_true rfl) ⟨by decide, by decide, by decide, by decide⟩ ?_
        obtain ⟨M_73, f_73, h⟩ := zLtx h
        refine a_callSNu X dX5_settle_73 miX7_put lm5_62 (zMu (c_put (by first | exact q_leftPreferred | assumption) (by decide)) f_73) rfl rfl (Nat.le_of_ble_eq_true rfl) ⟨by decide, by decide, by decide, by decide⟩ ?_
        refine a_aload_n X dX5_settle_76 rfl ?_
        refine a_getr X lf5_24 (by first | exact q_o | assumption) rfl (by omega) dX5_settle_77 ?_
        refine a_iload_n X dX5_settle_80 rfl ?_
        refine a_aload_n X dX5_settle_81 rfl ?_
        refine a_getr X lf5_82 (by first | exact a_o | assumption) rfl (by omega) dX5_settle_82 ?_
        refine a_iload_n X dX5_settle_85 rfl ?_
        refine a_callSNv X dX5_settle_86 miX7_cell lm5_69 (c_cell (by first | exact a_forGuests | assumption) (by decide)) rfl rfl (Nat.le_of_ble_eq_true rfl) ⟨by decide, by decide, by decide, by decide⟩ ?_
        obtain ⟨M_89, f_89, h⟩ := zLtx h
        refine a_callSNu X dX5_settle_89 miX7_put lm5_62 (zMu (c_put (by first | exact q_leftGuests | assumption) (by decide)) f_89) rfl rfl (Nat.le_of_ble_eq_true rfl) ⟨by decide, by decide, by decide, by decide⟩ ?_
        refine a_iinc (v := x2_36 + 1) X dX5_settle_92 (by decide) rfl zi_1 ?_
        refine a_goto (tgt := 36) X dX5_settle_95 (by decide) ?_
        exact Zw.to2 (ih_36 _ _ h) rfl rfl rfl
  have H_36 : ∀ (x2_36 : Int32) (M_36 : zMt), D_X5_settle_36 Q A zFu x2_36 M_36 = some r → Zw p l e { frames := 3, cells := 0, slots := 0, locals := 80 * (3) } s m args below meth c G b 3 (MQ below (zQ G b FQ) args s 0 0 (fun q : Nat => b ≤ q)) 0 0 36 [some (.ref (Q)), some (.ref (A)), some (.int x2_36)] [] (L, M_36, N) := L_36 zFu
  have L_2 : ∀ u : Nat, ∀ (x2_2 : Int32) (M_2 : zMt), D_X5_settle_2 Q A u x2_2 M_2 = some r → Zw p l e { frames := 3, cells := 0, slots := 0, locals := 80 * (3) } s m args below meth c G b 3 (MQ below (zQ G b FQ) args s 0 0 (fun q : Nat => b ≤ q)) 0 0 2 [some (.ref (Q)), some (.ref (A)), some (.int x2_2)] [] (L, M_2, N) := by
    intro u
    induction u with
    | zero => intro x2_2 M_2 h; cases (show none = some r from h)
    | succ u_2 ih_2 =>
      intro x2_2 M_2 h
      rw [D_X5_settle_2] at h
      refine a_iload_n X dX5_settle_2 rfl ?_
      refine a_aload_n X dX5_settle_3 rfl ?_
      refine a_geti X lf5_47 (by first | exact a_o | assumption) rfl dX5_settle_4 ?_
      refine a_icmp_ge (tgt := 34) X dX5_settle_7 (by decide) (fun h_7 => ?_) (fun h_7 => ?_)
      · replace h := (if_pos h_7).symm.trans h
        refine a_iconst (v := 0) X dX5_settle_34 (by decide) ?_
        refine a_istore_n X dX5_settle_35 (by decide) ?_
        exact Zw.to2 (H_36 _ _ h) rfl rfl rfl
      · replace h := (if_neg h_7).symm.trans h
        refine a_aload_n X dX5_settle_10 rfl ?_
        refine a_getr X lf5_15 (by first | exact q_o | assumption) rfl (by omega) dX5_settle_11 ?_
        refine a_iload_n X dX5_settle_14 rfl ?_
        refine a_iconst (v := -1) X dX5_settle_15 (by decide) ?_
        obtain ⟨M_16, f_16, h⟩ := zLtx h
        refine a_callSNu X dX5_settle_16 miX7_put lm5_62 (zMu (c_put (by first | exact q_unitOf | assumption) (by decide)) f_16) rfl rfl (Nat.le_of_ble_eq_true rfl) ⟨by decide, by decide, by decide, by decide⟩ ?_
        refine a_aload_n X dX5_settle_19 rfl ?_
        refine a_getr X lf5_18 (by first | exact q_o | assumption) rfl (by omega) dX5_settle_20 ?_
        refine a_iload_n X dX5_settle_23 rfl ?_
        refine a_iconst (v := 0) X dX5_settle_24 (by decide) ?_
        obtain ⟨M_25, f_25, h⟩ := zLtx h
        refine a_callSNu X dX5_settle_25 miX7_put lm5_62 (zMu (c_put (by first | exact q_roundOf | assumption) (by decide)) f_25) rfl rfl (Nat.le_of_ble_eq_true rfl) ⟨by decide, by decide, by decide, by decide⟩ ?_
        refine a_iinc (v := x2_2 + 1) X dX5_settle_28 (by decide) rfl zi_1 ?_
        refine a_goto (tgt := 2) X dX5_settle_31 (by decide) ?_
        exact Zw.to2 (ih_2 _ _ h) rfl rfl rfl
  have H_2 : ∀ (x2_2 : Int32) (M_2 : zMt), D_X5_settle_2 Q A zFu x2_2 M_2 = some r → Zw p l e { frames := 3, cells := 0, slots := 0, locals := 80 * (3) } s m args below meth c G b 3 (MQ below (zQ G b FQ) args s 0 0 (fun q : Nat => b ≤ q)) 0 0 2 [some (.ref (Q)), some (.ref (A)), some (.int x2_2)] [] (L, M_2, N) := L_2 zFu
  unfold D_X5_settle at h
  refine a_iconst (v := 0) X dX5_settle_0 (by decide) ?_
  refine a_istore_n X dX5_settle_1 (by decide) ?_
  exact Zw.to2 (H_2 _ _ h) rfl rfl rfl
noncomputable def D_X0_record_88 (Q : Nat) (A : Nat) (k6 : Int64 → Int32 → Int32 → zMt → zNt → Option (zMt × zNt)) (x2_88 : Int64) (x4_88 : Int32) (x5_88 : Int32) (M_88 : zMt) (N_88 : zNt) : Option (zMt × zNt) :=
  k6 x2_88 x4_88 (x5_88 + 1) M_88 N_88
noncomputable def D_X0_record_6 (Q : Nat) (A : Nat) : Nat → Int64 → Int32 → Int32 → zMt → zNt → Option (zMt × zNt)
  | 0, _, _, _, _, _ => none
  | n + 1, x2_6, x4_6, x5_6, M_6, N_6 =>
    if (M_6 A 1) ≤ x5_6 then
      zLt (zwr N_6 (Q + 1) 128 x4_6 (zrd 0 (N_6 (Q + 1)) 128 x4_6 + x2_6)) fun N_101 =>
      zLt (zwr M_6 (Q + 2) 128 x4_6 (1 : Int32)) fun M_111 =>
      some (M_111, N_101)
    else
      if (zrd 0 (M_6 (Q + 7)) 10 x5_6) = (-1 : Int32) then
        D_X0_record_88 Q A (D_X0_record_6 Q A n) x2_6 x4_6 x5_6 M_6 N_6
      else
        zLt (zwr N_6 (Q + 3) 35 ((x5_6 * (5 : Int32)) + (zrd 0 (M_6 (Q + 7)) 10 x5_6)) (zrd 0 (N_6 (Q + 3)) 35 ((x5_6 * (5 : Int32)) + (zrd 0 (M_6 (Q + 7)) 10 x5_6)) + x2_6)) fun N_59 =>
        if (zrd 0 (M_6 (Q + 8)) 10 x5_6) = (1 : Int32) then
          zLt (zwr N_59 (Q + 4) 7 x5_6 (zrd 0 (N_59 (Q + 4)) 7 x5_6 + x2_6)) fun N_85 =>
          D_X0_record_88 Q A (D_X0_record_6 Q A n) x2_6 (x4_6 ||| ((1 : Int32) <<< (x5_6 &&& 31))) x5_6 M_6 N_85
        else
          D_X0_record_88 Q A (D_X0_record_6 Q A n) x2_6 (x4_6 ||| ((1 : Int32) <<< (x5_6 &&& 31))) x5_6 M_6 N_59
noncomputable def D_X0_record (Q : Nat) (A : Nat) (v0 : Int64) (M : zMt) (N : zNt) : Option (zMt × zNt) :=
  D_X0_record_6 Q A zFu v0 (0 : Int32) (0 : Int32) M N
set_option maxRecDepth 100000 in
set_option maxHeartbeats 4000000 in
theorem t_X0_record {l : Launch} {G : zG} {b : Nat} {L : List zC} {M : zMt} {N : zNt} {Q : Nat} {A : Nat} {v0 : Int64} (hQ : LX0 L Q) (hA : LX2 L A) {r : zMt × zNt} (h : D_X0_record Q A v0 M N = some r) : zM l G b yX0_record cX0_record 7 none 1 0 0 [.ref Q, .ref A, .long v0] (L, M, N) (fun r2 z => r2 = none ∧ z = (L, r.1, r.2)) := by
  refine zM.of miX0_record (Nat.le_of_ble_eq_true rfl) ?_
  intro p e s m args below meth c X hr hname
  generalize hF : ((fun r2 z => r2 = none ∧ z = (L, r.1, r.2)) : Option Value → zS → Prop) = FQ
  change Zw p l e { frames := 1, cells := 0, slots := 0, locals := 80 * (1) } s m args below meth c G b 7 (MQ below (zQ G b FQ) args s 0 0 (fun q : Nat => b ≤ q)) 0 0 0 [some (.ref Q), some (.ref A), some (.long v0), none, none, none, none] [] (L, M, N)
  have q_lt := hQ.1
  have q_o := hQ.2.1
  have q_sets := hQ.2.2.1
  have q_seen := hQ.2.2.2.1
  have q_atUnit := hQ.2.2.2.2.1
  have q_early := hQ.2.2.2.2.2.1
  have q_result := hQ.2.2.2.2.2.2
  have q_result_lt := q_result.1
  have q_result_o := q_result.2.1
  have q_result_unitOf := q_result.2.2.2.1
  have q_result_roundOf := q_result.2.2.2.2.1
  have a_lt := hA.1
  have a_o := hA.2.1
  have L_6 : ∀ u : Nat, ∀ (x2_6 : Int64) (x4_6 : Int32) (x5_6 : Int32) (x6_6 : Option Value) (M_6 : zMt) (N_6 : zNt), D_X0_record_6 Q A u x2_6 x4_6 x5_6 M_6 N_6 = some r → Zw p l e { frames := 1, cells := 0, slots := 0, locals := 80 * (1) } s m args below meth c G b 7 (MQ below (zQ G b FQ) args s 0 0 (fun q : Nat => b ≤ q)) 0 0 6 [some (.ref (Q)), some (.ref (A)), some (.long x2_6), none, some (.int x4_6), some (.int x5_6), x6_6] [] (L, M_6, N_6) := by
    intro u
    induction u with
    | zero => intro x2_6 x4_6 x5_6 x6_6 M_6 N_6 h; cases (show none = some r from h)
    | succ u_6 ih_6 =>
      have J_88 : ∀ (x2_88 : Int64) (x4_88 : Int32) (x5_88 : Int32) (x6_88 : Int32) (M_88 : zMt) (N_88 : zNt), D_X0_record_88 Q A (D_X0_record_6 Q A u_6) x2_88 x4_88 x5_88 M_88 N_88 = some r → Zw p l e { frames := 1, cells := 0, slots := 0, locals := 80 * (1) } s m args below meth c G b 7 (MQ below (zQ G b FQ) args s 0 0 (fun q : Nat => b ≤ q)) 0 0 88 [some (.ref (Q)), some (.ref (A)), some (.long x2_88), none, some (.int x4_88), some (.int x5_88), some (.int x6_88)] [] (L, M_88, N_88) := by
        intro x2_88 x4_88 x5_88 x6_88 M_88 N_88 h
        unfold D_X0_record_88 at h
        refine a_iinc (v := x5_88 + 1) X dX0_record_88 (by decide) rfl zi_1 ?_
        refine a_goto (tgt := 6) X dX0_record_91 (by decide) ?_
        exact Zw.to2 (ih_6 _ _ _ _ _ _ h) rfl rfl rfl
      intro x2_6 x4_6 x5_6 x6_6 M_6 N_6 h
      rw [D_X0_record_6] at h
      refine a_iload X dX0_record_6 rfl ?_
      refine a_aload_n X dX0_record_8 rfl ?_
      refine a_geti X lf0_40 (by first | exact a_o | assumption) rfl dX0_record_9 ?_
      refine a_icmp_ge (tgt := 94) X dX0_record_12 (by decide) (fun h_12 => ?_) (fun h_12 => ?_)
      · replace h := (if_pos h_12).symm.trans h
        refine a_aload_n X dX0_record_94 rfl ?_
        refine a_getr X lf0_9 (by first | exact q_o | assumption) rfl (by omega) dX0_record_95 ?_
        refine a_iload X dX0_record_98 rfl ?_
        refine a_lload_n X dX0_record_100 rfl ?_
        obtain ⟨N_101, f_101, h⟩ := zLtx h
        refine a_callSNu X dX0_record_101 miX7_bigAdd lm0_80 (zMuN (c_bigAdd (by first | exact q_sets | assumption) (by decide)) f_101) rfl rfl (Nat.le_of_ble_eq_true rfl) ⟨by decide, by decide, by decide, by decide⟩ ?_
        refine a_aload_n X dX0_record_104 rfl ?_
        refine a_getr X lf0_15 (by first | exact q_o | assumption) rfl (by omega) dX0_record_105 ?_
        refine a_iload X dX0_record_108 rfl ?_
        refine a_iconst (v := 1) X dX0_record_110 (by decide) ?_
        obtain ⟨M_111, f_111, h⟩ := zLtx h
        refine a_callSNu X dX0_record_111 miX7_put lm0_73 (zMu (c_put (by first | exact q_seen | assumption) (by decide)) f_111) rfl rfl (Nat.le_of_ble_eq_true rfl) ⟨by decide, by decide, by decide, by decide⟩ ?_
        refine a_vret X hr dX0_record_114 ⟨by decide, by decide⟩ ?_
        subst hF
        rw [← Option.some.inj h]
        exact ⟨rfl, rfl⟩
      · replace h := (if_neg h_12).symm.trans h
        refine a_aload_n X dX0_record_15 rfl ?_
        refine a_getr X lf0_28 (by first | exact q_o | assumption) rfl (by omega) dX0_record_16 ?_
        refine a_getr X lf0_77 (by first | exact q_result_o | assumption) rfl (by omega) dX0_record_19 ?_
        refine a_iload X dX0_record_22 rfl ?_
        refine a_callSNv X dX0_record_24 miX7_cell lm0_66 (c_cell (by first | exact q_result_unitOf | assumption) (by decide)) rfl rfl (Nat.le_of_ble_eq_true rfl) ⟨by decide, by decide, by decide, by decide⟩ ?_
        refine a_istore X dX0_record_27 (by decide) ?_
        refine a_iload X dX0_record_29 rfl ?_
        refine a_iconst (v := -1) X dX0_record_31 (by decide) ?_
        refine a_icmp_ne (tgt := 38) X dX0_record_32 (by decide) (fun h_32 => ?_) (fun h_32 => ?_)
        · replace h := (if_neg h_32).symm.trans h
          refine a_iload X dX0_record_38 rfl ?_
          refine a_iconst (v := 1) X dX0_record_40 (by decide) ?_
          refine a_iload X dX0_record_41 rfl ?_
          refine a_ishl X dX0_record_43 ?_
          refine a_ior X dX0_record_44 ?_
          refine a_istore X dX0_record_45 (by decide) ?_
          refine a_aload_n X dX0_record_47 rfl ?_
          refine a_getr X lf0_19 (by first | exact q_o | assumption) rfl (by omega) dX0_record_48 ?_
          refine a_iload X dX0_record_51 rfl ?_
          refine a_iconst (v := 5) X dX0_record_53 (by decide) ?_
          refine a_imul X dX0_record_54 ?_
          refine a_iload X dX0_record_55 rfl ?_
          refine a_iadd X dX0_record_57 ?_
          refine a_lload_n X dX0_record_58 rfl ?_
          obtain ⟨N_59, f_59, h⟩ := zLtx h
          refine a_callSNu X dX0_record_59 miX7_bigAdd lm0_80 (zMuN (c_bigAdd (by first | exact q_atUnit | assumption) (by decide)) f_59) rfl rfl (Nat.le_of_ble_eq_true rfl) ⟨by decide, by decide, by decide, by decide⟩ ?_
          refine a_aload_n X dX0_record_62 rfl ?_
          refine a_getr X lf0_28 (by first | exact q_o | assumption) rfl (by omega) dX0_record_63 ?_
          refine a_getr X lf0_84 (by first | exact q_result_o | assumption) rfl (by omega) dX0_record_66 ?_
          refine a_iload X dX0_record_69 rfl ?_
          refine a_callSNv X dX0_record_71 miX7_cell lm0_66 (c_cell (by first | exact q_result_roundOf | assumption) (by decide)) rfl rfl (Nat.le_of_ble_eq_true rfl) ⟨by decide, by decide, by decide, by decide⟩ ?_
          refine a_iconst (v := 1) X dX0_record_74 (by decide) ?_
          refine a_icmp_ne (tgt := 88) X dX0_record_75 (by decide) (fun h_75 => ?_) (fun h_75 => ?_)
          · replace h := (if_neg h_75).symm.trans h
            exact Zw.to2 (J_88 _ _ _ _ _ _ h) rfl rfl rfl
          · replace h := (if_pos h_75).symm.trans h
            refine a_aload_n X dX0_record_78 rfl ?_
            refine a_getr X lf0_22 (by first | exact q_o | assumption) rfl (by omega) dX0_record_79 ?_
            refine a_iload X dX0_record_82 rfl ?_
            refine a_lload_n X dX0_record_84 rfl ?_
            obtain ⟨N_85, f_85, h⟩ := zLtx h
            refine a_callSNu X dX0_record_85 miX7_bigAdd lm0_80 (zMuN (c_bigAdd (by first | exact q_early | assumption) (by decide)) f_85) rfl rfl (Nat.le_of_ble_eq_true rfl) ⟨by decide, by decide, by decide, by decide⟩ ?_
            exact Zw.to2 (J_88 _ _ _ _ _ _ h) rfl rfl rfl
        · replace h := (if_pos h_32).symm.trans h
          refine a_goto (tgt := 88) X dX0_record_35 (by decide) ?_
          exact Zw.to2 (J_88 _ _ _ _ _ _ h) rfl rfl rfl
  have H_6 : ∀ (x2_6 : Int64) (x4_6 : Int32) (x5_6 : Int32) (x6_6 : Option Value) (M_6 : zMt) (N_6 : zNt), D_X0_record_6 Q A zFu x2_6 x4_6 x5_6 M_6 N_6 = some r → Zw p l e { frames := 1, cells := 0, slots := 0, locals := 80 * (1) } s m args below meth c G b 7 (MQ below (zQ G b FQ) args s 0 0 (fun q : Nat => b ≤ q)) 0 0 6 [some (.ref (Q)), some (.ref (A)), some (.long x2_6), none, some (.int x4_6), some (.int x5_6), x6_6] [] (L, M_6, N_6) := L_6 zFu
  unfold D_X0_record at h
  refine a_iconst (v := 0) X dX0_record_0 (by decide) ?_
  refine a_istore X dX0_record_1 (by decide) ?_
  refine a_iconst (v := 0) X dX0_record_3 (by decide) ?_
  refine a_istore X dX0_record_4 (by decide) ?_
  exact Zw.to2 (H_6 _ _ _ _ _ _ h) rfl rfl rfl
noncomputable def D_X0_walk_109 (Q : Nat) (A : Nat) (rec : Int32 → Int32 → Int32 → Int64 → zMt → zNt → Option (zMt × zNt)) (k35 : Int32 → Int32 → Int32 → Int64 → Int32 → zMt → zNt → Option (zMt × zNt)) (x2_109 : Int32) (x3_109 : Int32) (x4_109 : Int32) (x5_109 : Int64) (x7_109 : Int32) (M_109 : zMt) (N_109 : zNt) : Option (zMt × zNt) :=
  k35 x2_109 x3_109 x4_109 x5_109 (x7_109 + 1) M_109 N_109
noncomputable def D_X0_walk_35 (Q : Nat) (A : Nat) (rec : Int32 → Int32 → Int32 → Int64 → zMt → zNt → Option (zMt × zNt)) : Nat → Int32 → Int32 → Int32 → Int64 → Int32 → zMt → zNt → Option (zMt × zNt)
  | 0, _, _, _, _, _, _, _ => none
  | n + 1, x2_35, x3_35, x4_35, x5_35, x7_35, M_35, N_35 =>
    if (M_35 A 1) ≤ x7_35 then
      some (M_35, N_35)
    else
      if ((x3_35 >>> (x7_35 &&& 31)) &&& (1 : Int32)) = (1 : Int32) then
        zLt (zwr M_35 (Q + 6) 10 x2_35 x7_35) fun M_75 =>
        zZl (Int32.toInt64 x4_35) <|
        zB (rec (x2_35 + (1 : Int32)) (x3_35 &&& (((1 : Int32) <<< (x7_35 &&& 31)) ^^^ (-1 : Int32))) (x4_35 - (zrd 0 (M_35 (A + 8)) 10 x7_35)) ((x5_35 * (Int32.toInt64 (zrd 0 (M_35 (A + 8)) 10 x7_35))) / (Int32.toInt64 x4_35)) M_75 N_35) fun e_106 =>
        D_X0_walk_109 Q A rec (D_X0_walk_35 Q A rec n) x2_35 x3_35 x4_35 x5_35 x7_35 e_106.1 e_106.2
      else
        D_X0_walk_109 Q A rec (D_X0_walk_35 Q A rec n) x2_35 x3_35 x4_35 x5_35 x7_35 M_35 N_35
noncomputable def D_X0_walk_31 (Q : Nat) (A : Nat) (rec : Int32 → Int32 → Int32 → Int64 → zMt → zNt → Option (zMt × zNt)) (M_31 : zMt) (N_31 : zNt) : Option (zMt × zNt) :=
  some (M_31, N_31)
noncomputable def D_X0_walk (Q : Nat) (A : Nat) : Nat → Int32 → Int32 → Int32 → Int64 → zMt → zNt → Option (zMt × zNt)
  | 0, _, _, _, _, _, _ => none
  | w + 1, v0, v1, v2, v3, M, N =>
    if v1 = 0 then
      zB (D_X5_settle (Q + 5) A M) fun e_9 =>
      zB (D_X0_record Q A v3 e_9 N) fun e_16 =>
      some (e_16.1, e_16.2)
    else
      if (7 : Int32) ≤ v0 then
        D_X0_walk_31 Q A (D_X0_walk Q A w) M N
      else
        if 0 < v2 then
          D_X0_walk_35 Q A (D_X0_walk Q A w) zFu v0 v1 v2 v3 (0 : Int32) M N
        else
          D_X0_walk_31 Q A (D_X0_walk Q A w) M N
set_option maxRecDepth 100000 in
set_option maxHeartbeats 4000000 in
theorem t_X0_walk_w {l : Launch} {G : zG} {b : Nat} {L : List zC} {Q : Nat} {A : Nat} (hQ : LX0 L Q) (hA : LX2 L A) : ∀ (w : Nat) {v0 : Int32} {v1 : Int32} {v2 : Int32} {v3 : Int64} {M : zMt} {N : zNt} {r : zMt × zNt}, D_X0_walk Q A w v0 v1 v2 v3 M N = some r → zM l G b yX0_walk cX0_walk 9 none (3 + w) 0 0 [.ref Q, .ref A, .int v0, .int v1, .int v2, .long v3] (L, M, N) (fun r2 z => r2 = none ∧ z = (L, r.1, r.2)) := by
  intro w
  induction w with
  | zero => intro v0 v1 v2 v3 M N r h; cases (show none = some r from h)
  | succ w ihw =>
    intro v0 v1 v2 v3 M N r h
    refine zM.of miX0_walk (Nat.le_of_ble_eq_true rfl) ?_
    intro p e s m args below meth c X hr hname
    generalize hF : ((fun r2 z => r2 = none ∧ z = (L, r.1, r.2)) : Option Value → zS → Prop) = FQ
    rw [show 3 + (w + 1) = 4 + w by omega]
    change Zw p l e { frames := 4 + w, cells := 0, slots := 0, locals := 80 * (4 + w) } s m args below meth c G b 9 (MQ below (zQ G b FQ) args s 0 0 (fun q : Nat => b ≤ q)) 0 0 0 [some (.ref Q), some (.ref A), some (.int v0), some (.int v1), some (.int v2), some (.long v3), none, none, none] [] (L, M, N)
    have q_lt := hQ.1
    have q_o := hQ.2.1
    have q_result := hQ.2.2.2.2.2.2
    have q_result_lt := q_result.1
    have q_result_o := q_result.2.1
    have q_result_line := q_result.2.2.1
    have a_lt := hA.1
    have a_o := hA.2.1
    have a_tickets := hA.2.2.2.2.2.2.2.2.2.1
    have L_35 : ∀ u : Nat, ∀ (x2_35 : Int32) (x3_35 : Int32) (x4_35 : Int32) (x5_35 : Int64) (x7_35 : Int32) (x8_35 : Option Value) (M_35 : zMt) (N_35 : zNt), D_X0_walk_35 Q A (D_X0_walk Q A w) u x2_35 x3_35 x4_35 x5_35 x7_35 M_35 N_35 = some r → Zw p l e { frames := 4 + w, cells := 0, slots := 0, locals := 80 * (4 + w) } s m args below meth c G b 9 (MQ below (zQ G b FQ) args s 0 0 (fun q : Nat => b ≤ q)) 0 0 35 [some (.ref (Q)), some (.ref (A)), some (.int x2_35), some (.int x3_35), some (.int x4_35), some (.long x5_35), none, some (.int x7_35), x8_35] [] (L, M_35, N_35) := by
      intro u
      induction u with
      | zero => intro x2_35 x3_35 x4_35 x5_35 x7_35 x8_35 M_35 N_35 h; cases (show none = some r from h)
      | succ u_35 ih_35 =>
        have J_109 : ∀ (x2_109 : Int32) (x3_109 : Int32) (x4_109 : Int32) (x5_109 : Int64) (x7_109 : Int32) (x8_109 : Option Value) (M_109 : zMt) (N_109 : zNt), D_X0_walk_109 Q A (D_X0_walk Q A w) (D_X0_walk_35 Q A (D_X0_walk Q A w) u_35) x2_109 x3_109 x4_109 x5_109 x7_109 M_109 N_109 = some r → Zw p l e { frames := 4 + w, cells := 0, slots := 0, locals := 80 * (4 + w) } s m args below meth c G b 9 (MQ below (zQ G b FQ) args s 0 0 (fun q : Nat => b ≤ q)) 0 0 109 [some (.ref (Q)), some (.ref (A)), some (.int x2_109), some (.int x3_109), some (.int x4_109), some (.long x5_109), none, some (.int x7_109), x8_109] [] (L, M_109, N_109) := by
          intro x2_109 x3_109 x4_109 x5_109 x7_109 x8_109 M_109 N_109 h
          unfold D_X0_walk_109 at h
          refine a_iinc (v := x7_109 + 1) X dX0_walk_109 (by decide) rfl zi_1 ?_
          refine a_goto (tgt := 35) X dX0_walk_112 (by decide) ?_
          exact Zw.to2 (ih_35 _ _ _ _ _ _ _ _ h) rfl rfl rfl
        intro x2_35 x3_35 x4_35 x5_35 x7_35 x8_35 M_35 N_35 h
        rw [D_X0_walk_35] at h
        refine a_iload X dX0_walk_35 rfl ?_
        refine a_aload_n X dX0_walk_37 rfl ?_
        refine a_geti X lf0_40 (by first | exact a_o | assumption) rfl dX0_walk_38 ?_
        refine a_icmp_ge (tgt := 115) X dX0_walk_41 (by decide) (fun h_41 => ?_) (fun h_41 => ?_)
        · replace h := (if_pos h_41).symm.trans h
          refine a_vret X hr dX0_walk_115 ⟨by decide, by decide⟩ ?_
          subst hF
          rw [← Option.some.inj h]
          exact ⟨rfl, rfl⟩
        · replace h := (if_neg h_41).symm.trans h
          refine a_iload_n X dX0_walk_44 rfl ?_
          refine a_iload X dX0_walk_45 rfl ?_
          refine a_ishr X dX0_walk_47 ?_
          refine a_iconst (v := 1) X dX0_walk_48 (by decide) ?_
          refine a_iand X dX0_walk_49 ?_
          refine a_iconst (v := 1) X dX0_walk_50 (by decide) ?_
          refine a_icmp_ne (tgt := 109) X dX0_walk_51 (by decide) (fun h_51 => ?_) (fun h_51 => ?_)
          · replace h := (if_neg h_51).symm.trans h
            exact Zw.to2 (J_109 _ _ _ _ _ _ _ _ h) rfl rfl rfl
          · replace h := (if_pos h_51).symm.trans h
            refine a_aload_n X dX0_walk_54 rfl ?_
            refine a_getr X lf0_63 (by first | exact a_o | assumption) rfl (by omega) dX0_walk_55 ?_
            refine a_iload X dX0_walk_58 rfl ?_
            refine a_callSNv X dX0_walk_60 miX7_cell lm0_66 (c_cell (by first | exact a_tickets | assumption) (by decide)) rfl rfl (Nat.le_of_ble_eq_true rfl) ⟨by first | decide | (show _ ≤ _; dsimp only; omega), by first | decide | (show _ ≤ _; dsimp only; omega), by first | decide | exact Nat.le_refl 0, by first | decide | exact Nat.le_refl 0⟩ ?_
            refine a_istore X dX0_walk_63 (by decide) ?_
            refine a_aload_n X dX0_walk_65 rfl ?_
            refine a_getr X lf0_28 (by first | exact q_o | assumption) rfl (by omega) dX0_walk_66 ?_
            refine a_getr X lf0_70 (by first | exact q_result_o | assumption) rfl (by omega) dX0_walk_69 ?_
            refine a_iload_n X dX0_walk_72 rfl ?_
            refine a_iload X dX0_walk_73 rfl ?_
            obtain ⟨M_75, f_75, h⟩ := zLtx h
            refine a_callSNu X dX0_walk_75 miX7_put lm0_73 (zMu (c_put (by first | exact q_result_line | assumption) (by decide)) f_75) rfl rfl (Nat.le_of_ble_eq_true rfl) ⟨by first | decide | (show _ ≤ _; dsimp only; omega), by first | decide | (show _ ≤ _; dsimp only; omega), by first | decide | exact Nat.le_refl 0, by first | decide | exact Nat.le_refl 0⟩ ?_
            refine a_aload_n X dX0_walk_78 rfl ?_
            refine a_aload_n X dX0_walk_79 rfl ?_
            refine a_iload_n X dX0_walk_80 rfl ?_
            refine a_iconst (v := 1) X dX0_walk_81 (by decide) ?_
            refine a_iadd X dX0_walk_82 ?_
            refine a_iload_n X dX0_walk_83 rfl ?_
            refine a_iconst (v := 1) X dX0_walk_84 (by decide) ?_
            refine a_iload X dX0_walk_85 rfl ?_
            refine a_ishl X dX0_walk_87 ?_
            refine a_iconst (v := -1) X dX0_walk_88 (by decide) ?_
            refine a_ixor X dX0_walk_89 ?_
            refine a_iand X dX0_walk_90 ?_
            refine a_iload X dX0_walk_91 rfl ?_
            refine a_iload X dX0_walk_93 rfl ?_
            refine a_isub X dX0_walk_95 ?_
            refine a_lload X dX0_walk_96 rfl ?_
            refine a_iload X dX0_walk_98 rfl ?_
            refine a_i2l X dX0_walk_100 ?_
            refine a_lmul X dX0_walk_101 ?_
            refine a_iload X dX0_walk_102 rfl ?_
            refine a_i2l X dX0_walk_104 ?_
            obtain ⟨z_105, h⟩ := zZlx h
            refine a_ldiv X dX0_walk_105 (z_105) ?_
            obtain ⟨e_106, f_106, h⟩ := zBx h
            refine a_callSu X dX0_walk_106 miX0_walk lm0_51 (ihw f_106) rfl rfl (Nat.le_of_ble_eq_true rfl) ⟨by first | decide | (show _ ≤ _; dsimp only; omega), by first | decide | (show _ ≤ _; dsimp only; omega), by first | decide | exact Nat.le_refl 0, by first | decide | exact Nat.le_refl 0⟩ ?_
            exact Zw.to2 (J_109 _ _ _ _ _ _ _ _ h) rfl rfl rfl
    have H_35 : ∀ (x2_35 : Int32) (x3_35 : Int32) (x4_35 : Int32) (x5_35 : Int64) (x7_35 : Int32) (x8_35 : Option Value) (M_35 : zMt) (N_35 : zNt), D_X0_walk_35 Q A (D_X0_walk Q A w) zFu x2_35 x3_35 x4_35 x5_35 x7_35 M_35 N_35 = some r → Zw p l e { frames := 4 + w, cells := 0, slots := 0, locals := 80 * (4 + w) } s m args below meth c G b 9 (MQ below (zQ G b FQ) args s 0 0 (fun q : Nat => b ≤ q)) 0 0 35 [some (.ref (Q)), some (.ref (A)), some (.int x2_35), some (.int x3_35), some (.int x4_35), some (.long x5_35), none, some (.int x7_35), x8_35] [] (L, M_35, N_35) := L_35 zFu
    have J_31 : ∀ (x2_31 : Int32) (x3_31 : Int32) (x4_31 : Int32) (x5_31 : Int64) (x7_31 : Option Value) (x8_31 : Option Value) (M_31 : zMt) (N_31 : zNt), D_X0_walk_31 Q A (D_X0_walk Q A w) M_31 N_31 = some r → Zw p l e { frames := 4 + w, cells := 0, slots := 0, locals := 80 * (4 + w) } s m args below meth c G b 9 (MQ below (zQ G b FQ) args s 0 0 (fun q : Nat => b ≤ q)) 0 0 31 [some (.ref (Q)), some (.ref (A)), some (.int x2_31), some (.int x3_31), some (.int x4_31), some (.long x5_31), none, x7_31, x8_31] [] (L, M_31, N_31) := by
      intro x2_31 x3_31 x4_31 x5_31 x7_31 x8_31 M_31 N_31 h
      unfold D_X0_walk_31 at h
      refine a_vret X hr dX0_walk_31 ⟨by decide, by decide⟩ ?_
      subst hF
      rw [← Option.some.inj h]
      exact ⟨rfl, rfl⟩
    rw [D_X0_walk] at h
    refine a_iload_n X dX0_walk_0 rfl ?_
    refine a_if_ne (tgt := 20) X dX0_walk_1 (by decide) (fun h_1 => ?_) (fun h_1 => ?_)
    · replace h := (if_neg h_1).symm.trans h
      refine a_iload_n X dX0_walk_20 rfl ?_
      refine a_bipush (v := 7) X dX0_walk_21 (by decide) ?_
      refine a_icmp_ge (tgt := 31) X dX0_walk_23 (by decide) (fun h_23 => ?_) (fun h_23 => ?_)
      · replace h := (if_pos h_23).symm.trans h
        exact Zw.to2 (J_31 _ _ _ _ _ _ _ _ h) rfl rfl rfl
      · replace h := (if_neg h_23).symm.trans h
        refine a_iload X dX0_walk_26 rfl ?_
        refine a_if_gt (tgt := 32) X dX0_walk_28 (by decide) (fun h_28 => ?_) (fun h_28 => ?_)
        · replace h := (if_pos h_28).symm.trans h
          refine a_iconst (v := 0) X dX0_walk_32 (by decide) ?_
          refine a_istore X dX0_walk_33 (by decide) ?_
          exact Zw.to2 (H_35 _ _ _ _ _ _ _ _ h) rfl rfl rfl
        · replace h := (if_neg h_28).symm.trans h
          exact Zw.to2 (J_31 _ _ _ _ _ _ _ _ h) rfl rfl rfl
    · replace h := (if_pos h_1).symm.trans h
      refine a_aload_n X dX0_walk_4 rfl ?_
      refine a_getr X lf0_28 (by first | exact q_o | assumption) rfl (by omega) dX0_walk_5 ?_
      refine a_aload_n X dX0_walk_8 rfl ?_
      obtain ⟨e_9, f_9, h⟩ := zBx h
      refine a_callVu X dX0_walk_9 miX5_settle lm0_55 (t_X5_settle (by first | exact q_result | assumption) (by first | exact hA | assumption) f_9) (by first | exact q_result_o | assumption) rfl rfl rfl (Nat.le_of_ble_eq_true rfl) ⟨by first | decide | (show _ ≤ _; dsimp only; omega), by first | decide | (show _ ≤ _; dsimp only; omega), by first | decide | exact Nat.le_refl 0, by first | decide | exact Nat.le_refl 0⟩ ?_
      refine a_aload_n X dX0_walk_12 rfl ?_
      refine a_aload_n X dX0_walk_13 rfl ?_
      refine a_lload X dX0_walk_14 rfl ?_
      obtain ⟨e_16, f_16, h⟩ := zBx h
      refine a_callVu X dX0_walk_16 miX0_record lm0_59 (t_X0_record (by first | exact hQ | assumption) (by first | exact hA | assumption) f_16) (by first | exact q_o | assumption) rfl rfl rfl (Nat.le_of_ble_eq_true rfl) ⟨by first | decide | (show _ ≤ _; dsimp only; omega), by first | decide | (show _ ≤ _; dsimp only; omega), by first | decide | exact Nat.le_refl 0, by first | decide | exact Nat.le_refl 0⟩ ?_
      refine a_vret X hr dX0_walk_19 ⟨by decide, by decide⟩ ?_
      subst hF
      rw [← Option.some.inj h]
      exact ⟨rfl, rfl⟩
theorem t_X0_walk {l : Launch} {G : zG} {b : Nat} {L : List zC} {M : zMt} {N : zNt} {Q : Nat} {A : Nat} {v0 : Int32} {v1 : Int32} {v2 : Int32} {v3 : Int64} (hQ : LX0 L Q) (hA : LX2 L A) {r : zMt × zNt} (h : D_X0_walk Q A zRec v0 v1 v2 v3 M N = some r) : zM l G b yX0_walk cX0_walk 9 none 12 0 0 [.ref Q, .ref A, .int v0, .int v1, .int v2, .long v3] (L, M, N) (fun r2 z => r2 = none ∧ z = (L, r.1, r.2)) := t_X0_walk_w hQ hA zRec h
noncomputable def D_X0_reckon_62 (Q : Nat) (A : Nat) (M_62 : zMt) (N_62 : zNt) : Option (zMt × zNt) :=
  some (M_62, N_62)
noncomputable def D_X0_reckon (Q : Nat) (A : Nat) (M : zMt) (N : zNt) : Option (zMt × zNt) :=
  zLt (zfil N (Q + 1) 128 (0 : Int64)) fun N_5 =>
  zLt (zfil M (Q + 2) 128 (0 : Int32)) fun M_13 =>
  zLt (zfil N_5 (Q + 3) 35 (0 : Int64)) fun N_21 =>
  zLt (zfil N_21 (Q + 4) 7 (0 : Int64)) fun N_29 =>
  if (7 : Int32) < (M_13 A 1) then
    D_X0_reckon_62 Q A M_13 N_29
  else
    zB (D_X0_walk Q A zRec (0 : Int32) (((1 : Int32) <<< ((M_13 A 1) &&& 31)) - (1 : Int32)) (M_13 A 2) (1000000000000 : Int64) M_13 N_29) fun e_59 =>
    D_X0_reckon_62 Q A e_59.1 e_59.2
set_option maxRecDepth 100000 in
set_option maxHeartbeats 4000000 in
theorem t_X0_reckon {l : Launch} {G : zG} {b : Nat} {L : List zC} {M : zMt} {N : zNt} {Q : Nat} {A : Nat}  (hQ : LX0 L Q) (hA : LX2 L A) {r : zMt × zNt} (h : D_X0_reckon Q A M N = some r) : zM l G b yX0_reckon cX0_reckon 2 none 13 0 0 [.ref Q, .ref A] (L, M, N) (fun r2 z => r2 = none ∧ z = (L, r.1, r.2)) := by
  refine zM.of miX0_reckon (Nat.le_of_ble_eq_true rfl) ?_
  intro p e s m args below meth c X hr hname
  generalize hF : ((fun r2 z => r2 = none ∧ z = (L, r.1, r.2)) : Option Value → zS → Prop) = FQ
  change Zw p l e { frames := 13, cells := 0, slots := 0, locals := 80 * (13) } s m args below meth c G b 2 (MQ below (zQ G b FQ) args s 0 0 (fun q : Nat => b ≤ q)) 0 0 0 [some (.ref Q), some (.ref A)] [] (L, M, N)
  have q_lt := hQ.1
  have q_o := hQ.2.1
  have q_sets := hQ.2.2.1
  have q_seen := hQ.2.2.2.1
  have q_atUnit := hQ.2.2.2.2.1
  have q_early := hQ.2.2.2.2.2.1
  have a_lt := hA.1
  have a_o := hA.2.1
  have J_62 : ∀ (M_62 : zMt) (N_62 : zNt), D_X0_reckon_62 Q A M_62 N_62 = some r → Zw p l e { frames := 13, cells := 0, slots := 0, locals := 80 * (13) } s m args below meth c G b 2 (MQ below (zQ G b FQ) args s 0 0 (fun q : Nat => b ≤ q)) 0 0 62 [some (.ref (Q)), some (.ref (A))] [] (L, M_62, N_62) := by
    intro M_62 N_62 h
    unfold D_X0_reckon_62 at h
    refine a_vret X hr dX0_reckon_62 ⟨by decide, by decide⟩ ?_
    subst hF
    rw [← Option.some.inj h]
    exact ⟨rfl, rfl⟩
  unfold D_X0_reckon at h
  refine a_aload_n X dX0_reckon_0 rfl ?_
  refine a_getr X lf0_9 (by first | exact q_o | assumption) rfl (by omega) dX0_reckon_1 ?_
  refine a_lconst (v := 0) X dX0_reckon_4 (by decide) ?_
  obtain ⟨N_5, f_5, h⟩ := zLtx h
  refine a_callSNu X dX0_reckon_5 miX7_bigFill lm0_32 (zMuN (c_bigFill (by first | exact q_sets | assumption) (by decide)) f_5) rfl rfl (Nat.le_of_ble_eq_true rfl) ⟨by decide, by decide, by decide, by decide⟩ ?_
  refine a_aload_n X dX0_reckon_8 rfl ?_
  refine a_getr X lf0_15 (by first | exact q_o | assumption) rfl (by omega) dX0_reckon_9 ?_
  refine a_iconst (v := 0) X dX0_reckon_12 (by decide) ?_
  obtain ⟨M_13, f_13, h⟩ := zLtx h
  refine a_callSNu X dX0_reckon_13 miX7_fill lm0_36 (zMu (c_fill (by first | exact q_seen | assumption) (by decide)) f_13) rfl rfl (Nat.le_of_ble_eq_true rfl) ⟨by decide, by decide, by decide, by decide⟩ ?_
  refine a_aload_n X dX0_reckon_16 rfl ?_
  refine a_getr X lf0_19 (by first | exact q_o | assumption) rfl (by omega) dX0_reckon_17 ?_
  refine a_lconst (v := 0) X dX0_reckon_20 (by decide) ?_
  obtain ⟨N_21, f_21, h⟩ := zLtx h
  refine a_callSNu X dX0_reckon_21 miX7_bigFill lm0_32 (zMuN (c_bigFill (by first | exact q_atUnit | assumption) (by decide)) f_21) rfl rfl (Nat.le_of_ble_eq_true rfl) ⟨by decide, by decide, by decide, by decide⟩ ?_
  refine a_aload_n X dX0_reckon_24 rfl ?_
  refine a_getr X lf0_22 (by first | exact q_o | assumption) rfl (by omega) dX0_reckon_25 ?_
  refine a_lconst (v := 0) X dX0_reckon_28 (by decide) ?_
  obtain ⟨N_29, f_29, h⟩ := zLtx h
  refine a_callSNu X dX0_reckon_29 miX7_bigFill lm0_32 (zMuN (c_bigFill (by first | exact q_early | assumption) (by decide)) f_29) rfl rfl (Nat.le_of_ble_eq_true rfl) ⟨by decide, by decide, by decide, by decide⟩ ?_
  refine a_aload_n X dX0_reckon_32 rfl ?_
  refine a_geti X lf0_40 (by first | exact a_o | assumption) rfl dX0_reckon_33 ?_
  refine a_bipush (v := 7) X dX0_reckon_36 (by decide) ?_
  refine a_icmp_gt (tgt := 62) X dX0_reckon_38 (by decide) (fun h_38 => ?_) (fun h_38 => ?_)
  · replace h := (if_pos h_38).symm.trans h
    exact Zw.to2 (J_62 _ _ h) rfl rfl rfl
  · replace h := (if_neg h_38).symm.trans h
    refine a_aload_n X dX0_reckon_41 rfl ?_
    refine a_aload_n X dX0_reckon_42 rfl ?_
    refine a_iconst (v := 0) X dX0_reckon_43 (by decide) ?_
    refine a_iconst (v := 1) X dX0_reckon_44 (by decide) ?_
    refine a_aload_n X dX0_reckon_45 rfl ?_
    refine a_geti X lf0_40 (by first | exact a_o | assumption) rfl dX0_reckon_46 ?_
    refine a_ishl X dX0_reckon_49 ?_
    refine a_iconst (v := 1) X dX0_reckon_50 (by decide) ?_
    refine a_isub X dX0_reckon_51 ?_
    refine a_aload_n X dX0_reckon_52 rfl ?_
    refine a_geti X lf0_46 (by first | exact a_o | assumption) rfl dX0_reckon_53 ?_
    refine a_ldc2 X dX0_reckon_56 lk0_49 ?_
    obtain ⟨e_59, f_59, h⟩ := zBx h
    refine a_callSu X dX0_reckon_59 miX0_walk lm0_51 (t_X0_walk (by first | exact hQ | assumption) (by first | exact hA | assumption) f_59) rfl rfl (Nat.le_of_ble_eq_true rfl) ⟨by decide, by decide, by decide, by decide⟩ ?_
    exact Zw.to2 (J_62 _ _ h) rfl rfl rfl
noncomputable def D_X0_certainUnit (Q : Nat) (N : zNt) (v0 : Int32) (v1 : Int32) : Option (Int64) :=
  some ((zrd 0 (N (Q + 3)) 35 ((v0 * (5 : Int32)) + v1)))
set_option maxRecDepth 100000 in
set_option maxHeartbeats 4000000 in
theorem t_X0_certainUnit {l : Launch} {G : zG} {b : Nat} {L : List zC} {M : zMt} {N : zNt} {Q : Nat} {v0 : Int32} {v1 : Int32} (hQ : LX0 L Q) {r : Int64} (h : D_X0_certainUnit Q N v0 v1 = some r) : zM l G b yX0_certainUnit cX0_certainUnit 3 (some .long) 1 0 0 [.ref Q, .int v0, .int v1] (L, M, N) (fun r2 z => r2 = some (.long r) ∧ z = (L, M, N)) := by
  refine zM.of miX0_certainUnit (Nat.le_of_ble_eq_true rfl) ?_
  intro p e s m args below meth c X hr hname
  generalize hF : ((fun r2 z => r2 = some (.long r) ∧ z = (L, M, N)) : Option Value → zS → Prop) = FQ
  change Zw p l e { frames := 1, cells := 0, slots := 0, locals := 80 * (1) } s m args below meth c G b 3 (MQ below (zQ G b FQ) args s 0 0 (fun q : Nat => b ≤ q)) 0 0 0 [some (.ref Q), some (.int v0), some (.int v1)] [] (L, M, N)
  have q_lt := hQ.1
  have q_o := hQ.2.1
  have q_atUnit := hQ.2.2.2.2.1
  unfold D_X0_certainUnit at h
  refine a_aload_n X dX0_certainUnit_0 rfl ?_
  refine a_getr X lf0_19 (by first | exact q_o | assumption) rfl (by omega) dX0_certainUnit_1 ?_
  refine a_iload_n X dX0_certainUnit_4 rfl ?_
  refine a_iconst (v := 5) X dX0_certainUnit_5 (by decide) ?_
  refine a_imul X dX0_certainUnit_6 ?_
  refine a_iload_n X dX0_certainUnit_7 rfl ?_
  refine a_iadd X dX0_certainUnit_8 ?_
  refine a_callSNv X dX0_certainUnit_9 miX7_bigCell lm0_87 (c_bigCell (by first | exact q_atUnit | assumption) (by decide)) rfl rfl (Nat.le_of_ble_eq_true rfl) ⟨by decide, by decide, by decide, by decide⟩ ?_
  refine a_lret X hr dX0_certainUnit_12 ⟨by decide, by decide⟩ ?_
  subst hF
  rw [← Option.some.inj h]
  exact ⟨rfl, rfl⟩
noncomputable def D_X0_allOf_33 (Q : Nat) (N : zNt) (k5 : Int32 → Int64 → Int32 → Option (Int64)) (x1_33 : Int32) (x2_33 : Int64) (x4_33 : Int32) : Option (Int64) :=
  k5 x1_33 x2_33 (x4_33 + 1)
noncomputable def D_X0_allOf_5 (Q : Nat) (N : zNt) : Nat → Int32 → Int64 → Int32 → Option (Int64)
  | 0, _, _, _ => none
  | n + 1, x1_5, x2_5, x4_5 =>
    if (128 : Int32) ≤ x4_5 then
      some (x2_5)
    else
      if (x4_5 &&& x1_5) = x1_5 then
        D_X0_allOf_33 Q N (D_X0_allOf_5 Q N n) x1_5 (x2_5 + (zrd 0 (N (Q + 1)) 128 x4_5)) x4_5
      else
        D_X0_allOf_33 Q N (D_X0_allOf_5 Q N n) x1_5 x2_5 x4_5
noncomputable def D_X0_allOf (Q : Nat) (N : zNt) (v0 : Int32) : Option (Int64) :=
  D_X0_allOf_5 Q N zFu v0 (0 : Int64) (0 : Int32)
set_option maxRecDepth 100000 in
set_option maxHeartbeats 4000000 in
theorem t_X0_allOf {l : Launch} {G : zG} {b : Nat} {L : List zC} {M : zMt} {N : zNt} {Q : Nat} {v0 : Int32} (hQ : LX0 L Q) {r : Int64} (h : D_X0_allOf Q N v0 = some r) : zM l G b yX0_allOf cX0_allOf 5 (some .long) 1 0 0 [.ref Q, .int v0] (L, M, N) (fun r2 z => r2 = some (.long r) ∧ z = (L, M, N)) := by
  refine zM.of miX0_allOf (Nat.le_of_ble_eq_true rfl) ?_
  intro p e s m args below meth c X hr hname
  generalize hF : ((fun r2 z => r2 = some (.long r) ∧ z = (L, M, N)) : Option Value → zS → Prop) = FQ
  change Zw p l e { frames := 1, cells := 0, slots := 0, locals := 80 * (1) } s m args below meth c G b 5 (MQ below (zQ G b FQ) args s 0 0 (fun q : Nat => b ≤ q)) 0 0 0 [some (.ref Q), some (.int v0), none, none, none] [] (L, M, N)
  have q_lt := hQ.1
  have q_o := hQ.2.1
  have q_sets := hQ.2.2.1
  have L_5 : ∀ u : Nat, ∀ (x1_5 : Int32) (x2_5 : Int64) (x4_5 : Int32), D_X0_allOf_5 Q N u x1_5 x2_5 x4_5 = some r → Zw p l e { frames := 1, cells := 0, slots := 0, locals := 80 * (1) } s m args below meth c G b 5 (MQ below (zQ G b FQ) args s 0 0 (fun q : Nat => b ≤ q)) 0 0 5 [some (.ref (Q)), some (.int x1_5), some (.long x2_5), none, some (.int x4_5)] [] (L, M, N) := by
    intro u
    induction u with
    | zero => intro x1_5 x2_5 x4_5 h; cases (show none = some r from h)
    | succ u_5 ih_5 =>
      have J_33 : ∀ (x1_33 : Int32) (x2_33 : Int64) (x4_33 : Int32), D_X0_allOf_33 Q N (D_X0_allOf_5 Q N u_5) x1_33 x2_33 x4_33 = some r → Zw p l e { frames := 1, cells := 0, slots := 0, locals := 80 * (1) } s m args below meth c G b 5 (MQ below (zQ G b FQ) args s 0 0 (fun q : Nat => b ≤ q)) 0 0 33 [some (.ref (Q)), some (.int x1_33), some (.long x2_33), none, some (.int x4_33)] [] (L, M, N) := by
        intro x1_33 x2_33 x4_33 h
        unfold D_X0_allOf_33 at h
        refine a_iinc (v := x4_33 + 1) X dX0_allOf_33 (by decide) rfl zi_1 ?_
        refine a_goto (tgt := 5) X dX0_allOf_36 (by decide) ?_
        exact Zw.to2 (ih_5 _ _ _ h) rfl rfl rfl
      intro x1_5 x2_5 x4_5 h
      rw [D_X0_allOf_5] at h
      refine a_iload X dX0_allOf_5 rfl ?_
      refine a_sipush (v := 128) X dX0_allOf_7 (by decide) ?_
      refine a_icmp_ge (tgt := 39) X dX0_allOf_10 (by decide) (fun h_10 => ?_) (fun h_10 => ?_)
      · replace h := (if_pos h_10).symm.trans h
        refine a_lload_n X dX0_allOf_39 rfl ?_
        refine a_lret X hr dX0_allOf_40 ⟨by decide, by decide⟩ ?_
        subst hF
        rw [← Option.some.inj h]
        exact ⟨rfl, rfl⟩
      · replace h := (if_neg h_10).symm.trans h
        refine a_iload X dX0_allOf_13 rfl ?_
        refine a_iload_n X dX0_allOf_15 rfl ?_
        refine a_iand X dX0_allOf_16 ?_
        refine a_iload_n X dX0_allOf_17 rfl ?_
        refine a_icmp_ne (tgt := 33) X dX0_allOf_18 (by decide) (fun h_18 => ?_) (fun h_18 => ?_)
        · replace h := (if_neg h_18).symm.trans h
          exact Zw.to2 (J_33 _ _ _ h) rfl rfl rfl
        · replace h := (if_pos h_18).symm.trans h
          refine a_lload_n X dX0_allOf_21 rfl ?_
          refine a_aload_n X dX0_allOf_22 rfl ?_
          refine a_getr X lf0_9 (by first | exact q_o | assumption) rfl (by omega) dX0_allOf_23 ?_
          refine a_iload X dX0_allOf_26 rfl ?_
          refine a_callSNv X dX0_allOf_28 miX7_bigCell lm0_87 (c_bigCell (by first | exact q_sets | assumption) (by decide)) rfl rfl (Nat.le_of_ble_eq_true rfl) ⟨by decide, by decide, by decide, by decide⟩ ?_
          refine a_ladd X dX0_allOf_31 ?_
          refine a_lstore_n X dX0_allOf_32 (by decide) ?_
          exact Zw.to2 (J_33 _ _ _ h) rfl rfl rfl
  have H_5 : ∀ (x1_5 : Int32) (x2_5 : Int64) (x4_5 : Int32), D_X0_allOf_5 Q N zFu x1_5 x2_5 x4_5 = some r → Zw p l e { frames := 1, cells := 0, slots := 0, locals := 80 * (1) } s m args below meth c G b 5 (MQ below (zQ G b FQ) args s 0 0 (fun q : Nat => b ≤ q)) 0 0 5 [some (.ref (Q)), some (.int x1_5), some (.long x2_5), none, some (.int x4_5)] [] (L, M, N) := L_5 zFu
  unfold D_X0_allOf at h
  refine a_lconst (v := 0) X dX0_allOf_0 (by decide) ?_
  refine a_lstore_n X dX0_allOf_1 (by decide) ?_
  refine a_iconst (v := 0) X dX0_allOf_2 (by decide) ?_
  refine a_istore X dX0_allOf_3 (by decide) ?_
  exact Zw.to2 (H_5 _ _ _ h) rfl rfl rfl
noncomputable def D_X0_anyUnit (Q : Nat) (N : zNt) (v0 : Int32) : Option (Int64) :=
  zB (D_X0_allOf Q N ((1 : Int32) <<< (v0 &&& 31))) fun e_4 =>
  some (e_4)
set_option maxRecDepth 100000 in
set_option maxHeartbeats 4000000 in
theorem t_X0_anyUnit {l : Launch} {G : zG} {b : Nat} {L : List zC} {M : zMt} {N : zNt} {Q : Nat} {v0 : Int32} (hQ : LX0 L Q) {r : Int64} (h : D_X0_anyUnit Q N v0 = some r) : zM l G b yX0_anyUnit cX0_anyUnit 2 (some .long) 2 0 0 [.ref Q, .int v0] (L, M, N) (fun r2 z => r2 = some (.long r) ∧ z = (L, M, N)) := by
  refine zM.of miX0_anyUnit (Nat.le_of_ble_eq_true rfl) ?_
  intro p e s m args below meth c X hr hname
  generalize hF : ((fun r2 z => r2 = some (.long r) ∧ z = (L, M, N)) : Option Value → zS → Prop) = FQ
  change Zw p l e { frames := 2, cells := 0, slots := 0, locals := 80 * (2) } s m args below meth c G b 2 (MQ below (zQ G b FQ) args s 0 0 (fun q : Nat => b ≤ q)) 0 0 0 [some (.ref Q), some (.int v0)] [] (L, M, N)
  have q_lt := hQ.1
  have q_o := hQ.2.1
  unfold D_X0_anyUnit at h
  refine a_aload_n X dX0_anyUnit_0 rfl ?_
  refine a_iconst (v := 1) X dX0_anyUnit_1 (by decide) ?_
  refine a_iload_n X dX0_anyUnit_2 rfl ?_
  refine a_ishl X dX0_anyUnit_3 ?_
  obtain ⟨e_4, f_4, h⟩ := zBx h
  refine a_callVv X dX0_anyUnit_4 miX0_allOf lm0_91 (t_X0_allOf (by first | exact hQ | assumption) f_4) (by first | exact q_o | assumption) rfl rfl rfl (Nat.le_of_ble_eq_true rfl) ⟨by decide, by decide, by decide, by decide⟩ ?_
  refine a_lret X hr dX0_anyUnit_7 ⟨by decide, by decide⟩ ?_
  subst hF
  rw [← Option.some.inj h]
  exact ⟨rfl, rfl⟩
noncomputable def D_X0_always_28 (Q : Nat) (M : zMt) (k5 : Int32 → Int32 → Option (Int32)) (x1_28 : Int32) (x2_28 : Int32) : Option (Int32) :=
  k5 x1_28 (x2_28 + 1)
noncomputable def D_X0_always_5 (Q : Nat) (M : zMt) : Nat → Int32 → Int32 → Option (Int32)
  | 0, _, _ => none
  | n + 1, x1_5, x2_5 =>
    if (128 : Int32) ≤ x2_5 then
      some (x1_5)
    else
      if (zrd 0 (M (Q + 2)) 128 x2_5) = (1 : Int32) then
        D_X0_always_28 Q M (D_X0_always_5 Q M n) (x1_5 &&& x2_5) x2_5
      else
        D_X0_always_28 Q M (D_X0_always_5 Q M n) x1_5 x2_5
noncomputable def D_X0_always (Q : Nat) (M : zMt)  : Option (Int32) :=
  D_X0_always_5 Q M zFu (127 : Int32) (0 : Int32)
set_option maxRecDepth 100000 in
set_option maxHeartbeats 4000000 in
theorem t_X0_always {l : Launch} {G : zG} {b : Nat} {L : List zC} {M : zMt} {N : zNt} {Q : Nat}  (hQ : LX0 L Q) {r : Int32} (h : D_X0_always Q M = some r) : zM l G b yX0_always cX0_always 3 (some .int) 1 0 0 [.ref Q] (L, M, N) (fun r2 z => r2 = some (.int r) ∧ z = (L, M, N)) := by
  refine zM.of miX0_always (Nat.le_of_ble_eq_true rfl) ?_
  intro p e s m args below meth c X hr hname
  generalize hF : ((fun r2 z => r2 = some (.int r) ∧ z = (L, M, N)) : Option Value → zS → Prop) = FQ
  change Zw p l e { frames := 1, cells := 0, slots := 0, locals := 80 * (1) } s m args below meth c G b 3 (MQ below (zQ G b FQ) args s 0 0 (fun q : Nat => b ≤ q)) 0 0 0 [some (.ref Q), none, none] [] (L, M, N)
  have q_lt := hQ.1
  have q_o := hQ.2.1
  have q_seen := hQ.2.2.2.1
  have L_5 : ∀ u : Nat, ∀ (x1_5 : Int32) (x2_5 : Int32), D_X0_always_5 Q M u x1_5 x2_5 = some r → Zw p l e { frames := 1, cells := 0, slots := 0, locals := 80 * (1) } s m args below meth c G b 3 (MQ below (zQ G b FQ) args s 0 0 (fun q : Nat => b ≤ q)) 0 0 5 [some (.ref (Q)), some (.int x1_5), some (.int x2_5)] [] (L, M, N) := by
    intro u
    induction u with
    | zero => intro x1_5 x2_5 h; cases (show none = some r from h)
    | succ u_5 ih_5 =>
      have J_28 : ∀ (x1_28 : Int32) (x2_28 : Int32), D_X0_always_28 Q M (D_X0_always_5 Q M u_5) x1_28 x2_28 = some r → Zw p l e { frames := 1, cells := 0, slots := 0, locals := 80 * (1) } s m args below meth c G b 3 (MQ below (zQ G b FQ) args s 0 0 (fun q : Nat => b ≤ q)) 0 0 28 [some (.ref (Q)), some (.int x1_28), some (.int x2_28)] [] (L, M, N) := by
        intro x1_28 x2_28 h
        unfold D_X0_always_28 at h
        refine a_iinc (v := x2_28 + 1) X dX0_always_28 (by decide) rfl zi_1 ?_
        refine a_goto (tgt := 5) X dX0_always_31 (by decide) ?_
        exact Zw.to2 (ih_5 _ _ h) rfl rfl rfl
      intro x1_5 x2_5 h
      rw [D_X0_always_5] at h
      refine a_iload_n X dX0_always_5 rfl ?_
      refine a_sipush (v := 128) X dX0_always_6 (by decide) ?_
      refine a_icmp_ge (tgt := 34) X dX0_always_9 (by decide) (fun h_9 => ?_) (fun h_9 => ?_)
      · replace h := (if_pos h_9).symm.trans h
        refine a_iload_n X dX0_always_34 rfl ?_
        refine a_iret X hr dX0_always_35 ⟨by decide, by decide⟩ ?_
        subst hF
        rw [← Option.some.inj h]
        exact ⟨rfl, rfl⟩
      · replace h := (if_neg h_9).symm.trans h
        refine a_aload_n X dX0_always_12 rfl ?_
        refine a_getr X lf0_15 (by first | exact q_o | assumption) rfl (by omega) dX0_always_13 ?_
        refine a_iload_n X dX0_always_16 rfl ?_
        refine a_callSNv X dX0_always_17 miX7_cell lm0_66 (c_cell (by first | exact q_seen | assumption) (by decide)) rfl rfl (Nat.le_of_ble_eq_true rfl) ⟨by decide, by decide, by decide, by decide⟩ ?_
        refine a_iconst (v := 1) X dX0_always_20 (by decide) ?_
        refine a_icmp_ne (tgt := 28) X dX0_always_21 (by decide) (fun h_21 => ?_) (fun h_21 => ?_)
        · replace h := (if_neg h_21).symm.trans h
          exact Zw.to2 (J_28 _ _ h) rfl rfl rfl
        · replace h := (if_pos h_21).symm.trans h
          refine a_iload_n X dX0_always_24 rfl ?_
          refine a_iload_n X dX0_always_25 rfl ?_
          refine a_iand X dX0_always_26 ?_
          refine a_istore_n X dX0_always_27 (by decide) ?_
          exact Zw.to2 (J_28 _ _ h) rfl rfl rfl
  have H_5 : ∀ (x1_5 : Int32) (x2_5 : Int32), D_X0_always_5 Q M zFu x1_5 x2_5 = some r → Zw p l e { frames := 1, cells := 0, slots := 0, locals := 80 * (1) } s m args below meth c G b 3 (MQ below (zQ G b FQ) args s 0 0 (fun q : Nat => b ≤ q)) 0 0 5 [some (.ref (Q)), some (.int x1_5), some (.int x2_5)] [] (L, M, N) := L_5 zFu
  unfold D_X0_always at h
  refine a_bipush (v := 127) X dX0_always_0 (by decide) ?_
  refine a_istore_n X dX0_always_2 (by decide) ?_
  refine a_iconst (v := 0) X dX0_always_3 (by decide) ?_
  refine a_istore_n X dX0_always_4 (by decide) ?_
  exact Zw.to2 (H_5 _ _ h) rfl rfl rfl
noncomputable def D_X0_ever_27 (Q : Nat) (M : zMt) (k4 : Int32 → Int32 → Option (Int32)) (x1_27 : Int32) (x2_27 : Int32) : Option (Int32) :=
  k4 x1_27 (x2_27 + 1)
noncomputable def D_X0_ever_4 (Q : Nat) (M : zMt) : Nat → Int32 → Int32 → Option (Int32)
  | 0, _, _ => none
  | n + 1, x1_4, x2_4 =>
    if (128 : Int32) ≤ x2_4 then
      some (x1_4)
    else
      if (zrd 0 (M (Q + 2)) 128 x2_4) = (1 : Int32) then
        D_X0_ever_27 Q M (D_X0_ever_4 Q M n) (x1_4 ||| x2_4) x2_4
      else
        D_X0_ever_27 Q M (D_X0_ever_4 Q M n) x1_4 x2_4
noncomputable def D_X0_ever (Q : Nat) (M : zMt)  : Option (Int32) :=
  D_X0_ever_4 Q M zFu (0 : Int32) (0 : Int32)
set_option maxRecDepth 100000 in
set_option maxHeartbeats 4000000 in
theorem t_X0_ever {l : Launch} {G : zG} {b : Nat} {L : List zC} {M : zMt} {N : zNt} {Q : Nat}  (hQ : LX0 L Q) {r : Int32} (h : D_X0_ever Q M = some r) : zM l G b yX0_ever cX0_ever 3 (some .int) 1 0 0 [.ref Q] (L, M, N) (fun r2 z => r2 = some (.int r) ∧ z = (L, M, N)) := by
  refine zM.of miX0_ever (Nat.le_of_ble_eq_true rfl) ?_
  intro p e s m args below meth c X hr hname
  generalize hF : ((fun r2 z => r2 = some (.int r) ∧ z = (L, M, N)) : Option Value → zS → Prop) = FQ
  change Zw p l e { frames := 1, cells := 0, slots := 0, locals := 80 * (1) } s m args below meth c G b 3 (MQ below (zQ G b FQ) args s 0 0 (fun q : Nat => b ≤ q)) 0 0 0 [some (.ref Q), none, none] [] (L, M, N)
  have q_lt := hQ.1
  have q_o := hQ.2.1
  have q_seen := hQ.2.2.2.1
  have L_4 : ∀ u : Nat, ∀ (x1_4 : Int32) (x2_4 : Int32), D_X0_ever_4 Q M u x1_4 x2_4 = some r → Zw p l e { frames := 1, cells := 0, slots := 0, locals := 80 * (1) } s m args below meth c G b 3 (MQ below (zQ G b FQ) args s 0 0 (fun q : Nat => b ≤ q)) 0 0 4 [some (.ref (Q)), some (.int x1_4), some (.int x2_4)] [] (L, M, N) := by
    intro u
    induction u with
    | zero => intro x1_4 x2_4 h; cases (show none = some r from h)
    | succ u_4 ih_4 =>
      have J_27 : ∀ (x1_27 : Int32) (x2_27 : Int32), D_X0_ever_27 Q M (D_X0_ever_4 Q M u_4) x1_27 x2_27 = some r → Zw p l e { frames := 1, cells := 0, slots := 0, locals := 80 * (1) } s m args below meth c G b 3 (MQ below (zQ G b FQ) args s 0 0 (fun q : Nat => b ≤ q)) 0 0 27 [some (.ref (Q)), some (.int x1_27), some (.int x2_27)] [] (L, M, N) := by
        intro x1_27 x2_27 h
        unfold D_X0_ever_27 at h
        refine a_iinc (v := x2_27 + 1) X dX0_ever_27 (by decide) rfl zi_1 ?_
        refine a_goto (tgt := 4) X dX0_ever_30 (by decide) ?_
        exact Zw.to2 (ih_4 _ _ h) rfl rfl rfl
      intro x1_4 x2_4 h
      rw [D_X0_ever_4] at h
      refine a_iload_n X dX0_ever_4 rfl ?_
      refine a_sipush (v := 128) X dX0_ever_5 (by decide) ?_
      refine a_icmp_ge (tgt := 33) X dX0_ever_8 (by decide) (fun h_8 => ?_) (fun h_8 => ?_)
      · replace h := (if_pos h_8).symm.trans h
        refine a_iload_n X dX0_ever_33 rfl ?_
        refine a_iret X hr dX0_ever_34 ⟨by decide, by decide⟩ ?_
        subst hF
        rw [← Option.some.inj h]
        exact ⟨rfl, rfl⟩
      · replace h := (if_neg h_8).symm.trans h
        refine a_aload_n X dX0_ever_11 rfl ?_
        refine a_getr X lf0_15 (by first | exact q_o | assumption) rfl (by omega) dX0_ever_12 ?_
        refine a_iload_n X dX0_ever_15 rfl ?_
        refine a_callSNv X dX0_ever_16 miX7_cell lm0_66 (c_cell (by first | exact q_seen | assumption) (by decide)) rfl rfl (Nat.le_of_ble_eq_true rfl) ⟨by decide, by decide, by decide, by decide⟩ ?_
        refine a_iconst (v := 1) X dX0_ever_19 (by decide) ?_
        refine a_icmp_ne (tgt := 27) X dX0_ever_20 (by decide) (fun h_20 => ?_) (fun h_20 => ?_)
        · replace h := (if_neg h_20).symm.trans h
          exact Zw.to2 (J_27 _ _ h) rfl rfl rfl
        · replace h := (if_pos h_20).symm.trans h
          refine a_iload_n X dX0_ever_23 rfl ?_
          refine a_iload_n X dX0_ever_24 rfl ?_
          refine a_ior X dX0_ever_25 ?_
          refine a_istore_n X dX0_ever_26 (by decide) ?_
          exact Zw.to2 (J_27 _ _ h) rfl rfl rfl
  have H_4 : ∀ (x1_4 : Int32) (x2_4 : Int32), D_X0_ever_4 Q M zFu x1_4 x2_4 = some r → Zw p l e { frames := 1, cells := 0, slots := 0, locals := 80 * (1) } s m args below meth c G b 3 (MQ below (zQ G b FQ) args s 0 0 (fun q : Nat => b ≤ q)) 0 0 4 [some (.ref (Q)), some (.int x1_4), some (.int x2_4)] [] (L, M, N) := L_4 zFu
  unfold D_X0_ever at h
  refine a_iconst (v := 0) X dX0_ever_0 (by decide) ?_
  refine a_istore_n X dX0_ever_1 (by decide) ?_
  refine a_iconst (v := 0) X dX0_ever_2 (by decide) ?_
  refine a_istore_n X dX0_ever_3 (by decide) ?_
  exact Zw.to2 (H_4 _ _ h) rfl rfl rfl
noncomputable def D_X0_tagsOf_34 (Q : Nat) (M : zMt) (k4 : Int32 → Int32 → Int32 → Option (Int32)) (x1_34 : Int32) (x3_34 : Int32) (y0_34 : Int32) (y1_34 : Int32) : Option (Int32) :=
  k4 x1_34 (y0_34 + y1_34) (x3_34 + 1)
noncomputable def D_X0_tagsOf_4 (Q : Nat) (M : zMt) : Nat → Int32 → Int32 → Int32 → Option (Int32)
  | 0, _, _, _ => none
  | n + 1, x1_4, x2_4, x3_4 =>
    if (M Q 1) ≤ x3_4 then
      some (x2_4)
    else
      if ((x1_4 >>> (x3_4 &&& 31)) &&& (1 : Int32)) = (1 : Int32) then
        D_X0_tagsOf_34 Q M (D_X0_tagsOf_4 Q M n) x1_4 x3_4 x2_4 (zrd 0 (M (Q + 5)) 10 x3_4)
      else
        D_X0_tagsOf_34 Q M (D_X0_tagsOf_4 Q M n) x1_4 x3_4 x2_4 (0 : Int32)
noncomputable def D_X0_tagsOf (Q : Nat) (M : zMt) (v0 : Int32) : Option (Int32) :=
  D_X0_tagsOf_4 Q M zFu v0 (0 : Int32) (0 : Int32)
set_option maxRecDepth 100000 in
set_option maxHeartbeats 4000000 in
theorem t_X0_tagsOf {l : Launch} {G : zG} {b : Nat} {L : List zC} {M : zMt} {N : zNt} {Q : Nat} {v0 : Int32} (hQ : LX2 L Q) {r : Int32} (h : D_X0_tagsOf Q M v0 = some r) : zM l G b yX0_tagsOf cX0_tagsOf 4 (some .int) 1 0 0 [.ref Q, .int v0] (L, M, N) (fun r2 z => r2 = some (.int r) ∧ z = (L, M, N)) := by
  refine zM.of miX0_tagsOf (Nat.le_of_ble_eq_true rfl) ?_
  intro p e s m args below meth c X hr hname
  generalize hF : ((fun r2 z => r2 = some (.int r) ∧ z = (L, M, N)) : Option Value → zS → Prop) = FQ
  change Zw p l e { frames := 1, cells := 0, slots := 0, locals := 80 * (1) } s m args below meth c G b 4 (MQ below (zQ G b FQ) args s 0 0 (fun q : Nat => b ≤ q)) 0 0 0 [some (.ref Q), some (.int v0), none, none] [] (L, M, N)
  have q_lt := hQ.1
  have q_o := hQ.2.1
  have q_size := hQ.2.2.2.2.2.2.1
  have L_4 : ∀ u : Nat, ∀ (x1_4 : Int32) (x2_4 : Int32) (x3_4 : Int32), D_X0_tagsOf_4 Q M u x1_4 x2_4 x3_4 = some r → Zw p l e { frames := 1, cells := 0, slots := 0, locals := 80 * (1) } s m args below meth c G b 4 (MQ below (zQ G b FQ) args s 0 0 (fun q : Nat => b ≤ q)) 0 0 4 [some (.ref (Q)), some (.int x1_4), some (.int x2_4), some (.int x3_4)] [] (L, M, N) := by
    intro u
    induction u with
    | zero => intro x1_4 x2_4 x3_4 h; cases (show none = some r from h)
    | succ u_4 ih_4 =>
      have J_34 : ∀ (x1_34 : Int32) (x2_34 : Int32) (x3_34 : Int32) (y0_34 : Int32) (y1_34 : Int32), D_X0_tagsOf_34 Q M (D_X0_tagsOf_4 Q M u_4) x1_34 x3_34 y0_34 y1_34 = some r → Zw p l e { frames := 1, cells := 0, slots := 0, locals := 80 * (1) } s m args below meth c G b 4 (MQ below (zQ G b FQ) args s 0 0 (fun q : Nat => b ≤ q)) 0 0 34 [some (.ref (Q)), some (.int x1_34), some (.int x2_34), some (.int x3_34)] [.int y1_34, .int y0_34] (L, M, N) := by
        intro x1_34 x2_34 x3_34 y0_34 y1_34 h
        unfold D_X0_tagsOf_34 at h
        refine a_iadd X dX0_tagsOf_34 ?_
        refine a_istore_n X dX0_tagsOf_35 (by decide) ?_
        refine a_iinc (v := x3_34 + 1) X dX0_tagsOf_36 (by decide) rfl zi_1 ?_
        refine a_goto (tgt := 4) X dX0_tagsOf_39 (by decide) ?_
        exact Zw.to2 (ih_4 _ _ _ h) rfl rfl rfl
      intro x1_4 x2_4 x3_4 h
      rw [D_X0_tagsOf_4] at h
      refine a_iload_n X dX0_tagsOf_4 rfl ?_
      refine a_aload_n X dX0_tagsOf_5 rfl ?_
      refine a_geti X lf0_40 (by first | exact q_o | assumption) rfl dX0_tagsOf_6 ?_
      refine a_icmp_ge (tgt := 42) X dX0_tagsOf_9 (by decide) (fun h_9 => ?_) (fun h_9 => ?_)
      · replace h := (if_pos h_9).symm.trans h
        refine a_iload_n X dX0_tagsOf_42 rfl ?_
        refine a_iret X hr dX0_tagsOf_43 ⟨by decide, by decide⟩ ?_
        subst hF
        rw [← Option.some.inj h]
        exact ⟨rfl, rfl⟩
      · replace h := (if_neg h_9).symm.trans h
        refine a_iload_n X dX0_tagsOf_12 rfl ?_
        refine a_iload_n X dX0_tagsOf_13 rfl ?_
        refine a_iload_n X dX0_tagsOf_14 rfl ?_
        refine a_ishr X dX0_tagsOf_15 ?_
        refine a_iconst (v := 1) X dX0_tagsOf_16 (by decide) ?_
        refine a_iand X dX0_tagsOf_17 ?_
        refine a_iconst (v := 1) X dX0_tagsOf_18 (by decide) ?_
        refine a_icmp_ne (tgt := 33) X dX0_tagsOf_19 (by decide) (fun h_19 => ?_) (fun h_19 => ?_)
        · replace h := (if_neg h_19).symm.trans h
          refine a_iconst (v := 0) X dX0_tagsOf_33 (by decide) ?_
          exact Zw.to2 (J_34 _ _ _ _ _ h) rfl rfl rfl
        · replace h := (if_pos h_19).symm.trans h
          refine a_aload_n X dX0_tagsOf_22 rfl ?_
          refine a_getr X lf0_108 (by first | exact q_o | assumption) rfl (by omega) dX0_tagsOf_23 ?_
          refine a_iload_n X dX0_tagsOf_26 rfl ?_
          refine a_callSNv X dX0_tagsOf_27 miX7_cell lm0_66 (c_cell (by first | exact q_size | assumption) (by decide)) rfl rfl (Nat.le_of_ble_eq_true rfl) ⟨by decide, by decide, by decide, by decide⟩ ?_
          refine a_goto (tgt := 34) X dX0_tagsOf_30 (by decide) ?_
          exact Zw.to2 (J_34 _ _ _ _ _ h) rfl rfl rfl
  have H_4 : ∀ (x1_4 : Int32) (x2_4 : Int32) (x3_4 : Int32), D_X0_tagsOf_4 Q M zFu x1_4 x2_4 x3_4 = some r → Zw p l e { frames := 1, cells := 0, slots := 0, locals := 80 * (1) } s m args below meth c G b 4 (MQ below (zQ G b FQ) args s 0 0 (fun q : Nat => b ≤ q)) 0 0 4 [some (.ref (Q)), some (.int x1_4), some (.int x2_4), some (.int x3_4)] [] (L, M, N) := L_4 zFu
  unfold D_X0_tagsOf at h
  refine a_iconst (v := 0) X dX0_tagsOf_0 (by decide) ?_
  refine a_istore_n X dX0_tagsOf_1 (by decide) ?_
  refine a_iconst (v := 0) X dX0_tagsOf_2 (by decide) ?_
  refine a_istore_n X dX0_tagsOf_3 (by decide) ?_
  exact Zw.to2 (H_4 _ _ _ h) rfl rfl rfl
noncomputable def D_X0_fewestTags_34 (Q : Nat) (A : Nat) (M : zMt) (k5 : Int32 → Int32 → Option (Int32)) (x2_34 : Int32) (x3_34 : Int32) : Option (Int32) :=
  k5 x2_34 (x3_34 + 1)
noncomputable def D_X0_fewestTags_5 (Q : Nat) (A : Nat) (M : zMt) : Nat → Int32 → Int32 → Option (Int32)
  | 0, _, _ => none
  | n + 1, x2_5, x3_5 =>
    if (128 : Int32) ≤ x3_5 then
      some (x2_5)
    else
      if (zrd 0 (M (Q + 2)) 128 x3_5) = (1 : Int32) then
        zB (D_X0_tagsOf A M x3_5) fun e_27 =>
        D_X0_fewestTags_34 Q A M (D_X0_fewestTags_5 Q A M n) (if e_27 < x2_5 then e_27 else x2_5) x3_5
      else
        D_X0_fewestTags_34 Q A M (D_X0_fewestTags_5 Q A M n) x2_5 x3_5
noncomputable def D_X0_fewestTags (Q : Nat) (A : Nat) (M : zMt)  : Option (Int32) :=
  D_X0_fewestTags_5 Q A M zFu (10 : Int32) (0 : Int32)
set_option maxRecDepth 100000 in
set_option maxHeartbeats 4000000 in
theorem t_X0_fewestTags {l : Launch} {G : zG} {b : Nat} {L : List zC} {M : zMt} {N : zNt} {Q : Nat} {A : Nat}  (hQ : LX0 L Q) (hA : LX2 L A) {r : Int32} (h : D_X0_fewestTags Q A M = some r) : zM l G b yX0_fewestTags cX0_fewestTags 4 (some .int) 2 0 0 [.ref Q, .ref A] (L, M, N) (fun r2 z => r2 = some (.int r) ∧ z = (L, M, N)) := by
  refine zM.of miX0_fewestTags (Nat.le_of_ble_eq_true rfl) ?_
  intro p e s m args below meth c X hr hname
  generalize hF : ((fun r2 z => r2 = some (.int r) ∧ z = (L, M, N)) : Option Value → zS → Prop) = FQ
  change Zw p l e { frames := 2, cells := 0, slots := 0, locals := 80 * (2) } s m args below meth c G b 4 (MQ below (zQ G b FQ) args s 0 0 (fun q : Nat => b ≤ q)) 0 0 0 [some (.ref Q), some (.ref A), none, none] [] (L, M, N)
  have q_lt := hQ.1
  have q_o := hQ.2.1
  have q_seen := hQ.2.2.2.1
  have a_lt := hA.1
  have a_o := hA.2.1
  have L_5 : ∀ u : Nat, ∀ (x2_5 : Int32) (x3_5 : Int32), D_X0_fewestTags_5 Q A M u x2_5 x3_5 = some r → Zw p l e { frames := 2, cells := 0, slots := 0, locals := 80 * (2) } s m args below meth c G b 4 (MQ below (zQ G b FQ) args s 0 0 (fun q : Nat => b ≤ q)) 0 0 5 [some (.ref (Q)), some (.ref (A)), some (.int x2_5), some (.int x3_5)] [] (L, M, N) := by
    intro u
    induction u with
    | zero => intro x2_5 x3_5 h; cases (show none = some r from h)
    | succ u_5 ih_5 =>
      have J_34 : ∀ (x2_34 : Int32) (x3_34 : Int32), D_X0_fewestTags_34 Q A M (D_X0_fewestTags_5 Q A M u_5) x2_34 x3_34 = some r → Zw p l e { frames := 2, cells := 0, slots := 0, locals := 80 * (2) } s m args below meth c G b 4 (MQ below (zQ G b FQ) args s 0 0 (fun q : Nat => b ≤ q)) 0 0 34 [some (.ref (Q)), some (.ref (A)), some (.int x2_34), some (.int x3_34)] [] (L, M, N) := by
        intro x2_34 x3_34 h
        unfold D_X0_fewestTags_34 at h
        refine a_iinc (v := x3_34 + 1) X dX0_fewestTags_34 (by decide) rfl zi_1 ?_
        refine a_goto (tgt := 5) X dX0_fewestTags_37 (by decide) ?_
        exact Zw.to2 (ih_5 _ _ h) rfl rfl rfl
      intro x2_5 x3_5 h
      rw [D_X0_fewestTags_5] at h
      refine a_iload_n X dX0_fewestTags_5 rfl ?_
      refine a_sipush (v := 128) X dX0_fewestTags_6 (by decide) ?_
      refine a_icmp_ge (tgt := 40) X dX0_fewestTags_9 (by decide) (fun h_9 => ?_) (fun h_9 => ?_)
      · replace h := (if_pos h_9).symm.trans h
        refine a_iload_n X dX0_fewestTags_40 rfl ?_
        refine a_iret X hr dX0_fewestTags_41 ⟨by decide, by decide⟩ ?_
        subst hF
        rw [← Option.some.inj h]
        exact ⟨rfl, rfl⟩
      · replace h := (if_neg h_9).symm.trans h
        refine a_aload_n X dX0_fewestTags_12 rfl ?_
        refine a_getr X lf0_15 (by first | exact q_o | assumption) rfl (by omega) dX0_fewestTags_13 ?_
        refine a_iload_n X dX0_fewestTags_16 rfl ?_
        refine a_callSNv X dX0_fewestTags_17 miX7_cell lm0_66 (c_cell (by first | exact q_seen | assumption) (by decide)) rfl rfl (Nat.le_of_ble_eq_true rfl) ⟨by decide, by decide, by decide, by decide⟩ ?_
        refine a_iconst (v := 1) X dX0_fewestTags_20 (by decide) ?_
        refine a_icmp_ne (tgt := 34) X dX0_fewestTags_21 (by decide) (fun h_21 => ?_) (fun h_21 => ?_)
        · replace h := (if_neg h_21).symm.trans h
          exact Zw.to2 (J_34 _ _ h) rfl rfl rfl
        · replace h := (if_pos h_21).symm.trans h
          refine a_iload_n X dX0_fewestTags_24 rfl ?_
          refine a_aload_n X dX0_fewestTags_25 rfl ?_
          refine a_iload_n X dX0_fewestTags_26 rfl ?_
          obtain ⟨e_27, f_27, h⟩ := zBx h
          refine a_callSv X dX0_fewestTags_27 miX0_tagsOf lm0_95 (t_X0_tagsOf (by first | exact hA | assumption) f_27) rfl rfl (Nat.le_of_ble_eq_true rfl) ⟨by decide, by decide, by decide, by decide⟩ ?_
          refine a_mmin X lm0_99 zmath2 zmath0 zmathc2 ⟨by decide, Nat.le_of_ble_eq_true rfl, by decide, by decide⟩ dX0_fewestTags_30 ?_
          refine a_istore_n X dX0_fewestTags_33 (by decide) ?_
          exact Zw.to2 (J_34 _ _ h) rfl rfl rfl
  have H_5 : ∀ (x2_5 : Int32) (x3_5 : Int32), D_X0_fewestTags_5 Q A M zFu x2_5 x3_5 = some r → Zw p l e { frames := 2, cells := 0, slots := 0, locals := 80 * (2) } s m args below meth c G b 4 (MQ below (zQ G b FQ) args s 0 0 (fun q : Nat => b ≤ q)) 0 0 5 [some (.ref (Q)), some (.ref (A)), some (.int x2_5), some (.int x3_5)] [] (L, M, N) := L_5 zFu
  unfold D_X0_fewestTags at h
  refine a_bipush (v := 10) X dX0_fewestTags_0 (by decide) ?_
  refine a_istore_n X dX0_fewestTags_2 (by decide) ?_
  refine a_iconst (v := 0) X dX0_fewestTags_3 (by decide) ?_
  refine a_istore_n X dX0_fewestTags_4 (by decide) ?_
  exact Zw.to2 (H_5 _ _ h) rfl rfl rfl
noncomputable def D_X0_mostTags_33 (Q : Nat) (A : Nat) (M : zMt) (k4 : Int32 → Int32 → Option (Int32)) (x2_33 : Int32) (x3_33 : Int32) : Option (Int32) :=
  k4 x2_33 (x3_33 + 1)
noncomputable def D_X0_mostTags_4 (Q : Nat) (A : Nat) (M : zMt) : Nat → Int32 → Int32 → Option (Int32)
  | 0, _, _ => none
  | n + 1, x2_4, x3_4 =>
    if (128 : Int32) ≤ x3_4 then
      some (x2_4)
    else
      if (zrd 0 (M (Q + 2)) 128 x3_4) = (1 : Int32) then
        zB (D_X0_tagsOf A M x3_4) fun e_26 =>
        D_X0_mostTags_33 Q A M (D_X0_mostTags_4 Q A M n) (if x2_4 < e_26 then e_26 else x2_4) x3_4
      else
        D_X0_mostTags_33 Q A M (D_X0_mostTags_4 Q A M n) x2_4 x3_4
noncomputable def D_X0_mostTags (Q : Nat) (A : Nat) (M : zMt)  : Option (Int32) :=
  D_X0_mostTags_4 Q A M zFu (0 : Int32) (0 : Int32)
set_option maxRecDepth 100000 in
set_option maxHeartbeats 4000000 in
theorem t_X0_mostTags {l : Launch} {G : zG} {b : Nat} {L : List zC} {M : zMt} {N : zNt} {Q : Nat} {A : Nat}  (hQ : LX0 L Q) (hA : LX2 L A) {r : Int32} (h : D_X0_mostTags Q A M = some r) : zM l G b yX0_mostTags cX0_mostTags 4 (some .int) 2 0 0 [.ref Q, .ref A] (L, M, N) (fun r2 z => r2 = some (.int r) ∧ z = (L, M, N)) := by
  refine zM.of miX0_mostTags (Nat.le_of_ble_eq_true rfl) ?_
  intro p e s m args below meth c X hr hname
  generalize hF : ((fun r2 z => r2 = some (.int r) ∧ z = (L, M, N)) : Option Value → zS → Prop) = FQ
  change Zw p l e { frames := 2, cells := 0, slots := 0, locals := 80 * (2) } s m args below meth c G b 4 (MQ below (zQ G b FQ) args s 0 0 (fun q : Nat => b ≤ q)) 0 0 0 [some (.ref Q), some (.ref A), none, none] [] (L, M, N)
  have q_lt := hQ.1
  have q_o := hQ.2.1
  have q_seen := hQ.2.2.2.1
  have a_lt := hA.1
  have a_o := hA.2.1
  have L_4 : ∀ u : Nat, ∀ (x2_4 : Int32) (x3_4 : Int32), D_X0_mostTags_4 Q A M u x2_4 x3_4 = some r → Zw p l e { frames := 2, cells := 0, slots := 0, locals := 80 * (2) } s m args below meth c G b 4 (MQ below (zQ G b FQ) args s 0 0 (fun q : Nat => b ≤ q)) 0 0 4 [some (.ref (Q)), some (.ref (A)), some (.int x2_4), some (.int x3_4)] [] (L, M, N) := by
    intro u
    induction u with
    | zero => intro x2_4 x3_4 h; cases (show none = some r from h)
    | succ u_4 ih_4 =>
      have J_33 : ∀ (x2_33 : Int32) (x3_33 : Int32), D_X0_mostTags_33 Q A M (D_X0_mostTags_4 Q A M u_4) x2_33 x3_33 = some r → Zw p l e { frames := 2, cells := 0, slots := 0, locals := 80 * (2) } s m args below meth c G b 4 (MQ below (zQ G b FQ) args s 0 0 (fun q : Nat => b ≤ q)) 0 0 33 [some (.ref (Q)), some (.ref (A)), some (.int x2_33), some (.int x3_33)] [] (L, M, N) := by
        intro x2_33 x3_33 h
        unfold D_X0_mostTags_33 at h
        refine a_iinc (v := x3_33 + 1) X dX0_mostTags_33 (by decide) rfl zi_1 ?_
        refine a_goto (tgt := 4) X dX0_mostTags_36 (by decide) ?_
        exact Zw.to2 (ih_4 _ _ h) rfl rfl rfl
      intro x2_4 x3_4 h
      rw [D_X0_mostTags_4] at h
      refine a_iload_n X dX0_mostTags_4 rfl ?_
      refine a_sipush (v := 128) X dX0_mostTags_5 (by decide) ?_
      refine a_icmp_ge (tgt := 39) X dX0_mostTags_8 (by decide) (fun h_8 => ?_) (fun h_8 => ?_)
      · replace h := (if_pos h_8).symm.trans h
        refine a_iload_n X dX0_mostTags_39 rfl ?_
        refine a_iret X hr dX0_mostTags_40 ⟨by decide, by decide⟩ ?_
        subst hF
        rw [← Option.some.inj h]
        exact ⟨rfl, rfl⟩
      · replace h := (if_neg h_8).symm.trans h
        refine a_aload_n X dX0_mostTags_11 rfl ?_
        refine a_getr X lf0_15 (by first | exact q_o | assumption) rfl (by omega) dX0_mostTags_12 ?_
        refine a_iload_n X dX0_mostTags_15 rfl ?_
        refine a_callSNv X dX0_mostTags_16 miX7_cell lm0_66 (c_cell (by first | exact q_seen | assumption) (by decide)) rfl rfl (Nat.le_of_ble_eq_true rfl) ⟨by decide, by decide, by decide, by decide⟩ ?_
        refine a_iconst (v := 1) X dX0_mostTags_19 (by decide) ?_
        refine a_icmp_ne (tgt := 33) X dX0_mostTags_20 (by decide) (fun h_20 => ?_) (fun h_20 => ?_)
        · replace h := (if_neg h_20).symm.trans h
          exact Zw.to2 (J_33 _ _ h) rfl rfl rfl
        · replace h := (if_pos h_20).symm.trans h
          refine a_iload_n X dX0_mostTags_23 rfl ?_
          refine a_aload_n X dX0_mostTags_24 rfl ?_
          refine a_iload_n X dX0_mostTags_25 rfl ?_
          obtain ⟨e_26, f_26, h⟩ := zBx h
          refine a_callSv X dX0_mostTags_26 miX0_tagsOf lm0_95 (t_X0_tagsOf (by first | exact hA | assumption) f_26) rfl rfl (Nat.le_of_ble_eq_true rfl) ⟨by decide, by decide, by decide, by decide⟩ ?_
          refine a_mmax X lm0_105 zmath1 zmath0 zmathc1 ⟨by decide, Nat.le_of_ble_eq_true rfl, by decide, by decide⟩ dX0_mostTags_29 ?_
          refine a_istore_n X dX0_mostTags_32 (by decide) ?_
          exact Zw.to2 (J_33 _ _ h) rfl rfl rfl
  have H_4 : ∀ (x2_4 : Int32) (x3_4 : Int32), D_X0_mostTags_4 Q A M zFu x2_4 x3_4 = some r → Zw p l e { frames := 2, cells := 0, slots := 0, locals := 80 * (2) } s m args below meth c G b 4 (MQ below (zQ G b FQ) args s 0 0 (fun q : Nat => b ≤ q)) 0 0 4 [some (.ref (Q)), some (.ref (A)), some (.int x2_4), some (.int x3_4)] [] (L, M, N) := L_4 zFu
  unfold D_X0_mostTags at h
  refine a_iconst (v := 0) X dX0_mostTags_0 (by decide) ?_
  refine a_istore_n X dX0_mostTags_1 (by decide) ?_
  refine a_iconst (v := 0) X dX0_mostTags_2 (by decide) ?_
  refine a_istore_n X dX0_mostTags_3 (by decide) ?_
  exact Zw.to2 (H_4 _ _ h) rfl rfl rfl
noncomputable def D_X1_forget (Q : Nat) (M : zMt) : Option (zMt) :=
  zLt (zu M Q 0 (0 : Int32)) fun M_2 =>
  some (M_2)
set_option maxRecDepth 100000 in
set_option maxHeartbeats 4000000 in
theorem t_X1_forget {l : Launch} {G : zG} {b : Nat} {L : List zC} {M : zMt} {N : zNt} {Q : Nat}  (hQ : LX1 L Q) {r : zMt} (h : D_X1_forget Q M = some r) : zM l G b yX1_forget cX1_forget 1 none 0 0 0 [.ref Q] (L, M, N) (fun r2 z => r2 = none ∧ z = (L, r, N)) := by
  refine zM.of miX1_forget (Nat.le_of_ble_eq_true rfl) ?_
  intro p e s m args below meth c X hr hname
  generalize hF : ((fun r2 z => r2 = none ∧ z = (L, r, N)) : Option Value → zS → Prop) = FQ
  change Zw p l e { frames := 0, cells := 0, slots := 0, locals := 80 * (0) } s m args below meth c G b 1 (MQ below (zQ G b FQ) args s 0 0 (fun q : Nat => b ≤ q)) 0 0 0 [some (.ref Q)] [] (L, M, N)
  have q_lt := hQ.1
  have q_o := hQ.2.1
  unfold D_X1_forget at h
  refine a_aload_n X dX1_forget_0 rfl ?_
  refine a_iconst (v := 0) X dX1_forget_1 (by decide) ?_
  obtain ⟨M_2, f_2, h⟩ := zLtx h
  refine d_puti X lf1_18 (by first | exact q_o | assumption) rfl dX1_forget_2 f_2 ?_
  refine a_vret X hr dX1_forget_5 ⟨by decide, by decide⟩ ?_
  subst hF
  rw [← Option.some.inj h]
  exact ⟨rfl, rfl⟩
noncomputable def D_X2_gatherUnits_96 (Q : Nat) (A : Nat) (k15 : Int32 → zMt → Option (zMt)) (x2_96 : Int32) (y1_96 : Int32) (y2_96 : Int32) (M_96 : zMt) : Option (zMt) :=
  zO (y1_96 ||| y2_96) <|
  zLt (zu M_96 Q 3 (y1_96 ||| y2_96)) fun M_97 =>
  k15 (x2_96 + 1) M_97
noncomputable def D_X2_gatherUnits_15 (Q : Nat) (A : Nat) : Nat → Int32 → zMt → Option (zMt)
  | 0, _, _ => none
  | n + 1, x2_15, M_15 =>
    if (M_15 Q 0) ≤ x2_15 then
      some (M_15)
    else
      zLt (zwr M_15 (Q + 1) 5 x2_15 (zrd 0 (M_15 (A + 1)) 5 x2_15)) fun M_38 =>
      zLt (zwr M_38 (Q + 2) 5 x2_15 (((zrd 0 (M_15 (A + 1)) 5 x2_15) * (M_38 A 4)) / (100 : Int32))) fun M_55 =>
      zLt (zwr M_55 (Q + 3) 5 x2_15 (((zrd 0 (M_15 (A + 1)) 5 x2_15) * (M_55 A 5)) / (100 : Int32))) fun M_72 =>
      if (zrd 0 (M_72 (Q + 2)) 5 x2_15) ≤ 0 then
        D_X2_gatherUnits_96 Q A (D_X2_gatherUnits_15 Q A n) x2_15 (M_72 Q 3) (0 : Int32) M_72
      else
        D_X2_gatherUnits_96 Q A (D_X2_gatherUnits_15 Q A n) x2_15 (M_72 Q 3) (1 : Int32) M_72
noncomputable def D_X2_gatherUnits (Q : Nat) (A : Nat) (M : zMt) : Option (zMt) :=
  zLt (zu M Q 0 (M A 0)) fun M_5 =>
  zLt (zu M_5 Q 3 (0 : Int32)) fun M_10 =>
  D_X2_gatherUnits_15 Q A zFu (0 : Int32) M_10
set_option maxRecDepth 100000 in
set_option maxHeartbeats 4000000 in
theorem t_X2_gatherUnits {l : Launch} {G : zG} {b : Nat} {L : List zC} {M : zMt} {N : zNt} {Q : Nat} {A : Nat}  (hQ : LX2 L Q) (hA : LX4 L A) {r : zMt} (h : D_X2_gatherUnits Q A M = some r) : zM l G b yX2_gatherUnits cX2_gatherUnits 4 none 1 0 0 [.ref Q, .ref A] (L, M, N) (fun r2 z => r2 = none ∧ z = (L, r, N)) := by
  refine zM.of miX2_gatherUnits (Nat.le_of_ble_eq_true rfl) ?_
  intro p e s m args below meth c X hr hname
  generalize hF : ((fun r2 z => r2 = none ∧ z = (L, r, N)) : Option Value → zS → Prop) = FQ
  change Zw p l e { frames := 1, cells := 0, slots := 0, locals := 80 * (1) } s m args below meth c G b 4 (MQ below (zQ G b FQ) args s 0 0 (fun q : Nat => b ≤ q)) 0 0 0 [some (.ref Q), some (.ref A), none, none] [] (L, M, N)
  have q_lt := hQ.1
  have q_o := hQ.2.1
  have q_quota := hQ.2.2.1
  have q_preferred := hQ.2.2.2.1
  have q_forGuests := hQ.2.2.2.2.1
  have a_lt := hA.1
  have a_o := hA.2.1
  have a_quota := hA.2.2.1
  have L_15 : ∀ u : Nat, ∀ (x2_15 : Int32) (x3_15 : Option Value) (M_15 : zMt), D_X2_gatherUnits_15 Q A u x2_15 M_15 = some r → Zw p l e { frames := 1, cells := 0, slots := 0, locals := 80 * (1) } s m args below meth c G b 4 (MQ below (zQ G b FQ) args s 0 0 (fun q : Nat => b ≤ q)) 0 0 15 [some (.ref (Q)), some (.ref (A)), some (.int x2_15), x3_15] [] (L, M_15, N) := by
    intro u
    induction u with
    | zero => intro x2_15 x3_15 M_15 h; cases (show none = some r from h)
    | succ u_15 ih_15 =>
      have J_96 : ∀ (x2_96 : Int32) (x3_96 : Int32) (y1_96 : Int32) (y2_96 : Int32) (M_96 : zMt), (y2_96 = 0 ∨ y2_96 = 1) → D_X2_gatherUnits_96 Q A (D_X2_gatherUnits_15 Q A u_15) x2_96 y1_96 y2_96 M_96 = some r → Zw p l e { frames := 1, cells := 0, slots := 0, locals := 80 * (1) } s m args below meth c G b 4 (MQ below (zQ G b FQ) args s 0 0 (fun q : Nat => b ≤ q)) 0 0 96 [some (.ref (Q)), some (.ref (A)), some (.int x2_96), some (.int x3_96)] [.int y2_96, .int y1_96, .ref (Q)] (L, M_96, N) := by
        intro x2_96 x3_96 y1_96 y2_96 M_96 fb_y2_96 h
        unfold D_X2_gatherUnits_96 at h
        refine a_ior X dX2_gatherUnits_96 ?_
        obtain ⟨o_97, h⟩ := zOx h
        obtain ⟨M_97, f_97, h⟩ := zLtx h
        refine d_putz X (by first | exact Or.inl rfl | exact Or.inr rfl | assumption) lf2_91 (by first | exact q_o | assumption) rfl dX2_gatherUnits_97 f_97 ?_
        refine a_iinc (v := x2_96 + 1) X dX2_gatherUnits_100 (by decide) rfl zi_1 ?_
        refine a_goto (tgt := 15) X dX2_gatherUnits_103 (by decide) ?_
        exact Zw.to2 (ih_15 _ _ _ h) rfl rfl rfl
      intro x2_15 x3_15 M_15 h
      rw [D_X2_gatherUnits_15] at h
      refine a_iload_n X dX2_gatherUnits_15 rfl ?_
      refine a_aload_n X dX2_gatherUnits_16 rfl ?_
      refine a_geti X lf2_90 (by first | exact q_o | assumption) rfl dX2_gatherUnits_17 ?_
      refine a_icmp_ge (tgt := 106) X dX2_gatherUnits_20 (by decide) (fun h_20 => ?_) (fun h_20 => ?_)
      · replace h := (if_pos h_20).symm.trans h
        refine a_vret X hr dX2_gatherUnits_106 ⟨by decide, by decide⟩ ?_
        subst hF
        rw [← Option.some.inj h]
        exact ⟨rfl, rfl⟩
      · replace h := (if_neg h_20).symm.trans h
        refine a_aload_n X dX2_gatherUnits_23 rfl ?_
        refine a_getr X lf2_95 (by first | exact a_o | assumption) rfl (by omega) dX2_gatherUnits_24 ?_
        refine a_iload_n X dX2_gatherUnits_27 rfl ?_
        refine a_callSNv X dX2_gatherUnits_28 miX7_cell lm2_62 (c_cell (by first | exact a_quota | assumption) (by decide)) rfl rfl (Nat.le_of_ble_eq_true rfl) ⟨by decide, by decide, by decide, by decide⟩ ?_
        refine a_istore_n X dX2_gatherUnits_31 (by decide) ?_
        refine a_aload_n X dX2_gatherUnits_32 rfl ?_
        refine a_getr X lf2_9 (by first | exact q_o | assumption) rfl (by omega) dX2_gatherUnits_33 ?_
        refine a_iload_n X dX2_gatherUnits_36 rfl ?_
        refine a_iload_n X dX2_gatherUnits_37 rfl ?_
        obtain ⟨M_38, f_38, h⟩ := zLtx h
        refine a_callSNu X dX2_gatherUnits_38 miX7_put lm2_96 (zMu (c_put (by first | exact q_quota | assumption) (by decide)) f_38) rfl rfl (Nat.le_of_ble_eq_true rfl) ⟨by decide, by decide, by decide, by decide⟩ ?_
        refine a_aload_n X dX2_gatherUnits_41 rfl ?_
        refine a_getr X lf2_15 (by first | exact q_o | assumption) rfl (by omega) dX2_gatherUnits_42 ?_
        refine a_iload_n X dX2_gatherUnits_45 rfl ?_
        refine a_iload_n X dX2_gatherUnits_46 rfl ?_
        refine a_aload_n X dX2_gatherUnits_47 rfl ?_
        refine a_geti X lf2_100 (by first | exact a_o | assumption) rfl dX2_gatherUnits_48 ?_
        refine a_imul X dX2_gatherUnits_51 ?_
        refine a_bipush (v := 100) X dX2_gatherUnits_52 (by decide) ?_
        refine a_idiv X dX2_gatherUnits_54 (by decide) ?_
        obtain ⟨M_55, f_55, h⟩ := zLtx h
        refine a_callSNu X dX2_gatherUnits_55 miX7_put lm2_96 (zMu (c_put (by first | exact q_preferred | assumption) (by decide)) f_55) rfl rfl (Nat.le_of_ble_eq_true rfl) ⟨by decide, by decide, by decide, by decide⟩ ?_
        refine a_aload_n X dX2_gatherUnits_58 rfl ?_
        refine a_getr X lf2_18 (by first | exact q_o | assumption) rfl (by omega) dX2_gatherUnits_59 ?_
        refine a_iload_n X dX2_gatherUnits_62 rfl ?_
        refine a_iload_n X dX2_gatherUnits_63 rfl ?_
        refine a_aload_n X dX2_gatherUnits_64 rfl ?_
        refine a_geti X lf2_103 (by first | exact a_o | assumption) rfl dX2_gatherUnits_65 ?_
        refine a_imul X dX2_gatherUnits_68 ?_
        refine a_bipush (v := 100) X dX2_gatherUnits_69 (by decide) ?_
        refine a_idiv X dX2_gatherUnits_71 (by decide) ?_
        obtain ⟨M_72, f_72, h⟩ := zLtx h
        refine a_callSNu X dX2_gatherUnits_72 miX7_put lm2_96 (zMu (c_put (by first | exact q_forGuests | assumption) (by decide)) f_72) rfl rfl (Nat.le_of_ble_eq_true rfl) ⟨by decide, by decide, by decide, by decide⟩ ?_
        refine a_aload_n X dX2_gatherUnits_75 rfl ?_
        refine a_dup X dX2_gatherUnits_76 rfl ?_
        refine a_geti X lf2_91 (by first | exact q_o | assumption) rfl dX2_gatherUnits_77 ?_
        refine a_aload_n X dX2_gatherUnits_80 rfl ?_
        refine a_getr X lf2_15 (by first | exact q_o | assumption) rfl (by omega) dX2_gatherUnits_81 ?_
        refine a_iload_n X dX2_gatherUnits_84 rfl ?_
        refine a_callSNv X dX2_gatherUnits_85 miX7_cell lm2_62 (c_cell (by first | exact q_preferred | assumption) (by decide)) rfl rfl (Nat.le_of_ble_eq_true rfl) ⟨by decide, by decide, by decide, by decide⟩ ?_
        refine a_if_le (tgt := 95) X dX2_gatherUnits_88 (by decide) (fun h_88 => ?_) (fun h_88 => ?_)
        · replace h := (if_pos h_88).symm.trans h
          refine a_iconst (v := 0) X dX2_gatherUnits_95 (by decide) ?_
          exact Zw.to2 (J_96 _ _ _ _ _ (by first | exact Or.inl rfl | exact Or.inr rfl | assumption) h) rfl rfl rfl
        · replace h := (if_neg h_88).symm.trans h
          refine a_iconst (v := 1) X dX2_gatherUnits_91 (by decide) ?_
          refine a_goto (tgt := 96) X dX2_gatherUnits_92 (by decide) ?_
          exact Zw.to2 (J_96 _ _ _ _ _ (by first | exact Or.inl rfl | exact Or.inr rfl | assumption) h) rfl rfl rfl
  have H_15 : ∀ (x2_15 : Int32) (x3_15 : Option Value) (M_15 : zMt), D_X2_gatherUnits_15 Q A zFu x2_15 M_15 = some r → Zw p l e { frames := 1, cells := 0, slots := 0, locals := 80 * (1) } s m args below meth c G b 4 (MQ below (zQ G b FQ) args s 0 0 (fun q : Nat => b ≤ q)) 0 0 15 [some (.ref (Q)), some (.ref (A)), some (.int x2_15), x3_15] [] (L, M_15, N) := L_15 zFu
  unfold D_X2_gatherUnits at h
  refine a_aload_n X dX2_gatherUnits_0 rfl ?_
  refine a_aload_n X dX2_gatherUnits_1 rfl ?_
  refine a_geti X lf2_87 (by first | exact a_o | assumption) rfl dX2_gatherUnits_2 ?_
  obtain ⟨M_5, f_5, h⟩ := zLtx h
  refine d_puti X lf2_90 (by first | exact q_o | assumption) rfl dX2_gatherUnits_5 f_5 ?_
  refine a_aload_n X dX2_gatherUnits_8 rfl ?_
  refine a_iconst (v := 0) X dX2_gatherUnits_9 (by decide) ?_
  obtain ⟨M_10, f_10, h⟩ := zLtx h
  refine d_putz X (by first | exact Or.inl rfl | exact Or.inr rfl | assumption) lf2_91 (by first | exact q_o | assumption) rfl dX2_gatherUnits_10 f_10 ?_
  refine a_iconst (v := 0) X dX2_gatherUnits_13 (by decide) ?_
  refine a_istore_n X dX2_gatherUnits_14 (by decide) ?_
  exact Zw.to2 (H_15 _ _ _ h) rfl rfl rfl
noncomputable def D_X2_open (Q : Nat) (v0 : Int32) (M : zMt) : Option (zMt) :=
  zLt (zwr M (Q + 5) 10 (M Q 1) (0 : Int32)) fun M_9 =>
  zLt (zwr M_9 (Q + 6) 10 (M_9 Q 1) (0 : Int32)) fun M_21 =>
  zLt (zwr M_21 (Q + 7) 10 (M_21 Q 1) (0 : Int32)) fun M_33 =>
  zLt (zwr M_33 (Q + 9) 10 (M_33 Q 1) (0 : Int32)) fun M_45 =>
  zLt (zwr M_45 (Q + 10) 10 (M_45 Q 1) v0) fun M_57 =>
  zLt (zu M_57 Q 1 ((M_57 Q 1) + (1 : Int32))) fun M_67 =>
  some (M_67)
set_option maxRecDepth 100000 in
set_option maxHeartbeats 4000000 in
theorem t_X2_open {l : Launch} {G : zG} {b : Nat} {L : List zC} {M : zMt} {N : zNt} {Q : Nat} {v0 : Int32} (hQ : LX2 L Q) {r : zMt} (h : D_X2_open Q v0 M = some r) : zM l G b yX2_open cX2_open 2 none 1 0 0 [.ref Q, .int v0] (L, M, N) (fun r2 z => r2 = none ∧ z = (L, r, N)) := by
  refine zM.of miX2_open (Nat.le_of_ble_eq_true rfl) ?_
  intro p e s m args below meth c X hr hname
  generalize hF : ((fun r2 z => r2 = none ∧ z = (L, r, N)) : Option Value → zS → Prop) = FQ
  change Zw p l e { frames := 1, cells := 0, slots := 0, locals := 80 * (1) } s m args below meth c G b 2 (MQ below (zQ G b FQ) args s 0 0 (fun q : Nat => b ≤ q)) 0 0 0 [some (.ref Q), some (.int v0)] [] (L, M, N)
  have q_lt := hQ.1
  have q_o := hQ.2.1
  have q_size := hQ.2.2.2.2.2.2.1
  have q_guestCount := hQ.2.2.2.2.2.2.2.1
  have q_score := hQ.2.2.2.2.2.2.2.2.1
  have q_bits := hQ.2.2.2.2.2.2.2.2.2.2.1
  have q_party := hQ.2.2.2.2.2.2.2.2.2.2.2.1
  unfold D_X2_open at h
  refine a_aload_n X dX2_open_0 rfl ?_
  refine a_getr X lf2_24 (by first | exact q_o | assumption) rfl (by omega) dX2_open_1 ?_
  refine a_aload_n X dX2_open_4 rfl ?_
  refine a_geti X lf2_52 (by first | exact q_o | assumption) rfl dX2_open_5 ?_
  refine a_iconst (v := 0) X dX2_open_8 (by decide) ?_
  obtain ⟨M_9, f_9, h⟩ := zLtx h
  refine a_callSNu X dX2_open_9 miX7_put lm2_96 (zMu (c_put (by first | exact q_size | assumption) (by decide)) f_9) rfl rfl (Nat.le_of_ble_eq_true rfl) ⟨by decide, by decide, by decide, by decide⟩ ?_
  refine a_aload_n X dX2_open_12 rfl ?_
  refine a_getr X lf2_27 (by first | exact q_o | assumption) rfl (by omega) dX2_open_13 ?_
  refine a_aload_n X dX2_open_16 rfl ?_
  refine a_geti X lf2_52 (by first | exact q_o | assumption) rfl dX2_open_17 ?_
  refine a_iconst (v := 0) X dX2_open_20 (by decide) ?_
  obtain ⟨M_21, f_21, h⟩ := zLtx h
  refine a_callSNu X dX2_open_21 miX7_put lm2_96 (zMu (c_put (by first | exact q_guestCount | assumption) (by decide)) f_21) rfl rfl (Nat.le_of_ble_eq_true rfl) ⟨by decide, by decide, by decide, by decide⟩ ?_
  refine a_aload_n X dX2_open_24 rfl ?_
  refine a_getr X lf2_30 (by first | exact q_o | assumption) rfl (by omega) dX2_open_25 ?_
  refine a_aload_n X dX2_open_28 rfl ?_
  refine a_geti X lf2_52 (by first | exact q_o | assumption) rfl dX2_open_29 ?_
  refine a_iconst (v := 0) X dX2_open_32 (by decide) ?_
  obtain ⟨M_33, f_33, h⟩ := zLtx h
  refine a_callSNu X dX2_open_33 miX7_put lm2_96 (zMu (c_put (by first | exact q_score | assumption) (by decide)) f_33) rfl rfl (Nat.le_of_ble_eq_true rfl) ⟨by decide, by decide, by decide, by decide⟩ ?_
  refine a_aload_n X dX2_open_36 rfl ?_
  refine a_getr X lf2_36 (by first | exact q_o | assumption) rfl (by omega) dX2_open_37 ?_
  refine a_aload_n X dX2_open_40 rfl ?_
  refine a_geti X lf2_52 (by first | exact q_o | assumption) rfl dX2_open_41 ?_
  refine a_iconst (v := 0) X dX2_open_44 (by decide) ?_
  obtain ⟨M_45, f_45, h⟩ := zLtx h
  refine a_callSNu X dX2_open_45 miX7_put lm2_96 (zMu (c_put (by first | exact q_bits | assumption) (by decide)) f_45) rfl rfl (Nat.le_of_ble_eq_true rfl) ⟨by decide, by decide, by decide, by decide⟩ ?_
  refine a_aload_n X dX2_open_48 rfl ?_
  refine a_getr X lf2_39 (by first | exact q_o | assumption) rfl (by omega) dX2_open_49 ?_
  refine a_aload_n X dX2_open_52 rfl ?_
  refine a_geti X lf2_52 (by first | exact q_o | assumption) rfl dX2_open_53 ?_
  refine a_iload_n X dX2_open_56 rfl ?_
  obtain ⟨M_57, f_57, h⟩ := zLtx h
  refine a_callSNu X dX2_open_57 miX7_put lm2_96 (zMu (c_put (by first | exact q_party | assumption) (by decide)) f_57) rfl rfl (Nat.le_of_ble_eq_true rfl) ⟨by decide, by decide, by decide, by decide⟩ ?_
  refine a_aload_n X dX2_open_60 rfl ?_
  refine a_dup X dX2_open_61 rfl ?_
  refine a_geti X lf2_52 (by first | exact q_o | assumption) rfl dX2_open_62 ?_
  refine a_iconst (v := 1) X dX2_open_65 (by decide) ?_
  refine a_iadd X dX2_open_66 ?_
  obtain ⟨M_67, f_67, h⟩ := zLtx h
  refine d_puti X lf2_52 (by first | exact q_o | assumption) rfl dX2_open_67 f_67 ?_
  refine a_vret X hr dX2_open_70 ⟨by decide, by decide⟩ ?_
  subst hF
  rw [← Option.some.inj h]
  exact ⟨rfl, rfl⟩
noncomputable def D_X2_join_87 (Q : Nat) (A : Nat) : Nat → Int32 → Int32 → Int32 → zMt → Option (zMt)
  | 0, _, _, _, _ => none
  | n + 1, x2_87, x3_87, x4_87, M_87 =>
    if (3 : Int32) ≤ x4_87 then
      some (M_87)
    else
      zLt (zwr M_87 (Q + 12) 30 ((x3_87 * (3 : Int32)) + x4_87) (zrd 0 (M_87 (A + 6)) 30 ((x2_87 * (3 : Int32)) + x4_87))) fun M_116 =>
      (D_X2_join_87 Q A n) x2_87 x3_87 (x4_87 + 1) M_116
noncomputable def D_X2_join (Q : Nat) (A : Nat) (v0 : Int32) (M : zMt) : Option (zMt) :=
  zLt (zwr M (Q + 4) 10 v0 ((M Q 1) - (1 : Int32))) fun M_13 =>
  zLt (zwr M_13 (Q + 5) 10 ((M Q 1) - (1 : Int32)) (zrd 0 (M_13 (Q + 5)) 10 ((M Q 1) - (1 : Int32)) + (1 : Int32))) fun M_22 =>
  zLt (zwr M_22 (Q + 6) 10 ((M Q 1) - (1 : Int32)) (zrd 0 (M_22 (Q + 6)) 10 ((M Q 1) - (1 : Int32)) + (zrd 0 (M_22 (A + 3)) 10 v0))) fun M_38 =>
  zLt (zwr M_38 (Q + 7) 10 ((M Q 1) - (1 : Int32)) (zrd 0 (M_38 (Q + 7)) 10 ((M Q 1) - (1 : Int32)) + (zrd 0 (M_38 (A + 2)) 10 v0))) fun M_54 =>
  zLt (zwr M_54 (Q + 9) 10 ((M Q 1) - (1 : Int32)) (zrd 0 (M_54 (Q + 9)) 10 ((M Q 1) - (1 : Int32)) + ((1 : Int32) <<< (v0 &&& 31)))) fun M_65 =>
  zLt (zwr M_65 (Q + 11) 10 ((M Q 1) - (1 : Int32)) (zrd 0 (M_65 (A + 5)) 10 v0)) fun M_81 =>
  D_X2_join_87 Q A zFu v0 ((M Q 1) - (1 : Int32)) (0 : Int32) M_81
set_option maxRecDepth 100000 in
set_option maxHeartbeats 4000000 in
theorem t_X2_join {l : Launch} {G : zG} {b : Nat} {L : List zC} {M : zMt} {N : zNt} {Q : Nat} {A : Nat} {v0 : Int32} (hQ : LX2 L Q) (hA : LX4 L A) {r : zMt} (h : D_X2_join Q A v0 M = some r) : zM l G b yX2_join cX2_join 5 none 1 0 0 [.ref Q, .ref A, .int v0] (L, M, N) (fun r2 z => r2 = none ∧ z = (L, r, N)) := by
  refine zM.of miX2_join (Nat.le_of_ble_eq_true rfl) ?_
  intro p e s m args below meth c X hr hname
  generalize hF : ((fun r2 z => r2 = none ∧ z = (L, r, N)) : Option Value → zS → Prop) = FQ
  change Zw p l e { frames := 1, cells := 0, slots := 0, locals := 80 * (1) } s m args below meth c G b 5 (MQ below (zQ G b FQ) args s 0 0 (fun q : Nat => b ≤ q)) 0 0 0 [some (.ref Q), some (.ref A), some (.int v0), none, none] [] (L, M, N)
  have q_lt := hQ.1
  have q_o := hQ.2.1
  have q_applicantOf := hQ.2.2.2.2.2.1
  have q_size := hQ.2.2.2.2.2.2.1
  have q_guestCount := hQ.2.2.2.2.2.2.2.1
  have q_score := hQ.2.2.2.2.2.2.2.2.1
  have q_bits := hQ.2.2.2.2.2.2.2.2.2.2.1
  have q_wishCount := hQ.2.2.2.2.2.2.2.2.2.2.2.2.1
  have q_wishes := hQ.2.2.2.2.2.2.2.2.2.2.2.2.2
  have a_lt := hA.1
  have a_o := hA.2.1
  have a_score := hA.2.2.2.1
  have a_guest := hA.2.2.2.2.1
  have a_wishCount := hA.2.2.2.2.2.2.1
  have a_wishes := hA.2.2.2.2.2.2.2.1
  have L_87 : ∀ u : Nat, ∀ (x2_87 : Int32) (x3_87 : Int32) (x4_87 : Int32) (M_87 : zMt), D_X2_join_87 Q A u x2_87 x3_87 x4_87 M_87 = some r → Zw p l e { frames := 1, cells := 0, slots := 0, locals := 80 * (1) } s m args below meth c G b 5 (MQ below (zQ G b FQ) args s 0 0 (fun q : Nat => b ≤ q)) 0 0 87 [some (.ref (Q)), some (.ref (A)), some (.int x2_87), some (.int x3_87), some (.int x4_87)] [] (L, M_87, N) := by
    intro u
    induction u with
    | zero => intro x2_87 x3_87 x4_87 M_87 h; cases (show none = some r from h)
    | succ u_87 ih_87 =>
      intro x2_87 x3_87 x4_87 M_87 h
      rw [D_X2_join_87] at h
      refine a_iload X dX2_join_87 rfl ?_
      refine a_iconst (v := 3) X dX2_join_89 (by decide) ?_
      refine a_icmp_ge (tgt := 125) X dX2_join_90 (by decide) (fun h_90 => ?_) (fun h_90 => ?_)
      · replace h := (if_pos h_90).symm.trans h
        refine a_vret X hr dX2_join_125 ⟨by decide, by decide⟩ ?_
        subst hF
        rw [← Option.some.inj h]
        exact ⟨rfl, rfl⟩
      · replace h := (if_neg h_90).symm.trans h
        refine a_aload_n X dX2_join_93 rfl ?_
        refine a_getr X lf2_45 (by first | exact q_o | assumption) rfl (by omega) dX2_join_94 ?_
        refine a_iload_n X dX2_join_97 rfl ?_
        refine a_iconst (v := 3) X dX2_join_98 (by decide) ?_
        refine a_imul X dX2_join_99 ?_
        refine a_iload X dX2_join_100 rfl ?_
        refine a_iadd X dX2_join_102 ?_
        refine a_aload_n X dX2_join_103 rfl ?_
        refine a_getr X lf2_114 (by first | exact a_o | assumption) rfl (by omega) dX2_join_104 ?_
        refine a_iload_n X dX2_join_107 rfl ?_
        refine a_iconst (v := 3) X dX2_join_108 (by decide) ?_
        refine a_imul X dX2_join_109 ?_
        refine a_iload X dX2_join_110 rfl ?_
        refine a_iadd X dX2_join_112 ?_
        refine a_callSNv X dX2_join_113 miX7_cell lm2_62 (c_cell (by first | exact a_wishes | assumption) (by decide)) rfl rfl (Nat.le_of_ble_eq_true rfl) ⟨by decide, by decide, by decide, by decide⟩ ?_
        obtain ⟨M_116, f_116, h⟩ := zLtx h
        refine a_callSNu X dX2_join_116 miX7_put lm2_96 (zMu (c_put (by first | exact q_wishes | assumption) (by decide)) f_116) rfl rfl (Nat.le_of_ble_eq_true rfl) ⟨by decide, by decide, by decide, by decide⟩ ?_
        refine a_iinc (v := x4_87 + 1) X dX2_join_119 (by decide) rfl zi_1 ?_
        refine a_goto (tgt := 87) X dX2_join_122 (by decide) ?_
        exact Zw.to2 (ih_87 _ _ _ _ h) rfl rfl rfl
  have H_87 : ∀ (x2_87 : Int32) (x3_87 : Int32) (x4_87 : Int32) (M_87 : zMt), D_X2_join_87 Q A zFu x2_87 x3_87 x4_87 M_87 = some r → Zw p l e { frames := 1, cells := 0, slots := 0, locals := 80 * (1) } s m args below meth c G b 5 (MQ below (zQ G b FQ) args s 0 0 (fun q : Nat => b ≤ q)) 0 0 87 [some (.ref (Q)), some (.ref (A)), some (.int x2_87), some (.int x3_87), some (.int x4_87)] [] (L, M_87, N) := L_87 zFu
  unfold D_X2_join at h
  refine a_aload_n X dX2_join_0 rfl ?_
  refine a_geti X lf2_52 (by first | exact q_o | assumption) rfl dX2_join_1 ?_
  refine a_iconst (v := 1) X dX2_join_4 (by decide) ?_
  refine a_isub X dX2_join_5 ?_
  refine a_istore_n X dX2_join_6 (by decide) ?_
  refine a_aload_n X dX2_join_7 rfl ?_
  refine a_getr X lf2_21 (by first | exact q_o | assumption) rfl (by omega) dX2_join_8 ?_
  refine a_iload_n X dX2_join_11 rfl ?_
  refine a_iload_n X dX2_join_12 rfl ?_
  obtain ⟨M_13, f_13, h⟩ := zLtx h
  refine a_callSNu X dX2_join_13 miX7_put lm2_96 (zMu (c_put (by first | exact q_applicantOf | assumption) (by decide)) f_13) rfl rfl (Nat.le_of_ble_eq_true rfl) ⟨by decide, by decide, by decide, by decide⟩ ?_
  refine a_aload_n X dX2_join_16 rfl ?_
  refine a_getr X lf2_24 (by first | exact q_o | assumption) rfl (by omega) dX2_join_17 ?_
  refine a_iload_n X dX2_join_20 rfl ?_
  refine a_iconst (v := 1) X dX2_join_21 (by decide) ?_
  obtain ⟨M_22, f_22, h⟩ := zLtx h
  refine a_callSNu X dX2_join_22 miX7_add lm2_106 (zMu (c_add (by first | exact q_size | assumption) (by decide)) f_22) rfl rfl (Nat.le_of_ble_eq_true rfl) ⟨by decide, by decide, by decide, by decide⟩ ?_
  refine a_aload_n X dX2_join_25 rfl ?_
  refine a_getr X lf2_27 (by first | exact q_o | assumption) rfl (by omega) dX2_join_26 ?_
  refine a_iload_n X dX2_join_29 rfl ?_
  refine a_aload_n X dX2_join_30 rfl ?_
  refine a_getr X lf2_109 (by first | exact a_o | assumption) rfl (by omega) dX2_join_31 ?_
  refine a_iload_n X dX2_join_34 rfl ?_
  refine a_callSNv X dX2_join_35 miX7_cell lm2_62 (c_cell (by first | exact a_guest | assumption) (by decide)) rfl rfl (Nat.le_of_ble_eq_true rfl) ⟨by decide, by decide, by decide, by decide⟩ ?_
  obtain ⟨M_38, f_38, h⟩ := zLtx h
  refine a_callSNu X dX2_join_38 miX7_add lm2_106 (zMu (c_add (by first | exact q_guestCount | assumption) (by decide)) f_38) rfl rfl (Nat.le_of_ble_eq_true rfl) ⟨by decide, by decide, by decide, by decide⟩ ?_
  refine a_aload_n X dX2_join_41 rfl ?_
  refine a_getr X lf2_30 (by first | exact q_o | assumption) rfl (by omega) dX2_join_42 ?_
  refine a_iload_n X dX2_join_45 rfl ?_
  refine a_aload_n X dX2_join_46 rfl ?_
  refine a_getr X lf2_112 (by first | exact a_o | assumption) rfl (by omega) dX2_join_47 ?_
  refine a_iload_n X dX2_join_50 rfl ?_
  refine a_callSNv X dX2_join_51 miX7_cell lm2_62 (c_cell (by first | exact a_score | assumption) (by decide)) rfl rfl (Nat.le_of_ble_eq_true rfl) ⟨by decide, by decide, by decide, by decide⟩ ?_
  obtain ⟨M_54, f_54, h⟩ := zLtx h
  refine a_callSNu X dX2_join_54 miX7_add lm2_106 (zMu (c_add (by first | exact q_score | assumption) (by decide)) f_54) rfl rfl (Nat.le_of_ble_eq_true rfl) ⟨by decide, by decide, by decide, by decide⟩ ?_
  refine a_aload_n X dX2_join_57 rfl ?_
  refine a_getr X lf2_36 (by first | exact q_o | assumption) rfl (by omega) dX2_join_58 ?_
  refine a_iload_n X dX2_join_61 rfl ?_
  refine a_iconst (v := 1) X dX2_join_62 (by decide) ?_
  refine a_iload_n X dX2_join_63 rfl ?_
  refine a_ishl X dX2_join_64 ?_
  obtain ⟨M_65, f_65, h⟩ := zLtx h
  refine a_callSNu X dX2_join_65 miX7_add lm2_106 (zMu (c_add (by first | exact q_bits | assumption) (by decide)) f_65) rfl rfl (Nat.le_of_ble_eq_true rfl) ⟨by decide, by decide, by decide, by decide⟩ ?_
  refine a_aload_n X dX2_join_68 rfl ?_
  refine a_getr X lf2_42 (by first | exact q_o | assumption) rfl (by omega) dX2_join_69 ?_
  refine a_iload_n X dX2_join_72 rfl ?_
  refine a_aload_n X dX2_join_73 rfl ?_
  refine a_getr X lf2_113 (by first | exact a_o | assumption) rfl (by omega) dX2_join_74 ?_
  refine a_iload_n X dX2_join_77 rfl ?_
  refine a_callSNv X dX2_join_78 miX7_cell lm2_62 (c_cell (by first | exact a_wishCount | assumption) (by decide)) rfl rfl (Nat.le_of_ble_eq_true rfl) ⟨by decide, by decide, by decide, by decide⟩ ?_
  obtain ⟨M_81, f_81, h⟩ := zLtx h
  refine a_callSNu X dX2_join_81 miX7_put lm2_96 (zMu (c_put (by first | exact q_wishCount | assumption) (by decide)) f_81) rfl rfl (Nat.le_of_ble_eq_true rfl) ⟨by decide, by decide, by decide, by decide⟩ ?_
  refine a_iconst (v := 0) X dX2_join_84 (by decide) ?_
  refine a_istore X dX2_join_85 (by decide) ?_
  exact Zw.to2 (H_87 _ _ _ _ h) rfl rfl rfl
noncomputable def D_X2_close_72 (Q : Nat) (y1_72 : Int32) (y2_72 : Int32) (M_72 : zMt) : Option (zMt) :=
  zLt (zwr M_72 (Q + 8) 10 y1_72 y2_72) fun M_72 =>
  some (M_72)
noncomputable def D_X2_close_27 (Q : Nat) (x1_27 : Int32) (x2_27 : Int32) (y0_27 : Int32) (M_27 : zMt) : Option (zMt) :=
  zLt (zwr M_27 (Q + 7) 10 x1_27 y0_27) fun M_36 =>
  if x2_27 = (2 : Int32) then
    D_X2_close_72 Q x1_27 ((1 : Int32) + (y0_27 * y0_27)) M_36
  else
    if x2_27 = (1 : Int32) then
      D_X2_close_72 Q x1_27 ((1 : Int32) + y0_27) M_36
    else
      D_X2_close_72 Q x1_27 (1 : Int32) M_36
noncomputable def D_X2_close (Q : Nat) (v0 : Int32) (v1 : Int32) (M : zMt) : Option (zMt) :=
  if (zrd 0 (M (Q + 5)) 10 v0) = 0 then
    D_X2_close_27 Q v0 v1 (0 : Int32) M
  else
    zZ (zrd 0 (M (Q + 5)) 10 v0) <|
    D_X2_close_27 Q v0 v1 ((zrd 0 (M (Q + 7)) 10 v0) / (zrd 0 (M (Q + 5)) 10 v0)) M
set_option maxRecDepth 100000 in
set_option maxHeartbeats 4000000 in
theorem t_X2_close {l : Launch} {G : zG} {b : Nat} {L : List zC} {M : zMt} {N : zNt} {Q : Nat} {v0 : Int32} {v1 : Int32} (hQ : LX2 L Q) {r : zMt} (h : D_X2_close Q v0 v1 M = some r) : zM l G b yX2_close cX2_close 5 none 1 0 0 [.ref Q, .int v0, .int v1] (L, M, N) (fun r2 z => r2 = none ∧ z = (L, r, N)) := by
  refine zM.of miX2_close (Nat.le_of_ble_eq_true rfl) ?_
  intro p e s m args below meth c X hr hname
  generalize hF : ((fun r2 z => r2 = none ∧ z = (L, r, N)) : Option Value → zS → Prop) = FQ
  change Zw p l e { frames := 1, cells := 0, slots := 0, locals := 80 * (1) } s m args below meth c G b 5 (MQ below (zQ G b FQ) args s 0 0 (fun q : Nat => b ≤ q)) 0 0 0 [some (.ref Q), some (.int v0), some (.int v1), none, none] [] (L, M, N)
  have q_lt := hQ.1
  have q_o := hQ.2.1
  have q_size := hQ.2.2.2.2.2.2.1
  have q_score := hQ.2.2.2.2.2.2.2.2.1
  have q_tickets := hQ.2.2.2.2.2.2.2.2.2.1
  have J_72 : ∀ (x1_72 : Int32) (x2_72 : Int32) (x3_72 : Int32) (x4_72 : Int32) (y1_72 : Int32) (y2_72 : Int32) (M_72 : zMt), D_X2_close_72 Q y1_72 y2_72 M_72 = some r → Zw p l e { frames := 1, cells := 0, slots := 0, locals := 80 * (1) } s m args below meth c G b 5 (MQ below (zQ G b FQ) args s 0 0 (fun q : Nat => b ≤ q)) 0 0 72 [some (.ref (Q)), some (.int x1_72), some (.int x2_72), some (.int x3_72), some (.int x4_72)] [.int y2_72, .int y1_72, .ref (Q + 8)] (L, M_72, N) := by
    intro x1_72 x2_72 x3_72 x4_72 y1_72 y2_72 M_72 h
    unfold D_X2_close_72 at h
    obtain ⟨M_72, f_72, h⟩ := zLtx h
    refine a_callSNu X dX2_close_72 miX7_put lm2_96 (zMu (c_put (by first | exact q_tickets | assumption) (by decide)) f_72) rfl rfl (Nat.le_of_ble_eq_true rfl) ⟨by decide, by decide, by decide, by decide⟩ ?_
    refine a_vret X hr dX2_close_75 ⟨by decide, by decide⟩ ?_
    subst hF
    rw [← Option.some.inj h]
    exact ⟨rfl, rfl⟩
  have J_27 : ∀ (x1_27 : Int32) (x2_27 : Int32) (x3_27 : Int32) (x4_27 : Option Value) (y0_27 : Int32) (M_27 : zMt), D_X2_close_27 Q x1_27 x2_27 y0_27 M_27 = some r → Zw p l e { frames := 1, cells := 0, slots := 0, locals := 80 * (1) } s m args below meth c G b 5 (MQ below (zQ G b FQ) args s 0 0 (fun q : Nat => b ≤ q)) 0 0 27 [some (.ref (Q)), some (.int x1_27), some (.int x2_27), some (.int x3_27), x4_27] [.int y0_27] (L, M_27, N) := by
    intro x1_27 x2_27 x3_27 x4_27 y0_27 M_27 h
    unfold D_X2_close_27 at h
    refine a_istore X dX2_close_27 (by decide) ?_
    refine a_aload_n X dX2_close_29 rfl ?_
    refine a_getr X lf2_30 (by first | exact q_o | assumption) rfl (by omega) dX2_close_30 ?_
    refine a_iload_n X dX2_close_33 rfl ?_
    refine a_iload X dX2_close_34 rfl ?_
    obtain ⟨M_36, f_36, h⟩ := zLtx h
    refine a_callSNu X dX2_close_36 miX7_put lm2_96 (zMu (c_put (by first | exact q_score | assumption) (by decide)) f_36) rfl rfl (Nat.le_of_ble_eq_true rfl) ⟨by decide, by decide, by decide, by decide⟩ ?_
    refine a_aload_n X dX2_close_39 rfl ?_
    refine a_getr X lf2_33 (by first | exact q_o | assumption) rfl (by omega) dX2_close_40 ?_
    refine a_iload_n X dX2_close_43 rfl ?_
    refine a_iload_n X dX2_close_44 rfl ?_
    refine a_iconst (v := 2) X dX2_close_45 (by decide) ?_
    refine a_icmp_ne (tgt := 59) X dX2_close_46 (by decide) (fun h_46 => ?_) (fun h_46 => ?_)
    · replace h := (if_neg h_46).symm.trans h
      refine a_iload_n X dX2_close_59 rfl ?_
      refine a_iconst (v := 1) X dX2_close_60 (by decide) ?_
      refine a_icmp_ne (tgt := 71) X dX2_close_61 (by decide) (fun h_61 => ?_) (fun h_61 => ?_)
      · replace h := (if_neg h_61).symm.trans h
        refine a_iconst (v := 1) X dX2_close_71 (by decide) ?_
        exact Zw.to2 (J_72 _ _ _ _ _ _ _ h) rfl rfl rfl
      · replace h := (if_pos h_61).symm.trans h
        refine a_iconst (v := 1) X dX2_close_64 (by decide) ?_
        refine a_iload X dX2_close_65 rfl ?_
        refine a_iadd X dX2_close_67 ?_
        refine a_goto (tgt := 72) X dX2_close_68 (by decide) ?_
        exact Zw.to2 (J_72 _ _ _ _ _ _ _ h) rfl rfl rfl
    · replace h := (if_pos h_46).symm.trans h
      refine a_iconst (v := 1) X dX2_close_49 (by decide) ?_
      refine a_iload X dX2_close_50 rfl ?_
      refine a_iload X dX2_close_52 rfl ?_
      refine a_imul X dX2_close_54 ?_
      refine a_iadd X dX2_close_55 ?_
      refine a_goto (tgt := 72) X dX2_close_56 (by decide) ?_
      exact Zw.to2 (J_72 _ _ _ _ _ _ _ h) rfl rfl rfl
  unfold D_X2_close at h
  refine a_aload_n X dX2_close_0 rfl ?_
  refine a_getr X lf2_24 (by first | exact q_o | assumption) rfl (by omega) dX2_close_1 ?_
  refine a_iload_n X dX2_close_4 rfl ?_
  refine a_callSNv X dX2_close_5 miX7_cell lm2_62 (c_cell (by first | exact q_size | assumption) (by decide)) rfl rfl (Nat.le_of_ble_eq_true rfl) ⟨by decide, by decide, by decide, by decide⟩ ?_
  refine a_istore_n X dX2_close_8 (by decide) ?_
  refine a_iload_n X dX2_close_9 rfl ?_
  refine a_if_ne (tgt := 17) X dX2_close_10 (by decide) (fun h_10 => ?_) (fun h_10 => ?_)
  · replace h := (if_neg h_10).symm.trans h
    refine a_aload_n X dX2_close_17 rfl ?_
    refine a_getr X lf2_30 (by first | exact q_o | assumption) rfl (by omega) dX2_close_18 ?_
    refine a_iload_n X dX2_close_21 rfl ?_
    refine a_callSNv X dX2_close_22 miX7_cell lm2_62 (c_cell (by first | exact q_score | assumption) (by decide)) rfl rfl (Nat.le_of_ble_eq_true rfl) ⟨by decide, by decide, by decide, by decide⟩ ?_
    refine a_iload_n X dX2_close_25 rfl ?_
    obtain ⟨z_26, h⟩ := zZx h
    refine a_idiv X dX2_close_26 (z_26) ?_
    exact Zw.to2 (J_27 _ _ _ _ _ _ h) rfl rfl rfl
  · replace h := (if_pos h_10).symm.trans h
    refine a_iconst (v := 0) X dX2_close_13 (by decide) ?_
    refine a_goto (tgt := 27) X dX2_close_14 (by decide) ?_
    exact Zw.to2 (J_27 _ _ _ _ _ _ h) rfl rfl rfl
noncomputable def D_X2_gather_111 (Q : Nat) (A : Nat) : Nat → Int32 → zMt → Option (zMt)
  | 0, _, _ => none
  | n + 1, x2_111, M_111 =>
    if (M_111 Q 1) ≤ x2_111 then
      some (M_111)
    else
      zB (D_X2_close Q x2_111 (M_111 A 3) M_111) fun e_125 =>
      zLt (zu e_125 Q 2 ((e_125 Q 2) + (zrd 0 (e_125 (Q + 8)) 10 x2_111))) fun M_142 =>
      (D_X2_gather_111 Q A n) (x2_111 + 1) M_142
noncomputable def D_X2_gather_92 (Q : Nat) (A : Nat) (k51 : Int32 → zMt → Option (zMt)) (k66 : Int32 → Int32 → zMt → Option (zMt)) (x2_92 : Int32) (x3_92 : Int32) (M_92 : zMt) : Option (zMt) :=
  k66 x2_92 (x3_92 + 1) M_92
noncomputable def D_X2_gather_66 (Q : Nat) (A : Nat) (k51 : Int32 → zMt → Option (zMt)) : Nat → Int32 → Int32 → zMt → Option (zMt)
  | 0, _, _, _ => none
  | n + 1, x2_66, x3_66, M_66 =>
    if (M_66 A 1) ≤ x3_66 then
      k51 (x2_66 + 1) M_66
    else
      if (zrd 0 (M_66 (A + 4)) 10 x3_66) = x2_66 then
        zB (D_X2_join Q A x3_66 M_66) fun e_89 =>
        D_X2_gather_92 Q A k51 (D_X2_gather_66 Q A k51 n) x2_66 x3_66 e_89
      else
        D_X2_gather_92 Q A k51 (D_X2_gather_66 Q A k51 n) x2_66 x3_66 M_66
noncomputable def D_X2_gather_51 (Q : Nat) (A : Nat) : Nat → Int32 → zMt → Option (zMt)
  | 0, _, _ => none
  | n + 1, x2_51, M_51 =>
    if (M_51 A 2) ≤ x2_51 then
      zLt (zu M_51 Q 2 (0 : Int32)) fun M_106 =>
      D_X2_gather_111 Q A zFu (0 : Int32) M_106
    else
      zB (D_X2_open Q x2_51 M_51) fun e_61 =>
      D_X2_gather_66 Q A (D_X2_gather_51 Q A n) zFu x2_51 (0 : Int32) e_61
noncomputable def D_X2_gather_43 (Q : Nat) (A : Nat) (k12 : Int32 → zMt → Option (zMt)) (x2_43 : Int32) (M_43 : zMt) : Option (zMt) :=
  k12 (x2_43 + 1) M_43
noncomputable def D_X2_gather_12 (Q : Nat) (A : Nat) : Nat → Int32 → zMt → Option (zMt)
  | 0, _, _ => none
  | n + 1, x2_12, M_12 =>
    if (M_12 A 1) ≤ x2_12 then
      D_X2_gather_51 Q A zFu (0 : Int32) M_12
    else
      if (zrd 0 (M_12 (A + 4)) 10 x2_12) = (-1 : Int32) then
        zB (D_X2_open Q (-1 : Int32) M_12) fun e_34 =>
        zB (D_X2_join Q A x2_12 e_34) fun e_40 =>
        D_X2_gather_43 Q A (D_X2_gather_12 Q A n) x2_12 e_40
      else
        D_X2_gather_43 Q A (D_X2_gather_12 Q A n) x2_12 M_12
noncomputable def D_X2_gather (Q : Nat) (A : Nat) (M : zMt) : Option (zMt) :=
  zB (D_X2_gatherUnits Q A M) fun e_2 =>
  zLt (zu e_2 Q 1 (0 : Int32)) fun M_7 =>
  D_X2_gather_12 Q A zFu (0 : Int32) M_7
set_option maxRecDepth 100000 in
set_option maxHeartbeats 4000000 in
theorem t_X2_gather {l : Launch} {G : zG} {b : Nat} {L : List zC} {M : zMt} {N : zNt} {Q : Nat} {A : Nat}  (hQ : LX2 L Q) (hA : LX4 L A) {r : zMt} (h : D_X2_gather Q A M = some r) : zM l G b yX2_gather cX2_gather 4 none 2 0 0 [.ref Q, .ref A] (L, M, N) (fun r2 z => r2 = none ∧ z = (L, r, N)) := by
  refine zM.of miX2_gather (Nat.le_of_ble_eq_true rfl) ?_
  intro p e s m args below meth c X hr hname
  generalize hF : ((fun r2 z => r2 = none ∧ z = (L, r, N)) : Option Value → zS → Prop) = FQ
  change Zw p l e { frames := 2, cells := 0, slots := 0, locals := 80 * (2) } s m args below meth c G b 4 (MQ below (zQ G b FQ) args s 0 0 (fun q : Nat => b ≤ q)) 0 0 0 [some (.ref Q), some (.ref A), none, none] [] (L, M, N)
  have q_lt := hQ.1
  have q_o := hQ.2.1
  have q_tickets := hQ.2.2.2.2.2.2.2.2.2.1
  have a_lt := hA.1
  have a_o := hA.2.1
  have a_party := hA.2.2.2.2.2.1
  have L_111 : ∀ u : Nat, ∀ (x2_111 : Int32) (x3_111 : Option Value) (M_111 : zMt), D_X2_gather_111 Q A u x2_111 M_111 = some r → Zw p l e { frames := 2, cells := 0, slots := 0, locals := 80 * (2) } s m args below meth c G b 4 (MQ below (zQ G b FQ) args s 0 0 (fun q : Nat => b ≤ q)) 0 0 111 [some (.ref (Q)), some (.ref (A)), some (.int x2_111), x3_111] [] (L, M_111, N) := by
    intro u
    induction u with
    | zero => intro x2_111 x3_111 M_111 h; cases (show none = some r from h)
    | succ u_111 ih_111 =>
      intro x2_111 x3_111 M_111 h
      rw [D_X2_gather_111] at h
      refine a_iload_n X dX2_gather_111 rfl ?_
      refine a_aload_n X dX2_gather_112 rfl ?_
      refine a_geti X lf2_52 (by first | exact q_o | assumption) rfl dX2_gather_113 ?_
      refine a_icmp_ge (tgt := 151) X dX2_gather_116 (by decide) (fun h_116 => ?_) (fun h_116 => ?_)
      · replace h := (if_pos h_116).symm.trans h
        refine a_vret X hr dX2_gather_151 ⟨by decide, by decide⟩ ?_
        subst hF
        rw [← Option.some.inj h]
        exact ⟨rfl, rfl⟩
      · replace h := (if_neg h_116).symm.trans h
        refine a_aload_n X dX2_gather_119 rfl ?_
        refine a_iload_n X dX2_gather_120 rfl ?_
        refine a_aload_n X dX2_gather_121 rfl ?_
        refine a_geti X lf2_80 (by first | exact a_o | assumption) rfl dX2_gather_122 ?_
        obtain ⟨e_125, f_125, h⟩ := zBx h
        refine a_callVu X dX2_gather_125 miX2_close lm2_83 (t_X2_close (by first | exact hQ | assumption) f_125) (by first | exact q_o | assumption) rfl rfl rfl (Nat.le_of_ble_eq_true rfl) ⟨by decide, by decide, by decide, by decide⟩ ?_
        refine a_aload_n X dX2_gather_128 rfl ?_
        refine a_dup X dX2_gather_129 rfl ?_
        refine a_geti X lf2_77 (by first | exact q_o | assumption) rfl dX2_gather_130 ?_
        refine a_aload_n X dX2_gather_133 rfl ?_
        refine a_getr X lf2_33 (by first | exact q_o | assumption) rfl (by omega) dX2_gather_134 ?_
        refine a_iload_n X dX2_gather_137 rfl ?_
        refine a_callSNv X dX2_gather_138 miX7_cell lm2_62 (c_cell (by first | exact q_tickets | assumption) (by decide)) rfl rfl (Nat.le_of_ble_eq_true rfl) ⟨by decide, by decide, by decide, by decide⟩ ?_
        refine a_iadd X dX2_gather_141 ?_
        obtain ⟨M_142, f_142, h⟩ := zLtx h
        refine d_puti X lf2_77 (by first | exact q_o | assumption) rfl dX2_gather_142 f_142 ?_
        refine a_iinc (v := x2_111 + 1) X dX2_gather_145 (by decide) rfl zi_1 ?_
        refine a_goto (tgt := 111) X dX2_gather_148 (by decide) ?_
        exact Zw.to2 (ih_111 _ _ _ h) rfl rfl rfl
  have H_111 : ∀ (x2_111 : Int32) (x3_111 : Option Value) (M_111 : zMt), D_X2_gather_111 Q A zFu x2_111 M_111 = some r → Zw p l e { frames := 2, cells := 0, slots := 0, locals := 80 * (2) } s m args below meth c G b 4 (MQ below (zQ G b FQ) args s 0 0 (fun q : Nat => b ≤ q)) 0 0 111 [some (.ref (Q)), some (.ref (A)), some (.int x2_111), x3_111] [] (L, M_111, N) := L_111 zFu
  have L_51 : ∀ u : Nat, ∀ (x2_51 : Int32) (x3_51 : Option Value) (M_51 : zMt), D_X2_gather_51 Q A u x2_51 M_51 = some r → Zw p l e { frames := 2, cells := 0, slots := 0, locals := 80 * (2) } s m args below meth c G b 4 (MQ below (zQ G b FQ) args s 0 0 (fun q : Nat => b ≤ q)) 0 0 51 [some (.ref (Q)), some (.ref (A)), some (.int x2_51), x3_51] [] (L, M_51, N) := by
    intro u
    induction u with
    | zero => intro x2_51 x3_51 M_51 h; cases (show none = some r from h)
    | succ u_51 ih_51 =>
      have L_66 : ∀ u : Nat, ∀ (x2_66 : Int32) (x3_66 : Int32) (M_66 : zMt), D_X2_gather_66 Q A (D_X2_gather_51 Q A u_51) u x2_66 x3_66 M_66 = some r → Zw p l e { frames := 2, cells := 0, slots := 0, locals := 80 * (2) } s m args below meth c G b 4 (MQ below (zQ G b FQ) args s 0 0 (fun q : Nat => b ≤ q)) 0 0 66 [some (.ref (Q)), some (.ref (A)), some (.int x2_66), some (.int x3_66)] [] (L, M_66, N) := by
        intro u
        induction u with
        | zero => intro x2_66 x3_66 M_66 h; cases (show none = some r from h)
        | succ u_66 ih_66 =>
          have J_92 : ∀ (x2_92 : Int32) (x3_92 : Int32) (M_92 : zMt), D_X2_gather_92 Q A (D_X2_gather_51 Q A u_51) (D_X2_gather_66 Q A (D_X2_gather_51 Q A u_51) u_66) x2_92 x3_92 M_92 = some r → Zw p l e { frames := 2, cells := 0, slots := 0, locals := 80 * (2) } s m args below meth c G b 4 (MQ below (zQ G b FQ) args s 0 0 (fun q : Nat => b ≤ q)) 0 0 92 [some (.ref (Q)), some (.ref (A)), some (.int x2_92), some (.int x3_92)] [] (L, M_92, N) := by
            intro x2_92 x3_92 M_92 h
            unfold D_X2_gather_92 at h
            refine a_iinc (v := x3_92 + 1) X dX2_gather_92 (by decide) rfl zi_1 ?_
            refine a_goto (tgt := 66) X dX2_gather_95 (by decide) ?_
            exact Zw.to2 (ih_66 _ _ _ h) rfl rfl rfl
          intro x2_66 x3_66 M_66 h
          rw [D_X2_gather_66] at h
          refine a_iload_n X dX2_gather_66 rfl ?_
          refine a_aload_n X dX2_gather_67 rfl ?_
          refine a_geti X lf2_56 (by first | exact a_o | assumption) rfl dX2_gather_68 ?_
          refine a_icmp_ge (tgt := 98) X dX2_gather_71 (by decide) (fun h_71 => ?_) (fun h_71 => ?_)
          · replace h := (if_pos h_71).symm.trans h
            refine a_iinc (v := x2_66 + 1) X dX2_gather_98 (by decide) rfl zi_1 ?_
            refine a_goto (tgt := 51) X dX2_gather_101 (by decide) ?_
            exact Zw.to2 (ih_51 _ _ _ h) rfl rfl rfl
          · replace h := (if_neg h_71).symm.trans h
            refine a_aload_n X dX2_gather_74 rfl ?_
            refine a_getr X lf2_61 (by first | exact a_o | assumption) rfl (by omega) dX2_gather_75 ?_
            refine a_iload_n X dX2_gather_78 rfl ?_
            refine a_callSNv X dX2_gather_79 miX7_cell lm2_62 (c_cell (by first | exact a_party | assumption) (by decide)) rfl rfl (Nat.le_of_ble_eq_true rfl) ⟨by decide, by decide, by decide, by decide⟩ ?_
            refine a_iload_n X dX2_gather_82 rfl ?_
            refine a_icmp_ne (tgt := 92) X dX2_gather_83 (by decide) (fun h_83 => ?_) (fun h_83 => ?_)
            · replace h := (if_neg h_83).symm.trans h
              exact Zw.to2 (J_92 _ _ _ h) rfl rfl rfl
            · replace h := (if_pos h_83).symm.trans h
              refine a_aload_n X dX2_gather_86 rfl ?_
              refine a_aload_n X dX2_gather_87 rfl ?_
              refine a_iload_n X dX2_gather_88 rfl ?_
              obtain ⟨e_89, f_89, h⟩ := zBx h
              refine a_callVu X dX2_gather_89 miX2_join lm2_70 (t_X2_join (by first | exact hQ | assumption) (by first | exact hA | assumption) f_89) (by first | exact q_o | assumption) rfl rfl rfl (Nat.le_of_ble_eq_true rfl) ⟨by decide, by decide, by decide, by decide⟩ ?_
              exact Zw.to2 (J_92 _ _ _ h) rfl rfl rfl
      have H_66 : ∀ (x2_66 : Int32) (x3_66 : Int32) (M_66 : zMt), D_X2_gather_66 Q A (D_X2_gather_51 Q A u_51) zFu x2_66 x3_66 M_66 = some r → Zw p l e { frames := 2, cells := 0, slots := 0, locals := 80 * (2) } s m args below meth c G b 4 (MQ below (zQ G b FQ) args s 0 0 (fun q : Nat => b ≤ q)) 0 0 66 [some (.ref (Q)), some (.ref (A)), some (.int x2_66), some (.int x3_66)] [] (L, M_66, N) := L_66 zFu
      intro x2_51 x3_51 M_51 h
      rw [D_X2_gather_51] at h
      refine a_iload_n X dX2_gather_51 rfl ?_
      refine a_aload_n X dX2_gather_52 rfl ?_
      refine a_geti X lf2_74 (by first | exact a_o | assumption) rfl dX2_gather_53 ?_
      refine a_icmp_ge (tgt := 104) X dX2_gather_56 (by decide) (fun h_56 => ?_) (fun h_56 => ?_)
      · replace h := (if_pos h_56).symm.trans h
        refine a_aload_n X dX2_gather_104 rfl ?_
        refine a_iconst (v := 0) X dX2_gather_105 (by decide) ?_
        obtain ⟨M_106, f_106, h⟩ := zLtx h
        refine d_puti X lf2_77 (by first | exact q_o | assumption) rfl dX2_gather_106 f_106 ?_
        refine a_iconst (v := 0) X dX2_gather_109 (by decide) ?_
        refine a_istore_n X dX2_gather_110 (by decide) ?_
        exact Zw.to2 (H_111 _ _ _ h) rfl rfl rfl
      · replace h := (if_neg h_56).symm.trans h
        refine a_aload_n X dX2_gather_59 rfl ?_
        refine a_iload_n X dX2_gather_60 rfl ?_
        obtain ⟨e_61, f_61, h⟩ := zBx h
        refine a_callVu X dX2_gather_61 miX2_open lm2_66 (t_X2_open (by first | exact hQ | assumption) f_61) (by first | exact q_o | assumption) rfl rfl rfl (Nat.le_of_ble_eq_true rfl) ⟨by decide, by decide, by decide, by decide⟩ ?_
        refine a_iconst (v := 0) X dX2_gather_64 (by decide) ?_
        refine a_istore_n X dX2_gather_65 (by decide) ?_
        exact Zw.to2 (H_66 _ _ _ h) rfl rfl rfl
  have H_51 : ∀ (x2_51 : Int32) (x3_51 : Option Value) (M_51 : zMt), D_X2_gather_51 Q A zFu x2_51 M_51 = some r → Zw p l e { frames := 2, cells := 0, slots := 0, locals := 80 * (2) } s m args below meth c G b 4 (MQ below (zQ G b FQ) args s 0 0 (fun q : Nat => b ≤ q)) 0 0 51 [some (.ref (Q)), some (.ref (A)), some (.int x2_51), x3_51] [] (L, M_51, N) := L_51 zFu
  have L_12 : ∀ u : Nat, ∀ (x2_12 : Int32) (x3_12 : Option Value) (M_12 : zMt), D_X2_gather_12 Q A u x2_12 M_12 = some r → Zw p l e { frames := 2, cells := 0, slots := 0, locals := 80 * (2) } s m args below meth c G b 4 (MQ below (zQ G b FQ) args s 0 0 (fun q : Nat => b ≤ q)) 0 0 12 [some (.ref (Q)), some (.ref (A)), some (.int x2_12), x3_12] [] (L, M_12, N) := by
    intro u
    induction u with
    | zero => intro x2_12 x3_12 M_12 h; cases (show none = some r from h)
    | succ u_12 ih_12 =>
      have J_43 : ∀ (x2_43 : Int32) (x3_43 : Option Value) (M_43 : zMt), D_X2_gather_43 Q A (D_X2_gather_12 Q A u_12) x2_43 M_43 = some r → Zw p l e { frames := 2, cells := 0, slots := 0, locals := 80 * (2) } s m args below meth c G b 4 (MQ below (zQ G b FQ) args s 0 0 (fun q : Nat => b ≤ q)) 0 0 43 [some (.ref (Q)), some (.ref (A)), some (.int x2_43), x3_43] [] (L, M_43, N) := by
        intro x2_43 x3_43 M_43 h
        unfold D_X2_gather_43 at h
        refine a_iinc (v := x2_43 + 1) X dX2_gather_43 (by decide) rfl zi_1 ?_
        refine a_goto (tgt := 12) X dX2_gather_46 (by decide) ?_
        exact Zw.to2 (ih_12 _ _ _ h) rfl rfl rfl
      intro x2_12 x3_12 M_12 h
      rw [D_X2_gather_12] at h
      refine a_iload_n X dX2_gather_12 rfl ?_
      refine a_aload_n X dX2_gather_13 rfl ?_
      refine a_geti X lf2_56 (by first | exact a_o | assumption) rfl dX2_gather_14 ?_
      refine a_icmp_ge (tgt := 49) X dX2_gather_17 (by decide) (fun h_17 => ?_) (fun h_17 => ?_)
      · replace h := (if_pos h_17).symm.trans h
        refine a_iconst (v := 0) X dX2_gather_49 (by decide) ?_
        refine a_istore_n X dX2_gather_50 (by decide) ?_
        exact Zw.to2 (H_51 _ _ _ h) rfl rfl rfl
      · replace h := (if_neg h_17).symm.trans h
        refine a_aload_n X dX2_gather_20 rfl ?_
        refine a_getr X lf2_61 (by first | exact a_o | assumption) rfl (by omega) dX2_gather_21 ?_
        refine a_iload_n X dX2_gather_24 rfl ?_
        refine a_callSNv X dX2_gather_25 miX7_cell lm2_62 (c_cell (by first | exact a_party | assumption) (by decide)) rfl rfl (Nat.le_of_ble_eq_true rfl) ⟨by decide, by decide, by decide, by decide⟩ ?_
        refine a_iconst (v := -1) X dX2_gather_28 (by decide) ?_
        refine a_icmp_ne (tgt := 43) X dX2_gather_29 (by decide) (fun h_29 => ?_) (fun h_29 => ?_)
        · replace h := (if_neg h_29).symm.trans h
          exact Zw.to2 (J_43 _ _ _ h) rfl rfl rfl
        · replace h := (if_pos h_29).symm.trans h
          refine a_aload_n X dX2_gather_32 rfl ?_
          refine a_iconst (v := -1) X dX2_gather_33 (by decide) ?_
          obtain ⟨e_34, f_34, h⟩ := zBx h
          refine a_callVu X dX2_gather_34 miX2_open lm2_66 (t_X2_open (by first | exact hQ | assumption) f_34) (by first | exact q_o | assumption) rfl rfl rfl (Nat.le_of_ble_eq_true rfl) ⟨by decide, by decide, by decide, by decide⟩ ?_
          refine a_aload_n X dX2_gather_37 rfl ?_
          refine a_aload_n X dX2_gather_38 rfl ?_
          refine a_iload_n X dX2_gather_39 rfl ?_
          obtain ⟨e_40, f_40, h⟩ := zBx h
          refine a_callVu X dX2_gather_40 miX2_join lm2_70 (t_X2_join (by first | exact hQ | assumption) (by first | exact hA | assumption) f_40) (by first | exact q_o | assumption) rfl rfl rfl (Nat.le_of_ble_eq_true rfl) ⟨by decide, by decide, by decide, by decide⟩ ?_
          exact Zw.to2 (J_43 _ _ _ h) rfl rfl rfl
  have H_12 : ∀ (x2_12 : Int32) (x3_12 : Option Value) (M_12 : zMt), D_X2_gather_12 Q A zFu x2_12 M_12 = some r → Zw p l e { frames := 2, cells := 0, slots := 0, locals := 80 * (2) } s m args below meth c G b 4 (MQ below (zQ G b FQ) args s 0 0 (fun q : Nat => b ≤ q)) 0 0 12 [some (.ref (Q)), some (.ref (A)), some (.int x2_12), x3_12] [] (L, M_12, N) := L_12 zFu
  unfold D_X2_gather at h
  refine a_aload_n X dX2_gather_0 rfl ?_
  refine a_aload_n X dX2_gather_1 rfl ?_
  obtain ⟨e_2, f_2, h⟩ := zBx h
  refine a_callVu X dX2_gather_2 miX2_gatherUnits lm2_48 (t_X2_gatherUnits (by first | exact hQ | assumption) (by first | exact hA | assumption) f_2) (by first | exact q_o | assumption) rfl rfl rfl (Nat.le_of_ble_eq_true rfl) ⟨by decide, by decide, by decide, by decide⟩ ?_
  refine a_aload_n X dX2_gather_5 rfl ?_
  refine a_iconst (v := 0) X dX2_gather_6 (by decide) ?_
  obtain ⟨M_7, f_7, h⟩ := zLtx h
  refine d_puti X lf2_52 (by first | exact q_o | assumption) rfl dX2_gather_7 f_7 ?_
  refine a_iconst (v := 0) X dX2_gather_10 (by decide) ?_
  refine a_istore_n X dX2_gather_11 (by decide) ?_
  exact Zw.to2 (H_12 _ _ _ h) rfl rfl rfl
noncomputable def D_X2_rankOf_2 (Q : Nat) (M : zMt) : Nat → Int32 → Int32 → Int32 → Option (Int32)
  | 0, _, _, _ => none
  | n + 1, x1_2, x2_2, x3_2 =>
    if (zrd 0 (M (Q + 11)) 10 x1_2) ≤ x3_2 then
      some ((-1 : Int32))
    else
      zB (D_X2_wish Q M x1_2 x3_2) fun e_17 =>
      if e_17 = x2_2 then
        some (x3_2)
      else
        (D_X2_rankOf_2 Q M n) x1_2 x2_2 (x3_2 + 1)
noncomputable def D_X2_rankOf (Q : Nat) (M : zMt) (v0 : Int32) (v1 : Int32) : Option (Int32) :=
  D_X2_rankOf_2 Q M zFu v0 v1 (0 : Int32)
set_option maxRecDepth 100000 in
set_option maxHeartbeats 4000000 in
theorem t_X2_rankOf {l : Launch} {G : zG} {b : Nat} {L : List zC} {M : zMt} {N : zNt} {Q : Nat} {v0 : Int32} {v1 : Int32} (hQ : LX2 L Q) {r : Int32} (h : D_X2_rankOf Q M v0 v1 = some r) : zM l G b yX2_rankOf cX2_rankOf 4 (some .int) 2 0 0 [.ref Q, .int v0, .int v1] (L, M, N) (fun r2 z => r2 = some (.int r) ∧ z = (L, M, N)) := by
  refine zM.of miX2_rankOf (Nat.le_of_ble_eq_true rfl) ?_
  intro p e s m args below meth c X hr hname
  generalize hF : ((fun r2 z => r2 = some (.int r) ∧ z = (L, M, N)) : Option Value → zS → Prop) = FQ
  change Zw p l e { frames := 2, cells := 0, slots := 0, locals := 80 * (2) } s m args below meth c G b 4 (MQ below (zQ G b FQ) args s 0 0 (fun q : Nat => b ≤ q)) 0 0 0 [some (.ref Q), some (.int v0), some (.int v1), none] [] (L, M, N)
  have q_lt := hQ.1
  have q_o := hQ.2.1
  have q_wishCount := hQ.2.2.2.2.2.2.2.2.2.2.2.2.1
  have L_2 : ∀ u : Nat, ∀ (x1_2 : Int32) (x2_2 : Int32) (x3_2 : Int32), D_X2_rankOf_2 Q M u x1_2 x2_2 x3_2 = some r → Zw p l e { frames := 2, cells := 0, slots := 0, locals := 80 * (2) } s m args below meth c G b 4 (MQ below (zQ G b FQ) args s 0 0 (fun q : Nat => b ≤ q)) 0 0 2 [some (.ref (Q)), some (.int x1_2), some (.int x2_2), some (.int x3_2)] [] (L, M, N) := by
    intro u
    induction u with
    | zero => intro x1_2 x2_2 x3_2 h; cases (show none = some r from h)
    | succ u_2 ih_2 =>
      intro x1_2 x2_2 x3_2 h
      rw [D_X2_rankOf_2] at h
      refine a_iload_n X dX2_rankOf_2 rfl ?_
      refine a_aload_n X dX2_rankOf_3 rfl ?_
      refine a_getr X lf2_42 (by first | exact q_o | assumption) rfl (by omega) dX2_rankOf_4 ?_
      refine a_iload_n X dX2_rankOf_7 rfl ?_
      refine a_callSNv X dX2_rankOf_8 miX7_cell lm2_62 (c_cell (by first | exact q_wishCount | assumption) (by decide)) rfl rfl (Nat.le_of_ble_eq_true rfl) ⟨by decide, by decide, by decide, by decide⟩ ?_
      refine a_icmp_ge (tgt := 32) X dX2_rankOf_11 (by decide) (fun h_11 => ?_) (fun h_11 => ?_)
      · replace h := (if_pos h_11).symm.trans h
        refine a_iconst (v := -1) X dX2_rankOf_32 (by decide) ?_
        refine a_iret X hr dX2_rankOf_33 ⟨by decide, by decide⟩ ?_
        subst hF
        rw [← Option.some.inj h]
        exact ⟨rfl, rfl⟩
      · replace h := (if_neg h_11).symm.trans h
        refine a_aload_n X dX2_rankOf_14 rfl ?_
        refine a_iload_n X dX2_rankOf_15 rfl ?_
        refine a_iload_n X dX2_rankOf_16 rfl ?_
        obtain ⟨e_17, f_17, h⟩ := zBx h
        refine a_callVv X dX2_rankOf_17 miX2_wish lm2_115 (t_X2_wish (by first | exact hQ | assumption) f_17) (by first | exact q_o | assumption) rfl rfl rfl (Nat.le_of_ble_eq_true rfl) ⟨by decide, by decide, by decide, by decide⟩ ?_
        refine a_iload_n X dX2_rankOf_20 rfl ?_
        refine a_icmp_ne (tgt := 26) X dX2_rankOf_21 (by decide) (fun h_21 => ?_) (fun h_21 => ?_)
        · replace h := (if_neg h_21).symm.trans h
          refine a_iinc (v := x3_2 + 1) X dX2_rankOf_26 (by decide) rfl zi_1 ?_
          refine a_goto (tgt := 2) X dX2_rankOf_29 (by decide) ?_
          exact Zw.to2 (ih_2 _ _ _ h) rfl rfl rfl
        · replace h := (if_pos h_21).symm.trans h
          refine a_iload_n X dX2_rankOf_24 rfl ?_
          refine a_iret X hr dX2_rankOf_25 ⟨by decide, by decide⟩ ?_
          subst hF
          rw [← Option.some.inj h]
          exact ⟨rfl, rfl⟩
  have H_2 : ∀ (x1_2 : Int32) (x2_2 : Int32) (x3_2 : Int32), D_X2_rankOf_2 Q M zFu x1_2 x2_2 x3_2 = some r → Zw p l e { frames := 2, cells := 0, slots := 0, locals := 80 * (2) } s m args below meth c G b 4 (MQ below (zQ G b FQ) args s 0 0 (fun q : Nat => b ≤ q)) 0 0 2 [some (.ref (Q)), some (.int x1_2), some (.int x2_2), some (.int x3_2)] [] (L, M, N) := L_2 zFu
  unfold D_X2_rankOf at h
  refine a_iconst (v := 0) X dX2_rankOf_0 (by decide) ?_
  refine a_istore_n X dX2_rankOf_1 (by decide) ?_
  exact Zw.to2 (H_2 _ _ _ h) rfl rfl rfl
noncomputable def D_X2_firstApplicants_27 (Q : Nat) (M : zMt) (k4 : Int32 → Int32 → Int32 → Option (Int32)) (x1_27 : Int32) (x3_27 : Int32) (y0_27 : Int32) (y1_27 : Int32) : Option (Int32) :=
  k4 x1_27 (y0_27 + y1_27) (x3_27 + 1)
noncomputable def D_X2_firstApplicants_4 (Q : Nat) (M : zMt) : Nat → Int32 → Int32 → Int32 → Option (Int32)
  | 0, _, _, _ => none
  | n + 1, x1_4, x2_4, x3_4 =>
    if (M Q 1) ≤ x3_4 then
      some (x2_4)
    else
      zB (D_X2_rankOf Q M x3_4 x1_4) fun e_16 =>
      if e_16 = 0 then
        D_X2_firstApplicants_27 Q M (D_X2_firstApplicants_4 Q M n) x1_4 x3_4 x2_4 (1 : Int32)
      else
        D_X2_firstApplicants_27 Q M (D_X2_firstApplicants_4 Q M n) x1_4 x3_4 x2_4 (0 : Int32)
noncomputable def D_X2_firstApplicants (Q : Nat) (M : zMt) (v0 : Int32) : Option (Int32) :=
  D_X2_firstApplicants_4 Q M zFu v0 (0 : Int32) (0 : Int32)
set_option maxRecDepth 100000 in
set_option maxHeartbeats 4000000 in
theorem t_X2_firstApplicants {l : Launch} {G : zG} {b : Nat} {L : List zC} {M : zMt} {N : zNt} {Q : Nat} {v0 : Int32} (hQ : LX2 L Q) {r : Int32} (h : D_X2_firstApplicants Q M v0 = some r) : zM l G b yX2_firstApplicants cX2_firstApplicants 4 (some .int) 3 0 0 [.ref Q, .int v0] (L, M, N) (fun r2 z => r2 = some (.int r) ∧ z = (L, M, N)) := by
  refine zM.of miX2_firstApplicants (Nat.le_of_ble_eq_true rfl) ?_
  intro p e s m args below meth c X hr hname
  generalize hF : ((fun r2 z => r2 = some (.int r) ∧ z = (L, M, N)) : Option Value → zS → Prop) = FQ
  change Zw p l e { frames := 3, cells := 0, slots := 0, locals := 80 * (3) } s m args below meth c G b 4 (MQ below (zQ G b FQ) args s 0 0 (fun q : Nat => b ≤ q)) 0 0 0 [some (.ref Q), some (.int v0), none, none] [] (L, M, N)
  have q_lt := hQ.1
  have q_o := hQ.2.1
  have L_4 : ∀ u : Nat, ∀ (x1_4 : Int32) (x2_4 : Int32) (x3_4 : Int32), D_X2_firstApplicants_4 Q M u x1_4 x2_4 x3_4 = some r → Zw p l e { frames := 3, cells := 0, slots := 0, locals := 80 * (3) } s m args below meth c G b 4 (MQ below (zQ G b FQ) args s 0 0 (fun q : Nat => b ≤ q)) 0 0 4 [some (.ref (Q)), some (.int x1_4), some (.int x2_4), some (.int x3_4)] [] (L, M, N) := by
    intro u
    induction u with
    | zero => intro x1_4 x2_4 x3_4 h; cases (show none = some r from h)
    | succ u_4 ih_4 =>
      have J_27 : ∀ (x1_27 : Int32) (x2_27 : Int32) (x3_27 : Int32) (y0_27 : Int32) (y1_27 : Int32), (y1_27 = 0 ∨ y1_27 = 1) → D_X2_firstApplicants_27 Q M (D_X2_firstApplicants_4 Q M u_4) x1_27 x3_27 y0_27 y1_27 = some r → Zw p l e { frames := 3, cells := 0, slots := 0, locals := 80 * (3) } s m args below meth c G b 4 (MQ below (zQ G b FQ) args s 0 0 (fun q : Nat => b ≤ q)) 0 0 27 [some (.ref (Q)), some (.int x1_27), some (.int x2_27), some (.int x3_27)] [.int y1_27, .int y0_27] (L, M, N) := by
        intro x1_27 x2_27 x3_27 y0_27 y1_27 fb_y1_27 h
        unfold D_X2_firstApplicants_27 at h
        refine a_iadd X dX2_firstApplicants_27 ?_
        refine a_istore_n X dX2_firstApplicants_28 (by decide) ?_
        refine a_iinc (v := x3_27 + 1) X dX2_firstApplicants_29 (by decide) rfl zi_1 ?_
        refine a_goto (tgt := 4) X dX2_firstApplicants_32 (by decide) ?_
        exact Zw.to2 (ih_4 _ _ _ h) rfl rfl rfl
      intro x1_4 x2_4 x3_4 h
      rw [D_X2_firstApplicants_4] at h
      refine a_iload_n X dX2_firstApplicants_4 rfl ?_
      refine a_aload_n X dX2_firstApplicants_5 rfl ?_
      refine a_geti X lf2_52 (by first | exact q_o | assumption) rfl dX2_firstApplicants_6 ?_
      refine a_icmp_ge (tgt := 35) X dX2_firstApplicants_9 (by decide) (fun h_9 => ?_) (fun h_9 => ?_)
      · replace h := (if_pos h_9).symm.trans h
        refine a_iload_n X dX2_firstApplicants_35 rfl ?_
        refine a_iret X hr dX2_firstApplicants_36 ⟨by decide, by decide⟩ ?_
        subst hF
        rw [← Option.some.inj h]
        exact ⟨rfl, rfl⟩
      · replace h := (if_neg h_9).symm.trans h
        refine a_iload_n X dX2_firstApplicants_12 rfl ?_
        refine a_aload_n X dX2_firstApplicants_13 rfl ?_
        refine a_iload_n X dX2_firstApplicants_14 rfl ?_
        refine a_iload_n X dX2_firstApplicants_15 rfl ?_
        obtain ⟨e_16, f_16, h⟩ := zBx h
        refine a_callVv X dX2_firstApplicants_16 miX2_rankOf lm2_119 (t_X2_rankOf (by first | exact hQ | assumption) f_16) (by first | exact q_o | assumption) rfl rfl rfl (Nat.le_of_ble_eq_true rfl) ⟨by decide, by decide, by decide, by decide⟩ ?_
        refine a_if_ne (tgt := 26) X dX2_firstApplicants_19 (by decide) (fun h_19 => ?_) (fun h_19 => ?_)
        · replace h := (if_neg h_19).symm.trans h
          refine a_iconst (v := 0) X dX2_firstApplicants_26 (by decide) ?_
          exact Zw.to2 (J_27 _ _ _ _ _ (by first | exact Or.inl rfl | exact Or.inr rfl | assumption) h) rfl rfl rfl
        · replace h := (if_pos h_19).symm.trans h
          refine a_iconst (v := 1) X dX2_firstApplicants_22 (by decide) ?_
          refine a_goto (tgt := 27) X dX2_firstApplicants_23 (by decide) ?_
          exact Zw.to2 (J_27 _ _ _ _ _ (by first | exact Or.inl rfl | exact Or.inr rfl | assumption) h) rfl rfl rfl
  have H_4 : ∀ (x1_4 : Int32) (x2_4 : Int32) (x3_4 : Int32), D_X2_firstApplicants_4 Q M zFu x1_4 x2_4 x3_4 = some r → Zw p l e { frames := 3, cells := 0, slots := 0, locals := 80 * (3) } s m args below meth c G b 4 (MQ below (zQ G b FQ) args s 0 0 (fun q : Nat => b ≤ q)) 0 0 4 [some (.ref (Q)), some (.int x1_4), some (.int x2_4), some (.int x3_4)] [] (L, M, N) := L_4 zFu
  unfold D_X2_firstApplicants at h
  refine a_iconst (v := 0) X dX2_firstApplicants_0 (by decide) ?_
  refine a_istore_n X dX2_firstApplicants_1 (by decide) ?_
  refine a_iconst (v := 0) X dX2_firstApplicants_2 (by decide) ?_
  refine a_istore_n X dX2_firstApplicants_3 (by decide) ?_
  exact Zw.to2 (H_4 _ _ _ h) rfl rfl rfl
noncomputable def D_X2_firstHunters_34 (Q : Nat) (M : zMt) (k4 : Int32 → Int32 → Int32 → Option (Int32)) (x1_34 : Int32) (x3_34 : Int32) (y0_34 : Int32) (y1_34 : Int32) : Option (Int32) :=
  k4 x1_34 (y0_34 + y1_34) (x3_34 + 1)
noncomputable def D_X2_firstHunters_4 (Q : Nat) (M : zMt) : Nat → Int32 → Int32 → Int32 → Option (Int32)
  | 0, _, _, _ => none
  | n + 1, x1_4, x2_4, x3_4 =>
    if (M Q 1) ≤ x3_4 then
      some (x2_4)
    else
      zB (D_X2_rankOf Q M x3_4 x1_4) fun e_16 =>
      if e_16 = 0 then
        D_X2_firstHunters_34 Q M (D_X2_firstHunters_4 Q M n) x1_4 x3_4 x2_4 (zrd 0 (M (Q + 5)) 10 x3_4)
      else
        D_X2_firstHunters_34 Q M (D_X2_firstHunters_4 Q M n) x1_4 x3_4 x2_4 (0 : Int32)
noncomputable def D_X2_firstHunters (Q : Nat) (M : zMt) (v0 : Int32) : Option (Int32) :=
  D_X2_firstHunters_4 Q M zFu v0 (0 : Int32) (0 : Int32)
set_option maxRecDepth 100000 in
set_option maxHeartbeats 4000000 in
theorem t_X2_firstHunters {l : Launch} {G : zG} {b : Nat} {L : List zC} {M : zMt} {N : zNt} {Q : Nat} {v0 : Int32} (hQ : LX2 L Q) {r : Int32} (h : D_X2_firstHunters Q M v0 = some r) : zM l G b yX2_firstHunters cX2_firstHunters 4 (some .int) 3 0 0 [.ref Q, .int v0] (L, M, N) (fun r2 z => r2 = some (.int r) ∧ z = (L, M, N)) := by
  refine zM.of miX2_firstHunters (Nat.le_of_ble_eq_true rfl) ?_
  intro p e s m args below meth c X hr hname
  generalize hF : ((fun r2 z => r2 = some (.int r) ∧ z = (L, M, N)) : Option Value → zS → Prop) = FQ
  change Zw p l e { frames := 3, cells := 0, slots := 0, locals := 80 * (3) } s m args below meth c G b 4 (MQ below (zQ G b FQ) args s 0 0 (fun q : Nat => b ≤ q)) 0 0 0 [some (.ref Q), some (.int v0), none, none] [] (L, M, N)
  have q_lt := hQ.1
  have q_o := hQ.2.1
  have q_size := hQ.2.2.2.2.2.2.1
  have L_4 : ∀ u : Nat, ∀ (x1_4 : Int32) (x2_4 : Int32) (x3_4 : Int32), D_X2_firstHunters_4 Q M u x1_4 x2_4 x3_4 = some r → Zw p l e { frames := 3, cells := 0, slots := 0, locals := 80 * (3) } s m args below meth c G b 4 (MQ below (zQ G b FQ) args s 0 0 (fun q : Nat => b ≤ q)) 0 0 4 [some (.ref (Q)), some (.int x1_4), some (.int x2_4), some (.int x3_4)] [] (L, M, N) := by
    intro u
    induction u with
    | zero => intro x1_4 x2_4 x3_4 h; cases (show none = some r from h)
    | succ u_4 ih_4 =>
      have J_34 : ∀ (x1_34 : Int32) (x2_34 : Int32) (x3_34 : Int32) (y0_34 : Int32) (y1_34 : Int32), D_X2_firstHunters_34 Q M (D_X2_firstHunters_4 Q M u_4) x1_34 x3_34 y0_34 y1_34 = some r → Zw p l e { frames := 3, cells := 0, slots := 0, locals := 80 * (3) } s m args below meth c G b 4 (MQ below (zQ G b FQ) args s 0 0 (fun q : Nat => b ≤ q)) 0 0 34 [some (.ref (Q)), some (.int x1_34), some (.int x2_34), some (.int x3_34)] [.int y1_34, .int y0_34] (L, M, N) := by
        intro x1_34 x2_34 x3_34 y0_34 y1_34 h
        unfold D_X2_firstHunters_34 at h
        refine a_iadd X dX2_firstHunters_34 ?_
        refine a_istore_n X dX2_firstHunters_35 (by decide) ?_
        refine a_iinc (v := x3_34 + 1) X dX2_firstHunters_36 (by decide) rfl zi_1 ?_
        refine a_goto (tgt := 4) X dX2_firstHunters_39 (by decide) ?_
        exact Zw.to2 (ih_4 _ _ _ h) rfl rfl rfl
      intro x1_4 x2_4 x3_4 h
      rw [D_X2_firstHunters_4] at h
      refine a_iload_n X dX2_firstHunters_4 rfl ?_
      refine a_aload_n X dX2_firstHunters_5 rfl ?_
      refine a_geti X lf2_52 (by first | exact q_o | assumption) rfl dX2_firstHunters_6 ?_
      refine a_icmp_ge (tgt := 42) X dX2_firstHunters_9 (by decide) (fun h_9 => ?_) (fun h_9 => ?_)
      · replace h := (if_pos h_9).symm.trans h
        refine a_iload_n X dX2_firstHunters_42 rfl ?_
        refine a_iret X hr dX2_firstHunters_43 ⟨by decide, by decide⟩ ?_
        subst hF
        rw [← Option.some.inj h]
        exact ⟨rfl, rfl⟩
      · replace h := (if_neg h_9).symm.trans h
        refine a_iload_n X dX2_firstHunters_12 rfl ?_
        refine a_aload_n X dX2_firstHunters_13 rfl ?_
        refine a_iload_n X dX2_firstHunters_14 rfl ?_
        refine a_iload_n X dX2_firstHunters_15 rfl ?_
        obtain ⟨e_16, f_16, h⟩ := zBx h
        refine a_callVv X dX2_firstHunters_16 miX2_rankOf lm2_119 (t_X2_rankOf (by first | exact hQ | assumption) f_16) (by first | exact q_o | assumption) rfl rfl rfl (Nat.le_of_ble_eq_true rfl) ⟨by decide, by decide, by decide, by decide⟩ ?_
        refine a_if_ne (tgt := 33) X dX2_firstHunters_19 (by decide) (fun h_19 => ?_) (fun h_19 => ?_)
        · replace h := (if_neg h_19).symm.trans h
          refine a_iconst (v := 0) X dX2_firstHunters_33 (by decide) ?_
          exact Zw.to2 (J_34 _ _ _ _ _ h) rfl rfl rfl
        · replace h := (if_pos h_19).symm.trans h
          refine a_aload_n X dX2_firstHunters_22 rfl ?_
          refine a_getr X lf2_24 (by first | exact q_o | assumption) rfl (by omega) dX2_firstHunters_23 ?_
          refine a_iload_n X dX2_firstHunters_26 rfl ?_
          refine a_callSNv X dX2_firstHunters_27 miX7_cell lm2_62 (c_cell (by first | exact q_size | assumption) (by decide)) rfl rfl (Nat.le_of_ble_eq_true rfl) ⟨by decide, by decide, by decide, by decide⟩ ?_
          refine a_goto (tgt := 34) X dX2_firstHunters_30 (by decide) ?_
          exact Zw.to2 (J_34 _ _ _ _ _ h) rfl rfl rfl
  have H_4 : ∀ (x1_4 : Int32) (x2_4 : Int32) (x3_4 : Int32), D_X2_firstHunters_4 Q M zFu x1_4 x2_4 x3_4 = some r → Zw p l e { frames := 3, cells := 0, slots := 0, locals := 80 * (3) } s m args below meth c G b 4 (MQ below (zQ G b FQ) args s 0 0 (fun q : Nat => b ≤ q)) 0 0 4 [some (.ref (Q)), some (.int x1_4), some (.int x2_4), some (.int x3_4)] [] (L, M, N) := L_4 zFu
  unfold D_X2_firstHunters at h
  refine a_iconst (v := 0) X dX2_firstHunters_0 (by decide) ?_
  refine a_istore_n X dX2_firstHunters_1 (by decide) ?_
  refine a_iconst (v := 0) X dX2_firstHunters_2 (by decide) ?_
  refine a_istore_n X dX2_firstHunters_3 (by decide) ?_
  exact Zw.to2 (H_4 _ _ _ h) rfl rfl rfl
noncomputable def D_X2_askers_28 (Q : Nat) (M : zMt) (k4 : Int32 → Int32 → Int32 → Option (Int32)) (x1_28 : Int32) (x3_28 : Int32) (y0_28 : Int32) (y1_28 : Int32) : Option (Int32) :=
  k4 x1_28 (y0_28 + y1_28) (x3_28 + 1)
noncomputable def D_X2_askers_4 (Q : Nat) (M : zMt) : Nat → Int32 → Int32 → Int32 → Option (Int32)
  | 0, _, _, _ => none
  | n + 1, x1_4, x2_4, x3_4 =>
    if (M Q 1) ≤ x3_4 then
      some (x2_4)
    else
      zB (D_X2_rankOf Q M x3_4 x1_4) fun e_16 =>
      if e_16 = (-1 : Int32) then
        D_X2_askers_28 Q M (D_X2_askers_4 Q M n) x1_4 x3_4 x2_4 (0 : Int32)
      else
        D_X2_askers_28 Q M (D_X2_askers_4 Q M n) x1_4 x3_4 x2_4 (1 : Int32)
noncomputable def D_X2_askers (Q : Nat) (M : zMt) (v0 : Int32) : Option (Int32) :=
  D_X2_askers_4 Q M zFu v0 (0 : Int32) (0 : Int32)
set_option maxRecDepth 100000 in
set_option maxHeartbeats 4000000 in
theorem t_X2_askers {l : Launch} {G : zG} {b : Nat} {L : List zC} {M : zMt} {N : zNt} {Q : Nat} {v0 : Int32} (hQ : LX2 L Q) {r : Int32} (h : D_X2_askers Q M v0 = some r) : zM l G b yX2_askers cX2_askers 4 (some .int) 3 0 0 [.ref Q, .int v0] (L, M, N) (fun r2 z => r2 = some (.int r) ∧ z = (L, M, N)) := by
  refine zM.of miX2_askers (Nat.le_of_ble_eq_true rfl) ?_
  intro p e s m args below meth c X hr hname
  generalize hF : ((fun r2 z => r2 = some (.int r) ∧ z = (L, M, N)) : Option Value → zS → Prop) = FQ
  change Zw p l e { frames := 3, cells := 0, slots := 0, locals := 80 * (3) } s m args below meth c G b 4 (MQ below (zQ G b FQ) args s 0 0 (fun q : Nat => b ≤ q)) 0 0 0 [some (.ref Q), some (.int v0), none, none] [] (L, M, N)
  have q_lt := hQ.1
  have q_o := hQ.2.1
  have L_4 : ∀ u : Nat, ∀ (x1_4 : Int32) (x2_4 : Int32) (x3_4 : Int32), D_X2_askers_4 Q M u x1_4 x2_4 x3_4 = some r → Zw p l e { frames := 3, cells := 0, slots := 0, locals := 80 * (3) } s m args below meth c G b 4 (MQ below (zQ G b FQ) args s 0 0 (fun q : Nat => b ≤ q)) 0 0 4 [some (.ref (Q)), some (.int x1_4), some (.int x2_4), some (.int x3_4)] [] (L, M, N) := by
    intro u
    induction u with
    | zero => intro x1_4 x2_4 x3_4 h; cases (show none = some r from h)
    | succ u_4 ih_4 =>
      have J_28 : ∀ (x1_28 : Int32) (x2_28 : Int32) (x3_28 : Int32) (y0_28 : Int32) (y1_28 : Int32), (y1_28 = 0 ∨ y1_28 = 1) → D_X2_askers_28 Q M (D_X2_askers_4 Q M u_4) x1_28 x3_28 y0_28 y1_28 = some r → Zw p l e { frames := 3, cells := 0, slots := 0, locals := 80 * (3) } s m args below meth c G b 4 (MQ below (zQ G b FQ) args s 0 0 (fun q : Nat => b ≤ q)) 0 0 28 [some (.ref (Q)), some (.int x1_28), some (.int x2_28), some (.int x3_28)] [.int y1_28, .int y0_28] (L, M, N) := by
        intro x1_28 x2_28 x3_28 y0_28 y1_28 fb_y1_28 h
        unfold D_X2_askers_28 at h
        refine a_iadd X dX2_askers_28 ?_
        refine a_istore_n X dX2_askers_29 (by decide) ?_
        refine a_iinc (v := x3_28 + 1) X dX2_askers_30 (by decide) rfl zi_1 ?_
        refine a_goto (tgt := 4) X dX2_askers_33 (by decide) ?_
        exact Zw.to2 (ih_4 _ _ _ h) rfl rfl rfl
      intro x1_4 x2_4 x3_4 h
      rw [D_X2_askers_4] at h
      refine a_iload_n X dX2_askers_4 rfl ?_
      refine a_aload_n X dX2_askers_5 rfl ?_
      refine a_geti X lf2_52 (by first | exact q_o | assumption) rfl dX2_askers_6 ?_
      refine a_icmp_ge (tgt := 36) X dX2_askers_9 (by decide) (fun h_9 => ?_) (fun h_9 => ?_)
      · replace h := (if_pos h_9).symm.trans h
        refine a_iload_n X dX2_askers_36 rfl ?_
        refine a_iret X hr dX2_askers_37 ⟨by decide, by decide⟩ ?_
        subst hF
        rw [← Option.some.inj h]
        exact ⟨rfl, rfl⟩
      · replace h := (if_neg h_9).symm.trans h
        refine a_iload_n X dX2_askers_12 rfl ?_
        refine a_aload_n X dX2_askers_13 rfl ?_
        refine a_iload_n X dX2_askers_14 rfl ?_
        refine a_iload_n X dX2_askers_15 rfl ?_
        obtain ⟨e_16, f_16, h⟩ := zBx h
        refine a_callVv X dX2_askers_16 miX2_rankOf lm2_119 (t_X2_rankOf (by first | exact hQ | assumption) f_16) (by first | exact q_o | assumption) rfl rfl rfl (Nat.le_of_ble_eq_true rfl) ⟨by decide, by decide, by decide, by decide⟩ ?_
        refine a_iconst (v := -1) X dX2_askers_19 (by decide) ?_
        refine a_icmp_ne (tgt := 27) X dX2_askers_20 (by decide) (fun h_20 => ?_) (fun h_20 => ?_)
        · replace h := (if_neg h_20).symm.trans h
          refine a_iconst (v := 1) X dX2_askers_27 (by decide) ?_
          exact Zw.to2 (J_28 _ _ _ _ _ (by first | exact Or.inl rfl | exact Or.inr rfl | assumption) h) rfl rfl rfl
        · replace h := (if_pos h_20).symm.trans h
          refine a_iconst (v := 0) X dX2_askers_23 (by decide) ?_
          refine a_goto (tgt := 28) X dX2_askers_24 (by decide) ?_
          exact Zw.to2 (J_28 _ _ _ _ _ (by first | exact Or.inl rfl | exact Or.inr rfl | assumption) h) rfl rfl rfl
  have H_4 : ∀ (x1_4 : Int32) (x2_4 : Int32) (x3_4 : Int32), D_X2_askers_4 Q M zFu x1_4 x2_4 x3_4 = some r → Zw p l e { frames := 3, cells := 0, slots := 0, locals := 80 * (3) } s m args below meth c G b 4 (MQ below (zQ G b FQ) args s 0 0 (fun q : Nat => b ≤ q)) 0 0 4 [some (.ref (Q)), some (.int x1_4), some (.int x2_4), some (.int x3_4)] [] (L, M, N) := L_4 zFu
  unfold D_X2_askers at h
  refine a_iconst (v := 0) X dX2_askers_0 (by decide) ?_
  refine a_istore_n X dX2_askers_1 (by decide) ?_
  refine a_iconst (v := 0) X dX2_askers_2 (by decide) ?_
  refine a_istore_n X dX2_askers_3 (by decide) ?_
  exact Zw.to2 (H_4 _ _ _ h) rfl rfl rfl
noncomputable def D_X4_clear (Q : Nat) (M : zMt) : Option (zMt) :=
  zLt (zu M Q 0 (0 : Int32)) fun M_2 =>
  zLt (zu M_2 Q 1 (0 : Int32)) fun M_7 =>
  zLt (zu M_7 Q 2 (0 : Int32)) fun M_12 =>
  zLt (zu M_12 Q 3 (0 : Int32)) fun M_17 =>
  zLt (zu M_17 Q 4 (0 : Int32)) fun M_22 =>
  zLt (zu M_22 Q 5 (100 : Int32)) fun M_28 =>
  zLt (zu M_28 Q 6 (0 : Int32)) fun M_33 =>
  zLt (zfil M_33 (Q + 1) 5 (0 : Int32)) fun M_41 =>
  zLt (zfil M_41 (Q + 2) 10 (0 : Int32)) fun M_49 =>
  zLt (zfil M_49 (Q + 3) 10 (0 : Int32)) fun M_57 =>
  zLt (zfil M_57 (Q + 4) 10 (-1 : Int32)) fun M_65 =>
  zLt (zfil M_65 (Q + 5) 10 (0 : Int32)) fun M_73 =>
  zLt (zfil M_73 (Q + 6) 30 (-1 : Int32)) fun M_81 =>
  zLt (zfil M_81 (Q + 7) 10 (-1 : Int32)) fun M_89 =>
  some (M_89)
set_option maxRecDepth 100000 in
set_option maxHeartbeats 4000000 in
theorem t_X4_clear {l : Launch} {G : zG} {b : Nat} {L : List zC} {M : zMt} {N : zNt} {Q : Nat}  (hQ : LX4 L Q) {r : zMt} (h : D_X4_clear Q M = some r) : zM l G b yX4_clear cX4_clear 1 none 1 0 0 [.ref Q] (L, M, N) (fun r2 z => r2 = none ∧ z = (L, r, N)) := by
  refine zM.of miX4_clear (Nat.le_of_ble_eq_true rfl) ?_
  intro p e s m args below meth c X hr hname
  generalize hF : ((fun r2 z => r2 = none ∧ z = (L, r, N)) : Option Value → zS → Prop) = FQ
  change Zw p l e { frames := 1, cells := 0, slots := 0, locals := 80 * (1) } s m args below meth c G b 1 (MQ below (zQ G b FQ) args s 0 0 (fun q : Nat => b ≤ q)) 0 0 0 [some (.ref Q)] [] (L, M, N)
  have q_lt := hQ.1
  have q_o := hQ.2.1
  have q_quota := hQ.2.2.1
  have q_score := hQ.2.2.2.1
  have q_guest := hQ.2.2.2.2.1
  have q_party := hQ.2.2.2.2.2.1
  have q_wishCount := hQ.2.2.2.2.2.2.1
  have q_wishes := hQ.2.2.2.2.2.2.2.1
  have q_has := hQ.2.2.2.2.2.2.2.2
  unfold D_X4_clear at h
  refine a_aload_n X dX4_clear_0 rfl ?_
  refine a_iconst (v := 0) X dX4_clear_1 (by decide) ?_
  obtain ⟨M_2, f_2, h⟩ := zLtx h
  refine d_puti X lf4_33 (by first | exact q_o | assumption) rfl dX4_clear_2 f_2 ?_
  refine a_aload_n X dX4_clear_5 rfl ?_
  refine a_iconst (v := 0) X dX4_clear_6 (by decide) ?_
  obtain ⟨M_7, f_7, h⟩ := zLtx h
  refine d_puti X lf4_37 (by first | exact q_o | assumption) rfl dX4_clear_7 f_7 ?_
  refine a_aload_n X dX4_clear_10 rfl ?_
  refine a_iconst (v := 0) X dX4_clear_11 (by decide) ?_
  obtain ⟨M_12, f_12, h⟩ := zLtx h
  refine d_puti X lf4_40 (by first | exact q_o | assumption) rfl dX4_clear_12 f_12 ?_
  refine a_aload_n X dX4_clear_15 rfl ?_
  refine a_iconst (v := 0) X dX4_clear_16 (by decide) ?_
  obtain ⟨M_17, f_17, h⟩ := zLtx h
  refine d_puti X lf4_43 (by first | exact q_o | assumption) rfl dX4_clear_17 f_17 ?_
  refine a_aload_n X dX4_clear_20 rfl ?_
  refine a_iconst (v := 0) X dX4_clear_21 (by decide) ?_
  obtain ⟨M_22, f_22, h⟩ := zLtx h
  refine d_puti X lf4_46 (by first | exact q_o | assumption) rfl dX4_clear_22 f_22 ?_
  refine a_aload_n X dX4_clear_25 rfl ?_
  refine a_bipush (v := 100) X dX4_clear_26 (by decide) ?_
  obtain ⟨M_28, f_28, h⟩ := zLtx h
  refine d_puti X lf4_49 (by first | exact q_o | assumption) rfl dX4_clear_28 f_28 ?_
  refine a_aload_n X dX4_clear_31 rfl ?_
  refine a_iconst (v := 0) X dX4_clear_32 (by decide) ?_
  obtain ⟨M_33, f_33, h⟩ := zLtx h
  refine d_puti X lf4_52 (by first | exact q_o | assumption) rfl dX4_clear_33 f_33 ?_
  refine a_aload_n X dX4_clear_36 rfl ?_
  refine a_getr X lf4_9 (by first | exact q_o | assumption) rfl (by omega) dX4_clear_37 ?_
  refine a_iconst (v := 0) X dX4_clear_40 (by decide) ?_
  obtain ⟨M_41, f_41, h⟩ := zLtx h
  refine a_callSNu X dX4_clear_41 miX7_fill lm4_55 (zMu (c_fill (by first | exact q_quota | assumption) (by decide)) f_41) rfl rfl (Nat.le_of_ble_eq_true rfl) ⟨by decide, by decide, by decide, by decide⟩ ?_
  refine a_aload_n X dX4_clear_44 rfl ?_
  refine a_getr X lf4_15 (by first | exact q_o | assumption) rfl (by omega) dX4_clear_45 ?_
  refine a_iconst (v := 0) X dX4_clear_48 (by decide) ?_
  obtain ⟨M_49, f_49, h⟩ := zLtx h
  refine a_callSNu X dX4_clear_49 miX7_fill lm4_55 (zMu (c_fill (by first | exact q_score | assumption) (by decide)) f_49) rfl rfl (Nat.le_of_ble_eq_true rfl) ⟨by decide, by decide, by decide, by decide⟩ ?_
  refine a_aload_n X dX4_clear_52 rfl ?_
  refine a_getr X lf4_18 (by first | exact q_o | assumption) rfl (by omega) dX4_clear_53 ?_
  refine a_iconst (v := 0) X dX4_clear_56 (by decide) ?_
  obtain ⟨M_57, f_57, h⟩ := zLtx h
  refine a_callSNu X dX4_clear_57 miX7_fill lm4_55 (zMu (c_fill (by first | exact q_guest | assumption) (by decide)) f_57) rfl rfl (Nat.le_of_ble_eq_true rfl) ⟨by decide, by decide, by decide, by decide⟩ ?_
  refine a_aload_n X dX4_clear_60 rfl ?_
  refine a_getr X lf4_21 (by first | exact q_o | assumption) rfl (by omega) dX4_clear_61 ?_
  refine a_iconst (v := -1) X dX4_clear_64 (by decide) ?_
  obtain ⟨M_65, f_65, h⟩ := zLtx h
  refine a_callSNu X dX4_clear_65 miX7_fill lm4_55 (zMu (c_fill (by first | exact q_party | assumption) (by decide)) f_65) rfl rfl (Nat.le_of_ble_eq_true rfl) ⟨by decide, by decide, by decide, by decide⟩ ?_
  refine a_aload_n X dX4_clear_68 rfl ?_
  refine a_getr X lf4_24 (by first | exact q_o | assumption) rfl (by omega) dX4_clear_69 ?_
  refine a_iconst (v := 0) X dX4_clear_72 (by decide) ?_
  obtain ⟨M_73, f_73, h⟩ := zLtx h
  refine a_callSNu X dX4_clear_73 miX7_fill lm4_55 (zMu (c_fill (by first | exact q_wishCount | assumption) (by decide)) f_73) rfl rfl (Nat.le_of_ble_eq_true rfl) ⟨by decide, by decide, by decide, by decide⟩ ?_
  refine a_aload_n X dX4_clear_76 rfl ?_
  refine a_getr X lf4_27 (by first | exact q_o | assumption) rfl (by omega) dX4_clear_77 ?_
  refine a_iconst (v := -1) X dX4_clear_80 (by decide) ?_
  obtain ⟨M_81, f_81, h⟩ := zLtx h
  refine a_callSNu X dX4_clear_81 miX7_fill lm4_55 (zMu (c_fill (by first | exact q_wishes | assumption) (by decide)) f_81) rfl rfl (Nat.le_of_ble_eq_true rfl) ⟨by decide, by decide, by decide, by decide⟩ ?_
  refine a_aload_n X dX4_clear_84 rfl ?_
  refine a_getr X lf4_30 (by first | exact q_o | assumption) rfl (by omega) dX4_clear_85 ?_
  refine a_iconst (v := -1) X dX4_clear_88 (by decide) ?_
  obtain ⟨M_89, f_89, h⟩ := zLtx h
  refine a_callSNu X dX4_clear_89 miX7_fill lm4_55 (zMu (c_fill (by first | exact q_has | assumption) (by decide)) f_89) rfl rfl (Nat.le_of_ble_eq_true rfl) ⟨by decide, by decide, by decide, by decide⟩ ?_
  refine a_vret X hr dX4_clear_92 ⟨by decide, by decide⟩ ?_
  subst hF
  rw [← Option.some.inj h]
  exact ⟨rfl, rfl⟩
noncomputable def D_X3_isBlank_17  (y0_17 : Int32) : Option (Int32) :=
  some (y0_17)
noncomputable def D_X3_isBlank_12   : Option (Int32) :=
  D_X3_isBlank_17 (1 : Int32)
noncomputable def D_X3_isBlank  (v0 : Int32) : Option (Int32) :=
  if v0 = (10 : Int32) then
    D_X3_isBlank_12
  else
    if v0 = (32 : Int32) then
      D_X3_isBlank_12
    else
      D_X3_isBlank_17 (0 : Int32)
set_option maxRecDepth 100000 in
set_option maxHeartbeats 4000000 in
theorem t_X3_isBlank {l : Launch} {G : zG} {b : Nat} {L : List zC} {M : zMt} {N : zNt}  {v0 : Int32}  {r : Int32} (h : D_X3_isBlank v0 = some r) : zM l G b yX3_isBlank cX3_isBlank 1 (some .boolean) 0 0 0 [.int v0] (L, M, N) (fun r2 z => r2 = some (.int r) ∧ z = (L, M, N) ∧ (r = 0 ∨ r = 1)) := by
  refine zM.of miX3_isBlank (Nat.le_of_ble_eq_true rfl) ?_
  intro p e s m args below meth c X hr hname
  generalize hF : ((fun r2 z => r2 = some (.int r) ∧ z = (L, M, N) ∧ (r = 0 ∨ r = 1)) : Option Value → zS → Prop) = FQ
  change Zw p l e { frames := 0, cells := 0, slots := 0, locals := 80 * (0) } s m args below meth c G b 1 (MQ below (zQ G b FQ) args s 0 0 (fun q : Nat => b ≤ q)) 0 0 0 [some (.int v0)] [] (L, M, N)
  have J_17 : ∀ (x0_17 : Int32) (y0_17 : Int32), (y0_17 = 0 ∨ y0_17 = 1) → D_X3_isBlank_17 y0_17 = some r → Zw p l e { frames := 0, cells := 0, slots := 0, locals := 80 * (0) } s m args below meth c G b 1 (MQ below (zQ G b FQ) args s 0 0 (fun q : Nat => b ≤ q)) 0 0 17 [some (.int x0_17)] [.int y0_17] (L, M, N) := by
    intro x0_17 y0_17 fb_y0_17 h
    unfold D_X3_isBlank_17 at h
    refine a_zret X (by first | exact Or.inl rfl | exact Or.inr rfl | assumption) hr dX3_isBlank_17 ⟨by decide, by decide⟩ ?_
    subst hF
    rw [← Option.some.inj h]
    exact ⟨rfl, rfl, (by first | exact Or.inl rfl | exact Or.inr rfl | assumption)⟩
  have J_12 : ∀ (x0_12 : Int32), D_X3_isBlank_12 = some r → Zw p l e { frames := 0, cells := 0, slots := 0, locals := 80 * (0) } s m args below meth c G b 1 (MQ below (zQ G b FQ) args s 0 0 (fun q : Nat => b ≤ q)) 0 0 12 [some (.int x0_12)] [] (L, M, N) := by
    intro x0_12 h
    unfold D_X3_isBlank_12 at h
    refine a_iconst (v := 1) X dX3_isBlank_12 (by decide) ?_
    refine a_goto (tgt := 17) X dX3_isBlank_13 (by decide) ?_
    exact Zw.to2 (J_17 _ _ (by first | exact Or.inl rfl | exact Or.inr rfl | assumption) h) rfl rfl rfl
  unfold D_X3_isBlank at h
  refine a_iload_n X dX3_isBlank_0 rfl ?_
  refine a_bipush (v := 10) X dX3_isBlank_1 (by decide) ?_
  refine a_icmp_eq (tgt := 12) X dX3_isBlank_3 (by decide) (fun h_3 => ?_) (fun h_3 => ?_)
  · replace h := (if_pos h_3).symm.trans h
    exact Zw.to2 (J_12 _ h) rfl rfl rfl
  · replace h := (if_neg h_3).symm.trans h
    refine a_iload_n X dX3_isBlank_6 rfl ?_
    refine a_bipush (v := 32) X dX3_isBlank_7 (by decide) ?_
    refine a_icmp_ne (tgt := 16) X dX3_isBlank_9 (by decide) (fun h_9 => ?_) (fun h_9 => ?_)
    · replace h := (if_neg h_9).symm.trans h
      refine a_iconst (v := 0) X dX3_isBlank_16 (by decide) ?_
      exact Zw.to2 (J_17 _ _ (by first | exact Or.inl rfl | exact Or.inr rfl | assumption) h) rfl rfl rfl
    · replace h := (if_pos h_9).symm.trans h
      exact Zw.to2 (J_12 _ h) rfl rfl rfl
noncomputable def D_X3_isLetter_17  (y0_17 : Int32) : Option (Int32) :=
  some (y0_17)
noncomputable def D_X3_isLetter_16   : Option (Int32) :=
  D_X3_isLetter_17 (0 : Int32)
noncomputable def D_X3_isLetter  (v0 : Int32) : Option (Int32) :=
  if v0 < (97 : Int32) then
    D_X3_isLetter_16
  else
    if (122 : Int32) < v0 then
      D_X3_isLetter_16
    else
      D_X3_isLetter_17 (1 : Int32)
set_option maxRecDepth 100000 in
set_option maxHeartbeats 4000000 in
theorem t_X3_isLetter {l : Launch} {G : zG} {b : Nat} {L : List zC} {M : zMt} {N : zNt}  {v0 : Int32}  {r : Int32} (h : D_X3_isLetter v0 = some r) : zM l G b yX3_isLetter cX3_isLetter 1 (some .boolean) 0 0 0 [.int v0] (L, M, N) (fun r2 z => r2 = some (.int r) ∧ z = (L, M, N) ∧ (r = 0 ∨ r = 1)) := by
  refine zM.of miX3_isLetter (Nat.le_of_ble_eq_true rfl) ?_
  intro p e s m args below meth c X hr hname
  generalize hF : ((fun r2 z => r2 = some (.int r) ∧ z = (L, M, N) ∧ (r = 0 ∨ r = 1)) : Option Value → zS → Prop) = FQ
  change Zw p l e { frames := 0, cells := 0, slots := 0, locals := 80 * (0) } s m args below meth c G b 1 (MQ below (zQ G b FQ) args s 0 0 (fun q : Nat => b ≤ q)) 0 0 0 [some (.int v0)] [] (L, M, N)
  have J_17 : ∀ (x0_17 : Int32) (y0_17 : Int32), (y0_17 = 0 ∨ y0_17 = 1) → D_X3_isLetter_17 y0_17 = some r → Zw p l e { frames := 0, cells := 0, slots := 0, locals := 80 * (0) } s m args below meth c G b 1 (MQ below (zQ G b FQ) args s 0 0 (fun q : Nat => b ≤ q)) 0 0 17 [some (.int x0_17)] [.int y0_17] (L, M, N) := by
    intro x0_17 y0_17 fb_y0_17 h
    unfold D_X3_isLetter_17 at h
    refine a_zret X (by first | exact Or.inl rfl | exact Or.inr rfl | assumption) hr dX3_isLetter_17 ⟨by decide, by decide⟩ ?_
    subst hF
    rw [← Option.some.inj h]
    exact ⟨rfl, rfl, (by first | exact Or.inl rfl | exact Or.inr rfl | assumption)⟩
  have J_16 : ∀ (x0_16 : Int32), D_X3_isLetter_16 = some r → Zw p l e { frames := 0, cells := 0, slots := 0, locals := 80 * (0) } s m args below meth c G b 1 (MQ below (zQ G b FQ) args s 0 0 (fun q : Nat => b ≤ q)) 0 0 16 [some (.int x0_16)] [] (L, M, N) := by
    intro x0_16 h
    unfold D_X3_isLetter_16 at h
    refine a_iconst (v := 0) X dX3_isLetter_16 (by decide) ?_
    exact Zw.to2 (J_17 _ _ (by first | exact Or.inl rfl | exact Or.inr rfl | assumption) h) rfl rfl rfl
  unfold D_X3_isLetter at h
  refine a_iload_n X dX3_isLetter_0 rfl ?_
  refine a_bipush (v := 97) X dX3_isLetter_1 (by decide) ?_
  refine a_icmp_lt (tgt := 16) X dX3_isLetter_3 (by decide) (fun h_3 => ?_) (fun h_3 => ?_)
  · replace h := (if_pos h_3).symm.trans h
    exact Zw.to2 (J_16 _ h) rfl rfl rfl
  · replace h := (if_neg h_3).symm.trans h
    refine a_iload_n X dX3_isLetter_6 rfl ?_
    refine a_bipush (v := 122) X dX3_isLetter_7 (by decide) ?_
    refine a_icmp_gt (tgt := 16) X dX3_isLetter_9 (by decide) (fun h_9 => ?_) (fun h_9 => ?_)
    · replace h := (if_pos h_9).symm.trans h
      exact Zw.to2 (J_16 _ h) rfl rfl rfl
    · replace h := (if_neg h_9).symm.trans h
      refine a_iconst (v := 1) X dX3_isLetter_12 (by decide) ?_
      refine a_goto (tgt := 17) X dX3_isLetter_13 (by decide) ?_
      exact Zw.to2 (J_17 _ _ (by first | exact Or.inl rfl | exact Or.inr rfl | assumption) h) rfl rfl rfl
noncomputable def D_X3_stepWord_96 (Q : Nat) (y1_96 : Int32) (M_96 : zMt) (N_96 : zNt) : Option (zMt × zNt) :=
  zLt (zu M_96 Q 6 y1_96) fun M_96 =>
  some (M_96, N_96)
noncomputable def D_X3_stepWord_76 (Q : Nat) (M_76 : zMt) (N_76 : zNt) : Option (zMt × zNt) :=
  if (8 : Int32) < ((M_76 Q 5) - (M_76 Q 7)) then
    D_X3_stepWord_96 Q (4 : Int32) M_76 N_76
  else
    D_X3_stepWord_96 Q (1 : Int32) M_76 N_76
noncomputable def D_X3_stepWord_5 (Q : Nat) : Nat → zMt → zNt → Option (zMt × zNt)
  | 0, _, _ => none
  | n + 1, M_5, N_5 =>
    if (M_5 Q 4) ≤ (M_5 Q 5) then
      D_X3_stepWord_76 Q M_5 N_5
    else
      zB (D_X3_isLetter (zrd 0 (M_5 (Q + 9)) 700 (M_5 Q 5))) fun e_27 =>
      if e_27 = 0 then
        D_X3_stepWord_76 Q M_5 N_5
      else
        zLt (zu N_5 Q 8 (((N_5 Q 8) * (27 : Int64)) + (Int32.toInt64 (((zrd 0 (M_5 (Q + 9)) 700 (M_5 Q 5)) - (97 : Int32)) + (1 : Int32))))) fun N_60 =>
        zLt (zu M_5 Q 5 ((M_5 Q 5) + (1 : Int32))) fun M_70 =>
        (D_X3_stepWord_5 Q n) M_70 N_60
noncomputable def D_X3_stepWord (Q : Nat) (M : zMt) (N : zNt) : Option (zMt × zNt) :=
  zLt (zu N Q 8 (0 : Int64)) fun N_2 =>
  D_X3_stepWord_5 Q zFu M N_2
set_option maxRecDepth 100000 in
set_option maxHeartbeats 4000000 in
theorem t_X3_stepWord {l : Launch} {G : zG} {b : Nat} {L : List zC} {M : zMt} {N : zNt} {Q : Nat}  (hQ : LX3 L Q) {r : zMt × zNt} (h : D_X3_stepWord Q M N = some r) : zM l G b yX3_stepWord cX3_stepWord 1 none 1 0 0 [.ref Q] (L, M, N) (fun r2 z => r2 = none ∧ z = (L, r.1, r.2)) := by
  refine zM.of miX3_stepWord (Nat.le_of_ble_eq_true rfl) ?_
  intro p e s m args below meth c X hr hname
  generalize hF : ((fun r2 z => r2 = none ∧ z = (L, r.1, r.2)) : Option Value → zS → Prop) = FQ
  change Zw p l e { frames := 1, cells := 0, slots := 0, locals := 80 * (1) } s m args below meth c G b 1 (MQ below (zQ G b FQ) args s 0 0 (fun q : Nat => b ≤ q)) 0 0 0 [some (.ref Q)] [] (L, M, N)
  have q_lt := hQ.1
  have q_o := hQ.2.1
  have q_text := hQ.2.2.2.1
  have J_96 : ∀ (y1_96 : Int32) (M_96 : zMt) (N_96 : zNt), D_X3_stepWord_96 Q y1_96 M_96 N_96 = some r → Zw p l e { frames := 1, cells := 0, slots := 0, locals := 80 * (1) } s m args below meth c G b 1 (MQ below (zQ G b FQ) args s 0 0 (fun q : Nat => b ≤ q)) 0 0 96 [some (.ref (Q))] [.int y1_96, .ref (Q)] (L, M_96, N_96) := by
    intro y1_96 M_96 N_96 h
    unfold D_X3_stepWord_96 at h
    obtain ⟨M_96, f_96, h⟩ := zLtx h
    refine d_puti X lf3_74 (by first | exact q_o | assumption) rfl dX3_stepWord_96 f_96 ?_
    refine a_vret X hr dX3_stepWord_99 ⟨by decide, by decide⟩ ?_
    subst hF
    rw [← Option.some.inj h]
    exact ⟨rfl, rfl⟩
  have J_76 : ∀ (M_76 : zMt) (N_76 : zNt), D_X3_stepWord_76 Q M_76 N_76 = some r → Zw p l e { frames := 1, cells := 0, slots := 0, locals := 80 * (1) } s m args below meth c G b 1 (MQ below (zQ G b FQ) args s 0 0 (fun q : Nat => b ≤ q)) 0 0 76 [some (.ref (Q))] [] (L, M_76, N_76) := by
    intro M_76 N_76 h
    unfold D_X3_stepWord_76 at h
    refine a_aload_n X dX3_stepWord_76 rfl ?_
    refine a_aload_n X dX3_stepWord_77 rfl ?_
    refine a_geti X lf3_55 (by first | exact q_o | assumption) rfl dX3_stepWord_78 ?_
    refine a_aload_n X dX3_stepWord_81 rfl ?_
    refine a_geti X lf3_89 (by first | exact q_o | assumption) rfl dX3_stepWord_82 ?_
    refine a_isub X dX3_stepWord_85 ?_
    refine a_bipush (v := 8) X dX3_stepWord_86 (by decide) ?_
    refine a_icmp_gt (tgt := 95) X dX3_stepWord_88 (by decide) (fun h_88 => ?_) (fun h_88 => ?_)
    · replace h := (if_pos h_88).symm.trans h
      refine a_iconst (v := 4) X dX3_stepWord_95 (by decide) ?_
      exact Zw.to2 (J_96 _ _ _ h) rfl rfl rfl
    · replace h := (if_neg h_88).symm.trans h
      refine a_iconst (v := 1) X dX3_stepWord_91 (by decide) ?_
      refine a_goto (tgt := 96) X dX3_stepWord_92 (by decide) ?_
      exact Zw.to2 (J_96 _ _ _ h) rfl rfl rfl
  have L_5 : ∀ u : Nat, ∀ (M_5 : zMt) (N_5 : zNt), D_X3_stepWord_5 Q u M_5 N_5 = some r → Zw p l e { frames := 1, cells := 0, slots := 0, locals := 80 * (1) } s m args below meth c G b 1 (MQ below (zQ G b FQ) args s 0 0 (fun q : Nat => b ≤ q)) 0 0 5 [some (.ref (Q))] [] (L, M_5, N_5) := by
    intro u
    induction u with
    | zero => intro M_5 N_5 h; cases (show none = some r from h)
    | succ u_5 ih_5 =>
      intro M_5 N_5 h
      rw [D_X3_stepWord_5] at h
      refine a_aload_n X dX3_stepWord_5 rfl ?_
      refine a_geti X lf3_55 (by first | exact q_o | assumption) rfl dX3_stepWord_6 ?_
      refine a_aload_n X dX3_stepWord_9 rfl ?_
      refine a_geti X lf3_52 (by first | exact q_o | assumption) rfl dX3_stepWord_10 ?_
      refine a_icmp_ge (tgt := 76) X dX3_stepWord_13 (by decide) (fun h_13 => ?_) (fun h_13 => ?_)
      · replace h := (if_pos h_13).symm.trans h
        exact Zw.to2 (J_76 _ _ h) rfl rfl rfl
      · replace h := (if_neg h_13).symm.trans h
        refine a_aload_n X dX3_stepWord_16 rfl ?_
        refine a_getr X lf3_25 (by first | exact q_o | assumption) rfl (by omega) dX3_stepWord_17 ?_
        refine a_aload_n X dX3_stepWord_20 rfl ?_
        refine a_geti X lf3_55 (by first | exact q_o | assumption) rfl dX3_stepWord_21 ?_
        refine a_callSNv X dX3_stepWord_24 miX7_cell lm3_81 (c_cell (by first | exact q_text | assumption) (by decide)) rfl rfl (Nat.le_of_ble_eq_true rfl) ⟨by decide, by decide, by decide, by decide⟩ ?_
        obtain ⟨e_27, f_27, h⟩ := zBx h
        refine a_callSx X dX3_stepWord_27 miX3_isLetter lm3_92 (t_X3_isLetter f_27) rfl rfl (Nat.le_of_ble_eq_true rfl) ⟨by decide, by decide, by decide, by decide⟩ (fun r_27 S_27 q_27 => ?_)
        obtain ⟨rfl, rfl, b_27⟩ := q_27
        refine a_if_eq (tgt := 76) X dX3_stepWord_30 (by decide) (fun h_30 => ?_) (fun h_30 => ?_)
        · replace h := (if_pos h_30).symm.trans h
          exact Zw.to2 (J_76 _ _ h) rfl rfl rfl
        · replace h := (if_neg h_30).symm.trans h
          refine a_aload_n X dX3_stepWord_33 rfl ?_
          refine a_aload_n X dX3_stepWord_34 rfl ?_
          refine a_getl X lf3_104 (by first | exact q_o | assumption) rfl dX3_stepWord_35 ?_
          refine a_ldc2 X dX3_stepWord_38 lk3_108 ?_
          refine a_lmul X dX3_stepWord_41 ?_
          refine a_aload_n X dX3_stepWord_42 rfl ?_
          refine a_getr X lf3_25 (by first | exact q_o | assumption) rfl (by omega) dX3_stepWord_43 ?_
          refine a_aload_n X dX3_stepWord_46 rfl ?_
          refine a_geti X lf3_55 (by first | exact q_o | assumption) rfl dX3_stepWord_47 ?_
          refine a_callSNv X dX3_stepWord_50 miX7_cell lm3_81 (c_cell (by first | exact q_text | assumption) (by decide)) rfl rfl (Nat.le_of_ble_eq_true rfl) ⟨by decide, by decide, by decide, by decide⟩ ?_
          refine a_bipush (v := 97) X dX3_stepWord_53 (by decide) ?_
          refine a_isub X dX3_stepWord_55 ?_
          refine a_iconst (v := 1) X dX3_stepWord_56 (by decide) ?_
          refine a_iadd X dX3_stepWord_57 ?_
          refine a_i2l X dX3_stepWord_58 ?_
          refine a_ladd X dX3_stepWord_59 ?_
          obtain ⟨N_60, f_60, h⟩ := zLtx h
          refine d_putl X lf3_104 (by first | exact q_o | assumption) rfl dX3_stepWord_60 f_60 ?_
          refine a_aload_n X dX3_stepWord_63 rfl ?_
          refine a_dup X dX3_stepWord_64 rfl ?_
          refine a_geti X lf3_55 (by first | exact q_o | assumption) rfl dX3_stepWord_65 ?_
          refine a_iconst (v := 1) X dX3_stepWord_68 (by decide) ?_
          refine a_iadd X dX3_stepWord_69 ?_
          obtain ⟨M_70, f_70, h⟩ := zLtx h
          refine d_puti X lf3_55 (by first | exact q_o | assumption) rfl dX3_stepWord_70 f_70 ?_
          refine a_goto (tgt := 5) X dX3_stepWord_73 (by decide) ?_
          exact Zw.to2 (ih_5 _ _ h) rfl rfl rfl
  have H_5 : ∀ (M_5 : zMt) (N_5 : zNt), D_X3_stepWord_5 Q zFu M_5 N_5 = some r → Zw p l e { frames := 1, cells := 0, slots := 0, locals := 80 * (1) } s m args below meth c G b 1 (MQ below (zQ G b FQ) args s 0 0 (fun q : Nat => b ≤ q)) 0 0 5 [some (.ref (Q))] [] (L, M_5, N_5) := L_5 zFu
  unfold D_X3_stepWord at h
  refine a_aload_n X dX3_stepWord_0 rfl ?_
  refine a_lconst (v := 0) X dX3_stepWord_1 (by decide) ?_
  obtain ⟨N_2, f_2, h⟩ := zLtx h
  refine d_putl X lf3_104 (by first | exact q_o | assumption) rfl dX3_stepWord_2 f_2 ?_
  exact Zw.to2 (H_5 _ _ h) rfl rfl rfl
noncomputable def D_X3_isDigit_17  (y0_17 : Int32) : Option (Int32) :=
  some (y0_17)
noncomputable def D_X3_isDigit_16   : Option (Int32) :=
  D_X3_isDigit_17 (0 : Int32)
noncomputable def D_X3_isDigit  (v0 : Int32) : Option (Int32) :=
  if v0 < (48 : Int32) then
    D_X3_isDigit_16
  else
    if (57 : Int32) < v0 then
      D_X3_isDigit_16
    else
      D_X3_isDigit_17 (1 : Int32)
set_option maxRecDepth 100000 in
set_option maxHeartbeats 4000000 in
theorem t_X3_isDigit {l : Launch} {G : zG} {b : Nat} {L : List zC} {M : zMt} {N : zNt}  {v0 : Int32}  {r : Int32} (h : D_X3_isDigit v0 = some r) : zM l G b yX3_isDigit cX3_isDigit 1 (some .boolean) 0 0 0 [.int v0] (L, M, N) (fun r2 z => r2 = some (.int r) ∧ z = (L, M, N) ∧ (r = 0 ∨ r = 1)) := by
  refine zM.of miX3_isDigit (Nat.le_of_ble_eq_true rfl) ?_
  intro p e s m args below meth c X hr hname
  generalize hF : ((fun r2 z => r2 = some (.int r) ∧ z = (L, M, N) ∧ (r = 0 ∨ r = 1)) : Option Value → zS → Prop) = FQ
  change Zw p l e { frames := 0, cells := 0, slots := 0, locals := 80 * (0) } s m args below meth c G b 1 (MQ below (zQ G b FQ) args s 0 0 (fun q : Nat => b ≤ q)) 0 0 0 [some (.int v0)] [] (L, M, N)
  have J_17 : ∀ (x0_17 : Int32) (y0_17 : Int32), (y0_17 = 0 ∨ y0_17 = 1) → D_X3_isDigit_17 y0_17 = some r → Zw p l e { frames := 0, cells := 0, slots := 0, locals := 80 * (0) } s m args below meth c G b 1 (MQ below (zQ G b FQ) args s 0 0 (fun q : Nat => b ≤ q)) 0 0 17 [some (.int x0_17)] [.int y0_17] (L, M, N) := by
    intro x0_17 y0_17 fb_y0_17 h
    unfold D_X3_isDigit_17 at h
    refine a_zret X (by first | exact Or.inl rfl | exact Or.inr rfl | assumption) hr dX3_isDigit_17 ⟨by decide, by decide⟩ ?_
    subst hF
    rw [← Option.some.inj h]
    exact ⟨rfl, rfl, (by first | exact Or.inl rfl | exact Or.inr rfl | assumption)⟩
  have J_16 : ∀ (x0_16 : Int32), D_X3_isDigit_16 = some r → Zw p l e { frames := 0, cells := 0, slots := 0, locals := 80 * (0) } s m args below meth c G b 1 (MQ below (zQ G b FQ) args s 0 0 (fun q : Nat => b ≤ q)) 0 0 16 [some (.int x0_16)] [] (L, M, N) := by
    intro x0_16 h
    unfold D_X3_isDigit_16 at h
    refine a_iconst (v := 0) X dX3_isDigit_16 (by decide) ?_
    exact Zw.to2 (J_17 _ _ (by first | exact Or.inl rfl | exact Or.inr rfl | assumption) h) rfl rfl rfl
  unfold D_X3_isDigit at h
  refine a_iload_n X dX3_isDigit_0 rfl ?_
  refine a_bipush (v := 48) X dX3_isDigit_1 (by decide) ?_
  refine a_icmp_lt (tgt := 16) X dX3_isDigit_3 (by decide) (fun h_3 => ?_) (fun h_3 => ?_)
  · replace h := (if_pos h_3).symm.trans h
    exact Zw.to2 (J_16 _ h) rfl rfl rfl
  · replace h := (if_neg h_3).symm.trans h
    refine a_iload_n X dX3_isDigit_6 rfl ?_
    refine a_bipush (v := 57) X dX3_isDigit_7 (by decide) ?_
    refine a_icmp_gt (tgt := 16) X dX3_isDigit_9 (by decide) (fun h_9 => ?_) (fun h_9 => ?_)
    · replace h := (if_pos h_9).symm.trans h
      exact Zw.to2 (J_16 _ h) rfl rfl rfl
    · replace h := (if_neg h_9).symm.trans h
      refine a_iconst (v := 1) X dX3_isDigit_12 (by decide) ?_
      refine a_goto (tgt := 17) X dX3_isDigit_13 (by decide) ?_
      exact Zw.to2 (J_17 _ _ (by first | exact Or.inl rfl | exact Or.inr rfl | assumption) h) rfl rfl rfl
noncomputable def D_X3_stepNumber_91 (Q : Nat) (y1_91 : Int32) (M_91 : zMt) : Option (zMt) :=
  zLt (zu M_91 Q 6 y1_91) fun M_91 =>
  some (M_91)
noncomputable def D_X3_stepNumber_72 (Q : Nat) (M_72 : zMt) : Option (zMt) :=
  if (3 : Int32) < ((M_72 Q 5) - (M_72 Q 7)) then
    D_X3_stepNumber_91 Q (4 : Int32) M_72
  else
    D_X3_stepNumber_91 Q (2 : Int32) M_72
noncomputable def D_X3_stepNumber_5 (Q : Nat) : Nat → zMt → Option (zMt)
  | 0, _ => none
  | n + 1, M_5 =>
    if (M_5 Q 4) ≤ (M_5 Q 5) then
      D_X3_stepNumber_72 Q M_5
    else
      zB (D_X3_isDigit (zrd 0 (M_5 (Q + 9)) 700 (M_5 Q 5))) fun e_27 =>
      if e_27 = 0 then
        D_X3_stepNumber_72 Q M_5
      else
        zLt (zu M_5 Q 9 (((M_5 Q 9) * (10 : Int32)) + ((zrd 0 (M_5 (Q + 9)) 700 (M_5 Q 5)) - (48 : Int32)))) fun M_56 =>
        zLt (zu M_56 Q 5 ((M_56 Q 5) + (1 : Int32))) fun M_66 =>
        (D_X3_stepNumber_5 Q n) M_66
noncomputable def D_X3_stepNumber (Q : Nat) (M : zMt) : Option (zMt) :=
  zLt (zu M Q 9 (0 : Int32)) fun M_2 =>
  D_X3_stepNumber_5 Q zFu M_2
set_option maxRecDepth 100000 in
set_option maxHeartbeats 4000000 in
theorem t_X3_stepNumber {l : Launch} {G : zG} {b : Nat} {L : List zC} {M : zMt} {N : zNt} {Q : Nat}  (hQ : LX3 L Q) {r : zMt} (h : D_X3_stepNumber Q M = some r) : zM l G b yX3_stepNumber cX3_stepNumber 1 none 1 0 0 [.ref Q] (L, M, N) (fun r2 z => r2 = none ∧ z = (L, r, N)) := by
  refine zM.of miX3_stepNumber (Nat.le_of_ble_eq_true rfl) ?_
  intro p e s m args below meth c X hr hname
  generalize hF : ((fun r2 z => r2 = none ∧ z = (L, r, N)) : Option Value → zS → Prop) = FQ
  change Zw p l e { frames := 1, cells := 0, slots := 0, locals := 80 * (1) } s m args below meth c G b 1 (MQ below (zQ G b FQ) args s 0 0 (fun q : Nat => b ≤ q)) 0 0 0 [some (.ref Q)] [] (L, M, N)
  have q_lt := hQ.1
  have q_o := hQ.2.1
  have q_text := hQ.2.2.2.1
  have J_91 : ∀ (y1_91 : Int32) (M_91 : zMt), D_X3_stepNumber_91 Q y1_91 M_91 = some r → Zw p l e { frames := 1, cells := 0, slots := 0, locals := 80 * (1) } s m args below meth c G b 1 (MQ below (zQ G b FQ) args s 0 0 (fun q : Nat => b ≤ q)) 0 0 91 [some (.ref (Q))] [.int y1_91, .ref (Q)] (L, M_91, N) := by
    intro y1_91 M_91 h
    unfold D_X3_stepNumber_91 at h
    obtain ⟨M_91, f_91, h⟩ := zLtx h
    refine d_puti X lf3_74 (by first | exact q_o | assumption) rfl dX3_stepNumber_91 f_91 ?_
    refine a_vret X hr dX3_stepNumber_94 ⟨by decide, by decide⟩ ?_
    subst hF
    rw [← Option.some.inj h]
    exact ⟨rfl, rfl⟩
  have J_72 : ∀ (M_72 : zMt), D_X3_stepNumber_72 Q M_72 = some r → Zw p l e { frames := 1, cells := 0, slots := 0, locals := 80 * (1) } s m args below meth c G b 1 (MQ below (zQ G b FQ) args s 0 0 (fun q : Nat => b ≤ q)) 0 0 72 [some (.ref (Q))] [] (L, M_72, N) := by
    intro M_72 h
    unfold D_X3_stepNumber_72 at h
    refine a_aload_n X dX3_stepNumber_72 rfl ?_
    refine a_aload_n X dX3_stepNumber_73 rfl ?_
    refine a_geti X lf3_55 (by first | exact q_o | assumption) rfl dX3_stepNumber_74 ?_
    refine a_aload_n X dX3_stepNumber_77 rfl ?_
    refine a_geti X lf3_89 (by first | exact q_o | assumption) rfl dX3_stepNumber_78 ?_
    refine a_isub X dX3_stepNumber_81 ?_
    refine a_iconst (v := 3) X dX3_stepNumber_82 (by decide) ?_
    refine a_icmp_gt (tgt := 90) X dX3_stepNumber_83 (by decide) (fun h_83 => ?_) (fun h_83 => ?_)
    · replace h := (if_pos h_83).symm.trans h
      refine a_iconst (v := 4) X dX3_stepNumber_90 (by decide) ?_
      exact Zw.to2 (J_91 _ _ h) rfl rfl rfl
    · replace h := (if_neg h_83).symm.trans h
      refine a_iconst (v := 2) X dX3_stepNumber_86 (by decide) ?_
      refine a_goto (tgt := 91) X dX3_stepNumber_87 (by decide) ?_
      exact Zw.to2 (J_91 _ _ h) rfl rfl rfl
  have L_5 : ∀ u : Nat, ∀ (M_5 : zMt), D_X3_stepNumber_5 Q u M_5 = some r → Zw p l e { frames := 1, cells := 0, slots := 0, locals := 80 * (1) } s m args below meth c G b 1 (MQ below (zQ G b FQ) args s 0 0 (fun q : Nat => b ≤ q)) 0 0 5 [some (.ref (Q))] [] (L, M_5, N) := by
    intro u
    induction u with
    | zero => intro M_5 h; cases (show none = some r from h)
    | succ u_5 ih_5 =>
      intro M_5 h
      rw [D_X3_stepNumber_5] at h
      refine a_aload_n X dX3_stepNumber_5 rfl ?_
      refine a_geti X lf3_55 (by first | exact q_o | assumption) rfl dX3_stepNumber_6 ?_
      refine a_aload_n X dX3_stepNumber_9 rfl ?_
      refine a_geti X lf3_52 (by first | exact q_o | assumption) rfl dX3_stepNumber_10 ?_
      refine a_icmp_ge (tgt := 72) X dX3_stepNumber_13 (by decide) (fun h_13 => ?_) (fun h_13 => ?_)
      · replace h := (if_pos h_13).symm.trans h
        exact Zw.to2 (J_72 _ h) rfl rfl rfl
      · replace h := (if_neg h_13).symm.trans h
        refine a_aload_n X dX3_stepNumber_16 rfl ?_
        refine a_getr X lf3_25 (by first | exact q_o | assumption) rfl (by omega) dX3_stepNumber_17 ?_
        refine a_aload_n X dX3_stepNumber_20 rfl ?_
        refine a_geti X lf3_55 (by first | exact q_o | assumption) rfl dX3_stepNumber_21 ?_
        refine a_callSNv X dX3_stepNumber_24 miX7_cell lm3_81 (c_cell (by first | exact q_text | assumption) (by decide)) rfl rfl (Nat.le_of_ble_eq_true rfl) ⟨by decide, by decide, by decide, by decide⟩ ?_
        obtain ⟨e_27, f_27, h⟩ := zBx h
        refine a_callSx X dX3_stepNumber_27 miX3_isDigit lm3_98 (t_X3_isDigit f_27) rfl rfl (Nat.le_of_ble_eq_true rfl) ⟨by decide, by decide, by decide, by decide⟩ (fun r_27 S_27 q_27 => ?_)
        obtain ⟨rfl, rfl, b_27⟩ := q_27
        refine a_if_eq (tgt := 72) X dX3_stepNumber_30 (by decide) (fun h_30 => ?_) (fun h_30 => ?_)
        · replace h := (if_pos h_30).symm.trans h
          exact Zw.to2 (J_72 _ h) rfl rfl rfl
        · replace h := (if_neg h_30).symm.trans h
          refine a_aload_n X dX3_stepNumber_33 rfl ?_
          refine a_aload_n X dX3_stepNumber_34 rfl ?_
          refine a_geti X lf3_110 (by first | exact q_o | assumption) rfl dX3_stepNumber_35 ?_
          refine a_bipush (v := 10) X dX3_stepNumber_38 (by decide) ?_
          refine a_imul X dX3_stepNumber_40 ?_
          refine a_aload_n X dX3_stepNumber_41 rfl ?_
          refine a_getr X lf3_25 (by first | exact q_o | assumption) rfl (by omega) dX3_stepNumber_42 ?_
          refine a_aload_n X dX3_stepNumber_45 rfl ?_
          refine a_geti X lf3_55 (by first | exact q_o | assumption) rfl dX3_stepNumber_46 ?_
          refine a_callSNv X dX3_stepNumber_49 miX7_cell lm3_81 (c_cell (by first | exact q_text | assumption) (by decide)) rfl rfl (Nat.le_of_ble_eq_true rfl) ⟨by decide, by decide, by decide, by decide⟩ ?_
          refine a_bipush (v := 48) X dX3_stepNumber_52 (by decide) ?_
          refine a_isub X dX3_stepNumber_54 ?_
          refine a_iadd X dX3_stepNumber_55 ?_
          obtain ⟨M_56, f_56, h⟩ := zLtx h
          refine d_puti X lf3_110 (by first | exact q_o | assumption) rfl dX3_stepNumber_56 f_56 ?_
          refine a_aload_n X dX3_stepNumber_59 rfl ?_
          refine a_dup X dX3_stepNumber_60 rfl ?_
          refine a_geti X lf3_55 (by first | exact q_o | assumption) rfl dX3_stepNumber_61 ?_
          refine a_iconst (v := 1) X dX3_stepNumber_64 (by decide) ?_
          refine a_iadd X dX3_stepNumber_65 ?_
          obtain ⟨M_66, f_66, h⟩ := zLtx h
          refine d_puti X lf3_55 (by first | exact q_o | assumption) rfl dX3_stepNumber_66 f_66 ?_
          refine a_goto (tgt := 5) X dX3_stepNumber_69 (by decide) ?_
          exact Zw.to2 (ih_5 _ h) rfl rfl rfl
  have H_5 : ∀ (M_5 : zMt), D_X3_stepNumber_5 Q zFu M_5 = some r → Zw p l e { frames := 1, cells := 0, slots := 0, locals := 80 * (1) } s m args below meth c G b 1 (MQ below (zQ G b FQ) args s 0 0 (fun q : Nat => b ≤ q)) 0 0 5 [some (.ref (Q))] [] (L, M_5, N) := L_5 zFu
  unfold D_X3_stepNumber at h
  refine a_aload_n X dX3_stepNumber_0 rfl ?_
  refine a_iconst (v := 0) X dX3_stepNumber_1 (by decide) ?_
  obtain ⟨M_2, f_2, h⟩ := zLtx h
  refine d_puti X lf3_110 (by first | exact q_o | assumption) rfl dX3_stepNumber_2 f_2 ?_
  exact Zw.to2 (H_5 _ h) rfl rfl rfl
noncomputable def D_X3_step_137 (Q : Nat) (M_137 : zMt) (N_137 : zNt) : Option (zMt × zNt) :=
  some (M_137, N_137)
noncomputable def D_X3_step_41 (Q : Nat) (M_41 : zMt) (N_41 : zNt) : Option (zMt × zNt) :=
  zLt (zu M_41 Q 7 (M_41 Q 5)) fun M_46 =>
  if (M_46 Q 5) < (M_46 Q 4) then
    zB (D_X3_isLetter (zrd 0 (M_46 (Q + 9)) 700 (M_46 Q 5))) fun e_81 =>
    if e_81 = 0 then
      zB (D_X3_isDigit (zrd 0 (M_46 (Q + 9)) 700 (M_46 Q 5))) fun e_95 =>
      if e_95 = 0 then
        if (zrd 0 (M_46 (Q + 9)) 700 (M_46 Q 5)) = (59 : Int32) then
          zLt (zu M_46 Q 6 (3 : Int32)) fun M_116 =>
          zLt (zu M_116 Q 5 ((M_116 Q 5) + (1 : Int32))) fun M_126 =>
          D_X3_step_137 Q M_126 N_41
        else
          zLt (zu M_46 Q 6 (4 : Int32)) fun M_134 =>
          D_X3_step_137 Q M_134 N_41
      else
        zB (D_X3_stepNumber Q M_46) fun e_102 =>
        D_X3_step_137 Q e_102 N_41
    else
      zB (D_X3_stepWord Q M_46 N_41) fun e_88 =>
      D_X3_step_137 Q e_88.1 e_88.2
  else
    zLt (zu M_46 Q 6 (0 : Int32)) fun M_74 =>
    D_X3_step_137 Q M_74 N_41
noncomputable def D_X3_step_0 (Q : Nat) : Nat → zMt → zNt → Option (zMt × zNt)
  | 0, _, _ => none
  | n + 1, M_0, N_0 =>
    if (M_0 Q 4) ≤ (M_0 Q 5) then
      D_X3_step_41 Q M_0 N_0
    else
      zB (D_X3_isBlank (zrd 0 (M_0 (Q + 9)) 700 (M_0 Q 5))) fun e_22 =>
      if e_22 = 0 then
        D_X3_step_41 Q M_0 N_0
      else
        zLt (zu M_0 Q 5 ((M_0 Q 5) + (1 : Int32))) fun M_35 =>
        (D_X3_step_0 Q n) M_35 N_0
noncomputable def D_X3_step (Q : Nat) (M : zMt) (N : zNt) : Option (zMt × zNt) :=
  D_X3_step_0 Q zFu M N
set_option maxRecDepth 100000 in
set_option maxHeartbeats 4000000 in
theorem t_X3_step {l : Launch} {G : zG} {b : Nat} {L : List zC} {M : zMt} {N : zNt} {Q : Nat}  (hQ : LX3 L Q) {r : zMt × zNt} (h : D_X3_step Q M N = some r) : zM l G b yX3_step cX3_step 2 none 2 0 0 [.ref Q] (L, M, N) (fun r2 z => r2 = none ∧ z = (L, r.1, r.2)) := by
  refine zM.of miX3_step (Nat.le_of_ble_eq_true rfl) ?_
  intro p e s m args below meth c X hr hname
  generalize hF : ((fun r2 z => r2 = none ∧ z = (L, r.1, r.2)) : Option Value → zS → Prop) = FQ
  change Zw p l e { frames := 2, cells := 0, slots := 0, locals := 80 * (2) } s m args below meth c G b 2 (MQ below (zQ G b FQ) args s 0 0 (fun q : Nat => b ≤ q)) 0 0 0 [some (.ref Q), none] [] (L, M, N)
  have q_lt := hQ.1
  have q_o := hQ.2.1
  have q_text := hQ.2.2.2.1
  have J_137 : ∀ (x1_137 : Int32) (M_137 : zMt) (N_137 : zNt), D_X3_step_137 Q M_137 N_137 = some r → Zw p l e { frames := 2, cells := 0, slots := 0, locals := 80 * (2) } s m args below meth c G b 2 (MQ below (zQ G b FQ) args s 0 0 (fun q : Nat => b ≤ q)) 0 0 137 [some (.ref (Q)), some (.int x1_137)] [] (L, M_137, N_137) := by
    intro x1_137 M_137 N_137 h
    unfold D_X3_step_137 at h
    refine a_vret X hr dX3_step_137 ⟨by decide, by decide⟩ ?_
    subst hF
    rw [← Option.some.inj h]
    exact ⟨rfl, rfl⟩
  have J_41 : ∀ (x1_41 : Option Value) (M_41 : zMt) (N_41 : zNt), D_X3_step_41 Q M_41 N_41 = some r → Zw p l e { frames := 2, cells := 0, slots := 0, locals := 80 * (2) } s m args below meth c G b 2 (MQ below (zQ G b FQ) args s 0 0 (fun q : Nat => b ≤ q)) 0 0 41 [some (.ref (Q)), x1_41] [] (L, M_41, N_41) := by
    intro x1_41 M_41 N_41 h
    unfold D_X3_step_41 at h
    refine a_aload_n X dX3_step_41 rfl ?_
    refine a_aload_n X dX3_step_42 rfl ?_
    refine a_geti X lf3_55 (by first | exact q_o | assumption) rfl dX3_step_43 ?_
    obtain ⟨M_46, f_46, h⟩ := zLtx h
    refine d_puti X lf3_89 (by first | exact q_o | assumption) rfl dX3_step_46 f_46 ?_
    refine a_aload_n X dX3_step_49 rfl ?_
    refine a_getr X lf3_25 (by first | exact q_o | assumption) rfl (by omega) dX3_step_50 ?_
    refine a_aload_n X dX3_step_53 rfl ?_
    refine a_geti X lf3_55 (by first | exact q_o | assumption) rfl dX3_step_54 ?_
    refine a_callSNv X dX3_step_57 miX7_cell lm3_81 (c_cell (by first | exact q_text | assumption) (by decide)) rfl rfl (Nat.le_of_ble_eq_true rfl) ⟨by decide, by decide, by decide, by decide⟩ ?_
    refine a_istore_n X dX3_step_60 (by decide) ?_
    refine a_aload_n X dX3_step_61 rfl ?_
    refine a_geti X lf3_55 (by first | exact q_o | assumption) rfl dX3_step_62 ?_
    refine a_aload_n X dX3_step_65 rfl ?_
    refine a_geti X lf3_52 (by first | exact q_o | assumption) rfl dX3_step_66 ?_
    refine a_icmp_lt (tgt := 80) X dX3_step_69 (by decide) (fun h_69 => ?_) (fun h_69 => ?_)
    · replace h := (if_pos h_69).symm.trans h
      refine a_iload_n X dX3_step_80 rfl ?_
      obtain ⟨e_81, f_81, h⟩ := zBx h
      refine a_callSx X dX3_step_81 miX3_isLetter lm3_92 (t_X3_isLetter f_81) rfl rfl (Nat.le_of_ble_eq_true rfl) ⟨by decide, by decide, by decide, by decide⟩ (fun r_81 S_81 q_81 => ?_)
      obtain ⟨rfl, rfl, b_81⟩ := q_81
      refine a_if_eq (tgt := 94) X dX3_step_84 (by decide) (fun h_84 => ?_) (fun h_84 => ?_)
      · replace h := (if_pos h_84).symm.trans h
        refine a_iload_n X dX3_step_94 rfl ?_
        obtain ⟨e_95, f_95, h⟩ := zBx h
        refine a_callSx X dX3_step_95 miX3_isDigit lm3_98 (t_X3_isDigit f_95) rfl rfl (Nat.le_of_ble_eq_true rfl) ⟨by decide, by decide, by decide, by decide⟩ (fun r_95 S_95 q_95 => ?_)
        obtain ⟨rfl, rfl, b_95⟩ := q_95
        refine a_if_eq (tgt := 108) X dX3_step_98 (by decide) (fun h_98 => ?_) (fun h_98 => ?_)
        · replace h := (if_pos h_98).symm.trans h
          refine a_iload_n X dX3_step_108 rfl ?_
          refine a_bipush (v := 59) X dX3_step_109 (by decide) ?_
          refine a_icmp_ne (tgt := 132) X dX3_step_111 (by decide) (fun h_111 => ?_) (fun h_111 => ?_)
          · replace h := (if_neg h_111).symm.trans h
            refine a_aload_n X dX3_step_132 rfl ?_
            refine a_iconst (v := 4) X dX3_step_133 (by decide) ?_
            obtain ⟨M_134, f_134, h⟩ := zLtx h
            refine d_puti X lf3_74 (by first | exact q_o | assumption) rfl dX3_step_134 f_134 ?_
            exact Zw.to2 (J_137 _ _ _ h) rfl rfl rfl
          · replace h := (if_pos h_111).symm.trans h
            refine a_aload_n X dX3_step_114 rfl ?_
            refine a_iconst (v := 3) X dX3_step_115 (by decide) ?_
            obtain ⟨M_116, f_116, h⟩ := zLtx h
            refine d_puti X lf3_74 (by first | exact q_o | assumption) rfl dX3_step_116 f_116 ?_
            refine a_aload_n X dX3_step_119 rfl ?_
            refine a_dup X dX3_step_120 rfl ?_
            refine a_geti X lf3_55 (by first | exact q_o | assumption) rfl dX3_step_121 ?_
            refine a_iconst (v := 1) X dX3_step_124 (by decide) ?_
            refine a_iadd X dX3_step_125 ?_
            obtain ⟨M_126, f_126, h⟩ := zLtx h
            refine d_puti X lf3_55 (by first | exact q_o | assumption) rfl dX3_step_126 f_126 ?_
            refine a_goto (tgt := 137) X dX3_step_129 (by decide) ?_
            exact Zw.to2 (J_137 _ _ _ h) rfl rfl rfl
        · replace h := (if_neg h_98).symm.trans h
          refine a_aload_n X dX3_step_101 rfl ?_
          obtain ⟨e_102, f_102, h⟩ := zBx h
          refine a_callVu X dX3_step_102 miX3_stepNumber lm3_101 (t_X3_stepNumber (by first | exact hQ | assumption) f_102) (by first | exact q_o | assumption) rfl rfl rfl (Nat.le_of_ble_eq_true rfl) ⟨by decide, by decide, by decide, by decide⟩ ?_
          refine a_goto (tgt := 137) X dX3_step_105 (by decide) ?_
          exact Zw.to2 (J_137 _ _ _ h) rfl rfl rfl
      · replace h := (if_neg h_84).symm.trans h
        refine a_aload_n X dX3_step_87 rfl ?_
        obtain ⟨e_88, f_88, h⟩ := zBx h
        refine a_callVu X dX3_step_88 miX3_stepWord lm3_95 (t_X3_stepWord (by first | exact hQ | assumption) f_88) (by first | exact q_o | assumption) rfl rfl rfl (Nat.le_of_ble_eq_true rfl) ⟨by decide, by decide, by decide, by decide⟩ ?_
        refine a_goto (tgt := 137) X dX3_step_91 (by decide) ?_
        exact Zw.to2 (J_137 _ _ _ h) rfl rfl rfl
    · replace h := (if_neg h_69).symm.trans h
      refine a_aload_n X dX3_step_72 rfl ?_
      refine a_iconst (v := 0) X dX3_step_73 (by decide) ?_
      obtain ⟨M_74, f_74, h⟩ := zLtx h
      refine d_puti X lf3_74 (by first | exact q_o | assumption) rfl dX3_step_74 f_74 ?_
      refine a_goto (tgt := 137) X dX3_step_77 (by decide) ?_
      exact Zw.to2 (J_137 _ _ _ h) rfl rfl rfl
  have L_0 : ∀ u : Nat, ∀ (x1_0 : Option Value) (M_0 : zMt) (N_0 : zNt), D_X3_step_0 Q u M_0 N_0 = some r → Zw p l e { frames := 2, cells := 0, slots := 0, locals := 80 * (2) } s m args below meth c G b 2 (MQ below (zQ G b FQ) args s 0 0 (fun q : Nat => b ≤ q)) 0 0 0 [some (.ref (Q)), x1_0] [] (L, M_0, N_0) := by
    intro u
    induction u with
    | zero => intro x1_0 M_0 N_0 h; cases (show none = some r from h)
    | succ u_0 ih_0 =>
      intro x1_0 M_0 N_0 h
      rw [D_X3_step_0] at h
      refine a_aload_n X dX3_step_0 rfl ?_
      refine a_geti X lf3_55 (by first | exact q_o | assumption) rfl dX3_step_1 ?_
      refine a_aload_n X dX3_step_4 rfl ?_
      refine a_geti X lf3_52 (by first | exact q_o | assumption) rfl dX3_step_5 ?_
      refine a_icmp_ge (tgt := 41) X dX3_step_8 (by decide) (fun h_8 => ?_) (fun h_8 => ?_)
      · replace h := (if_pos h_8).symm.trans h
        exact Zw.to2 (J_41 _ _ _ h) rfl rfl rfl
      · replace h := (if_neg h_8).symm.trans h
        refine a_aload_n X dX3_step_11 rfl ?_
        refine a_getr X lf3_25 (by first | exact q_o | assumption) rfl (by omega) dX3_step_12 ?_
        refine a_aload_n X dX3_step_15 rfl ?_
        refine a_geti X lf3_55 (by first | exact q_o | assumption) rfl dX3_step_16 ?_
        refine a_callSNv X dX3_step_19 miX7_cell lm3_81 (c_cell (by first | exact q_text | assumption) (by decide)) rfl rfl (Nat.le_of_ble_eq_true rfl) ⟨by decide, by decide, by decide, by decide⟩ ?_
        obtain ⟨e_22, f_22, h⟩ := zBx h
        refine a_callSx X dX3_step_22 miX3_isBlank lm3_85 (t_X3_isBlank f_22) rfl rfl (Nat.le_of_ble_eq_true rfl) ⟨by decide, by decide, by decide, by decide⟩ (fun r_22 S_22 q_22 => ?_)
        obtain ⟨rfl, rfl, b_22⟩ := q_22
        refine a_if_eq (tgt := 41) X dX3_step_25 (by decide) (fun h_25 => ?_) (fun h_25 => ?_)
        · replace h := (if_pos h_25).symm.trans h
          exact Zw.to2 (J_41 _ _ _ h) rfl rfl rfl
        · replace h := (if_neg h_25).symm.trans h
          refine a_aload_n X dX3_step_28 rfl ?_
          refine a_dup X dX3_step_29 rfl ?_
          refine a_geti X lf3_55 (by first | exact q_o | assumption) rfl dX3_step_30 ?_
          refine a_iconst (v := 1) X dX3_step_33 (by decide) ?_
          refine a_iadd X dX3_step_34 ?_
          obtain ⟨M_35, f_35, h⟩ := zLtx h
          refine d_puti X lf3_55 (by first | exact q_o | assumption) rfl dX3_step_35 f_35 ?_
          refine a_goto (tgt := 0) X dX3_step_38 (by decide) ?_
          exact Zw.to2 (ih_0 _ _ _ h) rfl rfl rfl
  have H_0 : ∀ (x1_0 : Option Value) (M_0 : zMt) (N_0 : zNt), D_X3_step_0 Q zFu M_0 N_0 = some r → Zw p l e { frames := 2, cells := 0, slots := 0, locals := 80 * (2) } s m args below meth c G b 2 (MQ below (zQ G b FQ) args s 0 0 (fun q : Nat => b ≤ q)) 0 0 0 [some (.ref (Q)), x1_0] [] (L, M_0, N_0) := L_0 zFu
  unfold D_X3_step at h
  exact Zw.to2 (H_0 _ _ _ h) rfl rfl rfl
noncomputable def D_X3_says_28 (Q : Nat) (w0 : Nat) (M : zMt) : Nat → Int32 → Option (Int32)
  | 0, _ => none
  | n + 1, x2_28 =>
    if (Int32.ofNat (zLen.getD w0 0)) ≤ x2_28 then
      some ((1 : Int32))
    else
      zI x2_28 (zLen.getD w0 0) <|
      if (zrd 0 (M (Q + 9)) 700 ((M Q 7) + x2_28)) = (zCh w0 x2_28.toNatClampNeg) then
        (D_X3_says_28 Q w0 M n) (x2_28 + 1)
      else
        some ((0 : Int32))
noncomputable def D_X3_says_24 (Q : Nat) (w0 : Nat) (M : zMt)  : Option (Int32) :=
  some ((0 : Int32))
noncomputable def D_X3_says (Q : Nat) (w0 : Nat) (M : zMt)  : Option (Int32) :=
  if (M Q 6) = (1 : Int32) then
    if ((M Q 5) - (M Q 7)) = (Int32.ofNat (zLen.getD w0 0)) then
      D_X3_says_28 Q w0 M zFu (0 : Int32)
    else
      D_X3_says_24 Q w0 M
  else
    D_X3_says_24 Q w0 M
set_option maxRecDepth 100000 in
set_option maxHeartbeats 4000000 in
theorem t_X3_says {l : Launch} {G : zG} {b : Nat} {L : List zC} {M : zMt} {N : zNt} {Q : Nat} {w0 : Nat}  (hQ : LX3 L Q) (hw0 : w0 < zLit.length) {r : Int32} (h : D_X3_says Q w0 M = some r) : zM l G b yX3_says cX3_says 3 (some .boolean) 4 0 0 [.ref Q, .ref (1000000 + zKa G w0)] (L, M, N) (fun r2 z => r2 = some (.int r) ∧ z = (L, M, N) ∧ (r = 0 ∨ r = 1)) := by
  refine zM.of miX3_says (Nat.le_of_ble_eq_true rfl) ?_
  intro p e s m args below meth c X hr hname
  generalize hF : ((fun r2 z => r2 = some (.int r) ∧ z = (L, M, N) ∧ (r = 0 ∨ r = 1)) : Option Value → zS → Prop) = FQ
  change Zw p l e { frames := 4, cells := 0, slots := 0, locals := 80 * (4) } s m args below meth c G b 3 (MQ below (zQ G b FQ) args s 0 0 (fun q : Nat => b ≤ q)) 0 0 0 [some (.ref Q), some (.ref (1000000 + zKa G w0)), none] [] (L, M, N)
  have q_lt := hQ.1
  have q_o := hQ.2.1
  have q_text := hQ.2.2.2.1
  have L_28 : ∀ u : Nat, ∀ (x2_28 : Int32), D_X3_says_28 Q w0 M u x2_28 = some r → Zw p l e { frames := 4, cells := 0, slots := 0, locals := 80 * (4) } s m args below meth c G b 3 (MQ below (zQ G b FQ) args s 0 0 (fun q : Nat => b ≤ q)) 0 0 28 [some (.ref (Q)), some (.ref (1000000 + zKa G w0)), some (.int x2_28)] [] (L, M, N) := by
    intro u
    induction u with
    | zero => intro x2_28 h; cases (show none = some r from h)
    | succ u_28 ih_28 =>
      intro x2_28 h
      rw [D_X3_says_28] at h
      refine a_iload_n X dX3_says_28 rfl ?_
      refine a_aload_n X dX3_says_29 rfl ?_
      refine a_invVs X miJ0_length_8abf5 lm3_113 (by first | assumption | decide) rfl rfl rfl (Nat.le_of_ble_eq_true rfl) ⟨by decide, by decide, by decide, by decide⟩ dX3_says_30 (c_length (by first | assumption | decide)) (fun r_30 S_30 q_30 => ?_)
      obtain ⟨rfl, rfl⟩ := q_30
      refine a_icmp_ge (tgt := 65) X dX3_says_33 (by decide) (fun h_33 => ?_) (fun h_33 => ?_)
      · replace h := (if_pos h_33).symm.trans h
        refine a_iconst (v := 1) X dX3_says_65 (by decide) ?_
        refine a_zret X (by first | exact Or.inl rfl | exact Or.inr rfl | assumption) hr dX3_says_66 ⟨by decide, by decide⟩ ?_
        subst hF
        rw [← Option.some.inj h]
        exact ⟨rfl, rfl, (by first | exact Or.inl rfl | exact Or.inr rfl | assumption)⟩
      · replace h := (if_neg h_33).symm.trans h
        refine a_aload_n X dX3_says_36 rfl ?_
        refine a_getr X lf3_25 (by first | exact q_o | assumption) rfl (by omega) dX3_says_37 ?_
        refine a_aload_n X dX3_says_40 rfl ?_
        refine a_geti X lf3_89 (by first | exact q_o | assumption) rfl dX3_says_41 ?_
        refine a_iload_n X dX3_says_44 rfl ?_
        refine a_iadd X dX3_says_45 ?_
        refine a_callSNv X dX3_says_46 miX7_cell lm3_81 (c_cell (by first | exact q_text | assumption) (by decide)) rfl rfl (Nat.le_of_ble_eq_true rfl) ⟨by decide, by decide, by decide, by decide⟩ ?_
        refine a_aload_n X dX3_says_49 rfl ?_
        refine a_iload_n X dX3_says_50 rfl ?_
        obtain ⟨g_51, h⟩ := zIx h
        refine a_invVs X miJ0_charAt_5068e lm3_118 (by first | assumption | decide) rfl rfl rfl (Nat.le_of_ble_eq_true rfl) ⟨by decide, by decide, by decide, by decide⟩ dX3_says_51 (t_charAt (by first | assumption | decide) g_51) (fun r_51 S_51 q_51 => ?_)
        obtain ⟨rfl, rfl⟩ := q_51
        refine a_icmp_eq (tgt := 59) X dX3_says_54 (by decide) (fun h_54 => ?_) (fun h_54 => ?_)
        · replace h := (if_pos h_54).symm.trans h
          refine a_iinc (v := x2_28 + 1) X dX3_says_59 (by decide) rfl zi_1 ?_
          refine a_goto (tgt := 28) X dX3_says_62 (by decide) ?_
          exact Zw.to2 (ih_28 _ h) rfl rfl rfl
        · replace h := (if_neg h_54).symm.trans h
          refine a_iconst (v := 0) X dX3_says_57 (by decide) ?_
          refine a_zret X (by first | exact Or.inl rfl | exact Or.inr rfl | assumption) hr dX3_says_58 ⟨by decide, by decide⟩ ?_
          subst hF
          rw [← Option.some.inj h]
          exact ⟨rfl, rfl, (by first | exact Or.inl rfl | exact Or.inr rfl | assumption)⟩
  have H_28 : ∀ (x2_28 : Int32), D_X3_says_28 Q w0 M zFu x2_28 = some r → Zw p l e { frames := 4, cells := 0, slots := 0, locals := 80 * (4) } s m args below meth c G b 3 (MQ below (zQ G b FQ) args s 0 0 (fun q : Nat => b ≤ q)) 0 0 28 [some (.ref (Q)), some (.ref (1000000 + zKa G w0)), some (.int x2_28)] [] (L, M, N) := L_28 zFu
  have J_24 : ∀ (x2_24 : Option Value), D_X3_says_24 Q w0 M = some r → Zw p l e { frames := 4, cells := 0, slots := 0, locals := 80 * (4) } s m args below meth c G b 3 (MQ below (zQ G b FQ) args s 0 0 (fun q : Nat => b ≤ q)) 0 0 24 [some (.ref (Q)), some (.ref (1000000 + zKa G w0)), x2_24] [] (L, M, N) := by
    intro x2_24 h
    unfold D_X3_says_24 at h
    refine a_iconst (v := 0) X dX3_says_24 (by decide) ?_
    refine a_zret X (by first | exact Or.inl rfl | exact Or.inr rfl | assumption) hr dX3_says_25 ⟨by decide, by decide⟩ ?_
    subst hF
    rw [← Option.some.inj h]
    exact ⟨rfl, rfl, (by first | exact Or.inl rfl | exact Or.inr rfl | assumption)⟩
  unfold D_X3_says at h
  refine a_aload_n X dX3_says_0 rfl ?_
  refine a_geti X lf3_74 (by first | exact q_o | assumption) rfl dX3_says_1 ?_
  refine a_iconst (v := 1) X dX3_says_4 (by decide) ?_
  refine a_icmp_ne (tgt := 24) X dX3_says_5 (by decide) (fun h_5 => ?_) (fun h_5 => ?_)
  · replace h := (if_neg h_5).symm.trans h
    exact Zw.to2 (J_24 _ h) rfl rfl rfl
  · replace h := (if_pos h_5).symm.trans h
    refine a_aload_n X dX3_says_8 rfl ?_
    refine a_geti X lf3_55 (by first | exact q_o | assumption) rfl dX3_says_9 ?_
    refine a_aload_n X dX3_says_12 rfl ?_
    refine a_geti X lf3_89 (by first | exact q_o | assumption) rfl dX3_says_13 ?_
    refine a_isub X dX3_says_16 ?_
    refine a_aload_n X dX3_says_17 rfl ?_
    refine a_invVs X miJ0_length_8abf5 lm3_113 (by first | assumption | decide) rfl rfl rfl (Nat.le_of_ble_eq_true rfl) ⟨by decide, by decide, by decide, by decide⟩ dX3_says_18 (c_length (by first | assumption | decide)) (fun r_18 S_18 q_18 => ?_)
    obtain ⟨rfl, rfl⟩ := q_18
    refine a_icmp_eq (tgt := 26) X dX3_says_21 (by decide) (fun h_21 => ?_) (fun h_21 => ?_)
    · replace h := (if_pos h_21).symm.trans h
      refine a_iconst (v := 0) X dX3_says_26 (by decide) ?_
      refine a_istore_n X dX3_says_27 (by decide) ?_
      exact Zw.to2 (H_28 _ h) rfl rfl rfl
    · replace h := (if_neg h_21).symm.trans h
      exact Zw.to2 (J_24 _ h) rfl rfl rfl
noncomputable def D_X3_isName_85 (Q : Nat) (M : zMt) (y0_85 : Int32) : Option (Int32) :=
  some (y0_85)
noncomputable def D_X3_isName_84 (Q : Nat) (M : zMt)  : Option (Int32) :=
  D_X3_isName_85 Q M (0 : Int32)
noncomputable def D_X3_isName (Q : Nat) (M : zMt)  : Option (Int32) :=
  if (M Q 6) = (1 : Int32) then
    zB (D_X3_says Q 0 M) fun e_11 =>
    if e_11 = 0 then
      zB (D_X3_says Q 1 M) fun e_20 =>
      if e_20 = 0 then
        zB (D_X3_says Q 2 M) fun e_29 =>
        if e_29 = 0 then
          zB (D_X3_says Q 3 M) fun e_38 =>
          if e_38 = 0 then
            zB (D_X3_says Q 4 M) fun e_47 =>
            if e_47 = 0 then
              zB (D_X3_says Q 5 M) fun e_56 =>
              if e_56 = 0 then
                zB (D_X3_says Q 6 M) fun e_65 =>
                if e_65 = 0 then
                  zB (D_X3_says Q 7 M) fun e_74 =>
                  if e_74 = 0 then
                    D_X3_isName_85 Q M (1 : Int32)
                  else
                    D_X3_isName_84 Q M
                else
                  D_X3_isName_84 Q M
              else
                D_X3_isName_84 Q M
            else
              D_X3_isName_84 Q M
          else
            D_X3_isName_84 Q M
        else
          D_X3_isName_84 Q M
      else
        D_X3_isName_84 Q M
    else
      D_X3_isName_84 Q M
  else
    D_X3_isName_84 Q M
set_option maxRecDepth 100000 in
set_option maxHeartbeats 4000000 in
theorem t_X3_isName {l : Launch} {G : zG} {b : Nat} {L : List zC} {M : zMt} {N : zNt} {Q : Nat}  (hQ : LX3 L Q) {r : Int32} (h : D_X3_isName Q M = some r) : zM l G b yX3_isName cX3_isName 1 (some .boolean) 5 0 0 [.ref Q] (L, M, N) (fun r2 z => r2 = some (.int r) ∧ z = (L, M, N) ∧ (r = 0 ∨ r = 1)) := by
  refine zM.of miX3_isName (Nat.le_of_ble_eq_true rfl) ?_
  intro p e s m args below meth c X hr hname
  generalize hF : ((fun r2 z => r2 = some (.int r) ∧ z = (L, M, N) ∧ (r = 0 ∨ r = 1)) : Option Value → zS → Prop) = FQ
  change Zw p l e { frames := 5, cells := 0, slots := 0, locals := 80 * (5) } s m args below meth c G b 1 (MQ below (zQ G b FQ) args s 0 0 (fun q : Nat => b ≤ q)) 0 0 0 [some (.ref Q)] [] (L, M, N)
  have q_lt := hQ.1
  have q_o := hQ.2.1
  have J_85 : ∀ (y0_85 : Int32), (y0_85 = 0 ∨ y0_85 = 1) → D_X3_isName_85 Q M y0_85 = some r → Zw p l e { frames := 5, cells := 0, slots := 0, locals := 80 * (5) } s m args below meth c G b 1 (MQ below (zQ G b FQ) args s 0 0 (fun q : Nat => b ≤ q)) 0 0 85 [some (.ref (Q))] [.int y0_85] (L, M, N) := by
    intro y0_85 fb_y0_85 h
    unfold D_X3_isName_85 at h
    refine a_zret X (by first | exact Or.inl rfl | exact Or.inr rfl | assumption) hr dX3_isName_85 ⟨by decide, by decide⟩ ?_
    subst hF
    rw [← Option.some.inj h]
    exact ⟨rfl, rfl, (by first | exact Or.inl rfl | exact Or.inr rfl | assumption)⟩
  have J_84 : D_X3_isName_84 Q M = some r → Zw p l e { frames := 5, cells := 0, slots := 0, locals := 80 * (5) } s m args below meth c G b 1 (MQ below (zQ G b FQ) args s 0 0 (fun q : Nat => b ≤ q)) 0 0 84 [some (.ref (Q))] [] (L, M, N) := by
    intro h
    unfold D_X3_isName_84 at h
    refine a_iconst (v := 0) X dX3_isName_84 (by decide) ?_
    exact Zw.to2 (J_85 _ (by first | exact Or.inl rfl | exact Or.inr rfl | assumption) h) rfl rfl rfl
  unfold D_X3_isName at h
  refine a_aload_n X dX3_isName_0 rfl ?_
  refine a_geti X lf3_74 (by first | exact q_o | assumption) rfl dX3_isName_1 ?_
  refine a_iconst (v := 1) X dX3_isName_4 (by decide) ?_
  refine a_icmp_ne (tgt := 84) X dX3_isName_5 (by decide) (fun h_5 => ?_) (fun h_5 => ?_)
  · replace h := (if_neg h_5).symm.trans h
    exact Zw.to2 (J_84 h) rfl rfl rfl
  · replace h := (if_pos h_5).symm.trans h
    refine a_aload_n X dX3_isName_8 rfl ?_
    refine a_ldcS (i := 0) (q := ("TagDraw$Reader", 122, "unit")) X rfl rfl rfl dX3_isName_9 ?_
    obtain ⟨e_11, f_11, h⟩ := zBx h
    refine a_callVx X dX3_isName_11 miX3_says lm3_124 (t_X3_says (by first | exact hQ | assumption) (by first | assumption | decide) f_11) (by first | exact q_o | assumption) rfl rfl rfl (Nat.le_of_ble_eq_true rfl) ⟨by decide, by decide, by decide, by decide⟩ (fun r_11 S_11 q_11 => ?_)
    obtain ⟨rfl, rfl, b_11⟩ := q_11
    refine a_if_ne (tgt := 84) X dX3_isName_14 (by decide) (fun h_14 => ?_) (fun h_14 => ?_)
    · replace h := (if_neg h_14).symm.trans h
      exact Zw.to2 (J_84 h) rfl rfl rfl
    · replace h := (if_pos h_14).symm.trans h
      refine a_aload_n X dX3_isName_17 rfl ?_
      refine a_ldcS (i := 1) (q := ("TagDraw$Reader", 128, "hunter")) X rfl rfl rfl dX3_isName_18 ?_
      obtain ⟨e_20, f_20, h⟩ := zBx h
      refine a_callVx X dX3_isName_20 miX3_says lm3_124 (t_X3_says (by first | exact hQ | assumption) (by first | assumption | decide) f_20) (by first | exact q_o | assumption) rfl rfl rfl (Nat.le_of_ble_eq_true rfl) ⟨by decide, by decide, by decide, by decide⟩ (fun r_20 S_20 q_20 => ?_)
      obtain ⟨rfl, rfl, b_20⟩ := q_20
      refine a_if_ne (tgt := 84) X dX3_isName_23 (by decide) (fun h_23 => ?_) (fun h_23 => ?_)
      · replace h := (if_neg h_23).symm.trans h
        exact Zw.to2 (J_84 h) rfl rfl rfl
      · replace h := (if_pos h_23).symm.trans h
        refine a_aload_n X dX3_isName_26 rfl ?_
        refine a_ldcS (i := 2) (q := ("TagDraw$Reader", 130, "guest")) X rfl rfl rfl dX3_isName_27 ?_
        obtain ⟨e_29, f_29, h⟩ := zBx h
        refine a_callVx X dX3_isName_29 miX3_says lm3_124 (t_X3_says (by first | exact hQ | assumption) (by first | assumption | decide) f_29) (by first | exact q_o | assumption) rfl rfl rfl (Nat.le_of_ble_eq_true rfl) ⟨by decide, by decide, by decide, by decide⟩ (fun r_29 S_29 q_29 => ?_)
        obtain ⟨rfl, rfl, b_29⟩ := q_29
        refine a_if_ne (tgt := 84) X dX3_isName_32 (by decide) (fun h_32 => ?_) (fun h_32 => ?_)
        · replace h := (if_neg h_32).symm.trans h
          exact Zw.to2 (J_84 h) rfl rfl rfl
        · replace h := (if_pos h_32).symm.trans h
          refine a_aload_n X dX3_isName_35 rfl ?_
          refine a_ldcS (i := 3) (q := ("TagDraw$Reader", 132, "party")) X rfl rfl rfl dX3_isName_36 ?_
          obtain ⟨e_38, f_38, h⟩ := zBx h
          refine a_callVx X dX3_isName_38 miX3_says lm3_124 (t_X3_says (by first | exact hQ | assumption) (by first | assumption | decide) f_38) (by first | exact q_o | assumption) rfl rfl rfl (Nat.le_of_ble_eq_true rfl) ⟨by decide, by decide, by decide, by decide⟩ (fun r_38 S_38 q_38 => ?_)
          obtain ⟨rfl, rfl, b_38⟩ := q_38
          refine a_if_ne (tgt := 84) X dX3_isName_41 (by decide) (fun h_41 => ?_) (fun h_41 => ?_)
          · replace h := (if_neg h_41).symm.trans h
            exact Zw.to2 (J_84 h) rfl rfl rfl
          · replace h := (if_pos h_41).symm.trans h
            refine a_aload_n X dX3_isName_44 rfl ?_
            refine a_ldcS (i := 4) (q := ("TagDraw$Reader", 134, "asks")) X rfl rfl rfl dX3_isName_45 ?_
            obtain ⟨e_47, f_47, h⟩ := zBx h
            refine a_callVx X dX3_isName_47 miX3_says lm3_124 (t_X3_says (by first | exact hQ | assumption) (by first | assumption | decide) f_47) (by first | exact q_o | assumption) rfl rfl rfl (Nat.le_of_ble_eq_true rfl) ⟨by decide, by decide, by decide, by decide⟩ (fun r_47 S_47 q_47 => ?_)
            obtain ⟨rfl, rfl, b_47⟩ := q_47
            refine a_if_ne (tgt := 84) X dX3_isName_50 (by decide) (fun h_50 => ?_) (fun h_50 => ?_)
            · replace h := (if_neg h_50).symm.trans h
              exact Zw.to2 (J_84 h) rfl rfl rfl
            · replace h := (if_pos h_50).symm.trans h
              refine a_aload_n X dX3_isName_53 rfl ?_
              refine a_ldcS (i := 5) (q := ("TagDraw$Reader", 136, "law")) X rfl rfl rfl dX3_isName_54 ?_
              obtain ⟨e_56, f_56, h⟩ := zBx h
              refine a_callVx X dX3_isName_56 miX3_says lm3_124 (t_X3_says (by first | exact hQ | assumption) (by first | assumption | decide) f_56) (by first | exact q_o | assumption) rfl rfl rfl (Nat.le_of_ble_eq_true rfl) ⟨by decide, by decide, by decide, by decide⟩ (fun r_56 S_56 q_56 => ?_)
              obtain ⟨rfl, rfl, b_56⟩ := q_56
              refine a_if_ne (tgt := 84) X dX3_isName_59 (by decide) (fun h_59 => ?_) (fun h_59 => ?_)
              · replace h := (if_neg h_59).symm.trans h
                exact Zw.to2 (J_84 h) rfl rfl rfl
              · replace h := (if_pos h_59).symm.trans h
                refine a_aload_n X dX3_isName_62 rfl ?_
                refine a_ldcS (i := 6) (q := ("TagDraw$Reader", 138, "prefer")) X rfl rfl rfl dX3_isName_63 ?_
                obtain ⟨e_65, f_65, h⟩ := zBx h
                refine a_callVx X dX3_isName_65 miX3_says lm3_124 (t_X3_says (by first | exact hQ | assumption) (by first | assumption | decide) f_65) (by first | exact q_o | assumption) rfl rfl rfl (Nat.le_of_ble_eq_true rfl) ⟨by decide, by decide, by decide, by decide⟩ (fun r_65 S_65 q_65 => ?_)
                obtain ⟨rfl, rfl, b_65⟩ := q_65
                refine a_if_ne (tgt := 84) X dX3_isName_68 (by decide) (fun h_68 => ?_) (fun h_68 => ?_)
                · replace h := (if_neg h_68).symm.trans h
                  exact Zw.to2 (J_84 h) rfl rfl rfl
                · replace h := (if_pos h_68).symm.trans h
                  refine a_aload_n X dX3_isName_71 rfl ?_
                  refine a_ldcS (i := 7) (q := ("TagDraw$Reader", 140, "guests")) X rfl rfl rfl dX3_isName_72 ?_
                  obtain ⟨e_74, f_74, h⟩ := zBx h
                  refine a_callVx X dX3_isName_74 miX3_says lm3_124 (t_X3_says (by first | exact hQ | assumption) (by first | assumption | decide) f_74) (by first | exact q_o | assumption) rfl rfl rfl (Nat.le_of_ble_eq_true rfl) ⟨by decide, by decide, by decide, by decide⟩ (fun r_74 S_74 q_74 => ?_)
                  obtain ⟨rfl, rfl, b_74⟩ := q_74
                  refine a_if_ne (tgt := 84) X dX3_isName_77 (by decide) (fun h_77 => ?_) (fun h_77 => ?_)
                  · replace h := (if_neg h_77).symm.trans h
                    exact Zw.to2 (J_84 h) rfl rfl rfl
                  · replace h := (if_pos h_77).symm.trans h
                    refine a_iconst (v := 1) X dX3_isName_80 (by decide) ?_
                    refine a_goto (tgt := 85) X dX3_isName_81 (by decide) ?_
                    exact Zw.to2 (J_85 _ (by first | exact Or.inl rfl | exact Or.inr rfl | assumption) h) rfl rfl rfl
noncomputable def D_X3_fail_14 (Q : Nat) (y1_14 : Int32) (M_14 : zMt) : Option (Int32 × zMt) :=
  zLt (zu M_14 Q 1 y1_14) fun M_14 =>
  zLt (zu M_14 Q 2 (M_14 Q 7)) fun M_22 =>
  some ((0 : Int32), M_22)
noncomputable def D_X3_fail (Q : Nat) (v0 : Int32) (M : zMt) : Option (Int32 × zMt) :=
  if (M Q 6) = (4 : Int32) then
    D_X3_fail_14 Q (1 : Int32) M
  else
    D_X3_fail_14 Q v0 M
set_option maxRecDepth 100000 in
set_option maxHeartbeats 4000000 in
theorem t_X3_fail {l : Launch} {G : zG} {b : Nat} {L : List zC} {M : zMt} {N : zNt} {Q : Nat} {v0 : Int32} (hQ : LX3 L Q) {r : Int32 × zMt} (h : D_X3_fail Q v0 M = some r) : zM l G b yX3_fail cX3_fail 2 (some .boolean) 0 0 0 [.ref Q, .int v0] (L, M, N) (fun r2 z => r2 = some (.int r.1) ∧ z = (L, r.2, N) ∧ (r.1 = 0 ∨ r.1 = 1)) := by
  refine zM.of miX3_fail (Nat.le_of_ble_eq_true rfl) ?_
  intro p e s m args below meth c X hr hname
  generalize hF : ((fun r2 z => r2 = some (.int r.1) ∧ z = (L, r.2, N) ∧ (r.1 = 0 ∨ r.1 = 1)) : Option Value → zS → Prop) = FQ
  change Zw p l e { frames := 0, cells := 0, slots := 0, locals := 80 * (0) } s m args below meth c G b 2 (MQ below (zQ G b FQ) args s 0 0 (fun q : Nat => b ≤ q)) 0 0 0 [some (.ref Q), some (.int v0)] [] (L, M, N)
  have q_lt := hQ.1
  have q_o := hQ.2.1
  have J_14 : ∀ (x1_14 : Int32) (y1_14 : Int32) (M_14 : zMt), D_X3_fail_14 Q y1_14 M_14 = some r → Zw p l e { frames := 0, cells := 0, slots := 0, locals := 80 * (0) } s m args below meth c G b 2 (MQ below (zQ G b FQ) args s 0 0 (fun q : Nat => b ≤ q)) 0 0 14 [some (.ref (Q)), some (.int x1_14)] [.int y1_14, .ref (Q)] (L, M_14, N) := by
    intro x1_14 y1_14 M_14 h
    unfold D_X3_fail_14 at h
    obtain ⟨M_14, f_14, h⟩ := zLtx h
    refine d_puti X lf3_18 (by first | exact q_o | assumption) rfl dX3_fail_14 f_14 ?_
    refine a_aload_n X dX3_fail_17 rfl ?_
    refine a_aload_n X dX3_fail_18 rfl ?_
    refine a_geti X lf3_89 (by first | exact q_o | assumption) rfl dX3_fail_19 ?_
    obtain ⟨M_22, f_22, h⟩ := zLtx h
    refine d_puti X lf3_22 (by first | exact q_o | assumption) rfl dX3_fail_22 f_22 ?_
    refine a_iconst (v := 0) X dX3_fail_25 (by decide) ?_
    refine a_zret X (by first | exact Or.inl rfl | exact Or.inr rfl | assumption) hr dX3_fail_26 ⟨by decide, by decide⟩ ?_
    subst hF
    rw [← Option.some.inj h]
    exact ⟨rfl, rfl, (by first | exact Or.inl rfl | exact Or.inr rfl | assumption)⟩
  unfold D_X3_fail at h
  refine a_aload_n X dX3_fail_0 rfl ?_
  refine a_aload_n X dX3_fail_1 rfl ?_
  refine a_geti X lf3_74 (by first | exact q_o | assumption) rfl dX3_fail_2 ?_
  refine a_iconst (v := 4) X dX3_fail_5 (by decide) ?_
  refine a_icmp_ne (tgt := 13) X dX3_fail_6 (by decide) (fun h_6 => ?_) (fun h_6 => ?_)
  · replace h := (if_neg h_6).symm.trans h
    refine a_iload_n X dX3_fail_13 rfl ?_
    exact Zw.to2 (J_14 _ _ _ h) rfl rfl rfl
  · replace h := (if_pos h_6).symm.trans h
    refine a_iconst (v := 1) X dX3_fail_9 (by decide) ?_
    refine a_goto (tgt := 14) X dX3_fail_10 (by decide) ?_
    exact Zw.to2 (J_14 _ _ _ h) rfl rfl rfl
noncomputable def D_X3_find_3 (Q : Nat) (nQ : Nat) (N : zNt) : Nat → Int32 → Int64 → Int32 → Option (Int32)
  | 0, _, _, _ => none
  | n + 1, x1_3, x2_3, x4_3 =>
    if x1_3 ≤ x4_3 then
      some ((-1 : Int32))
    else
      if (lg_cmp (zrd 0 (N Q) nQ x4_3) x2_3) = 0 then
        some (x4_3)
      else
        (D_X3_find_3 Q nQ N n) x1_3 x2_3 (x4_3 + 1)
noncomputable def D_X3_find (Q : Nat) (nQ : Nat) (N : zNt) (v0 : Int32) (v1 : Int64) : Option (Int32) :=
  D_X3_find_3 Q nQ N zFu v0 v1 (0 : Int32)
set_option maxRecDepth 100000 in
set_option maxHeartbeats 4000000 in
theorem t_X3_find {l : Launch} {G : zG} {b : Nat} {L : List zC} {M : zMt} {N : zNt} {Q : Nat} {nQ : Nat} {v0 : Int32} {v1 : Int64} (hQ : L[Q]? = some (3, nQ, [])) (lQ : nQ < 2 ^ 31) {r : Int32} (h : D_X3_find Q nQ N v0 v1 = some r) : zM l G b yX3_find cX3_find 5 (some .int) 1 0 0 [.ref Q, .int v0, .long v1] (L, M, N) (fun r2 z => r2 = some (.int r) ∧ z = (L, M, N)) := by
  refine zM.of miX3_find (Nat.le_of_ble_eq_true rfl) ?_
  intro p e s m args below meth c X hr hname
  generalize hF : ((fun r2 z => r2 = some (.int r) ∧ z = (L, M, N)) : Option Value → zS → Prop) = FQ
  change Zw p l e { frames := 1, cells := 0, slots := 0, locals := 80 * (1) } s m args below meth c G b 5 (MQ below (zQ G b FQ) args s 0 0 (fun q : Nat => b ≤ q)) 0 0 0 [some (.ref Q), some (.int v0), some (.long v1), none, none] [] (L, M, N)
  have L_3 : ∀ u : Nat, ∀ (x1_3 : Int32) (x2_3 : Int64) (x4_3 : Int32), D_X3_find_3 Q nQ N u x1_3 x2_3 x4_3 = some r → Zw p l e { frames := 1, cells := 0, slots := 0, locals := 80 * (1) } s m args below meth c G b 5 (MQ below (zQ G b FQ) args s 0 0 (fun q : Nat => b ≤ q)) 0 0 3 [some (.ref (Q)), some (.int x1_3), some (.long x2_3), none, some (.int x4_3)] [] (L, M, N) := by
    intro u
    induction u with
    | zero => intro x1_3 x2_3 x4_3 h; cases (show none = some r from h)
    | succ u_3 ih_3 =>
      intro x1_3 x2_3 x4_3 h
      rw [D_X3_find_3] at h
      refine a_iload X dX3_find_3 rfl ?_
      refine a_iload_n X dX3_find_5 rfl ?_
      refine a_icmp_ge (tgt := 29) X dX3_find_6 (by decide) (fun h_6 => ?_) (fun h_6 => ?_)
      · replace h := (if_pos h_6).symm.trans h
        refine a_iconst (v := -1) X dX3_find_29 (by decide) ?_
        refine a_iret X hr dX3_find_30 ⟨by decide, by decide⟩ ?_
        subst hF
        rw [← Option.some.inj h]
        exact ⟨rfl, rfl⟩
      · replace h := (if_neg h_6).symm.trans h
        refine a_aload_n X dX3_find_9 rfl ?_
        refine a_iload X dX3_find_10 rfl ?_
        refine a_callSNv X dX3_find_12 miX7_bigCell lm3_246 (c_bigCell (by first | exact hQ | assumption) (by first | exact lQ | assumption)) rfl rfl (Nat.le_of_ble_eq_true rfl) ⟨by decide, by decide, by decide, by decide⟩ ?_
        refine a_lload_n X dX3_find_15 rfl ?_
        refine a_lcmp X dX3_find_16 ?_
        refine a_if_ne (tgt := 23) X dX3_find_17 (by decide) (fun h_17 => ?_) (fun h_17 => ?_)
        · replace h := (if_neg h_17).symm.trans h
          refine a_iinc (v := x4_3 + 1) X dX3_find_23 (by decide) rfl zi_1 ?_
          refine a_goto (tgt := 3) X dX3_find_26 (by decide) ?_
          exact Zw.to2 (ih_3 _ _ _ h) rfl rfl rfl
        · replace h := (if_pos h_17).symm.trans h
          refine a_iload X dX3_find_20 rfl ?_
          refine a_iret X hr dX3_find_22 ⟨by decide, by decide⟩ ?_
          subst hF
          rw [← Option.some.inj h]
          exact ⟨rfl, rfl⟩
  have H_3 : ∀ (x1_3 : Int32) (x2_3 : Int64) (x4_3 : Int32), D_X3_find_3 Q nQ N zFu x1_3 x2_3 x4_3 = some r → Zw p l e { frames := 1, cells := 0, slots := 0, locals := 80 * (1) } s m args below meth c G b 5 (MQ below (zQ G b FQ) args s 0 0 (fun q : Nat => b ≤ q)) 0 0 3 [some (.ref (Q)), some (.int x1_3), some (.long x2_3), none, some (.int x4_3)] [] (L, M, N) := L_3 zFu
  unfold D_X3_find at h
  refine a_iconst (v := 0) X dX3_find_0 (by decide) ?_
  refine a_istore X dX3_find_1 (by decide) ?_
  exact Zw.to2 (H_3 _ _ _ h) rfl rfl rfl
noncomputable def D_X3_isTaken_62 (Q : Nat) (M : zMt) (N : zNt) (y0_62 : Int32) : Option (Int32) :=
  some (y0_62)
noncomputable def D_X3_isTaken_57 (Q : Nat) (M : zMt) (N : zNt)  : Option (Int32) :=
  D_X3_isTaken_62 Q M N (1 : Int32)
noncomputable def D_X3_isTaken (Q : Nat) (M : zMt) (N : zNt) (v0 : Int64) : Option (Int32) :=
  zB (D_X3_find (Q + 10) 5 N (M (Q + 1) 0) v0) fun e_12 =>
  if e_12 = (-1 : Int32) then
    zB (D_X3_find (Q + 11) 10 N (M (Q + 1) 1) v0) fun e_31 =>
    if e_31 = (-1 : Int32) then
      zB (D_X3_find (Q + 12) 4 N (M (Q + 1) 2) v0) fun e_50 =>
      if e_50 = (-1 : Int32) then
        D_X3_isTaken_62 Q M N (0 : Int32)
      else
        D_X3_isTaken_57 Q M N
    else
      D_X3_isTaken_57 Q M N
  else
    D_X3_isTaken_57 Q M N
set_option maxRecDepth 100000 in
set_option maxHeartbeats 4000000 in
theorem t_X3_isTaken {l : Launch} {G : zG} {b : Nat} {L : List zC} {M : zMt} {N : zNt} {Q : Nat} {v0 : Int64} (hQ : LX3 L Q) {r : Int32} (h : D_X3_isTaken Q M N v0 = some r) : zM l G b yX3_isTaken cX3_isTaken 3 (some .boolean) 2 0 0 [.ref Q, .long v0] (L, M, N) (fun r2 z => r2 = some (.int r) ∧ z = (L, M, N) ∧ (r = 0 ∨ r = 1)) := by
  refine zM.of miX3_isTaken (Nat.le_of_ble_eq_true rfl) ?_
  intro p e s m args below meth c X hr hname
  generalize hF : ((fun r2 z => r2 = some (.int r) ∧ z = (L, M, N) ∧ (r = 0 ∨ r = 1)) : Option Value → zS → Prop) = FQ
  change Zw p l e { frames := 2, cells := 0, slots := 0, locals := 80 * (2) } s m args below meth c G b 3 (MQ below (zQ G b FQ) args s 0 0 (fun q : Nat => b ≤ q)) 0 0 0 [some (.ref Q), some (.long v0), none] [] (L, M, N)
  have q_lt := hQ.1
  have q_o := hQ.2.1
  have q_draft := hQ.2.2.1
  have q_draft_lt := q_draft.1
  have q_draft_o := q_draft.2.1
  have q_unitNames := hQ.2.2.2.2.1
  have q_hunterNames := hQ.2.2.2.2.2.1
  have q_partyNames := hQ.2.2.2.2.2.2.1
  have J_62 : ∀ (x1_62 : Int64) (y0_62 : Int32), (y0_62 = 0 ∨ y0_62 = 1) → D_X3_isTaken_62 Q M N y0_62 = some r → Zw p l e { frames := 2, cells := 0, slots := 0, locals := 80 * (2) } s m args below meth c G b 3 (MQ below (zQ G b FQ) args s 0 0 (fun q : Nat => b ≤ q)) 0 0 62 [some (.ref (Q)), some (.long x1_62), none] [.int y0_62] (L, M, N) := by
    intro x1_62 y0_62 fb_y0_62 h
    unfold D_X3_isTaken_62 at h
    refine a_zret X (by first | exact Or.inl rfl | exact Or.inr rfl | assumption) hr dX3_isTaken_62 ⟨by decide, by decide⟩ ?_
    subst hF
    rw [← Option.some.inj h]
    exact ⟨rfl, rfl, (by first | exact Or.inl rfl | exact Or.inr rfl | assumption)⟩
  have J_57 : ∀ (x1_57 : Int64), D_X3_isTaken_57 Q M N = some r → Zw p l e { frames := 2, cells := 0, slots := 0, locals := 80 * (2) } s m args below meth c G b 3 (MQ below (zQ G b FQ) args s 0 0 (fun q : Nat => b ≤ q)) 0 0 57 [some (.ref (Q)), some (.long x1_57), none] [] (L, M, N) := by
    intro x1_57 h
    unfold D_X3_isTaken_57 at h
    refine a_iconst (v := 1) X dX3_isTaken_57 (by decide) ?_
    refine a_goto (tgt := 62) X dX3_isTaken_58 (by decide) ?_
    exact Zw.to2 (J_62 _ _ (by first | exact Or.inl rfl | exact Or.inr rfl | assumption) h) rfl rfl rfl
  unfold D_X3_isTaken at h
  refine a_aload_n X dX3_isTaken_0 rfl ?_
  refine a_getr X lf3_29 (by first | exact q_o | assumption) rfl (by omega) dX3_isTaken_1 ?_
  refine a_aload_n X dX3_isTaken_4 rfl ?_
  refine a_getr X lf3_12 (by first | exact q_o | assumption) rfl (by omega) dX3_isTaken_5 ?_
  refine a_geti X lf3_142 (by first | exact q_draft_o | assumption) rfl dX3_isTaken_8 ?_
  refine a_lload_n X dX3_isTaken_11 rfl ?_
  obtain ⟨e_12, f_12, h⟩ := zBx h
  refine a_callSv X dX3_isTaken_12 miX3_find lm3_202 (t_X3_find (by first | exact q_unitNames | assumption) (by decide) f_12) rfl rfl (Nat.le_of_ble_eq_true rfl) ⟨by decide, by decide, by decide, by decide⟩ ?_
  refine a_iconst (v := -1) X dX3_isTaken_15 (by decide) ?_
  refine a_icmp_ne (tgt := 57) X dX3_isTaken_16 (by decide) (fun h_16 => ?_) (fun h_16 => ?_)
  · replace h := (if_neg h_16).symm.trans h
    exact Zw.to2 (J_57 _ h) rfl rfl rfl
  · replace h := (if_pos h_16).symm.trans h
    refine a_aload_n X dX3_isTaken_19 rfl ?_
    refine a_getr X lf3_33 (by first | exact q_o | assumption) rfl (by omega) dX3_isTaken_20 ?_
    refine a_aload_n X dX3_isTaken_23 rfl ?_
    refine a_getr X lf3_12 (by first | exact q_o | assumption) rfl (by omega) dX3_isTaken_24 ?_
    refine a_geti X lf3_151 (by first | exact q_draft_o | assumption) rfl dX3_isTaken_27 ?_
    refine a_lload_n X dX3_isTaken_30 rfl ?_
    obtain ⟨e_31, f_31, h⟩ := zBx h
    refine a_callSv X dX3_isTaken_31 miX3_find lm3_202 (t_X3_find (by first | exact q_hunterNames | assumption) (by decide) f_31) rfl rfl (Nat.le_of_ble_eq_true rfl) ⟨by decide, by decide, by decide, by decide⟩ ?_
    refine a_iconst (v := -1) X dX3_isTaken_34 (by decide) ?_
    refine a_icmp_ne (tgt := 57) X dX3_isTaken_35 (by decide) (fun h_35 => ?_) (fun h_35 => ?_)
    · replace h := (if_neg h_35).symm.trans h
      exact Zw.to2 (J_57 _ h) rfl rfl rfl
    · replace h := (if_pos h_35).symm.trans h
      refine a_aload_n X dX3_isTaken_38 rfl ?_
      refine a_getr X lf3_36 (by first | exact q_o | assumption) rfl (by omega) dX3_isTaken_39 ?_
      refine a_aload_n X dX3_isTaken_42 rfl ?_
      refine a_getr X lf3_12 (by first | exact q_o | assumption) rfl (by omega) dX3_isTaken_43 ?_
      refine a_geti X lf3_157 (by first | exact q_draft_o | assumption) rfl dX3_isTaken_46 ?_
      refine a_lload_n X dX3_isTaken_49 rfl ?_
      obtain ⟨e_50, f_50, h⟩ := zBx h
      refine a_callSv X dX3_isTaken_50 miX3_find lm3_202 (t_X3_find (by first | exact q_partyNames | assumption) (by decide) f_50) rfl rfl (Nat.le_of_ble_eq_true rfl) ⟨by decide, by decide, by decide, by decide⟩ ?_
      refine a_iconst (v := -1) X dX3_isTaken_53 (by decide) ?_
      refine a_icmp_eq (tgt := 61) X dX3_isTaken_54 (by decide) (fun h_54 => ?_) (fun h_54 => ?_)
      · replace h := (if_pos h_54).symm.trans h
        refine a_iconst (v := 0) X dX3_isTaken_61 (by decide) ?_
        exact Zw.to2 (J_62 _ _ (by first | exact Or.inl rfl | exact Or.inr rfl | assumption) h) rfl rfl rfl
      · replace h := (if_neg h_54).symm.trans h
        exact Zw.to2 (J_57 _ h) rfl rfl rfl
noncomputable def D_X3_readNewName (Q : Nat) (M : zMt) (N : zNt) : Option (Int32 × zMt × zNt) :=
  zB (D_X3_isName Q M) fun e_1 =>
  if e_1 = 0 then
    zB (D_X3_fail Q (2 : Int32) M) fun e_9 =>
    some (e_9.1, e_9.2, N)
  else
    zB (D_X3_isTaken Q M N (N Q 8)) fun e_18 =>
    if e_18 = 0 then
      zLt (zu N Q 10 (N Q 8)) fun N_35 =>
      zB (D_X3_step Q M N_35) fun e_39 =>
      some ((1 : Int32), e_39.1, e_39.2)
    else
      zB (D_X3_fail Q (4 : Int32) M) fun e_26 =>
      some (e_26.1, e_26.2, N)
set_option maxRecDepth 100000 in
set_option maxHeartbeats 4000000 in
theorem t_X3_readNewName {l : Launch} {G : zG} {b : Nat} {L : List zC} {M : zMt} {N : zNt} {Q : Nat}  (hQ : LX3 L Q) {r : Int32 × zMt × zNt} (h : D_X3_readNewName Q M N = some r) : zM l G b yX3_readNewName cX3_readNewName 1 (some .boolean) 6 0 0 [.ref Q] (L, M, N) (fun r2 z => r2 = some (.int r.1) ∧ z = (L, r.2.1, r.2.2) ∧ (r.1 = 0 ∨ r.1 = 1)) := by
  refine zM.of miX3_readNewName (Nat.le_of_ble_eq_true rfl) ?_
  intro p e s m args below meth c X hr hname
  generalize hF : ((fun r2 z => r2 = some (.int r.1) ∧ z = (L, r.2.1, r.2.2) ∧ (r.1 = 0 ∨ r.1 = 1)) : Option Value → zS → Prop) = FQ
  change Zw p l e { frames := 6, cells := 0, slots := 0, locals := 80 * (6) } s m args below meth c G b 1 (MQ below (zQ G b FQ) args s 0 0 (fun q : Nat => b ≤ q)) 0 0 0 [some (.ref Q)] [] (L, M, N)
  have q_lt := hQ.1
  have q_o := hQ.2.1
  unfold D_X3_readNewName at h
  refine a_aload_n X dX3_readNewName_0 rfl ?_
  obtain ⟨e_1, f_1, h⟩ := zBx h
  refine a_callVx X dX3_readNewName_1 miX3_isName lm3_199 (t_X3_isName (by first | exact hQ | assumption) f_1) (by first | exact q_o | assumption) rfl rfl rfl (Nat.le_of_ble_eq_true rfl) ⟨by decide, by decide, by decide, by decide⟩ (fun r_1 S_1 q_1 => ?_)
  obtain ⟨rfl, rfl, b_1⟩ := q_1
  refine a_if_ne (tgt := 13) X dX3_readNewName_4 (by decide) (fun h_4 => ?_) (fun h_4 => ?_)
  · replace h := (if_neg h_4).symm.trans h
    refine a_aload_n X dX3_readNewName_13 rfl ?_
    refine a_aload_n X dX3_readNewName_14 rfl ?_
    refine a_getl X lf3_104 (by first | exact q_o | assumption) rfl dX3_readNewName_15 ?_
    obtain ⟨e_18, f_18, h⟩ := zBx h
    refine a_callVx X dX3_readNewName_18 miX3_isTaken lm3_242 (t_X3_isTaken (by first | exact hQ | assumption) f_18) (by first | exact q_o | assumption) rfl rfl rfl (Nat.le_of_ble_eq_true rfl) ⟨by decide, by decide, by decide, by decide⟩ (fun r_18 S_18 q_18 => ?_)
    obtain ⟨rfl, rfl, b_18⟩ := q_18
    refine a_if_eq (tgt := 30) X dX3_readNewName_21 (by decide) (fun h_21 => ?_) (fun h_21 => ?_)
    · replace h := (if_pos h_21).symm.trans h
      refine a_aload_n X dX3_readNewName_30 rfl ?_
      refine a_aload_n X dX3_readNewName_31 rfl ?_
      refine a_getl X lf3_104 (by first | exact q_o | assumption) rfl dX3_readNewName_32 ?_
      obtain ⟨N_35, f_35, h⟩ := zLtx h
      refine d_putl X lf3_184 (by first | exact q_o | assumption) rfl dX3_readNewName_35 f_35 ?_
      refine a_aload_n X dX3_readNewName_38 rfl ?_
      obtain ⟨e_39, f_39, h⟩ := zBx h
      refine a_callVu X dX3_readNewName_39 miX3_step lm3_71 (t_X3_step (by first | exact hQ | assumption) f_39) (by first | exact q_o | assumption) rfl rfl rfl (Nat.le_of_ble_eq_true rfl) ⟨by decide, by decide, by decide, by decide⟩ ?_
      refine a_iconst (v := 1) X dX3_readNewName_42 (by decide) ?_
      refine a_zret X (by first | exact Or.inl rfl | exact Or.inr rfl | assumption) hr dX3_readNewName_43 ⟨by decide, by decide⟩ ?_
      subst hF
      rw [← Option.some.inj h]
      exact ⟨rfl, rfl, (by first | exact Or.inl rfl | exact Or.inr rfl | assumption)⟩
    · replace h := (if_neg h_21).symm.trans h
      refine a_aload_n X dX3_readNewName_24 rfl ?_
      refine a_iconst (v := 4) X dX3_readNewName_25 (by decide) ?_
      obtain ⟨e_26, f_26, h⟩ := zBx h
      refine a_callVx X dX3_readNewName_26 miX3_fail lm3_148 (t_X3_fail (by first | exact hQ | assumption) f_26) (by first | exact q_o | assumption) rfl rfl rfl (Nat.le_of_ble_eq_true rfl) ⟨by decide, by decide, by decide, by decide⟩ (fun r_26 S_26 q_26 => ?_)
      obtain ⟨rfl, rfl, b_26⟩ := q_26
      refine a_zret X (by first | exact Or.inl rfl | exact Or.inr rfl | assumption) hr dX3_readNewName_29 ⟨by decide, by decide⟩ ?_
      subst hF
      rw [← Option.some.inj h]
      exact ⟨rfl, rfl, (by first | exact Or.inl rfl | exact Or.inr rfl | assumption)⟩
  · replace h := (if_pos h_4).symm.trans h
    refine a_aload_n X dX3_readNewName_7 rfl ?_
    refine a_iconst (v := 2) X dX3_readNewName_8 (by decide) ?_
    obtain ⟨e_9, f_9, h⟩ := zBx h
    refine a_callVx X dX3_readNewName_9 miX3_fail lm3_148 (t_X3_fail (by first | exact hQ | assumption) f_9) (by first | exact q_o | assumption) rfl rfl rfl (Nat.le_of_ble_eq_true rfl) ⟨by decide, by decide, by decide, by decide⟩ (fun r_9 S_9 q_9 => ?_)
    obtain ⟨rfl, rfl, b_9⟩ := q_9
    refine a_zret X (by first | exact Or.inl rfl | exact Or.inr rfl | assumption) hr dX3_readNewName_12 ⟨by decide, by decide⟩ ?_
    subst hF
    rw [← Option.some.inj h]
    exact ⟨rfl, rfl, (by first | exact Or.inl rfl | exact Or.inr rfl | assumption)⟩
noncomputable def D_X3_numberUpTo (Q : Nat) (v0 : Int32) (M : zMt) (N : zNt) : Option (Int32 × zMt × zNt) :=
  if (M Q 6) = (2 : Int32) then
    if (M Q 9) ≤ v0 then
      zB (D_X3_step Q M N) fun e_29 =>
      some ((1 : Int32), e_29.1, e_29.2)
    else
      zB (D_X3_fail Q (3 : Int32) M) fun e_24 =>
      some (e_24.1, e_24.2, N)
  else
    zB (D_X3_fail Q (2 : Int32) M) fun e_10 =>
    some (e_10.1, e_10.2, N)
set_option maxRecDepth 100000 in
set_option maxHeartbeats 4000000 in
theorem t_X3_numberUpTo {l : Launch} {G : zG} {b : Nat} {L : List zC} {M : zMt} {N : zNt} {Q : Nat} {v0 : Int32} (hQ : LX3 L Q) {r : Int32 × zMt × zNt} (h : D_X3_numberUpTo Q v0 M N = some r) : zM l G b yX3_numberUpTo cX3_numberUpTo 2 (some .boolean) 3 0 0 [.ref Q, .int v0] (L, M, N) (fun r2 z => r2 = some (.int r.1) ∧ z = (L, r.2.1, r.2.2) ∧ (r.1 = 0 ∨ r.1 = 1)) := by
  refine zM.of miX3_numberUpTo (Nat.le_of_ble_eq_true rfl) ?_
  intro p e s m args below meth c X hr hname
  generalize hF : ((fun r2 z => r2 = some (.int r.1) ∧ z = (L, r.2.1, r.2.2) ∧ (r.1 = 0 ∨ r.1 = 1)) : Option Value → zS → Prop) = FQ
  change Zw p l e { frames := 3, cells := 0, slots := 0, locals := 80 * (3) } s m args below meth c G b 2 (MQ below (zQ G b FQ) args s 0 0 (fun q : Nat => b ≤ q)) 0 0 0 [some (.ref Q), some (.int v0)] [] (L, M, N)
  have q_lt := hQ.1
  have q_o := hQ.2.1
  unfold D_X3_numberUpTo at h
  refine a_aload_n X dX3_numberUpTo_0 rfl ?_
  refine a_geti X lf3_74 (by first | exact q_o | assumption) rfl dX3_numberUpTo_1 ?_
  refine a_iconst (v := 2) X dX3_numberUpTo_4 (by decide) ?_
  refine a_icmp_eq (tgt := 14) X dX3_numberUpTo_5 (by decide) (fun h_5 => ?_) (fun h_5 => ?_)
  · replace h := (if_pos h_5).symm.trans h
    refine a_aload_n X dX3_numberUpTo_14 rfl ?_
    refine a_geti X lf3_110 (by first | exact q_o | assumption) rfl dX3_numberUpTo_15 ?_
    refine a_iload_n X dX3_numberUpTo_18 rfl ?_
    refine a_icmp_le (tgt := 28) X dX3_numberUpTo_19 (by decide) (fun h_19 => ?_) (fun h_19 => ?_)
    · replace h := (if_pos h_19).symm.trans h
      refine a_aload_n X dX3_numberUpTo_28 rfl ?_
      obtain ⟨e_29, f_29, h⟩ := zBx h
      refine a_callVu X dX3_numberUpTo_29 miX3_step lm3_71 (t_X3_step (by first | exact hQ | assumption) f_29) (by first | exact q_o | assumption) rfl rfl rfl (Nat.le_of_ble_eq_true rfl) ⟨by decide, by decide, by decide, by decide⟩ ?_
      refine a_iconst (v := 1) X dX3_numberUpTo_32 (by decide) ?_
      refine a_zret X (by first | exact Or.inl rfl | exact Or.inr rfl | assumption) hr dX3_numberUpTo_33 ⟨by decide, by decide⟩ ?_
      subst hF
      rw [← Option.some.inj h]
      exact ⟨rfl, rfl, (by first | exact Or.inl rfl | exact Or.inr rfl | assumption)⟩
    · replace h := (if_neg h_19).symm.trans h
      refine a_aload_n X dX3_numberUpTo_22 rfl ?_
      refine a_iconst (v := 3) X dX3_numberUpTo_23 (by decide) ?_
      obtain ⟨e_24, f_24, h⟩ := zBx h
      refine a_callVx X dX3_numberUpTo_24 miX3_fail lm3_148 (t_X3_fail (by first | exact hQ | assumption) f_24) (by first | exact q_o | assumption) rfl rfl rfl (Nat.le_of_ble_eq_true rfl) ⟨by decide, by decide, by decide, by decide⟩ (fun r_24 S_24 q_24 => ?_)
      obtain ⟨rfl, rfl, b_24⟩ := q_24
      refine a_zret X (by first | exact Or.inl rfl | exact Or.inr rfl | assumption) hr dX3_numberUpTo_27 ⟨by decide, by decide⟩ ?_
      subst hF
      rw [← Option.some.inj h]
      exact ⟨rfl, rfl, (by first | exact Or.inl rfl | exact Or.inr rfl | assumption)⟩
  · replace h := (if_neg h_5).symm.trans h
    refine a_aload_n X dX3_numberUpTo_8 rfl ?_
    refine a_iconst (v := 2) X dX3_numberUpTo_9 (by decide) ?_
    obtain ⟨e_10, f_10, h⟩ := zBx h
    refine a_callVx X dX3_numberUpTo_10 miX3_fail lm3_148 (t_X3_fail (by first | exact hQ | assumption) f_10) (by first | exact q_o | assumption) rfl rfl rfl (Nat.le_of_ble_eq_true rfl) ⟨by decide, by decide, by decide, by decide⟩ (fun r_10 S_10 q_10 => ?_)
    obtain ⟨rfl, rfl, b_10⟩ := q_10
    refine a_zret X (by first | exact Or.inl rfl | exact Or.inr rfl | assumption) hr dX3_numberUpTo_13 ⟨by decide, by decide⟩ ?_
    subst hF
    rw [← Option.some.inj h]
    exact ⟨rfl, rfl, (by first | exact Or.inl rfl | exact Or.inr rfl | assumption)⟩
noncomputable def D_X3_endOfLine (Q : Nat) (M : zMt) (N : zNt) : Option (Int32 × zMt × zNt) :=
  if (M Q 6) = (3 : Int32) then
    zB (D_X3_step Q M N) fun e_15 =>
    some ((1 : Int32), e_15.1, e_15.2)
  else
    zB (D_X3_fail Q (2 : Int32) M) fun e_10 =>
    some (e_10.1, e_10.2, N)
set_option maxRecDepth 100000 in
set_option maxHeartbeats 4000000 in
theorem t_X3_endOfLine {l : Launch} {G : zG} {b : Nat} {L : List zC} {M : zMt} {N : zNt} {Q : Nat}  (hQ : LX3 L Q) {r : Int32 × zMt × zNt} (h : D_X3_endOfLine Q M N = some r) : zM l G b yX3_endOfLine cX3_endOfLine 1 (some .boolean) 3 0 0 [.ref Q] (L, M, N) (fun r2 z => r2 = some (.int r.1) ∧ z = (L, r.2.1, r.2.2) ∧ (r.1 = 0 ∨ r.1 = 1)) := by
  refine zM.of miX3_endOfLine (Nat.le_of_ble_eq_true rfl) ?_
  intro p e s m args below meth c X hr hname
  generalize hF : ((fun r2 z => r2 = some (.int r.1) ∧ z = (L, r.2.1, r.2.2) ∧ (r.1 = 0 ∨ r.1 = 1)) : Option Value → zS → Prop) = FQ
  change Zw p l e { frames := 3, cells := 0, slots := 0, locals := 80 * (3) } s m args below meth c G b 1 (MQ below (zQ G b FQ) args s 0 0 (fun q : Nat => b ≤ q)) 0 0 0 [some (.ref Q)] [] (L, M, N)
  have q_lt := hQ.1
  have q_o := hQ.2.1
  unfold D_X3_endOfLine at h
  refine a_aload_n X dX3_endOfLine_0 rfl ?_
  refine a_geti X lf3_74 (by first | exact q_o | assumption) rfl dX3_endOfLine_1 ?_
  refine a_iconst (v := 3) X dX3_endOfLine_4 (by decide) ?_
  refine a_icmp_eq (tgt := 14) X dX3_endOfLine_5 (by decide) (fun h_5 => ?_) (fun h_5 => ?_)
  · replace h := (if_pos h_5).symm.trans h
    refine a_aload_n X dX3_endOfLine_14 rfl ?_
    obtain ⟨e_15, f_15, h⟩ := zBx h
    refine a_callVu X dX3_endOfLine_15 miX3_step lm3_71 (t_X3_step (by first | exact hQ | assumption) f_15) (by first | exact q_o | assumption) rfl rfl rfl (Nat.le_of_ble_eq_true rfl) ⟨by decide, by decide, by decide, by decide⟩ ?_
    refine a_iconst (v := 1) X dX3_endOfLine_18 (by decide) ?_
    refine a_zret X (by first | exact Or.inl rfl | exact Or.inr rfl | assumption) hr dX3_endOfLine_19 ⟨by decide, by decide⟩ ?_
    subst hF
    rw [← Option.some.inj h]
    exact ⟨rfl, rfl, (by first | exact Or.inl rfl | exact Or.inr rfl | assumption)⟩
  · replace h := (if_neg h_5).symm.trans h
    refine a_aload_n X dX3_endOfLine_8 rfl ?_
    refine a_iconst (v := 2) X dX3_endOfLine_9 (by decide) ?_
    obtain ⟨e_10, f_10, h⟩ := zBx h
    refine a_callVx X dX3_endOfLine_10 miX3_fail lm3_148 (t_X3_fail (by first | exact hQ | assumption) f_10) (by first | exact q_o | assumption) rfl rfl rfl (Nat.le_of_ble_eq_true rfl) ⟨by decide, by decide, by decide, by decide⟩ (fun r_10 S_10 q_10 => ?_)
    obtain ⟨rfl, rfl, b_10⟩ := q_10
    refine a_zret X (by first | exact Or.inl rfl | exact Or.inr rfl | assumption) hr dX3_endOfLine_13 ⟨by decide, by decide⟩ ?_
    subst hF
    rw [← Option.some.inj h]
    exact ⟨rfl, rfl, (by first | exact Or.inl rfl | exact Or.inr rfl | assumption)⟩
noncomputable def D_X4_addUnit (Q : Nat) (v0 : Int32) (M : zMt) : Option (zMt) :=
  zLt (zwr M (Q + 1) 5 (M Q 0) v0) fun M_9 =>
  zLt (zu M_9 Q 0 ((M_9 Q 0) + (1 : Int32))) fun M_19 =>
  some (M_19)
set_option maxRecDepth 100000 in
set_option maxHeartbeats 4000000 in
theorem t_X4_addUnit {l : Launch} {G : zG} {b : Nat} {L : List zC} {M : zMt} {N : zNt} {Q : Nat} {v0 : Int32} (hQ : LX4 L Q) {r : zMt} (h : D_X4_addUnit Q v0 M = some r) : zM l G b yX4_addUnit cX4_addUnit 2 none 1 0 0 [.ref Q, .int v0] (L, M, N) (fun r2 z => r2 = none ∧ z = (L, r, N)) := by
  refine zM.of miX4_addUnit (Nat.le_of_ble_eq_true rfl) ?_
  intro p e s m args below meth c X hr hname
  generalize hF : ((fun r2 z => r2 = none ∧ z = (L, r, N)) : Option Value → zS → Prop) = FQ
  change Zw p l e { frames := 1, cells := 0, slots := 0, locals := 80 * (1) } s m args below meth c G b 2 (MQ below (zQ G b FQ) args s 0 0 (fun q : Nat => b ≤ q)) 0 0 0 [some (.ref Q), some (.int v0)] [] (L, M, N)
  have q_lt := hQ.1
  have q_o := hQ.2.1
  have q_quota := hQ.2.2.1
  unfold D_X4_addUnit at h
  refine a_aload_n X dX4_addUnit_0 rfl ?_
  refine a_getr X lf4_9 (by first | exact q_o | assumption) rfl (by omega) dX4_addUnit_1 ?_
  refine a_aload_n X dX4_addUnit_4 rfl ?_
  refine a_geti X lf4_33 (by first | exact q_o | assumption) rfl dX4_addUnit_5 ?_
  refine a_iload_n X dX4_addUnit_8 rfl ?_
  obtain ⟨M_9, f_9, h⟩ := zLtx h
  refine a_callSNu X dX4_addUnit_9 miX7_put lm4_63 (zMu (c_put (by first | exact q_quota | assumption) (by decide)) f_9) rfl rfl (Nat.le_of_ble_eq_true rfl) ⟨by decide, by decide, by decide, by decide⟩ ?_
  refine a_aload_n X dX4_addUnit_12 rfl ?_
  refine a_dup X dX4_addUnit_13 rfl ?_
  refine a_geti X lf4_33 (by first | exact q_o | assumption) rfl dX4_addUnit_14 ?_
  refine a_iconst (v := 1) X dX4_addUnit_17 (by decide) ?_
  refine a_iadd X dX4_addUnit_18 ?_
  obtain ⟨M_19, f_19, h⟩ := zLtx h
  refine d_puti X lf4_33 (by first | exact q_o | assumption) rfl dX4_addUnit_19 f_19 ?_
  refine a_vret X hr dX4_addUnit_22 ⟨by decide, by decide⟩ ?_
  subst hF
  rw [← Option.some.inj h]
  exact ⟨rfl, rfl⟩
noncomputable def D_X3_readUnit_29 (Q : Nat) (M_29 : zMt) (N_29 : zNt) : Option (Int32 × zMt × zNt) :=
  some ((0 : Int32), M_29, N_29)
noncomputable def D_X3_readUnit (Q : Nat) (M : zMt) (N : zNt) : Option (Int32 × zMt × zNt) :=
  zB (D_X3_step Q M N) fun e_1 =>
  zB (D_X3_readNewName Q e_1.1 e_1.2) fun e_5 =>
  if e_5.1 = 0 then
    some ((0 : Int32), e_5.2.1, e_5.2.2)
  else
    zB (D_X3_numberUpTo Q (20 : Int32) e_5.2.1 e_5.2.2) fun e_16 =>
    if e_16.1 = 0 then
      D_X3_readUnit_29 Q e_16.2.1 e_16.2.2
    else
      zB (D_X3_endOfLine Q e_16.2.1 e_16.2.2) fun e_23 =>
      if e_23.1 = 0 then
        D_X3_readUnit_29 Q e_23.2.1 e_23.2.2
      else
        zLt (zwr e_23.2.2 (Q + 10) 5 (e_23.2.1 (Q + 1) 0) (e_23.2.2 Q 10)) fun N_46 =>
        zB (D_X4_addUnit (Q + 1) (e_23.2.1 Q 9) e_23.2.1) fun e_57 =>
        some ((1 : Int32), e_57, N_46)
set_option maxRecDepth 100000 in
set_option maxHeartbeats 4000000 in
theorem t_X3_readUnit {l : Launch} {G : zG} {b : Nat} {L : List zC} {M : zMt} {N : zNt} {Q : Nat}  (hQ : LX3 L Q) {r : Int32 × zMt × zNt} (h : D_X3_readUnit Q M N = some r) : zM l G b yX3_readUnit cX3_readUnit 1 (some .boolean) 7 0 0 [.ref Q] (L, M, N) (fun r2 z => r2 = some (.int r.1) ∧ z = (L, r.2.1, r.2.2) ∧ (r.1 = 0 ∨ r.1 = 1)) := by
  refine zM.of miX3_readUnit (Nat.le_of_ble_eq_true rfl) ?_
  intro p e s m args below meth c X hr hname
  generalize hF : ((fun r2 z => r2 = some (.int r.1) ∧ z = (L, r.2.1, r.2.2) ∧ (r.1 = 0 ∨ r.1 = 1)) : Option Value → zS → Prop) = FQ
  change Zw p l e { frames := 7, cells := 0, slots := 0, locals := 80 * (7) } s m args below meth c G b 1 (MQ below (zQ G b FQ) args s 0 0 (fun q : Nat => b ≤ q)) 0 0 0 [some (.ref Q)] [] (L, M, N)
  have q_lt := hQ.1
  have q_o := hQ.2.1
  have q_draft := hQ.2.2.1
  have q_draft_lt := q_draft.1
  have q_draft_o := q_draft.2.1
  have q_unitNames := hQ.2.2.2.2.1
  have J_29 : ∀ (M_29 : zMt) (N_29 : zNt), D_X3_readUnit_29 Q M_29 N_29 = some r → Zw p l e { frames := 7, cells := 0, slots := 0, locals := 80 * (7) } s m args below meth c G b 1 (MQ below (zQ G b FQ) args s 0 0 (fun q : Nat => b ≤ q)) 0 0 29 [some (.ref (Q))] [] (L, M_29, N_29) := by
    intro M_29 N_29 h
    unfold D_X3_readUnit_29 at h
    refine a_iconst (v := 0) X dX3_readUnit_29 (by decide) ?_
    refine a_zret X (by first | exact Or.inl rfl | exact Or.inr rfl | assumption) hr dX3_readUnit_30 ⟨by decide, by decide⟩ ?_
    subst hF
    rw [← Option.some.inj h]
    exact ⟨rfl, rfl, (by first | exact Or.inl rfl | exact Or.inr rfl | assumption)⟩
  unfold D_X3_readUnit at h
  refine a_aload_n X dX3_readUnit_0 rfl ?_
  obtain ⟨e_1, f_1, h⟩ := zBx h
  refine a_callVu X dX3_readUnit_1 miX3_step lm3_71 (t_X3_step (by first | exact hQ | assumption) f_1) (by first | exact q_o | assumption) rfl rfl rfl (Nat.le_of_ble_eq_true rfl) ⟨by decide, by decide, by decide, by decide⟩ ?_
  refine a_aload_n X dX3_readUnit_4 rfl ?_
  obtain ⟨e_5, f_5, h⟩ := zBx h
  refine a_callVx X dX3_readUnit_5 miX3_readNewName lm3_175 (t_X3_readNewName (by first | exact hQ | assumption) f_5) (by first | exact q_o | assumption) rfl rfl rfl (Nat.le_of_ble_eq_true rfl) ⟨by decide, by decide, by decide, by decide⟩ (fun r_5 S_5 q_5 => ?_)
  obtain ⟨rfl, rfl, b_5⟩ := q_5
  refine a_if_ne (tgt := 13) X dX3_readUnit_8 (by decide) (fun h_8 => ?_) (fun h_8 => ?_)
  · replace h := (if_neg h_8).symm.trans h
    refine a_aload_n X dX3_readUnit_13 rfl ?_
    refine a_bipush (v := 20) X dX3_readUnit_14 (by decide) ?_
    obtain ⟨e_16, f_16, h⟩ := zBx h
    refine a_callVx X dX3_readUnit_16 miX3_numberUpTo lm3_178 (t_X3_numberUpTo (by first | exact hQ | assumption) f_16) (by first | exact q_o | assumption) rfl rfl rfl (Nat.le_of_ble_eq_true rfl) ⟨by decide, by decide, by decide, by decide⟩ (fun r_16 S_16 q_16 => ?_)
    obtain ⟨rfl, rfl, b_16⟩ := q_16
    refine a_if_eq (tgt := 29) X dX3_readUnit_19 (by decide) (fun h_19 => ?_) (fun h_19 => ?_)
    · replace h := (if_pos h_19).symm.trans h
      exact Zw.to2 (J_29 _ _ h) rfl rfl rfl
    · replace h := (if_neg h_19).symm.trans h
      refine a_aload_n X dX3_readUnit_22 rfl ?_
      obtain ⟨e_23, f_23, h⟩ := zBx h
      refine a_callVx X dX3_readUnit_23 miX3_endOfLine lm3_181 (t_X3_endOfLine (by first | exact hQ | assumption) f_23) (by first | exact q_o | assumption) rfl rfl rfl (Nat.le_of_ble_eq_true rfl) ⟨by decide, by decide, by decide, by decide⟩ (fun r_23 S_23 q_23 => ?_)
      obtain ⟨rfl, rfl, b_23⟩ := q_23
      refine a_if_ne (tgt := 31) X dX3_readUnit_26 (by decide) (fun h_26 => ?_) (fun h_26 => ?_)
      · replace h := (if_neg h_26).symm.trans h
        refine a_aload_n X dX3_readUnit_31 rfl ?_
        refine a_getr X lf3_29 (by first | exact q_o | assumption) rfl (by omega) dX3_readUnit_32 ?_
        refine a_aload_n X dX3_readUnit_35 rfl ?_
        refine a_getr X lf3_12 (by first | exact q_o | assumption) rfl (by omega) dX3_readUnit_36 ?_
        refine a_geti X lf3_142 (by first | exact q_draft_o | assumption) rfl dX3_readUnit_39 ?_
        refine a_aload_n X dX3_readUnit_42 rfl ?_
        refine a_getl X lf3_184 (by first | exact q_o | assumption) rfl dX3_readUnit_43 ?_
        obtain ⟨N_46, f_46, h⟩ := zLtx h
        refine a_callSNu X dX3_readUnit_46 miX7_bigPut lm3_187 (zMuN (c_bigPut (by first | exact q_unitNames | assumption) (by decide)) f_46) rfl rfl (Nat.le_of_ble_eq_true rfl) ⟨by decide, by decide, by decide, by decide⟩ ?_
        refine a_aload_n X dX3_readUnit_49 rfl ?_
        refine a_getr X lf3_12 (by first | exact q_o | assumption) rfl (by omega) dX3_readUnit_50 ?_
        refine a_aload_n X dX3_readUnit_53 rfl ?_
        refine a_geti X lf3_110 (by first | exact q_o | assumption) rfl dX3_readUnit_54 ?_
        obtain ⟨e_57, f_57, h⟩ := zBx h
        refine a_callVu X dX3_readUnit_57 miX4_addUnit lm3_191 (t_X4_addUnit (by first | exact q_draft | assumption) f_57) (by first | exact q_draft_o | assumption) rfl rfl rfl (Nat.le_of_ble_eq_true rfl) ⟨by decide, by decide, by decide, by decide⟩ ?_
        refine a_iconst (v := 1) X dX3_readUnit_60 (by decide) ?_
        refine a_zret X (by first | exact Or.inl rfl | exact Or.inr rfl | assumption) hr dX3_readUnit_61 ⟨by decide, by decide⟩ ?_
        subst hF
        rw [← Option.some.inj h]
        exact ⟨rfl, rfl, (by first | exact Or.inl rfl | exact Or.inr rfl | assumption)⟩
      · replace h := (if_pos h_26).symm.trans h
        exact Zw.to2 (J_29 _ _ h) rfl rfl rfl
  · replace h := (if_pos h_8).symm.trans h
    refine a_iconst (v := 0) X dX3_readUnit_11 (by decide) ?_
    refine a_zret X (by first | exact Or.inl rfl | exact Or.inr rfl | assumption) hr dX3_readUnit_12 ⟨by decide, by decide⟩ ?_
    subst hF
    rw [← Option.some.inj h]
    exact ⟨rfl, rfl, (by first | exact Or.inl rfl | exact Or.inr rfl | assumption)⟩
noncomputable def D_X4_addHunter_29 (Q : Nat) (y1_29 : Int32) (y2_29 : Int32) (M_29 : zMt) : Option (zMt) :=
  zLt (zwr M_29 (Q + 3) 10 y1_29 y2_29) fun M_29 =>
  zLt (zu M_29 Q 1 ((M_29 Q 1) + (1 : Int32))) fun M_39 =>
  some (M_39)
noncomputable def D_X4_addHunter (Q : Nat) (v0 : Int32) (v1 : Int32) (M : zMt) : Option (zMt) :=
  zLt (zwr M (Q + 2) 10 (M Q 1) v0) fun M_9 =>
  if v1 = 0 then
    D_X4_addHunter_29 Q (M_9 Q 1) (0 : Int32) M_9
  else
    D_X4_addHunter_29 Q (M_9 Q 1) (1 : Int32) M_9
set_option maxRecDepth 100000 in
set_option maxHeartbeats 4000000 in
theorem t_X4_addHunter {l : Launch} {G : zG} {b : Nat} {L : List zC} {M : zMt} {N : zNt} {Q : Nat} {v0 : Int32} {v1 : Int32} (hQ : LX4 L Q) (bv1 : v1 = 0 ∨ v1 = 1) {r : zMt} (h : D_X4_addHunter Q v0 v1 M = some r) : zM l G b yX4_addHunter cX4_addHunter 3 none 1 0 0 [.ref Q, .int v0, .int v1] (L, M, N) (fun r2 z => r2 = none ∧ z = (L, r, N)) := by
  refine zM.of miX4_addHunter (Nat.le_of_ble_eq_true rfl) ?_
  intro p e s m args below meth c X hr hname
  generalize hF : ((fun r2 z => r2 = none ∧ z = (L, r, N)) : Option Value → zS → Prop) = FQ
  change Zw p l e { frames := 1, cells := 0, slots := 0, locals := 80 * (1) } s m args below meth c G b 3 (MQ below (zQ G b FQ) args s 0 0 (fun q : Nat => b ≤ q)) 0 0 0 [some (.ref Q), some (.int v0), some (.int v1)] [] (L, M, N)
  have q_lt := hQ.1
  have q_o := hQ.2.1
  have q_score := hQ.2.2.2.1
  have q_guest := hQ.2.2.2.2.1
  have J_29 : ∀ (x1_29 : Int32) (x2_29 : Int32) (y1_29 : Int32) (y2_29 : Int32) (M_29 : zMt), (y2_29 = 0 ∨ y2_29 = 1) → D_X4_addHunter_29 Q y1_29 y2_29 M_29 = some r → Zw p l e { frames := 1, cells := 0, slots := 0, locals := 80 * (1) } s m args below meth c G b 3 (MQ below (zQ G b FQ) args s 0 0 (fun q : Nat => b ≤ q)) 0 0 29 [some (.ref (Q)), some (.int x1_29), some (.int x2_29)] [.int y2_29, .int y1_29, .ref (Q + 3)] (L, M_29, N) := by
    intro x1_29 x2_29 y1_29 y2_29 M_29 fb_y2_29 h
    unfold D_X4_addHunter_29 at h
    obtain ⟨M_29, f_29, h⟩ := zLtx h
    refine a_callSNu X dX4_addHunter_29 miX7_put lm4_63 (zMu (c_put (by first | exact q_guest | assumption) (by decide)) f_29) rfl rfl (Nat.le_of_ble_eq_true rfl) ⟨by decide, by decide, by decide, by decide⟩ ?_
    refine a_aload_n X dX4_addHunter_32 rfl ?_
    refine a_dup X dX4_addHunter_33 rfl ?_
    refine a_geti X lf4_37 (by first | exact q_o | assumption) rfl dX4_addHunter_34 ?_
    refine a_iconst (v := 1) X dX4_addHunter_37 (by decide) ?_
    refine a_iadd X dX4_addHunter_38 ?_
    obtain ⟨M_39, f_39, h⟩ := zLtx h
    refine d_puti X lf4_37 (by first | exact q_o | assumption) rfl dX4_addHunter_39 f_39 ?_
    refine a_vret X hr dX4_addHunter_42 ⟨by decide, by decide⟩ ?_
    subst hF
    rw [← Option.some.inj h]
    exact ⟨rfl, rfl⟩
  unfold D_X4_addHunter at h
  refine a_aload_n X dX4_addHunter_0 rfl ?_
  refine a_getr X lf4_15 (by first | exact q_o | assumption) rfl (by omega) dX4_addHunter_1 ?_
  refine a_aload_n X dX4_addHunter_4 rfl ?_
  refine a_geti X lf4_37 (by first | exact q_o | assumption) rfl dX4_addHunter_5 ?_
  refine a_iload_n X dX4_addHunter_8 rfl ?_
  obtain ⟨M_9, f_9, h⟩ := zLtx h
  refine a_callSNu X dX4_addHunter_9 miX7_put lm4_63 (zMu (c_put (by first | exact q_score | assumption) (by decide)) f_9) rfl rfl (Nat.le_of_ble_eq_true rfl) ⟨by decide, by decide, by decide, by decide⟩ ?_
  refine a_aload_n X dX4_addHunter_12 rfl ?_
  refine a_getr X lf4_18 (by first | exact q_o | assumption) rfl (by omega) dX4_addHunter_13 ?_
  refine a_aload_n X dX4_addHunter_16 rfl ?_
  refine a_geti X lf4_37 (by first | exact q_o | assumption) rfl dX4_addHunter_17 ?_
  refine a_iload_n X dX4_addHunter_20 rfl ?_
  refine a_if_eq (tgt := 28) X dX4_addHunter_21 (by decide) (fun h_21 => ?_) (fun h_21 => ?_)
  · replace h := (if_pos h_21).symm.trans h
    refine a_iconst (v := 0) X dX4_addHunter_28 (by decide) ?_
    exact Zw.to2 (J_29 _ _ _ _ _ (by first | exact Or.inl rfl | exact Or.inr rfl | assumption) h) rfl rfl rfl
  · replace h := (if_neg h_21).symm.trans h
    refine a_iconst (v := 1) X dX4_addHunter_24 (by decide) ?_
    refine a_goto (tgt := 29) X dX4_addHunter_25 (by decide) ?_
    exact Zw.to2 (J_29 _ _ _ _ _ (by first | exact Or.inl rfl | exact Or.inr rfl | assumption) h) rfl rfl rfl
noncomputable def D_X3_readHunter_39 (Q : Nat) (x1_39 : Int32) (M_39 : zMt) (N_39 : zNt) : Option (Int32 × zMt × zNt) :=
  zB (D_X3_endOfLine Q M_39 N_39) fun e_40 =>
  if e_40.1 = 0 then
    some ((0 : Int32), e_40.2.1, e_40.2.2)
  else
    zLt (zwr e_40.2.2 (Q + 11) 10 (e_40.2.1 (Q + 1) 1) (e_40.2.2 Q 10)) fun N_63 =>
    zB (D_X4_addHunter (Q + 1) (e_40.2.1 Q 9) x1_39 e_40.2.1) fun e_75 =>
    some ((1 : Int32), e_75, N_63)
noncomputable def D_X3_readHunter (Q : Nat) (M : zMt) (N : zNt) : Option (Int32 × zMt × zNt) :=
  zB (D_X3_step Q M N) fun e_1 =>
  zB (D_X3_readNewName Q e_1.1 e_1.2) fun e_5 =>
  if e_5.1 = 0 then
    some ((0 : Int32), e_5.2.1, e_5.2.2)
  else
    zB (D_X3_numberUpTo Q (20 : Int32) e_5.2.1 e_5.2.2) fun e_16 =>
    if e_16.1 = 0 then
      some ((0 : Int32), e_16.2.1, e_16.2.2)
    else
      zB (D_X3_says Q 2 e_16.2.1) fun e_27 =>
      if e_27 = 0 then
        D_X3_readHunter_39 Q e_27 e_16.2.1 e_16.2.2
      else
        zB (D_X3_step Q e_16.2.1 e_16.2.2) fun e_36 =>
        D_X3_readHunter_39 Q e_27 e_36.1 e_36.2
set_option maxRecDepth 100000 in
set_option maxHeartbeats 4000000 in
theorem t_X3_readHunter {l : Launch} {G : zG} {b : Nat} {L : List zC} {M : zMt} {N : zNt} {Q : Nat}  (hQ : LX3 L Q) {r : Int32 × zMt × zNt} (h : D_X3_readHunter Q M N = some r) : zM l G b yX3_readHunter cX3_readHunter 2 (some .boolean) 7 0 0 [.ref Q] (L, M, N) (fun r2 z => r2 = some (.int r.1) ∧ z = (L, r.2.1, r.2.2) ∧ (r.1 = 0 ∨ r.1 = 1)) := by
  refine zM.of miX3_readHunter (Nat.le_of_ble_eq_true rfl) ?_
  intro p e s m args below meth c X hr hname
  generalize hF : ((fun r2 z => r2 = some (.int r.1) ∧ z = (L, r.2.1, r.2.2) ∧ (r.1 = 0 ∨ r.1 = 1)) : Option Value → zS → Prop) = FQ
  change Zw p l e { frames := 7, cells := 0, slots := 0, locals := 80 * (7) } s m args below meth c G b 2 (MQ below (zQ G b FQ) args s 0 0 (fun q : Nat => b ≤ q)) 0 0 0 [some (.ref Q), none] [] (L, M, N)
  have q_lt := hQ.1
  have q_o := hQ.2.1
  have q_draft := hQ.2.2.1
  have q_draft_lt := q_draft.1
  have q_draft_o := q_draft.2.1
  have q_hunterNames := hQ.2.2.2.2.2.1
  have J_39 : ∀ (x1_39 : Int32) (M_39 : zMt) (N_39 : zNt), (x1_39 = 0 ∨ x1_39 = 1) → D_X3_readHunter_39 Q x1_39 M_39 N_39 = some r → Zw p l e { frames := 7, cells := 0, slots := 0, locals := 80 * (7) } s m args below meth c G b 2 (MQ below (zQ G b FQ) args s 0 0 (fun q : Nat => b ≤ q)) 0 0 39 [some (.ref (Q)), some (.int x1_39)] [] (L, M_39, N_39) := by
    intro x1_39 M_39 N_39 fb_x1_39 h
    unfold D_X3_readHunter_39 at h
    refine a_aload_n X dX3_readHunter_39 rfl ?_
    obtain ⟨e_40, f_40, h⟩ := zBx h
    refine a_callVx X dX3_readHunter_40 miX3_endOfLine lm3_181 (t_X3_endOfLine (by first | exact hQ | assumption) f_40) (by first | exact q_o | assumption) rfl rfl rfl (Nat.le_of_ble_eq_true rfl) ⟨by decide, by decide, by decide, by decide⟩ (fun r_40 S_40 q_40 => ?_)
    obtain ⟨rfl, rfl, b_40⟩ := q_40
    refine a_if_ne (tgt := 48) X dX3_readHunter_43 (by decide) (fun h_43 => ?_) (fun h_43 => ?_)
    · replace h := (if_neg h_43).symm.trans h
      refine a_aload_n X dX3_readHunter_48 rfl ?_
      refine a_getr X lf3_33 (by first | exact q_o | assumption) rfl (by omega) dX3_readHunter_49 ?_
      refine a_aload_n X dX3_readHunter_52 rfl ?_
      refine a_getr X lf3_12 (by first | exact q_o | assumption) rfl (by omega) dX3_readHunter_53 ?_
      refine a_geti X lf3_151 (by first | exact q_draft_o | assumption) rfl dX3_readHunter_56 ?_
      refine a_aload_n X dX3_readHunter_59 rfl ?_
      refine a_getl X lf3_184 (by first | exact q_o | assumption) rfl dX3_readHunter_60 ?_
      obtain ⟨N_63, f_63, h⟩ := zLtx h
      refine a_callSNu X dX3_readHunter_63 miX7_bigPut lm3_187 (zMuN (c_bigPut (by first | exact q_hunterNames | assumption) (by decide)) f_63) rfl rfl (Nat.le_of_ble_eq_true rfl) ⟨by decide, by decide, by decide, by decide⟩ ?_
      refine a_aload_n X dX3_readHunter_66 rfl ?_
      refine a_getr X lf3_12 (by first | exact q_o | assumption) rfl (by omega) dX3_readHunter_67 ?_
      refine a_aload_n X dX3_readHunter_70 rfl ?_
      refine a_geti X lf3_110 (by first | exact q_o | assumption) rfl dX3_readHunter_71 ?_
      refine a_iload_n X dX3_readHunter_74 rfl ?_
      obtain ⟨e_75, f_75, h⟩ := zBx h
      refine a_callVu X dX3_readHunter_75 miX4_addHunter lm3_195 (t_X4_addHunter (by first | exact q_draft | assumption) (by first | exact Or.inl rfl | exact Or.inr rfl | assumption) f_75) (by first | exact q_draft_o | assumption) rfl rfl rfl (Nat.le_of_ble_eq_true rfl) ⟨by decide, by decide, by decide, by decide⟩ ?_
      refine a_iconst (v := 1) X dX3_readHunter_78 (by decide) ?_
      refine a_zret X (by first | exact Or.inl rfl | exact Or.inr rfl | assumption) hr dX3_readHunter_79 ⟨by decide, by decide⟩ ?_
      subst hF
      rw [← Option.some.inj h]
      exact ⟨rfl, rfl, (by first | exact Or.inl rfl | exact Or.inr rfl | assumption)⟩
    · replace h := (if_pos h_43).symm.trans h
      refine a_iconst (v := 0) X dX3_readHunter_46 (by decide) ?_
      refine a_zret X (by first | exact Or.inl rfl | exact Or.inr rfl | assumption) hr dX3_readHunter_47 ⟨by decide, by decide⟩ ?_
      subst hF
      rw [← Option.some.inj h]
      exact ⟨rfl, rfl, (by first | exact Or.inl rfl | exact Or.inr rfl | assumption)⟩
  unfold D_X3_readHunter at h
  refine a_aload_n X dX3_readHunter_0 rfl ?_
  obtain ⟨e_1, f_1, h⟩ := zBx h
  refine a_callVu X dX3_readHunter_1 miX3_step lm3_71 (t_X3_step (by first | exact hQ | assumption) f_1) (by first | exact q_o | assumption) rfl rfl rfl (Nat.le_of_ble_eq_true rfl) ⟨by decide, by decide, by decide, by decide⟩ ?_
  refine a_aload_n X dX3_readHunter_4 rfl ?_
  obtain ⟨e_5, f_5, h⟩ := zBx h
  refine a_callVx X dX3_readHunter_5 miX3_readNewName lm3_175 (t_X3_readNewName (by first | exact hQ | assumption) f_5) (by first | exact q_o | assumption) rfl rfl rfl (Nat.le_of_ble_eq_true rfl) ⟨by decide, by decide, by decide, by decide⟩ (fun r_5 S_5 q_5 => ?_)
  obtain ⟨rfl, rfl, b_5⟩ := q_5
  refine a_if_ne (tgt := 13) X dX3_readHunter_8 (by decide) (fun h_8 => ?_) (fun h_8 => ?_)
  · replace h := (if_neg h_8).symm.trans h
    refine a_aload_n X dX3_readHunter_13 rfl ?_
    refine a_bipush (v := 20) X dX3_readHunter_14 (by decide) ?_
    obtain ⟨e_16, f_16, h⟩ := zBx h
    refine a_callVx X dX3_readHunter_16 miX3_numberUpTo lm3_178 (t_X3_numberUpTo (by first | exact hQ | assumption) f_16) (by first | exact q_o | assumption) rfl rfl rfl (Nat.le_of_ble_eq_true rfl) ⟨by decide, by decide, by decide, by decide⟩ (fun r_16 S_16 q_16 => ?_)
    obtain ⟨rfl, rfl, b_16⟩ := q_16
    refine a_if_ne (tgt := 24) X dX3_readHunter_19 (by decide) (fun h_19 => ?_) (fun h_19 => ?_)
    · replace h := (if_neg h_19).symm.trans h
      refine a_aload_n X dX3_readHunter_24 rfl ?_
      refine a_ldcS (i := 2) (q := ("TagDraw$Reader", 130, "guest")) X rfl rfl rfl dX3_readHunter_25 ?_
      obtain ⟨e_27, f_27, h⟩ := zBx h
      refine a_callVx X dX3_readHunter_27 miX3_says lm3_124 (t_X3_says (by first | exact hQ | assumption) (by first | assumption | decide) f_27) (by first | exact q_o | assumption) rfl rfl rfl (Nat.le_of_ble_eq_true rfl) ⟨by decide, by decide, by decide, by decide⟩ (fun r_27 S_27 q_27 => ?_)
      obtain ⟨rfl, rfl, b_27⟩ := q_27
      refine a_istore_n X dX3_readHunter_30 (by decide) ?_
      refine a_iload_n X dX3_readHunter_31 rfl ?_
      refine a_if_eq (tgt := 39) X dX3_readHunter_32 (by decide) (fun h_32 => ?_) (fun h_32 => ?_)
      · replace h := (if_pos h_32).symm.trans h
        exact Zw.to2 (J_39 _ _ _ (by first | exact Or.inl rfl | exact Or.inr rfl | assumption) h) rfl rfl rfl
      · replace h := (if_neg h_32).symm.trans h
        refine a_aload_n X dX3_readHunter_35 rfl ?_
        obtain ⟨e_36, f_36, h⟩ := zBx h
        refine a_callVu X dX3_readHunter_36 miX3_step lm3_71 (t_X3_step (by first | exact hQ | assumption) f_36) (by first | exact q_o | assumption) rfl rfl rfl (Nat.le_of_ble_eq_true rfl) ⟨by decide, by decide, by decide, by decide⟩ ?_
        exact Zw.to2 (J_39 _ _ _ (by first | exact Or.inl rfl | exact Or.inr rfl | assumption) h) rfl rfl rfl
    · replace h := (if_pos h_19).symm.trans h
      refine a_iconst (v := 0) X dX3_readHunter_22 (by decide) ?_
      refine a_zret X (by first | exact Or.inl rfl | exact Or.inr rfl | assumption) hr dX3_readHunter_23 ⟨by decide, by decide⟩ ?_
      subst hF
      rw [← Option.some.inj h]
      exact ⟨rfl, rfl, (by first | exact Or.inl rfl | exact Or.inr rfl | assumption)⟩
  · replace h := (if_pos h_8).symm.trans h
    refine a_iconst (v := 0) X dX3_readHunter_11 (by decide) ?_
    refine a_zret X (by first | exact Or.inl rfl | exact Or.inr rfl | assumption) hr dX3_readHunter_12 ⟨by decide, by decide⟩ ?_
    subst hF
    rw [← Option.some.inj h]
    exact ⟨rfl, rfl, (by first | exact Or.inl rfl | exact Or.inr rfl | assumption)⟩
noncomputable def D_X3_isFree_39 (Q : Nat) (M : zMt) (y0_39 : Int32) : Option (Int32) :=
  some (y0_39)
noncomputable def D_X3_isFree_38 (Q : Nat) (M : zMt)  : Option (Int32) :=
  D_X3_isFree_39 Q M (0 : Int32)
noncomputable def D_X3_isFree (Q : Nat) (M : zMt) (v0 : Int32) : Option (Int32) :=
  if v0 = (-1 : Int32) then
    D_X3_isFree_38 Q M
  else
    if (zrd 0 (M (Q + 5)) 10 v0) = (-1 : Int32) then
      if (zrd 0 (M (Q + 6)) 10 v0) = 0 then
        D_X3_isFree_39 Q M (1 : Int32)
      else
        D_X3_isFree_38 Q M
    else
      D_X3_isFree_38 Q M
set_option maxRecDepth 100000 in
set_option maxHeartbeats 4000000 in
theorem t_X3_isFree {l : Launch} {G : zG} {b : Nat} {L : List zC} {M : zMt} {N : zNt} {Q : Nat} {v0 : Int32} (hQ : LX3 L Q) {r : Int32} (h : D_X3_isFree Q M v0 = some r) : zM l G b yX3_isFree cX3_isFree 2 (some .boolean) 1 0 0 [.ref Q, .int v0] (L, M, N) (fun r2 z => r2 = some (.int r) ∧ z = (L, M, N) ∧ (r = 0 ∨ r = 1)) := by
  refine zM.of miX3_isFree (Nat.le_of_ble_eq_true rfl) ?_
  intro p e s m args below meth c X hr hname
  generalize hF : ((fun r2 z => r2 = some (.int r) ∧ z = (L, M, N) ∧ (r = 0 ∨ r = 1)) : Option Value → zS → Prop) = FQ
  change Zw p l e { frames := 1, cells := 0, slots := 0, locals := 80 * (1) } s m args below meth c G b 2 (MQ below (zQ G b FQ) args s 0 0 (fun q : Nat => b ≤ q)) 0 0 0 [some (.ref Q), some (.int v0)] [] (L, M, N)
  have q_lt := hQ.1
  have q_o := hQ.2.1
  have q_draft := hQ.2.2.1
  have q_draft_lt := q_draft.1
  have q_draft_o := q_draft.2.1
  have q_draft_party := q_draft.2.2.2.2.2.1
  have q_draft_wishCount := q_draft.2.2.2.2.2.2.1
  have J_39 : ∀ (x1_39 : Int32) (y0_39 : Int32), (y0_39 = 0 ∨ y0_39 = 1) → D_X3_isFree_39 Q M y0_39 = some r → Zw p l e { frames := 1, cells := 0, slots := 0, locals := 80 * (1) } s m args below meth c G b 2 (MQ below (zQ G b FQ) args s 0 0 (fun q : Nat => b ≤ q)) 0 0 39 [some (.ref (Q)), some (.int x1_39)] [.int y0_39] (L, M, N) := by
    intro x1_39 y0_39 fb_y0_39 h
    unfold D_X3_isFree_39 at h
    refine a_zret X (by first | exact Or.inl rfl | exact Or.inr rfl | assumption) hr dX3_isFree_39 ⟨by decide, by decide⟩ ?_
    subst hF
    rw [← Option.some.inj h]
    exact ⟨rfl, rfl, (by first | exact Or.inl rfl | exact Or.inr rfl | assumption)⟩
  have J_38 : ∀ (x1_38 : Int32), D_X3_isFree_38 Q M = some r → Zw p l e { frames := 1, cells := 0, slots := 0, locals := 80 * (1) } s m args below meth c G b 2 (MQ below (zQ G b FQ) args s 0 0 (fun q : Nat => b ≤ q)) 0 0 38 [some (.ref (Q)), some (.int x1_38)] [] (L, M, N) := by
    intro x1_38 h
    unfold D_X3_isFree_38 at h
    refine a_iconst (v := 0) X dX3_isFree_38 (by decide) ?_
    exact Zw.to2 (J_39 _ _ (by first | exact Or.inl rfl | exact Or.inr rfl | assumption) h) rfl rfl rfl
  unfold D_X3_isFree at h
  refine a_iload_n X dX3_isFree_0 rfl ?_
  refine a_iconst (v := -1) X dX3_isFree_1 (by decide) ?_
  refine a_icmp_eq (tgt := 38) X dX3_isFree_2 (by decide) (fun h_2 => ?_) (fun h_2 => ?_)
  · replace h := (if_pos h_2).symm.trans h
    exact Zw.to2 (J_38 _ h) rfl rfl rfl
  · replace h := (if_neg h_2).symm.trans h
    refine a_aload_n X dX3_isFree_5 rfl ?_
    refine a_getr X lf3_12 (by first | exact q_o | assumption) rfl (by omega) dX3_isFree_6 ?_
    refine a_getr X lf3_250 (by first | exact q_draft_o | assumption) rfl (by omega) dX3_isFree_9 ?_
    refine a_iload_n X dX3_isFree_12 rfl ?_
    refine a_callSNv X dX3_isFree_13 miX7_cell lm3_81 (c_cell (by first | exact q_draft_party | assumption) (by decide)) rfl rfl (Nat.le_of_ble_eq_true rfl) ⟨by decide, by decide, by decide, by decide⟩ ?_
    refine a_iconst (v := -1) X dX3_isFree_16 (by decide) ?_
    refine a_icmp_ne (tgt := 38) X dX3_isFree_17 (by decide) (fun h_17 => ?_) (fun h_17 => ?_)
    · replace h := (if_neg h_17).symm.trans h
      exact Zw.to2 (J_38 _ h) rfl rfl rfl
    · replace h := (if_pos h_17).symm.trans h
      refine a_aload_n X dX3_isFree_20 rfl ?_
      refine a_getr X lf3_12 (by first | exact q_o | assumption) rfl (by omega) dX3_isFree_21 ?_
      refine a_getr X lf3_252 (by first | exact q_draft_o | assumption) rfl (by omega) dX3_isFree_24 ?_
      refine a_iload_n X dX3_isFree_27 rfl ?_
      refine a_callSNv X dX3_isFree_28 miX7_cell lm3_81 (c_cell (by first | exact q_draft_wishCount | assumption) (by decide)) rfl rfl (Nat.le_of_ble_eq_true rfl) ⟨by decide, by decide, by decide, by decide⟩ ?_
      refine a_if_ne (tgt := 38) X dX3_isFree_31 (by decide) (fun h_31 => ?_) (fun h_31 => ?_)
      · replace h := (if_neg h_31).symm.trans h
        exact Zw.to2 (J_38 _ h) rfl rfl rfl
      · replace h := (if_pos h_31).symm.trans h
        refine a_iconst (v := 1) X dX3_isFree_34 (by decide) ?_
        refine a_goto (tgt := 39) X dX3_isFree_35 (by decide) ?_
        exact Zw.to2 (J_39 _ _ (by first | exact Or.inl rfl | exact Or.inr rfl | assumption) h) rfl rfl rfl
noncomputable def D_X4_addParty_31 (Q : Nat) (k2 : Int32 → Int32 → zMt → Option (zMt)) (x1_31 : Int32) (x2_31 : Int32) (M_31 : zMt) : Option (zMt) :=
  k2 x1_31 (x2_31 + 1) M_31
noncomputable def D_X4_addParty_2 (Q : Nat) : Nat → Int32 → Int32 → zMt → Option (zMt)
  | 0, _, _, _ => none
  | n + 1, x1_2, x2_2, M_2 =>
    if (M_2 Q 1) ≤ x2_2 then
      zLt (zu M_2 Q 2 ((M_2 Q 2) + (1 : Int32))) fun M_44 =>
      some (M_44)
    else
      if ((x1_2 >>> (x2_2 &&& 31)) &&& (1 : Int32)) = (1 : Int32) then
        zLt (zwr M_2 (Q + 4) 10 x2_2 (M_2 Q 2)) fun M_28 =>
        D_X4_addParty_31 Q (D_X4_addParty_2 Q n) x1_2 x2_2 M_28
      else
        D_X4_addParty_31 Q (D_X4_addParty_2 Q n) x1_2 x2_2 M_2
noncomputable def D_X4_addParty (Q : Nat) (v0 : Int32) (M : zMt) : Option (zMt) :=
  D_X4_addParty_2 Q zFu v0 (0 : Int32) M
set_option maxRecDepth 100000 in
set_option maxHeartbeats 4000000 in
theorem t_X4_addParty {l : Launch} {G : zG} {b : Nat} {L : List zC} {M : zMt} {N : zNt} {Q : Nat} {v0 : Int32} (hQ : LX4 L Q) {r : zMt} (h : D_X4_addParty Q v0 M = some r) : zM l G b yX4_addParty cX4_addParty 3 none 1 0 0 [.ref Q, .int v0] (L, M, N) (fun r2 z => r2 = none ∧ z = (L, r, N)) := by
  refine zM.of miX4_addParty (Nat.le_of_ble_eq_true rfl) ?_
  intro p e s m args below meth c X hr hname
  generalize hF : ((fun r2 z => r2 = none ∧ z = (L, r, N)) : Option Value → zS → Prop) = FQ
  change Zw p l e { frames := 1, cells := 0, slots := 0, locals := 80 * (1) } s m args below meth c G b 3 (MQ below (zQ G b FQ) args s 0 0 (fun q : Nat => b ≤ q)) 0 0 0 [some (.ref Q), some (.int v0), none] [] (L, M, N)
  have q_lt := hQ.1
  have q_o := hQ.2.1
  have q_party := hQ.2.2.2.2.2.1
  have L_2 : ∀ u : Nat, ∀ (x1_2 : Int32) (x2_2 : Int32) (M_2 : zMt), D_X4_addParty_2 Q u x1_2 x2_2 M_2 = some r → Zw p l e { frames := 1, cells := 0, slots := 0, locals := 80 * (1) } s m args below meth c G b 3 (MQ below (zQ G b FQ) args s 0 0 (fun q : Nat => b ≤ q)) 0 0 2 [some (.ref (Q)), some (.int x1_2), some (.int x2_2)] [] (L, M_2, N) := by
    intro u
    induction u with
    | zero => intro x1_2 x2_2 M_2 h; cases (show none = some r from h)
    | succ u_2 ih_2 =>
      have J_31 : ∀ (x1_31 : Int32) (x2_31 : Int32) (M_31 : zMt), D_X4_addParty_31 Q (D_X4_addParty_2 Q u_2) x1_31 x2_31 M_31 = some r → Zw p l e { frames := 1, cells := 0, slots := 0, locals := 80 * (1) } s m args below meth c G b 3 (MQ below (zQ G b FQ) args s 0 0 (fun q : Nat => b ≤ q)) 0 0 31 [some (.ref (Q)), some (.int x1_31), some (.int x2_31)] [] (L, M_31, N) := by
        intro x1_31 x2_31 M_31 h
        unfold D_X4_addParty_31 at h
        refine a_iinc (v := x2_31 + 1) X dX4_addParty_31 (by decide) rfl zi_1 ?_
        refine a_goto (tgt := 2) X dX4_addParty_34 (by decide) ?_
        exact Zw.to2 (ih_2 _ _ _ h) rfl rfl rfl
      intro x1_2 x2_2 M_2 h
      rw [D_X4_addParty_2] at h
      refine a_iload_n X dX4_addParty_2 rfl ?_
      refine a_aload_n X dX4_addParty_3 rfl ?_
      refine a_geti X lf4_37 (by first | exact q_o | assumption) rfl dX4_addParty_4 ?_
      refine a_icmp_ge (tgt := 37) X dX4_addParty_7 (by decide) (fun h_7 => ?_) (fun h_7 => ?_)
      · replace h := (if_pos h_7).symm.trans h
        refine a_aload_n X dX4_addParty_37 rfl ?_
        refine a_dup X dX4_addParty_38 rfl ?_
        refine a_geti X lf4_40 (by first | exact q_o | assumption) rfl dX4_addParty_39 ?_
        refine a_iconst (v := 1) X dX4_addParty_42 (by decide) ?_
        refine a_iadd X dX4_addParty_43 ?_
        obtain ⟨M_44, f_44, h⟩ := zLtx h
        refine d_puti X lf4_40 (by first | exact q_o | assumption) rfl dX4_addParty_44 f_44 ?_
        refine a_vret X hr dX4_addParty_47 ⟨by decide, by decide⟩ ?_
        subst hF
        rw [← Option.some.inj h]
        exact ⟨rfl, rfl⟩
      · replace h := (if_neg h_7).symm.trans h
        refine a_iload_n X dX4_addParty_10 rfl ?_
        refine a_iload_n X dX4_addParty_11 rfl ?_
        refine a_ishr X dX4_addParty_12 ?_
        refine a_iconst (v := 1) X dX4_addParty_13 (by decide) ?_
        refine a_iand X dX4_addParty_14 ?_
        refine a_iconst (v := 1) X dX4_addParty_15 (by decide) ?_
        refine a_icmp_ne (tgt := 31) X dX4_addParty_16 (by decide) (fun h_16 => ?_) (fun h_16 => ?_)
        · replace h := (if_neg h_16).symm.trans h
          exact Zw.to2 (J_31 _ _ _ h) rfl rfl rfl
        · replace h := (if_pos h_16).symm.trans h
          refine a_aload_n X dX4_addParty_19 rfl ?_
          refine a_getr X lf4_21 (by first | exact q_o | assumption) rfl (by omega) dX4_addParty_20 ?_
          refine a_iload_n X dX4_addParty_23 rfl ?_
          refine a_aload_n X dX4_addParty_24 rfl ?_
          refine a_geti X lf4_40 (by first | exact q_o | assumption) rfl dX4_addParty_25 ?_
          obtain ⟨M_28, f_28, h⟩ := zLtx h
          refine a_callSNu X dX4_addParty_28 miX7_put lm4_63 (zMu (c_put (by first | exact q_party | assumption) (by decide)) f_28) rfl rfl (Nat.le_of_ble_eq_true rfl) ⟨by decide, by decide, by decide, by decide⟩ ?_
          exact Zw.to2 (J_31 _ _ _ h) rfl rfl rfl
  have H_2 : ∀ (x1_2 : Int32) (x2_2 : Int32) (M_2 : zMt), D_X4_addParty_2 Q zFu x1_2 x2_2 M_2 = some r → Zw p l e { frames := 1, cells := 0, slots := 0, locals := 80 * (1) } s m args below meth c G b 3 (MQ below (zQ G b FQ) args s 0 0 (fun q : Nat => b ≤ q)) 0 0 2 [some (.ref (Q)), some (.int x1_2), some (.int x2_2)] [] (L, M_2, N) := L_2 zFu
  unfold D_X4_addParty at h
  refine a_iconst (v := 0) X dX4_addParty_0 (by decide) ?_
  refine a_istore_n X dX4_addParty_1 (by decide) ?_
  exact Zw.to2 (H_2 _ _ _ h) rfl rfl rfl
noncomputable def D_X3_readParty_106 (Q : Nat) (x1_106 : Int32) (M_106 : zMt) (N_106 : zNt) : Option (Int32 × zMt × zNt) :=
  zB (D_X3_endOfLine Q M_106 N_106) fun e_107 =>
  if e_107.1 = 0 then
    some ((0 : Int32), e_107.2.1, e_107.2.2)
  else
    zLt (zwr e_107.2.2 (Q + 12) 4 (e_107.2.1 (Q + 1) 2) (e_107.2.2 Q 10)) fun N_130 =>
    zB (D_X4_addParty (Q + 1) x1_106 e_107.2.1) fun e_138 =>
    some ((1 : Int32), e_138, N_130)
noncomputable def D_X3_readParty_84 (Q : Nat) (M_84 : zMt) (N_84 : zNt) : Option (Int32 × zMt × zNt) :=
  zB (D_X3_fail Q (4 : Int32) M_84) fun e_86 =>
  some (e_86.1, e_86.2, N_84)
noncomputable def D_X3_readParty_35 (Q : Nat) (k17 : Int32 → Int32 → zMt → zNt → Option (Int32 × zMt × zNt)) (x1_35 : Int32) (x2_35 : Int32) (M_35 : zMt) (N_35 : zNt) : Option (Int32 × zMt × zNt) :=
  zB (D_X3_isName Q M_35) fun e_36 =>
  if e_36 = 0 then
    zB (D_X3_fail Q (2 : Int32) M_35) fun e_44 =>
    some (e_44.1, e_44.2, N_35)
  else
    zB (D_X3_find (Q + 11) 10 N_35 (M_35 (Q + 1) 1) (N_35 Q 8)) fun e_63 =>
    zB (D_X3_isFree Q M_35 e_63) fun e_69 =>
    if e_69 = 0 then
      D_X3_readParty_84 Q M_35 N_35
    else
      if ((x1_35 >>> (e_63 &&& 31)) &&& (1 : Int32)) = (1 : Int32) then
        D_X3_readParty_84 Q M_35 N_35
      else
        zB (D_X3_step Q M_35 N_35) fun e_97 =>
        k17 (x1_35 ||| ((1 : Int32) <<< (e_63 &&& 31))) (x2_35 + 1) e_97.1 e_97.2
noncomputable def D_X3_readParty_17 (Q : Nat) : Nat → Int32 → Int32 → zMt → zNt → Option (Int32 × zMt × zNt)
  | 0, _, _, _, _ => none
  | n + 1, x1_17, x2_17, M_17, N_17 =>
    if (4 : Int32) ≤ x2_17 then
      D_X3_readParty_106 Q x1_17 M_17 N_17
    else
      if x2_17 < (2 : Int32) then
        D_X3_readParty_35 Q (D_X3_readParty_17 Q n) x1_17 x2_17 M_17 N_17
      else
        if (M_17 Q 6) = (3 : Int32) then
          D_X3_readParty_106 Q x1_17 M_17 N_17
        else
          D_X3_readParty_35 Q (D_X3_readParty_17 Q n) x1_17 x2_17 M_17 N_17
noncomputable def D_X3_readParty (Q : Nat) (M : zMt) (N : zNt) : Option (Int32 × zMt × zNt) :=
  zB (D_X3_step Q M N) fun e_1 =>
  zB (D_X3_readNewName Q e_1.1 e_1.2) fun e_5 =>
  if e_5.1 = 0 then
    some ((0 : Int32), e_5.2.1, e_5.2.2)
  else
    D_X3_readParty_17 Q zFu (0 : Int32) (0 : Int32) e_5.2.1 e_5.2.2
set_option maxRecDepth 100000 in
set_option maxHeartbeats 4000000 in
theorem t_X3_readParty {l : Launch} {G : zG} {b : Nat} {L : List zC} {M : zMt} {N : zNt} {Q : Nat}  (hQ : LX3 L Q) {r : Int32 × zMt × zNt} (h : D_X3_readParty Q M N = some r) : zM l G b yX3_readParty cX3_readParty 4 (some .boolean) 7 0 0 [.ref Q] (L, M, N) (fun r2 z => r2 = some (.int r.1) ∧ z = (L, r.2.1, r.2.2) ∧ (r.1 = 0 ∨ r.1 = 1)) := by
  refine zM.of miX3_readParty (Nat.le_of_ble_eq_true rfl) ?_
  intro p e s m args below meth c X hr hname
  generalize hF : ((fun r2 z => r2 = some (.int r.1) ∧ z = (L, r.2.1, r.2.2) ∧ (r.1 = 0 ∨ r.1 = 1)) : Option Value → zS → Prop) = FQ
  change Zw p l e { frames := 7, cells := 0, slots := 0, locals := 80 * (7) } s m args below meth c G b 4 (MQ below (zQ G b FQ) args s 0 0 (fun q : Nat => b ≤ q)) 0 0 0 [some (.ref Q), none, none, none] [] (L, M, N)
  have q_lt := hQ.1
  have q_o := hQ.2.1
  have q_draft := hQ.2.2.1
  have q_draft_lt := q_draft.1
  have q_draft_o := q_draft.2.1
  have q_hunterNames := hQ.2.2.2.2.2.1
  have q_partyNames := hQ.2.2.2.2.2.2.1
  have J_106 : ∀ (x1_106 : Int32) (x2_106 : Int32) (x3_106 : Option Value) (M_106 : zMt) (N_106 : zNt), D_X3_readParty_106 Q x1_106 M_106 N_106 = some r → Zw p l e { frames := 7, cells := 0, slots := 0, locals := 80 * (7) } s m args below meth c G b 4 (MQ below (zQ G b FQ) args s 0 0 (fun q : Nat => b ≤ q)) 0 0 106 [some (.ref (Q)), some (.int x1_106), some (.int x2_106), x3_106] [] (L, M_106, N_106) := by
    intro x1_106 x2_106 x3_106 M_106 N_106 h
    unfold D_X3_readParty_106 at h
    refine a_aload_n X dX3_readParty_106 rfl ?_
    obtain ⟨e_107, f_107, h⟩ := zBx h
    refine a_callVx X dX3_readParty_107 miX3_endOfLine lm3_181 (t_X3_endOfLine (by first | exact hQ | assumption) f_107) (by first | exact q_o | assumption) rfl rfl rfl (Nat.le_of_ble_eq_true rfl) ⟨by decide, by decide, by decide, by decide⟩ (fun r_107 S_107 q_107 => ?_)
    obtain ⟨rfl, rfl, b_107⟩ := q_107
    refine a_if_ne (tgt := 115) X dX3_readParty_110 (by decide) (fun h_110 => ?_) (fun h_110 => ?_)
    · replace h := (if_neg h_110).symm.trans h
      refine a_aload_n X dX3_readParty_115 rfl ?_
      refine a_getr X lf3_36 (by first | exact q_o | assumption) rfl (by omega) dX3_readParty_116 ?_
      refine a_aload_n X dX3_readParty_119 rfl ?_
      refine a_getr X lf3_12 (by first | exact q_o | assumption) rfl (by omega) dX3_readParty_120 ?_
      refine a_geti X lf3_157 (by first | exact q_draft_o | assumption) rfl dX3_readParty_123 ?_
      refine a_aload_n X dX3_readParty_126 rfl ?_
      refine a_getl X lf3_184 (by first | exact q_o | assumption) rfl dX3_readParty_127 ?_
      obtain ⟨N_130, f_130, h⟩ := zLtx h
      refine a_callSNu X dX3_readParty_130 miX7_bigPut lm3_187 (zMuN (c_bigPut (by first | exact q_partyNames | assumption) (by decide)) f_130) rfl rfl (Nat.le_of_ble_eq_true rfl) ⟨by decide, by decide, by decide, by decide⟩ ?_
      refine a_aload_n X dX3_readParty_133 rfl ?_
      refine a_getr X lf3_12 (by first | exact q_o | assumption) rfl (by omega) dX3_readParty_134 ?_
      refine a_iload_n X dX3_readParty_137 rfl ?_
      obtain ⟨e_138, f_138, h⟩ := zBx h
      refine a_callVu X dX3_readParty_138 miX4_addParty lm3_209 (t_X4_addParty (by first | exact q_draft | assumption) f_138) (by first | exact q_draft_o | assumption) rfl rfl rfl (Nat.le_of_ble_eq_true rfl) ⟨by decide, by decide, by decide, by decide⟩ ?_
      refine a_iconst (v := 1) X dX3_readParty_141 (by decide) ?_
      refine a_zret X (by first | exact Or.inl rfl | exact Or.inr rfl | assumption) hr dX3_readParty_142 ⟨by decide, by decide⟩ ?_
      subst hF
      rw [← Option.some.inj h]
      exact ⟨rfl, rfl, (by first | exact Or.inl rfl | exact Or.inr rfl | assumption)⟩
    · replace h := (if_pos h_110).symm.trans h
      refine a_iconst (v := 0) X dX3_readParty_113 (by decide) ?_
      refine a_zret X (by first | exact Or.inl rfl | exact Or.inr rfl | assumption) hr dX3_readParty_114 ⟨by decide, by decide⟩ ?_
      subst hF
      rw [← Option.some.inj h]
      exact ⟨rfl, rfl, (by first | exact Or.inl rfl | exact Or.inr rfl | assumption)⟩
  have J_84 : ∀ (x1_84 : Int32) (x2_84 : Int32) (x3_84 : Int32) (M_84 : zMt) (N_84 : zNt), D_X3_readParty_84 Q M_84 N_84 = some r → Zw p l e { frames := 7, cells := 0, slots := 0, locals := 80 * (7) } s m args below meth c G b 4 (MQ below (zQ G b FQ) args s 0 0 (fun q : Nat => b ≤ q)) 0 0 84 [some (.ref (Q)), some (.int x1_84), some (.int x2_84), some (.int x3_84)] [] (L, M_84, N_84) := by
    intro x1_84 x2_84 x3_84 M_84 N_84 h
    unfold D_X3_readParty_84 at h
    refine a_aload_n X dX3_readParty_84 rfl ?_
    refine a_iconst (v := 4) X dX3_readParty_85 (by decide) ?_
    obtain ⟨e_86, f_86, h⟩ := zBx h
    refine a_callVx X dX3_readParty_86 miX3_fail lm3_148 (t_X3_fail (by first | exact hQ | assumption) f_86) (by first | exact q_o | assumption) rfl rfl rfl (Nat.le_of_ble_eq_true rfl) ⟨by decide, by decide, by decide, by decide⟩ (fun r_86 S_86 q_86 => ?_)
    obtain ⟨rfl, rfl, b_86⟩ := q_86
    refine a_zret X (by first | exact Or.inl rfl | exact Or.inr rfl | assumption) hr dX3_readParty_89 ⟨by decide, by decide⟩ ?_
    subst hF
    rw [← Option.some.inj h]
    exact ⟨rfl, rfl, (by first | exact Or.inl rfl | exact Or.inr rfl | assumption)⟩
  have L_17 : ∀ u : Nat, ∀ (x1_17 : Int32) (x2_17 : Int32) (x3_17 : Option Value) (M_17 : zMt) (N_17 : zNt), D_X3_readParty_17 Q u x1_17 x2_17 M_17 N_17 = some r → Zw p l e { frames := 7, cells := 0, slots := 0, locals := 80 * (7) } s m args below meth c G b 4 (MQ below (zQ G b FQ) args s 0 0 (fun q : Nat => b ≤ q)) 0 0 17 [some (.ref (Q)), some (.int x1_17), some (.int x2_17), x3_17] [] (L, M_17, N_17) := by
    intro u
    induction u with
    | zero => intro x1_17 x2_17 x3_17 M_17 N_17 h; cases (show none = some r from h)
    | succ u_17 ih_17 =>
      have J_35 : ∀ (x1_35 : Int32) (x2_35 : Int32) (x3_35 : Option Value) (M_35 : zMt) (N_35 : zNt), D_X3_readParty_35 Q (D_X3_readParty_17 Q u_17) x1_35 x2_35 M_35 N_35 = some r → Zw p l e { frames := 7, cells := 0, slots := 0, locals := 80 * (7) } s m args below meth c G b 4 (MQ below (zQ G b FQ) args s 0 0 (fun q : Nat => b ≤ q)) 0 0 35 [some (.ref (Q)), some (.int x1_35), some (.int x2_35), x3_35] [] (L, M_35, N_35) := by
        intro x1_35 x2_35 x3_35 M_35 N_35 h
        unfold D_X3_readParty_35 at h
        refine a_aload_n X dX3_readParty_35 rfl ?_
        obtain ⟨e_36, f_36, h⟩ := zBx h
        refine a_callVx X dX3_readParty_36 miX3_isName lm3_199 (t_X3_isName (by first | exact hQ | assumption) f_36) (by first | exact q_o | assumption) rfl rfl rfl (Nat.le_of_ble_eq_true rfl) ⟨by decide, by decide, by decide, by decide⟩ (fun r_36 S_36 q_36 => ?_)
        obtain ⟨rfl, rfl, b_36⟩ := q_36
        refine a_if_ne (tgt := 48) X dX3_readParty_39 (by decide) (fun h_39 => ?_) (fun h_39 => ?_)
        · replace h := (if_neg h_39).symm.trans h
          refine a_aload_n X dX3_readParty_48 rfl ?_
          refine a_getr X lf3_33 (by first | exact q_o | assumption) rfl (by omega) dX3_readParty_49 ?_
          refine a_aload_n X dX3_readParty_52 rfl ?_
          refine a_getr X lf3_12 (by first | exact q_o | assumption) rfl (by omega) dX3_readParty_53 ?_
          refine a_geti X lf3_151 (by first | exact q_draft_o | assumption) rfl dX3_readParty_56 ?_
          refine a_aload_n X dX3_readParty_59 rfl ?_
          refine a_getl X lf3_104 (by first | exact q_o | assumption) rfl dX3_readParty_60 ?_
          obtain ⟨e_63, f_63, h⟩ := zBx h
          refine a_callSv X dX3_readParty_63 miX3_find lm3_202 (t_X3_find (by first | exact q_hunterNames | assumption) (by decide) f_63) rfl rfl (Nat.le_of_ble_eq_true rfl) ⟨by decide, by decide, by decide, by decide⟩ ?_
          refine a_istore_n X dX3_readParty_66 (by decide) ?_
          refine a_aload_n X dX3_readParty_67 rfl ?_
          refine a_iload_n X dX3_readParty_68 rfl ?_
          obtain ⟨e_69, f_69, h⟩ := zBx h
          refine a_callVx X dX3_readParty_69 miX3_isFree lm3_206 (t_X3_isFree (by first | exact hQ | assumption) f_69) (by first | exact q_o | assumption) rfl rfl rfl (Nat.le_of_ble_eq_true rfl) ⟨by decide, by decide, by decide, by decide⟩ (fun r_69 S_69 q_69 => ?_)
          obtain ⟨rfl, rfl, b_69⟩ := q_69
          refine a_if_eq (tgt := 84) X dX3_readParty_72 (by decide) (fun h_72 => ?_) (fun h_72 => ?_)
          · replace h := (if_pos h_72).symm.trans h
            exact Zw.to2 (J_84 _ _ _ _ _ h) rfl rfl rfl
          · replace h := (if_neg h_72).symm.trans h
            refine a_iload_n X dX3_readParty_75 rfl ?_
            refine a_iload_n X dX3_readParty_76 rfl ?_
            refine a_ishr X dX3_readParty_77 ?_
            refine a_iconst (v := 1) X dX3_readParty_78 (by decide) ?_
            refine a_iand X dX3_readParty_79 ?_
            refine a_iconst (v := 1) X dX3_readParty_80 (by decide) ?_
            refine a_icmp_ne (tgt := 90) X dX3_readParty_81 (by decide) (fun h_81 => ?_) (fun h_81 => ?_)
            · replace h := (if_neg h_81).symm.trans h
              refine a_iload_n X dX3_readParty_90 rfl ?_
              refine a_iconst (v := 1) X dX3_readParty_91 (by decide) ?_
              refine a_iload_n X dX3_readParty_92 rfl ?_
              refine a_ishl X dX3_readParty_93 ?_
              refine a_ior X dX3_readParty_94 ?_
              refine a_istore_n X dX3_readParty_95 (by decide) ?_
              refine a_aload_n X dX3_readParty_96 rfl ?_
              obtain ⟨e_97, f_97, h⟩ := zBx h
              refine a_callVu X dX3_readParty_97 miX3_step lm3_71 (t_X3_step (by first | exact hQ | assumption) f_97) (by first | exact q_o | assumption) rfl rfl rfl (Nat.le_of_ble_eq_true rfl) ⟨by decide, by decide, by decide, by decide⟩ ?_
              refine a_iinc (v := x2_35 + 1) X dX3_readParty_100 (by decide) rfl zi_1 ?_
              refine a_goto (tgt := 17) X dX3_readParty_103 (by decide) ?_
              exact Zw.to2 (ih_17 _ _ _ _ _ h) rfl rfl rfl
            · replace h := (if_pos h_81).symm.trans h
              exact Zw.to2 (J_84 _ _ _ _ _ h) rfl rfl rfl
        · replace h := (if_pos h_39).symm.trans h
          refine a_aload_n X dX3_readParty_42 rfl ?_
          refine a_iconst (v := 2) X dX3_readParty_43 (by decide) ?_
          obtain ⟨e_44, f_44, h⟩ := zBx h
          refine a_callVx X dX3_readParty_44 miX3_fail lm3_148 (t_X3_fail (by first | exact hQ | assumption) f_44) (by first | exact q_o | assumption) rfl rfl rfl (Nat.le_of_ble_eq_true rfl) ⟨by decide, by decide, by decide, by decide⟩ (fun r_44 S_44 q_44 => ?_)
          obtain ⟨rfl, rfl, b_44⟩ := q_44
          refine a_zret X (by first | exact Or.inl rfl | exact Or.inr rfl | assumption) hr dX3_readParty_47 ⟨by decide, by decide⟩ ?_
          subst hF
          rw [← Option.some.inj h]
          exact ⟨rfl, rfl, (by first | exact Or.inl rfl | exact Or.inr rfl | assumption)⟩
      intro x1_17 x2_17 x3_17 M_17 N_17 h
      rw [D_X3_readParty_17] at h
      refine a_iload_n X dX3_readParty_17 rfl ?_
      refine a_iconst (v := 4) X dX3_readParty_18 (by decide) ?_
      refine a_icmp_ge (tgt := 106) X dX3_readParty_19 (by decide) (fun h_19 => ?_) (fun h_19 => ?_)
      · replace h := (if_pos h_19).symm.trans h
        exact Zw.to2 (J_106 _ _ _ _ _ h) rfl rfl rfl
      · replace h := (if_neg h_19).symm.trans h
        refine a_iload_n X dX3_readParty_22 rfl ?_
        refine a_iconst (v := 2) X dX3_readParty_23 (by decide) ?_
        refine a_icmp_lt (tgt := 35) X dX3_readParty_24 (by decide) (fun h_24 => ?_) (fun h_24 => ?_)
        · replace h := (if_pos h_24).symm.trans h
          exact Zw.to2 (J_35 _ _ _ _ _ h) rfl rfl rfl
        · replace h := (if_neg h_24).symm.trans h
          refine a_aload_n X dX3_readParty_27 rfl ?_
          refine a_geti X lf3_74 (by first | exact q_o | assumption) rfl dX3_readParty_28 ?_
          refine a_iconst (v := 3) X dX3_readParty_31 (by decide) ?_
          refine a_icmp_eq (tgt := 106) X dX3_readParty_32 (by decide) (fun h_32 => ?_) (fun h_32 => ?_)
          · replace h := (if_pos h_32).symm.trans h
            exact Zw.to2 (J_106 _ _ _ _ _ h) rfl rfl rfl
          · replace h := (if_neg h_32).symm.trans h
            exact Zw.to2 (J_35 _ _ _ _ _ h) rfl rfl rfl
  have H_17 : ∀ (x1_17 : Int32) (x2_17 : Int32) (x3_17 : Option Value) (M_17 : zMt) (N_17 : zNt), D_X3_readParty_17 Q zFu x1_17 x2_17 M_17 N_17 = some r → Zw p l e { frames := 7, cells := 0, slots := 0, locals := 80 * (7) } s m args below meth c G b 4 (MQ below (zQ G b FQ) args s 0 0 (fun q : Nat => b ≤ q)) 0 0 17 [some (.ref (Q)), some (.int x1_17), some (.int x2_17), x3_17] [] (L, M_17, N_17) := L_17 zFu
  unfold D_X3_readParty at h
  refine a_aload_n X dX3_readParty_0 rfl ?_
  obtain ⟨e_1, f_1, h⟩ := zBx h
  refine a_callVu X dX3_readParty_1 miX3_step lm3_71 (t_X3_step (by first | exact hQ | assumption) f_1) (by first | exact q_o | assumption) rfl rfl rfl (Nat.le_of_ble_eq_true rfl) ⟨by decide, by decide, by decide, by decide⟩ ?_
  refine a_aload_n X dX3_readParty_4 rfl ?_
  obtain ⟨e_5, f_5, h⟩ := zBx h
  refine a_callVx X dX3_readParty_5 miX3_readNewName lm3_175 (t_X3_readNewName (by first | exact hQ | assumption) f_5) (by first | exact q_o | assumption) rfl rfl rfl (Nat.le_of_ble_eq_true rfl) ⟨by decide, by decide, by decide, by decide⟩ (fun r_5 S_5 q_5 => ?_)
  obtain ⟨rfl, rfl, b_5⟩ := q_5
  refine a_if_ne (tgt := 13) X dX3_readParty_8 (by decide) (fun h_8 => ?_) (fun h_8 => ?_)
  · replace h := (if_neg h_8).symm.trans h
    refine a_iconst (v := 0) X dX3_readParty_13 (by decide) ?_
    refine a_istore_n X dX3_readParty_14 (by decide) ?_
    refine a_iconst (v := 0) X dX3_readParty_15 (by decide) ?_
    refine a_istore_n X dX3_readParty_16 (by decide) ?_
    exact Zw.to2 (H_17 _ _ _ _ _ h) rfl rfl rfl
  · replace h := (if_pos h_8).symm.trans h
    refine a_iconst (v := 0) X dX3_readParty_11 (by decide) ?_
    refine a_zret X (by first | exact Or.inl rfl | exact Or.inr rfl | assumption) hr dX3_readParty_12 ⟨by decide, by decide⟩ ?_
    subst hF
    rw [← Option.some.inj h]
    exact ⟨rfl, rfl, (by first | exact Or.inl rfl | exact Or.inr rfl | assumption)⟩
noncomputable def D_X3_asker_116 (Q : Nat) (M : zMt) (N : zNt) (x3_116 : Int32) : Option (Int32) :=
  some (x3_116)
noncomputable def D_X3_asker_110 (Q : Nat) (M : zMt) (N : zNt) (k55 : Int32 → Int32 → Int32 → Option (Int32)) (x2_110 : Int32) (x3_110 : Int32) (x4_110 : Int32) : Option (Int32) :=
  k55 x2_110 x3_110 (x4_110 + 1)
noncomputable def D_X3_asker_55 (Q : Nat) (M : zMt) (N : zNt) : Nat → Int32 → Int32 → Int32 → Option (Int32)
  | 0, _, _, _ => none
  | n + 1, x2_55, x3_55, x4_55 =>
    if x2_55 = (-1 : Int32) then
      D_X3_asker_116 Q M N x3_55
    else
      if (M (Q + 1) 1) ≤ x4_55 then
        D_X3_asker_116 Q M N x3_55
      else
        if (zrd 0 (M (Q + 5)) 10 x4_55) = x2_55 then
          if (zrd 0 (M (Q + 6)) 10 x4_55) = 0 then
            D_X3_asker_110 Q M N (D_X3_asker_55 Q M N n) x2_55 (x3_55 ||| ((1 : Int32) <<< (x4_55 &&& 31))) x4_55
          else
            D_X3_asker_110 Q M N (D_X3_asker_55 Q M N n) x2_55 x3_55 x4_55
        else
          D_X3_asker_110 Q M N (D_X3_asker_55 Q M N n) x2_55 x3_55 x4_55
noncomputable def D_X3_asker (Q : Nat) (M : zMt) (N : zNt)  : Option (Int32) :=
  zB (D_X3_find (Q + 11) 10 N (M (Q + 1) 1) (N Q 8)) fun e_15 =>
  zB (D_X3_isFree Q M e_15) fun e_21 =>
  if e_21 = 0 then
    zB (D_X3_find (Q + 12) 4 N (M (Q + 1) 2) (N Q 8)) fun e_46 =>
    D_X3_asker_55 Q M N zFu e_46 (0 : Int32) (0 : Int32)
  else
    some (((1 : Int32) <<< (e_15 &&& 31)))
set_option maxRecDepth 100000 in
set_option maxHeartbeats 4000000 in
theorem t_X3_asker {l : Launch} {G : zG} {b : Nat} {L : List zC} {M : zMt} {N : zNt} {Q : Nat}  (hQ : LX3 L Q) {r : Int32} (h : D_X3_asker Q M N = some r) : zM l G b yX3_asker cX3_asker 5 (some .int) 2 0 0 [.ref Q] (L, M, N) (fun r2 z => r2 = some (.int r) ∧ z = (L, M, N)) := by
  refine zM.of miX3_asker (Nat.le_of_ble_eq_true rfl) ?_
  intro p e s m args below meth c X hr hname
  generalize hF : ((fun r2 z => r2 = some (.int r) ∧ z = (L, M, N)) : Option Value → zS → Prop) = FQ
  change Zw p l e { frames := 2, cells := 0, slots := 0, locals := 80 * (2) } s m args below meth c G b 5 (MQ below (zQ G b FQ) args s 0 0 (fun q : Nat => b ≤ q)) 0 0 0 [some (.ref Q), none, none, none, none] [] (L, M, N)
  have q_lt := hQ.1
  have q_o := hQ.2.1
  have q_draft := hQ.2.2.1
  have q_draft_lt := q_draft.1
  have q_draft_o := q_draft.2.1
  have q_draft_party := q_draft.2.2.2.2.2.1
  have q_draft_wishCount := q_draft.2.2.2.2.2.2.1
  have q_hunterNames := hQ.2.2.2.2.2.1
  have q_partyNames := hQ.2.2.2.2.2.2.1
  have J_116 : ∀ (x1_116 : Int32) (x2_116 : Int32) (x3_116 : Int32) (x4_116 : Int32), D_X3_asker_116 Q M N x3_116 = some r → Zw p l e { frames := 2, cells := 0, slots := 0, locals := 80 * (2) } s m args below meth c G b 5 (MQ below (zQ G b FQ) args s 0 0 (fun q : Nat => b ≤ q)) 0 0 116 [some (.ref (Q)), some (.int x1_116), some (.int x2_116), some (.int x3_116), some (.int x4_116)] [] (L, M, N) := by
    intro x1_116 x2_116 x3_116 x4_116 h
    unfold D_X3_asker_116 at h
    refine a_iload_n X dX3_asker_116 rfl ?_
    refine a_iret X hr dX3_asker_117 ⟨by decide, by decide⟩ ?_
    subst hF
    rw [← Option.some.inj h]
    exact ⟨rfl, rfl⟩
  have L_55 : ∀ u : Nat, ∀ (x1_55 : Int32) (x2_55 : Int32) (x3_55 : Int32) (x4_55 : Int32), D_X3_asker_55 Q M N u x2_55 x3_55 x4_55 = some r → Zw p l e { frames := 2, cells := 0, slots := 0, locals := 80 * (2) } s m args below meth c G b 5 (MQ below (zQ G b FQ) args s 0 0 (fun q : Nat => b ≤ q)) 0 0 55 [some (.ref (Q)), some (.int x1_55), some (.int x2_55), some (.int x3_55), some (.int x4_55)] [] (L, M, N) := by
    intro u
    induction u with
    | zero => intro x1_55 x2_55 x3_55 x4_55 h; cases (show none = some r from h)
    | succ u_55 ih_55 =>
      have J_110 : ∀ (x1_110 : Int32) (x2_110 : Int32) (x3_110 : Int32) (x4_110 : Int32), D_X3_asker_110 Q M N (D_X3_asker_55 Q M N u_55) x2_110 x3_110 x4_110 = some r → Zw p l e { frames := 2, cells := 0, slots := 0, locals := 80 * (2) } s m args below meth c G b 5 (MQ below (zQ G b FQ) args s 0 0 (fun q : Nat => b ≤ q)) 0 0 110 [some (.ref (Q)), some (.int x1_110), some (.int x2_110), some (.int x3_110), some (.int x4_110)] [] (L, M, N) := by
        intro x1_110 x2_110 x3_110 x4_110 h
        unfold D_X3_asker_110 at h
        refine a_iinc (v := x4_110 + 1) X dX3_asker_110 (by decide) rfl zi_1 ?_
        refine a_goto (tgt := 55) X dX3_asker_113 (by decide) ?_
        exact Zw.to2 (ih_55 _ _ _ _ h) rfl rfl rfl
      intro x1_55 x2_55 x3_55 x4_55 h
      rw [D_X3_asker_55] at h
      refine a_iload_n X dX3_asker_55 rfl ?_
      refine a_iconst (v := -1) X dX3_asker_56 (by decide) ?_
      refine a_icmp_eq (tgt := 116) X dX3_asker_57 (by decide) (fun h_57 => ?_) (fun h_57 => ?_)
      · replace h := (if_pos h_57).symm.trans h
        exact Zw.to2 (J_116 _ _ _ _ h) rfl rfl rfl
      · replace h := (if_neg h_57).symm.trans h
        refine a_iload X dX3_asker_60 rfl ?_
        refine a_aload_n X dX3_asker_62 rfl ?_
        refine a_getr X lf3_12 (by first | exact q_o | assumption) rfl (by omega) dX3_asker_63 ?_
        refine a_geti X lf3_151 (by first | exact q_draft_o | assumption) rfl dX3_asker_66 ?_
        refine a_icmp_ge (tgt := 116) X dX3_asker_69 (by decide) (fun h_69 => ?_) (fun h_69 => ?_)
        · replace h := (if_pos h_69).symm.trans h
          exact Zw.to2 (J_116 _ _ _ _ h) rfl rfl rfl
        · replace h := (if_neg h_69).symm.trans h
          refine a_aload_n X dX3_asker_72 rfl ?_
          refine a_getr X lf3_12 (by first | exact q_o | assumption) rfl (by omega) dX3_asker_73 ?_
          refine a_getr X lf3_250 (by first | exact q_draft_o | assumption) rfl (by omega) dX3_asker_76 ?_
          refine a_iload X dX3_asker_79 rfl ?_
          refine a_callSNv X dX3_asker_81 miX7_cell lm3_81 (c_cell (by first | exact q_draft_party | assumption) (by decide)) rfl rfl (Nat.le_of_ble_eq_true rfl) ⟨by decide, by decide, by decide, by decide⟩ ?_
          refine a_iload_n X dX3_asker_84 rfl ?_
          refine a_icmp_ne (tgt := 110) X dX3_asker_85 (by decide) (fun h_85 => ?_) (fun h_85 => ?_)
          · replace h := (if_neg h_85).symm.trans h
            exact Zw.to2 (J_110 _ _ _ _ h) rfl rfl rfl
          · replace h := (if_pos h_85).symm.trans h
            refine a_aload_n X dX3_asker_88 rfl ?_
            refine a_getr X lf3_12 (by first | exact q_o | assumption) rfl (by omega) dX3_asker_89 ?_
            refine a_getr X lf3_252 (by first | exact q_draft_o | assumption) rfl (by omega) dX3_asker_92 ?_
            refine a_iload X dX3_asker_95 rfl ?_
            refine a_callSNv X dX3_asker_97 miX7_cell lm3_81 (c_cell (by first | exact q_draft_wishCount | assumption) (by decide)) rfl rfl (Nat.le_of_ble_eq_true rfl) ⟨by decide, by decide, by decide, by decide⟩ ?_
            refine a_if_ne (tgt := 110) X dX3_asker_100 (by decide) (fun h_100 => ?_) (fun h_100 => ?_)
            · replace h := (if_neg h_100).symm.trans h
              exact Zw.to2 (J_110 _ _ _ _ h) rfl rfl rfl
            · replace h := (if_pos h_100).symm.trans h
              refine a_iload_n X dX3_asker_103 rfl ?_
              refine a_iconst (v := 1) X dX3_asker_104 (by decide) ?_
              refine a_iload X dX3_asker_105 rfl ?_
              refine a_ishl X dX3_asker_107 ?_
              refine a_ior X dX3_asker_108 ?_
              refine a_istore_n X dX3_asker_109 (by decide) ?_
              exact Zw.to2 (J_110 _ _ _ _ h) rfl rfl rfl
  have H_55 : ∀ (x1_55 : Int32) (x2_55 : Int32) (x3_55 : Int32) (x4_55 : Int32), D_X3_asker_55 Q M N zFu x2_55 x3_55 x4_55 = some r → Zw p l e { frames := 2, cells := 0, slots := 0, locals := 80 * (2) } s m args below meth c G b 5 (MQ below (zQ G b FQ) args s 0 0 (fun q : Nat => b ≤ q)) 0 0 55 [some (.ref (Q)), some (.int x1_55), some (.int x2_55), some (.int x3_55), some (.int x4_55)] [] (L, M, N) := L_55 zFu
  unfold D_X3_asker at h
  refine a_aload_n X dX3_asker_0 rfl ?_
  refine a_getr X lf3_33 (by first | exact q_o | assumption) rfl (by omega) dX3_asker_1 ?_
  refine a_aload_n X dX3_asker_4 rfl ?_
  refine a_getr X lf3_12 (by first | exact q_o | assumption) rfl (by omega) dX3_asker_5 ?_
  refine a_geti X lf3_151 (by first | exact q_draft_o | assumption) rfl dX3_asker_8 ?_
  refine a_aload_n X dX3_asker_11 rfl ?_
  refine a_getl X lf3_104 (by first | exact q_o | assumption) rfl dX3_asker_12 ?_
  obtain ⟨e_15, f_15, h⟩ := zBx h
  refine a_callSv X dX3_asker_15 miX3_find lm3_202 (t_X3_find (by first | exact q_hunterNames | assumption) (by decide) f_15) rfl rfl (Nat.le_of_ble_eq_true rfl) ⟨by decide, by decide, by decide, by decide⟩ ?_
  refine a_istore_n X dX3_asker_18 (by decide) ?_
  refine a_aload_n X dX3_asker_19 rfl ?_
  refine a_iload_n X dX3_asker_20 rfl ?_
  obtain ⟨e_21, f_21, h⟩ := zBx h
  refine a_callVx X dX3_asker_21 miX3_isFree lm3_206 (t_X3_isFree (by first | exact hQ | assumption) f_21) (by first | exact q_o | assumption) rfl rfl rfl (Nat.le_of_ble_eq_true rfl) ⟨by decide, by decide, by decide, by decide⟩ (fun r_21 S_21 q_21 => ?_)
  obtain ⟨rfl, rfl, b_21⟩ := q_21
  refine a_if_eq (tgt := 31) X dX3_asker_24 (by decide) (fun h_24 => ?_) (fun h_24 => ?_)
  · replace h := (if_pos h_24).symm.trans h
    refine a_aload_n X dX3_asker_31 rfl ?_
    refine a_getr X lf3_36 (by first | exact q_o | assumption) rfl (by omega) dX3_asker_32 ?_
    refine a_aload_n X dX3_asker_35 rfl ?_
    refine a_getr X lf3_12 (by first | exact q_o | assumption) rfl (by omega) dX3_asker_36 ?_
    refine a_geti X lf3_157 (by first | exact q_draft_o | assumption) rfl dX3_asker_39 ?_
    refine a_aload_n X dX3_asker_42 rfl ?_
    refine a_getl X lf3_104 (by first | exact q_o | assumption) rfl dX3_asker_43 ?_
    obtain ⟨e_46, f_46, h⟩ := zBx h
    refine a_callSv X dX3_asker_46 miX3_find lm3_202 (t_X3_find (by first | exact q_partyNames | assumption) (by decide) f_46) rfl rfl (Nat.le_of_ble_eq_true rfl) ⟨by decide, by decide, by decide, by decide⟩ ?_
    refine a_istore_n X dX3_asker_49 (by decide) ?_
    refine a_iconst (v := 0) X dX3_asker_50 (by decide) ?_
    refine a_istore_n X dX3_asker_51 (by decide) ?_
    refine a_iconst (v := 0) X dX3_asker_52 (by decide) ?_
    refine a_istore X dX3_asker_53 (by decide) ?_
    exact Zw.to2 (H_55 _ _ _ _ h) rfl rfl rfl
  · replace h := (if_neg h_24).symm.trans h
    refine a_iconst (v := 1) X dX3_asker_27 (by decide) ?_
    refine a_iload_n X dX3_asker_28 rfl ?_
    refine a_ishl X dX3_asker_29 ?_
    refine a_iret X hr dX3_asker_30 ⟨by decide, by decide⟩ ?_
    subst hF
    rw [← Option.some.inj h]
    exact ⟨rfl, rfl⟩
noncomputable def D_X4_wishFor_109 (Q : Nat) (k38 : Int32 → Int32 → Int32 → Int32 → Int32 → Int32 → zMt → Option (zMt)) (x1_109 : Int32) (x2_109 : Int32) (x3_109 : Int32) (x4_109 : Int32) (x5_109 : Int32) (x6_109 : Int32) (M_109 : zMt) : Option (zMt) :=
  k38 x1_109 x2_109 x3_109 x4_109 x5_109 (x6_109 + 1) M_109
noncomputable def D_X4_wishFor_38 (Q : Nat) : Nat → Int32 → Int32 → Int32 → Int32 → Int32 → Int32 → zMt → Option (zMt)
  | 0, _, _, _, _, _, _, _ => none
  | n + 1, x1_38, x2_38, x3_38, x4_38, x5_38, x6_38, M_38 =>
    if (M_38 Q 1) ≤ x6_38 then
      some (M_38)
    else
      if ((x1_38 >>> (x6_38 &&& 31)) &&& (1 : Int32)) = (1 : Int32) then
        zLt (zwr M_38 (Q + 5) 10 x6_38 x5_38) fun M_65 =>
        zLt (zwr M_65 (Q + 6) 30 (x6_38 * (3 : Int32)) x2_38) fun M_77 =>
        zLt (zwr M_77 (Q + 6) 30 ((x6_38 * (3 : Int32)) + (1 : Int32)) x3_38) fun M_91 =>
        zLt (zwr M_91 (Q + 6) 30 ((x6_38 * (3 : Int32)) + (2 : Int32)) x4_38) fun M_106 =>
        D_X4_wishFor_109 Q (D_X4_wishFor_38 Q n) x1_38 x2_38 x3_38 x4_38 x5_38 x6_38 M_106
      else
        D_X4_wishFor_109 Q (D_X4_wishFor_38 Q n) x1_38 x2_38 x3_38 x4_38 x5_38 x6_38 M_38
noncomputable def D_X4_wishFor_32 (Q : Nat) (x1_32 : Int32) (x2_32 : Int32) (x3_32 : Int32) (x4_32 : Int32) (y0_32 : Int32) (y1_32 : Int32) (M_32 : zMt) : Option (zMt) :=
  D_X4_wishFor_38 Q zFu x1_32 x2_32 x3_32 x4_32 (y0_32 + y1_32) (0 : Int32) M_32
noncomputable def D_X4_wishFor_20 (Q : Nat) (x1_20 : Int32) (x2_20 : Int32) (x3_20 : Int32) (x4_20 : Int32) (y0_20 : Int32) (y1_20 : Int32) (M_20 : zMt) : Option (zMt) :=
  if x4_20 = (-1 : Int32) then
    D_X4_wishFor_32 Q x1_20 x2_20 x3_20 x4_20 (y0_20 + y1_20) (0 : Int32) M_20
  else
    D_X4_wishFor_32 Q x1_20 x2_20 x3_20 x4_20 (y0_20 + y1_20) (1 : Int32) M_20
noncomputable def D_X4_wishFor_10 (Q : Nat) (x1_10 : Int32) (x2_10 : Int32) (x3_10 : Int32) (x4_10 : Int32) (y0_10 : Int32) (M_10 : zMt) : Option (zMt) :=
  if x3_10 = (-1 : Int32) then
    D_X4_wishFor_20 Q x1_10 x2_10 x3_10 x4_10 y0_10 (0 : Int32) M_10
  else
    D_X4_wishFor_20 Q x1_10 x2_10 x3_10 x4_10 y0_10 (1 : Int32) M_10
noncomputable def D_X4_wishFor (Q : Nat) (v0 : Int32) (v1 : Int32) (v2 : Int32) (v3 : Int32) (M : zMt) : Option (zMt) :=
  if v1 = (-1 : Int32) then
    D_X4_wishFor_10 Q v0 v1 v2 v3 (0 : Int32) M
  else
    D_X4_wishFor_10 Q v0 v1 v2 v3 (1 : Int32) M
set_option maxRecDepth 100000 in
set_option maxHeartbeats 4000000 in
theorem t_X4_wishFor {l : Launch} {G : zG} {b : Nat} {L : List zC} {M : zMt} {N : zNt} {Q : Nat} {v0 : Int32} {v1 : Int32} {v2 : Int32} {v3 : Int32} (hQ : LX4 L Q) {r : zMt} (h : D_X4_wishFor Q v0 v1 v2 v3 M = some r) : zM l G b yX4_wishFor cX4_wishFor 7 none 1 0 0 [.ref Q, .int v0, .int v1, .int v2, .int v3] (L, M, N) (fun r2 z => r2 = none ∧ z = (L, r, N)) := by
  refine zM.of miX4_wishFor (Nat.le_of_ble_eq_true rfl) ?_
  intro p e s m args below meth c X hr hname
  generalize hF : ((fun r2 z => r2 = none ∧ z = (L, r, N)) : Option Value → zS → Prop) = FQ
  change Zw p l e { frames := 1, cells := 0, slots := 0, locals := 80 * (1) } s m args below meth c G b 7 (MQ below (zQ G b FQ) args s 0 0 (fun q : Nat => b ≤ q)) 0 0 0 [some (.ref Q), some (.int v0), some (.int v1), some (.int v2), some (.int v3), none, none] [] (L, M, N)
  have q_lt := hQ.1
  have q_o := hQ.2.1
  have q_wishCount := hQ.2.2.2.2.2.2.1
  have q_wishes := hQ.2.2.2.2.2.2.2.1
  have L_38 : ∀ u : Nat, ∀ (x1_38 : Int32) (x2_38 : Int32) (x3_38 : Int32) (x4_38 : Int32) (x5_38 : Int32) (x6_38 : Int32) (M_38 : zMt), D_X4_wishFor_38 Q u x1_38 x2_38 x3_38 x4_38 x5_38 x6_38 M_38 = some r → Zw p l e { frames := 1, cells := 0, slots := 0, locals := 80 * (1) } s m args below meth c G b 7 (MQ below (zQ G b FQ) args s 0 0 (fun q : Nat => b ≤ q)) 0 0 38 [some (.ref (Q)), some (.int x1_38), some (.int x2_38), some (.int x3_38), some (.int x4_38), some (.int x5_38), some (.int x6_38)] [] (L, M_38, N) := by
    intro u
    induction u with
    | zero => intro x1_38 x2_38 x3_38 x4_38 x5_38 x6_38 M_38 h; cases (show none = some r from h)
    | succ u_38 ih_38 =>
      have J_109 : ∀ (x1_109 : Int32) (x2_109 : Int32) (x3_109 : Int32) (x4_109 : Int32) (x5_109 : Int32) (x6_109 : Int32) (M_109 : zMt), D_X4_wishFor_109 Q (D_X4_wishFor_38 Q u_38) x1_109 x2_109 x3_109 x4_109 x5_109 x6_109 M_109 = some r → Zw p l e { frames := 1, cells := 0, slots := 0, locals := 80 * (1) } s m args below meth c G b 7 (MQ below (zQ G b FQ) args s 0 0 (fun q : Nat => b ≤ q)) 0 0 109 [some (.ref (Q)), some (.int x1_109), some (.int x2_109), some (.int x3_109), some (.int x4_109), some (.int x5_109), some (.int x6_109)] [] (L, M_109, N) := by
        intro x1_109 x2_109 x3_109 x4_109 x5_109 x6_109 M_109 h
        unfold D_X4_wishFor_109 at h
        refine a_iinc (v := x6_109 + 1) X dX4_wishFor_109 (by decide) rfl zi_1 ?_
        refine a_goto (tgt := 38) X dX4_wishFor_112 (by decide) ?_
        exact Zw.to2 (ih_38 _ _ _ _ _ _ _ h) rfl rfl rfl
      intro x1_38 x2_38 x3_38 x4_38 x5_38 x6_38 M_38 h
      rw [D_X4_wishFor_38] at h
      refine a_iload X dX4_wishFor_38 rfl ?_
      refine a_aload_n X dX4_wishFor_40 rfl ?_
      refine a_geti X lf4_37 (by first | exact q_o | assumption) rfl dX4_wishFor_41 ?_
      refine a_icmp_ge (tgt := 115) X dX4_wishFor_44 (by decide) (fun h_44 => ?_) (fun h_44 => ?_)
      · replace h := (if_pos h_44).symm.trans h
        refine a_vret X hr dX4_wishFor_115 ⟨by decide, by decide⟩ ?_
        subst hF
        rw [← Option.some.inj h]
        exact ⟨rfl, rfl⟩
      · replace h := (if_neg h_44).symm.trans h
        refine a_iload_n X dX4_wishFor_47 rfl ?_
        refine a_iload X dX4_wishFor_48 rfl ?_
        refine a_ishr X dX4_wishFor_50 ?_
        refine a_iconst (v := 1) X dX4_wishFor_51 (by decide) ?_
        refine a_iand X dX4_wishFor_52 ?_
        refine a_iconst (v := 1) X dX4_wishFor_53 (by decide) ?_
        refine a_icmp_ne (tgt := 109) X dX4_wishFor_54 (by decide) (fun h_54 => ?_) (fun h_54 => ?_)
        · replace h := (if_neg h_54).symm.trans h
          exact Zw.to2 (J_109 _ _ _ _ _ _ _ h) rfl rfl rfl
        · replace h := (if_pos h_54).symm.trans h
          refine a_aload_n X dX4_wishFor_57 rfl ?_
          refine a_getr X lf4_24 (by first | exact q_o | assumption) rfl (by omega) dX4_wishFor_58 ?_
          refine a_iload X dX4_wishFor_61 rfl ?_
          refine a_iload X dX4_wishFor_63 rfl ?_
          obtain ⟨M_65, f_65, h⟩ := zLtx h
          refine a_callSNu X dX4_wishFor_65 miX7_put lm4_63 (zMu (c_put (by first | exact q_wishCount | assumption) (by decide)) f_65) rfl rfl (Nat.le_of_ble_eq_true rfl) ⟨by decide, by decide, by decide, by decide⟩ ?_
          refine a_aload_n X dX4_wishFor_68 rfl ?_
          refine a_getr X lf4_27 (by first | exact q_o | assumption) rfl (by omega) dX4_wishFor_69 ?_
          refine a_iload X dX4_wishFor_72 rfl ?_
          refine a_iconst (v := 3) X dX4_wishFor_74 (by decide) ?_
          refine a_imul X dX4_wishFor_75 ?_
          refine a_iload_n X dX4_wishFor_76 rfl ?_
          obtain ⟨M_77, f_77, h⟩ := zLtx h
          refine a_callSNu X dX4_wishFor_77 miX7_put lm4_63 (zMu (c_put (by first | exact q_wishes | assumption) (by decide)) f_77) rfl rfl (Nat.le_of_ble_eq_true rfl) ⟨by decide, by decide, by decide, by decide⟩ ?_
          refine a_aload_n X dX4_wishFor_80 rfl ?_
          refine a_getr X lf4_27 (by first | exact q_o | assumption) rfl (by omega) dX4_wishFor_81 ?_
          refine a_iload X dX4_wishFor_84 rfl ?_
          refine a_iconst (v := 3) X dX4_wishFor_86 (by decide) ?_
          refine a_imul X dX4_wishFor_87 ?_
          refine a_iconst (v := 1) X dX4_wishFor_88 (by decide) ?_
          refine a_iadd X dX4_wishFor_89 ?_
          refine a_iload_n X dX4_wishFor_90 rfl ?_
          obtain ⟨M_91, f_91, h⟩ := zLtx h
          refine a_callSNu X dX4_wishFor_91 miX7_put lm4_63 (zMu (c_put (by first | exact q_wishes | assumption) (by decide)) f_91) rfl rfl (Nat.le_of_ble_eq_true rfl) ⟨by decide, by decide, by decide, by decide⟩ ?_
          refine a_aload_n X dX4_wishFor_94 rfl ?_
          refine a_getr X lf4_27 (by first | exact q_o | assumption) rfl (by omega) dX4_wishFor_95 ?_
          refine a_iload X dX4_wishFor_98 rfl ?_
          refine a_iconst (v := 3) X dX4_wishFor_100 (by decide) ?_
          refine a_imul X dX4_wishFor_101 ?_
          refine a_iconst (v := 2) X dX4_wishFor_102 (by decide) ?_
          refine a_iadd X dX4_wishFor_103 ?_
          refine a_iload X dX4_wishFor_104 rfl ?_
          obtain ⟨M_106, f_106, h⟩ := zLtx h
          refine a_callSNu X dX4_wishFor_106 miX7_put lm4_63 (zMu (c_put (by first | exact q_wishes | assumption) (by decide)) f_106) rfl rfl (Nat.le_of_ble_eq_true rfl) ⟨by decide, by decide, by decide, by decide⟩ ?_
          exact Zw.to2 (J_109 _ _ _ _ _ _ _ h) rfl rfl rfl
  have H_38 : ∀ (x1_38 : Int32) (x2_38 : Int32) (x3_38 : Int32) (x4_38 : Int32) (x5_38 : Int32) (x6_38 : Int32) (M_38 : zMt), D_X4_wishFor_38 Q zFu x1_38 x2_38 x3_38 x4_38 x5_38 x6_38 M_38 = some r → Zw p l e { frames := 1, cells := 0, slots := 0, locals := 80 * (1) } s m args below meth c G b 7 (MQ below (zQ G b FQ) args s 0 0 (fun q : Nat => b ≤ q)) 0 0 38 [some (.ref (Q)), some (.int x1_38), some (.int x2_38), some (.int x3_38), some (.int x4_38), some (.int x5_38), some (.int x6_38)] [] (L, M_38, N) := L_38 zFu
  have J_32 : ∀ (x1_32 : Int32) (x2_32 : Int32) (x3_32 : Int32) (x4_32 : Int32) (x5_32 : Option Value) (x6_32 : Option Value) (y0_32 : Int32) (y1_32 : Int32) (M_32 : zMt), (y1_32 = 0 ∨ y1_32 = 1) → D_X4_wishFor_32 Q x1_32 x2_32 x3_32 x4_32 y0_32 y1_32 M_32 = some r → Zw p l e { frames := 1, cells := 0, slots := 0, locals := 80 * (1) } s m args below meth c G b 7 (MQ below (zQ G b FQ) args s 0 0 (fun q : Nat => b ≤ q)) 0 0 32 [some (.ref (Q)), some (.int x1_32), some (.int x2_32), some (.int x3_32), some (.int x4_32), x5_32, x6_32] [.int y1_32, .int y0_32] (L, M_32, N) := by
    intro x1_32 x2_32 x3_32 x4_32 x5_32 x6_32 y0_32 y1_32 M_32 fb_y1_32 h
    unfold D_X4_wishFor_32 at h
    refine a_iadd X dX4_wishFor_32 ?_
    refine a_istore X dX4_wishFor_33 (by decide) ?_
    refine a_iconst (v := 0) X dX4_wishFor_35 (by decide) ?_
    refine a_istore X dX4_wishFor_36 (by decide) ?_
    exact Zw.to2 (H_38 _ _ _ _ _ _ _ h) rfl rfl rfl
  have J_20 : ∀ (x1_20 : Int32) (x2_20 : Int32) (x3_20 : Int32) (x4_20 : Int32) (x5_20 : Option Value) (x6_20 : Option Value) (y0_20 : Int32) (y1_20 : Int32) (M_20 : zMt), (y0_20 = 0 ∨ y0_20 = 1) → (y1_20 = 0 ∨ y1_20 = 1) → D_X4_wishFor_20 Q x1_20 x2_20 x3_20 x4_20 y0_20 y1_20 M_20 = some r → Zw p l e { frames := 1, cells := 0, slots := 0, locals := 80 * (1) } s m args below meth c G b 7 (MQ below (zQ G b FQ) args s 0 0 (fun q : Nat => b ≤ q)) 0 0 20 [some (.ref (Q)), some (.int x1_20), some (.int x2_20), some (.int x3_20), some (.int x4_20), x5_20, x6_20] [.int y1_20, .int y0_20] (L, M_20, N) := by
    intro x1_20 x2_20 x3_20 x4_20 x5_20 x6_20 y0_20 y1_20 M_20 fb_y0_20 fb_y1_20 h
    unfold D_X4_wishFor_20 at h
    refine a_iadd X dX4_wishFor_20 ?_
    refine a_iload X dX4_wishFor_21 rfl ?_
    refine a_iconst (v := -1) X dX4_wishFor_23 (by decide) ?_
    refine a_icmp_ne (tgt := 31) X dX4_wishFor_24 (by decide) (fun h_24 => ?_) (fun h_24 => ?_)
    · replace h := (if_neg h_24).symm.trans h
      refine a_iconst (v := 1) X dX4_wishFor_31 (by decide) ?_
      exact Zw.to2 (J_32 _ _ _ _ _ _ _ _ _ (by first | exact Or.inl rfl | exact Or.inr rfl | assumption) h) rfl rfl rfl
    · replace h := (if_pos h_24).symm.trans h
      refine a_iconst (v := 0) X dX4_wishFor_27 (by decide) ?_
      refine a_goto (tgt := 32) X dX4_wishFor_28 (by decide) ?_
      exact Zw.to2 (J_32 _ _ _ _ _ _ _ _ _ (by first | exact Or.inl rfl | exact Or.inr rfl | assumption) h) rfl rfl rfl
  have J_10 : ∀ (x1_10 : Int32) (x2_10 : Int32) (x3_10 : Int32) (x4_10 : Int32) (x5_10 : Option Value) (x6_10 : Option Value) (y0_10 : Int32) (M_10 : zMt), (y0_10 = 0 ∨ y0_10 = 1) → D_X4_wishFor_10 Q x1_10 x2_10 x3_10 x4_10 y0_10 M_10 = some r → Zw p l e { frames := 1, cells := 0, slots := 0, locals := 80 * (1) } s m args below meth c G b 7 (MQ below (zQ G b FQ) args s 0 0 (fun q : Nat => b ≤ q)) 0 0 10 [some (.ref (Q)), some (.int x1_10), some (.int x2_10), some (.int x3_10), some (.int x4_10), x5_10, x6_10] [.int y0_10] (L, M_10, N) := by
    intro x1_10 x2_10 x3_10 x4_10 x5_10 x6_10 y0_10 M_10 fb_y0_10 h
    unfold D_X4_wishFor_10 at h
    refine a_iload_n X dX4_wishFor_10 rfl ?_
    refine a_iconst (v := -1) X dX4_wishFor_11 (by decide) ?_
    refine a_icmp_ne (tgt := 19) X dX4_wishFor_12 (by decide) (fun h_12 => ?_) (fun h_12 => ?_)
    · replace h := (if_neg h_12).symm.trans h
      refine a_iconst (v := 1) X dX4_wishFor_19 (by decide) ?_
      exact Zw.to2 (J_20 _ _ _ _ _ _ _ _ _ (by first | exact Or.inl rfl | exact Or.inr rfl | assumption) (by first | exact Or.inl rfl | exact Or.inr rfl | assumption) h) rfl rfl rfl
    · replace h := (if_pos h_12).symm.trans h
      refine a_iconst (v := 0) X dX4_wishFor_15 (by decide) ?_
      refine a_goto (tgt := 20) X dX4_wishFor_16 (by decide) ?_
      exact Zw.to2 (J_20 _ _ _ _ _ _ _ _ _ (by first | exact Or.inl rfl | exact Or.inr rfl | assumption) (by first | exact Or.inl rfl | exact Or.inr rfl | assumption) h) rfl rfl rfl
  unfold D_X4_wishFor at h
  refine a_iload_n X dX4_wishFor_0 rfl ?_
  refine a_iconst (v := -1) X dX4_wishFor_1 (by decide) ?_
  refine a_icmp_ne (tgt := 9) X dX4_wishFor_2 (by decide) (fun h_2 => ?_) (fun h_2 => ?_)
  · replace h := (if_neg h_2).symm.trans h
    refine a_iconst (v := 1) X dX4_wishFor_9 (by decide) ?_
    exact Zw.to2 (J_10 _ _ _ _ _ _ _ _ (by first | exact Or.inl rfl | exact Or.inr rfl | assumption) h) rfl rfl rfl
  · replace h := (if_pos h_2).symm.trans h
    refine a_iconst (v := 0) X dX4_wishFor_5 (by decide) ?_
    refine a_goto (tgt := 10) X dX4_wishFor_6 (by decide) ?_
    exact Zw.to2 (J_10 _ _ _ _ _ _ _ _ (by first | exact Or.inl rfl | exact Or.inr rfl | assumption) h) rfl rfl rfl
noncomputable def D_X3_readAsks_150 (Q : Nat) (x1_150 : Int32) (M_150 : zMt) (N_150 : zNt) : Option (Int32 × zMt × zNt) :=
  zB (D_X3_endOfLine Q M_150 N_150) fun e_151 =>
  if e_151.1 = 0 then
    some ((0 : Int32), e_151.2.1, e_151.2.2)
  else
    zB (D_X4_wishFor (Q + 1) x1_150 (zrd 0 (e_151.2.1 (Q + 13)) 3 (0 : Int32)) (zrd 0 (e_151.2.1 (Q + 13)) 3 (1 : Int32)) (zrd 0 (e_151.2.1 (Q + 13)) 3 (2 : Int32)) e_151.2.1) fun e_188 =>
    some ((1 : Int32), e_188, e_151.2.2)
noncomputable def D_X3_readAsks_125 (Q : Nat) (M_125 : zMt) (N_125 : zNt) : Option (Int32 × zMt × zNt) :=
  zB (D_X3_fail Q (4 : Int32) M_125) fun e_127 =>
  some (e_127.1, e_127.2, N_125)
noncomputable def D_X3_readAsks_64 (Q : Nat) (k46 : Int32 → Int32 → zMt → zNt → Option (Int32 × zMt × zNt)) (x1_64 : Int32) (x2_64 : Int32) (M_64 : zMt) (N_64 : zNt) : Option (Int32 × zMt × zNt) :=
  zB (D_X3_isName Q M_64) fun e_65 =>
  if e_65 = 0 then
    zB (D_X3_fail Q (2 : Int32) M_64) fun e_73 =>
    some (e_73.1, e_73.2, N_64)
  else
    zB (D_X3_find (Q + 10) 5 N_64 (M_64 (Q + 1) 0) (N_64 Q 8)) fun e_92 =>
    if e_92 = (-1 : Int32) then
      D_X3_readAsks_125 Q M_64 N_64
    else
      if (zrd 0 (M_64 (Q + 13)) 3 (0 : Int32)) = e_92 then
        D_X3_readAsks_125 Q M_64 N_64
      else
        if (zrd 0 (M_64 (Q + 13)) 3 (1 : Int32)) = e_92 then
          D_X3_readAsks_125 Q M_64 N_64
        else
          zLt (zwr M_64 (Q + 13) 3 x2_64 e_92) fun M_137 =>
          zB (D_X3_step Q M_137 N_64) fun e_141 =>
          k46 x1_64 (x2_64 + 1) e_141.1 e_141.2
noncomputable def D_X3_readAsks_46 (Q : Nat) : Nat → Int32 → Int32 → zMt → zNt → Option (Int32 × zMt × zNt)
  | 0, _, _, _, _ => none
  | n + 1, x1_46, x2_46, M_46, N_46 =>
    if (3 : Int32) ≤ x2_46 then
      D_X3_readAsks_150 Q x1_46 M_46 N_46
    else
      if x2_46 < (1 : Int32) then
        D_X3_readAsks_64 Q (D_X3_readAsks_46 Q n) x1_46 x2_46 M_46 N_46
      else
        if (M_46 Q 6) = (3 : Int32) then
          D_X3_readAsks_150 Q x1_46 M_46 N_46
        else
          D_X3_readAsks_64 Q (D_X3_readAsks_46 Q n) x1_46 x2_46 M_46 N_46
noncomputable def D_X3_readAsks (Q : Nat) (M : zMt) (N : zNt) : Option (Int32 × zMt × zNt) :=
  zB (D_X3_step Q M N) fun e_1 =>
  zB (D_X3_isName Q e_1.1) fun e_5 =>
  if e_5 = 0 then
    zB (D_X3_fail Q (2 : Int32) e_1.1) fun e_13 =>
    some (e_13.1, e_13.2, e_1.2)
  else
    zB (D_X3_asker Q e_1.1 e_1.2) fun e_18 =>
    if e_18 = 0 then
      zB (D_X3_fail Q (4 : Int32) e_1.1) fun e_28 =>
      some (e_28.1, e_28.2, e_1.2)
    else
      zB (D_X3_step Q e_1.1 e_1.2) fun e_33 =>
      zLt (zfil e_33.1 (Q + 13) 3 (-1 : Int32)) fun M_41 =>
      D_X3_readAsks_46 Q zFu e_18 (0 : Int32) M_41 e_33.2
set_option maxRecDepth 100000 in
set_option maxHeartbeats 4000000 in
theorem t_X3_readAsks {l : Launch} {G : zG} {b : Nat} {L : List zC} {M : zMt} {N : zNt} {Q : Nat}  (hQ : LX3 L Q) {r : Int32 × zMt × zNt} (h : D_X3_readAsks Q M N = some r) : zM l G b yX3_readAsks cX3_readAsks 4 (some .boolean) 6 0 0 [.ref Q] (L, M, N) (fun r2 z => r2 = some (.int r.1) ∧ z = (L, r.2.1, r.2.2) ∧ (r.1 = 0 ∨ r.1 = 1)) := by
  refine zM.of miX3_readAsks (Nat.le_of_ble_eq_true rfl) ?_
  intro p e s m args below meth c X hr hname
  generalize hF : ((fun r2 z => r2 = some (.int r.1) ∧ z = (L, r.2.1, r.2.2) ∧ (r.1 = 0 ∨ r.1 = 1)) : Option Value → zS → Prop) = FQ
  change Zw p l e { frames := 6, cells := 0, slots := 0, locals := 80 * (6) } s m args below meth c G b 4 (MQ below (zQ G b FQ) args s 0 0 (fun q : Nat => b ≤ q)) 0 0 0 [some (.ref Q), none, none, none] [] (L, M, N)
  have q_lt := hQ.1
  have q_o := hQ.2.1
  have q_draft := hQ.2.2.1
  have q_draft_lt := q_draft.1
  have q_draft_o := q_draft.2.1
  have q_unitNames := hQ.2.2.2.2.1
  have q_asked := hQ.2.2.2.2.2.2.2
  have J_150 : ∀ (x1_150 : Int32) (x2_150 : Int32) (x3_150 : Option Value) (M_150 : zMt) (N_150 : zNt), D_X3_readAsks_150 Q x1_150 M_150 N_150 = some r → Zw p l e { frames := 6, cells := 0, slots := 0, locals := 80 * (6) } s m args below meth c G b 4 (MQ below (zQ G b FQ) args s 0 0 (fun q : Nat => b ≤ q)) 0 0 150 [some (.ref (Q)), some (.int x1_150), some (.int x2_150), x3_150] [] (L, M_150, N_150) := by
    intro x1_150 x2_150 x3_150 M_150 N_150 h
    unfold D_X3_readAsks_150 at h
    refine a_aload_n X dX3_readAsks_150 rfl ?_
    obtain ⟨e_151, f_151, h⟩ := zBx h
    refine a_callVx X dX3_readAsks_151 miX3_endOfLine lm3_181 (t_X3_endOfLine (by first | exact hQ | assumption) f_151) (by first | exact q_o | assumption) rfl rfl rfl (Nat.le_of_ble_eq_true rfl) ⟨by decide, by decide, by decide, by decide⟩ (fun r_151 S_151 q_151 => ?_)
    obtain ⟨rfl, rfl, b_151⟩ := q_151
    refine a_if_ne (tgt := 159) X dX3_readAsks_154 (by decide) (fun h_154 => ?_) (fun h_154 => ?_)
    · replace h := (if_neg h_154).symm.trans h
      refine a_aload_n X dX3_readAsks_159 rfl ?_
      refine a_getr X lf3_12 (by first | exact q_o | assumption) rfl (by omega) dX3_readAsks_160 ?_
      refine a_iload_n X dX3_readAsks_163 rfl ?_
      refine a_aload_n X dX3_readAsks_164 rfl ?_
      refine a_getr X lf3_39 (by first | exact q_o | assumption) rfl (by omega) dX3_readAsks_165 ?_
      refine a_iconst (v := 0) X dX3_readAsks_168 (by decide) ?_
      refine a_callSNv X dX3_readAsks_169 miX7_cell lm3_81 (c_cell (by first | exact q_asked | assumption) (by decide)) rfl rfl (Nat.le_of_ble_eq_true rfl) ⟨by decide, by decide, by decide, by decide⟩ ?_
      refine a_aload_n X dX3_readAsks_172 rfl ?_
      refine a_getr X lf3_39 (by first | exact q_o | assumption) rfl (by omega) dX3_readAsks_173 ?_
      refine a_iconst (v := 1) X dX3_readAsks_176 (by decide) ?_
      refine a_callSNv X dX3_readAsks_177 miX7_cell lm3_81 (c_cell (by first | exact q_asked | assumption) (by decide)) rfl rfl (Nat.le_of_ble_eq_true rfl) ⟨by decide, by decide, by decide, by decide⟩ ?_
      refine a_aload_n X dX3_readAsks_180 rfl ?_
      refine a_getr X lf3_39 (by first | exact q_o | assumption) rfl (by omega) dX3_readAsks_181 ?_
      refine a_iconst (v := 2) X dX3_readAsks_184 (by decide) ?_
      refine a_callSNv X dX3_readAsks_185 miX7_cell lm3_81 (c_cell (by first | exact q_asked | assumption) (by decide)) rfl rfl (Nat.le_of_ble_eq_true rfl) ⟨by decide, by decide, by decide, by decide⟩ ?_
      obtain ⟨e_188, f_188, h⟩ := zBx h
      refine a_callVu X dX3_readAsks_188 miX4_wishFor lm3_223 (t_X4_wishFor (by first | exact q_draft | assumption) f_188) (by first | exact q_draft_o | assumption) rfl rfl rfl (Nat.le_of_ble_eq_true rfl) ⟨by decide, by decide, by decide, by decide⟩ ?_
      refine a_iconst (v := 1) X dX3_readAsks_191 (by decide) ?_
      refine a_zret X (by first | exact Or.inl rfl | exact Or.inr rfl | assumption) hr dX3_readAsks_192 ⟨by decide, by decide⟩ ?_
      subst hF
      rw [← Option.some.inj h]
      exact ⟨rfl, rfl, (by first | exact Or.inl rfl | exact Or.inr rfl | assumption)⟩
    · replace h := (if_pos h_154).symm.trans h
      refine a_iconst (v := 0) X dX3_readAsks_157 (by decide) ?_
      refine a_zret X (by first | exact Or.inl rfl | exact Or.inr rfl | assumption) hr dX3_readAsks_158 ⟨by decide, by decide⟩ ?_
      subst hF
      rw [← Option.some.inj h]
      exact ⟨rfl, rfl, (by first | exact Or.inl rfl | exact Or.inr rfl | assumption)⟩
  have J_125 : ∀ (x1_125 : Int32) (x2_125 : Int32) (x3_125 : Int32) (M_125 : zMt) (N_125 : zNt), D_X3_readAsks_125 Q M_125 N_125 = some r → Zw p l e { frames := 6, cells := 0, slots := 0, locals := 80 * (6) } s m args below meth c G b 4 (MQ below (zQ G b FQ) args s 0 0 (fun q : Nat => b ≤ q)) 0 0 125 [some (.ref (Q)), some (.int x1_125), some (.int x2_125), some (.int x3_125)] [] (L, M_125, N_125) := by
    intro x1_125 x2_125 x3_125 M_125 N_125 h
    unfold D_X3_readAsks_125 at h
    refine a_aload_n X dX3_readAsks_125 rfl ?_
    refine a_iconst (v := 4) X dX3_readAsks_126 (by decide) ?_
    obtain ⟨e_127, f_127, h⟩ := zBx h
    refine a_callVx X dX3_readAsks_127 miX3_fail lm3_148 (t_X3_fail (by first | exact hQ | assumption) f_127) (by first | exact q_o | assumption) rfl rfl rfl (Nat.le_of_ble_eq_true rfl) ⟨by decide, by decide, by decide, by decide⟩ (fun r_127 S_127 q_127 => ?_)
    obtain ⟨rfl, rfl, b_127⟩ := q_127
    refine a_zret X (by first | exact Or.inl rfl | exact Or.inr rfl | assumption) hr dX3_readAsks_130 ⟨by decide, by decide⟩ ?_
    subst hF
    rw [← Option.some.inj h]
    exact ⟨rfl, rfl, (by first | exact Or.inl rfl | exact Or.inr rfl | assumption)⟩
  have L_46 : ∀ u : Nat, ∀ (x1_46 : Int32) (x2_46 : Int32) (x3_46 : Option Value) (M_46 : zMt) (N_46 : zNt), D_X3_readAsks_46 Q u x1_46 x2_46 M_46 N_46 = some r → Zw p l e { frames := 6, cells := 0, slots := 0, locals := 80 * (6) } s m args below meth c G b 4 (MQ below (zQ G b FQ) args s 0 0 (fun q : Nat => b ≤ q)) 0 0 46 [some (.ref (Q)), some (.int x1_46), some (.int x2_46), x3_46] [] (L, M_46, N_46) := by
    intro u
    induction u with
    | zero => intro x1_46 x2_46 x3_46 M_46 N_46 h; cases (show none = some r from h)
    | succ u_46 ih_46 =>
      have J_64 : ∀ (x1_64 : Int32) (x2_64 : Int32) (x3_64 : Option Value) (M_64 : zMt) (N_64 : zNt), D_X3_readAsks_64 Q (D_X3_readAsks_46 Q u_46) x1_64 x2_64 M_64 N_64 = some r → Zw p l e { frames := 6, cells := 0, slots := 0, locals := 80 * (6) } s m args below meth c G b 4 (MQ below (zQ G b FQ) args s 0 0 (fun q : Nat => b ≤ q)) 0 0 64 [some (.ref (Q)), some (.int x1_64), some (.int x2_64), x3_64] [] (L, M_64, N_64) := by
        intro x1_64 x2_64 x3_64 M_64 N_64 h
        unfold D_X3_readAsks_64 at h
        refine a_aload_n X dX3_readAsks_64 rfl ?_
        obtain ⟨e_65, f_65, h⟩ := zBx h
        refine a_callVx X dX3_readAsks_65 miX3_isName lm3_199 (t_X3_isName (by first | exact hQ | assumption) f_65) (by first | exact q_o | assumption) rfl rfl rfl (Nat.le_of_ble_eq_true rfl) ⟨by decide, by decide, by decide, by decide⟩ (fun r_65 S_65 q_65 => ?_)
        obtain ⟨rfl, rfl, b_65⟩ := q_65
        refine a_if_ne (tgt := 77) X dX3_readAsks_68 (by decide) (fun h_68 => ?_) (fun h_68 => ?_)
        · replace h := (if_neg h_68).symm.trans h
          refine a_aload_n X dX3_readAsks_77 rfl ?_
          refine a_getr X lf3_29 (by first | exact q_o | assumption) rfl (by omega) dX3_readAsks_78 ?_
          refine a_aload_n X dX3_readAsks_81 rfl ?_
          refine a_getr X lf3_12 (by first | exact q_o | assumption) rfl (by omega) dX3_readAsks_82 ?_
          refine a_geti X lf3_142 (by first | exact q_draft_o | assumption) rfl dX3_readAsks_85 ?_
          refine a_aload_n X dX3_readAsks_88 rfl ?_
          refine a_getl X lf3_104 (by first | exact q_o | assumption) rfl dX3_readAsks_89 ?_
          obtain ⟨e_92, f_92, h⟩ := zBx h
          refine a_callSv X dX3_readAsks_92 miX3_find lm3_202 (t_X3_find (by first | exact q_unitNames | assumption) (by decide) f_92) rfl rfl (Nat.le_of_ble_eq_true rfl) ⟨by decide, by decide, by decide, by decide⟩ ?_
          refine a_istore_n X dX3_readAsks_95 (by decide) ?_
          refine a_iload_n X dX3_readAsks_96 rfl ?_
          refine a_iconst (v := -1) X dX3_readAsks_97 (by decide) ?_
          refine a_icmp_eq (tgt := 125) X dX3_readAsks_98 (by decide) (fun h_98 => ?_) (fun h_98 => ?_)
          · replace h := (if_pos h_98).symm.trans h
            exact Zw.to2 (J_125 _ _ _ _ _ h) rfl rfl rfl
          · replace h := (if_neg h_98).symm.trans h
            refine a_aload_n X dX3_readAsks_101 rfl ?_
            refine a_getr X lf3_39 (by first | exact q_o | assumption) rfl (by omega) dX3_readAsks_102 ?_
            refine a_iconst (v := 0) X dX3_readAsks_105 (by decide) ?_
            refine a_callSNv X dX3_readAsks_106 miX7_cell lm3_81 (c_cell (by first | exact q_asked | assumption) (by decide)) rfl rfl (Nat.le_of_ble_eq_true rfl) ⟨by decide, by decide, by decide, by decide⟩ ?_
            refine a_iload_n X dX3_readAsks_109 rfl ?_
            refine a_icmp_eq (tgt := 125) X dX3_readAsks_110 (by decide) (fun h_110 => ?_) (fun h_110 => ?_)
            · replace h := (if_pos h_110).symm.trans h
              exact Zw.to2 (J_125 _ _ _ _ _ h) rfl rfl rfl
            · replace h := (if_neg h_110).symm.trans h
              refine a_aload_n X dX3_readAsks_113 rfl ?_
              refine a_getr X lf3_39 (by first | exact q_o | assumption) rfl (by omega) dX3_readAsks_114 ?_
              refine a_iconst (v := 1) X dX3_readAsks_117 (by decide) ?_
              refine a_callSNv X dX3_readAsks_118 miX7_cell lm3_81 (c_cell (by first | exact q_asked | assumption) (by decide)) rfl rfl (Nat.le_of_ble_eq_true rfl) ⟨by decide, by decide, by decide, by decide⟩ ?_
              refine a_iload_n X dX3_readAsks_121 rfl ?_
              refine a_icmp_ne (tgt := 131) X dX3_readAsks_122 (by decide) (fun h_122 => ?_) (fun h_122 => ?_)
              · replace h := (if_neg h_122).symm.trans h
                refine a_aload_n X dX3_readAsks_131 rfl ?_
                refine a_getr X lf3_39 (by first | exact q_o | assumption) rfl (by omega) dX3_readAsks_132 ?_
                refine a_iload_n X dX3_readAsks_135 rfl ?_
                refine a_iload_n X dX3_readAsks_136 rfl ?_
                obtain ⟨M_137, f_137, h⟩ := zLtx h
                refine a_callSNu X dX3_readAsks_137 miX7_put lm3_219 (zMu (c_put (by first | exact q_asked | assumption) (by decide)) f_137) rfl rfl (Nat.le_of_ble_eq_true rfl) ⟨by decide, by decide, by decide, by decide⟩ ?_
                refine a_aload_n X dX3_readAsks_140 rfl ?_
                obtain ⟨e_141, f_141, h⟩ := zBx h
                refine a_callVu X dX3_readAsks_141 miX3_step lm3_71 (t_X3_step (by first | exact hQ | assumption) f_141) (by first | exact q_o | assumption) rfl rfl rfl (Nat.le_of_ble_eq_true rfl) ⟨by decide, by decide, by decide, by decide⟩ ?_
                refine a_iinc (v := x2_64 + 1) X dX3_readAsks_144 (by decide) rfl zi_1 ?_
                refine a_goto (tgt := 46) X dX3_readAsks_147 (by decide) ?_
                exact Zw.to2 (ih_46 _ _ _ _ _ h) rfl rfl rfl
              · replace h := (if_pos h_122).symm.trans h
                exact Zw.to2 (J_125 _ _ _ _ _ h) rfl rfl rfl
        · replace h := (if_pos h_68).symm.trans h
          refine a_aload_n X dX3_readAsks_71 rfl ?_
          refine a_iconst (v := 2) X dX3_readAsks_72 (by decide) ?_
          obtain ⟨e_73, f_73, h⟩ := zBx h
          refine a_callVx X dX3_readAsks_73 miX3_fail lm3_148 (t_X3_fail (by first | exact hQ | assumption) f_73) (by first | exact q_o | assumption) rfl rfl rfl (Nat.le_of_ble_eq_true rfl) ⟨by decide, by decide, by decide, by decide⟩ (fun r_73 S_73 q_73 => ?_)
          obtain ⟨rfl, rfl, b_73⟩ := q_73
          refine a_zret X (by first | exact Or.inl rfl | exact Or.inr rfl | assumption) hr dX3_readAsks_76 ⟨by decide, by decide⟩ ?_
          subst hF
          rw [← Option.some.inj h]
          exact ⟨rfl, rfl, (by first | exact Or.inl rfl | exact Or.inr rfl | assumption)⟩
      intro x1_46 x2_46 x3_46 M_46 N_46 h
      rw [D_X3_readAsks_46] at h
      refine a_iload_n X dX3_readAsks_46 rfl ?_
      refine a_iconst (v := 3) X dX3_readAsks_47 (by decide) ?_
      refine a_icmp_ge (tgt := 150) X dX3_readAsks_48 (by decide) (fun h_48 => ?_) (fun h_48 => ?_)
      · replace h := (if_pos h_48).symm.trans h
        exact Zw.to2 (J_150 _ _ _ _ _ h) rfl rfl rfl
      · replace h := (if_neg h_48).symm.trans h
        refine a_iload_n X dX3_readAsks_51 rfl ?_
        refine a_iconst (v := 1) X dX3_readAsks_52 (by decide) ?_
        refine a_icmp_lt (tgt := 64) X dX3_readAsks_53 (by decide) (fun h_53 => ?_) (fun h_53 => ?_)
        · replace h := (if_pos h_53).symm.trans h
          exact Zw.to2 (J_64 _ _ _ _ _ h) rfl rfl rfl
        · replace h := (if_neg h_53).symm.trans h
          refine a_aload_n X dX3_readAsks_56 rfl ?_
          refine a_geti X lf3_74 (by first | exact q_o | assumption) rfl dX3_readAsks_57 ?_
          refine a_iconst (v := 3) X dX3_readAsks_60 (by decide) ?_
          refine a_icmp_eq (tgt := 150) X dX3_readAsks_61 (by decide) (fun h_61 => ?_) (fun h_61 => ?_)
          · replace h := (if_pos h_61).symm.trans h
            exact Zw.to2 (J_150 _ _ _ _ _ h) rfl rfl rfl
          · replace h := (if_neg h_61).symm.trans h
            exact Zw.to2 (J_64 _ _ _ _ _ h) rfl rfl rfl
  have H_46 : ∀ (x1_46 : Int32) (x2_46 : Int32) (x3_46 : Option Value) (M_46 : zMt) (N_46 : zNt), D_X3_readAsks_46 Q zFu x1_46 x2_46 M_46 N_46 = some r → Zw p l e { frames := 6, cells := 0, slots := 0, locals := 80 * (6) } s m args below meth c G b 4 (MQ below (zQ G b FQ) args s 0 0 (fun q : Nat => b ≤ q)) 0 0 46 [some (.ref (Q)), some (.int x1_46), some (.int x2_46), x3_46] [] (L, M_46, N_46) := L_46 zFu
  unfold D_X3_readAsks at h
  refine a_aload_n X dX3_readAsks_0 rfl ?_
  obtain ⟨e_1, f_1, h⟩ := zBx h
  refine a_callVu X dX3_readAsks_1 miX3_step lm3_71 (t_X3_step (by first | exact hQ | assumption) f_1) (by first | exact q_o | assumption) rfl rfl rfl (Nat.le_of_ble_eq_true rfl) ⟨by decide, by decide, by decide, by decide⟩ ?_
  refine a_aload_n X dX3_readAsks_4 rfl ?_
  obtain ⟨e_5, f_5, h⟩ := zBx h
  refine a_callVx X dX3_readAsks_5 miX3_isName lm3_199 (t_X3_isName (by first | exact hQ | assumption) f_5) (by first | exact q_o | assumption) rfl rfl rfl (Nat.le_of_ble_eq_true rfl) ⟨by decide, by decide, by decide, by decide⟩ (fun r_5 S_5 q_5 => ?_)
  obtain ⟨rfl, rfl, b_5⟩ := q_5
  refine a_if_ne (tgt := 17) X dX3_readAsks_8 (by decide) (fun h_8 => ?_) (fun h_8 => ?_)
  · replace h := (if_neg h_8).symm.trans h
    refine a_aload_n X dX3_readAsks_17 rfl ?_
    obtain ⟨e_18, f_18, h⟩ := zBx h
    refine a_callVv X dX3_readAsks_18 miX3_asker lm3_212 (t_X3_asker (by first | exact hQ | assumption) f_18) (by first | exact q_o | assumption) rfl rfl rfl (Nat.le_of_ble_eq_true rfl) ⟨by decide, by decide, by decide, by decide⟩ ?_
    refine a_istore_n X dX3_readAsks_21 (by decide) ?_
    refine a_iload_n X dX3_readAsks_22 rfl ?_
    refine a_if_ne (tgt := 32) X dX3_readAsks_23 (by decide) (fun h_23 => ?_) (fun h_23 => ?_)
    · replace h := (if_neg h_23).symm.trans h
      refine a_aload_n X dX3_readAsks_32 rfl ?_
      obtain ⟨e_33, f_33, h⟩ := zBx h
      refine a_callVu X dX3_readAsks_33 miX3_step lm3_71 (t_X3_step (by first | exact hQ | assumption) f_33) (by first | exact q_o | assumption) rfl rfl rfl (Nat.le_of_ble_eq_true rfl) ⟨by decide, by decide, by decide, by decide⟩ ?_
      refine a_aload_n X dX3_readAsks_36 rfl ?_
      refine a_getr X lf3_39 (by first | exact q_o | assumption) rfl (by omega) dX3_readAsks_37 ?_
      refine a_iconst (v := -1) X dX3_readAsks_40 (by decide) ?_
      obtain ⟨M_41, f_41, h⟩ := zLtx h
      refine a_callSNu X dX3_readAsks_41 miX7_fill lm3_215 (zMu (c_fill (by first | exact q_asked | assumption) (by decide)) f_41) rfl rfl (Nat.le_of_ble_eq_true rfl) ⟨by decide, by decide, by decide, by decide⟩ ?_
      refine a_iconst (v := 0) X dX3_readAsks_44 (by decide) ?_
      refine a_istore_n X dX3_readAsks_45 (by decide) ?_
      exact Zw.to2 (H_46 _ _ _ _ _ h) rfl rfl rfl
    · replace h := (if_pos h_23).symm.trans h
      refine a_aload_n X dX3_readAsks_26 rfl ?_
      refine a_iconst (v := 4) X dX3_readAsks_27 (by decide) ?_
      obtain ⟨e_28, f_28, h⟩ := zBx h
      refine a_callVx X dX3_readAsks_28 miX3_fail lm3_148 (t_X3_fail (by first | exact hQ | assumption) f_28) (by first | exact q_o | assumption) rfl rfl rfl (Nat.le_of_ble_eq_true rfl) ⟨by decide, by decide, by decide, by decide⟩ (fun r_28 S_28 q_28 => ?_)
      obtain ⟨rfl, rfl, b_28⟩ := q_28
      refine a_zret X (by first | exact Or.inl rfl | exact Or.inr rfl | assumption) hr dX3_readAsks_31 ⟨by decide, by decide⟩ ?_
      subst hF
      rw [← Option.some.inj h]
      exact ⟨rfl, rfl, (by first | exact Or.inl rfl | exact Or.inr rfl | assumption)⟩
  · replace h := (if_pos h_8).symm.trans h
    refine a_aload_n X dX3_readAsks_11 rfl ?_
    refine a_iconst (v := 2) X dX3_readAsks_12 (by decide) ?_
    obtain ⟨e_13, f_13, h⟩ := zBx h
    refine a_callVx X dX3_readAsks_13 miX3_fail lm3_148 (t_X3_fail (by first | exact hQ | assumption) f_13) (by first | exact q_o | assumption) rfl rfl rfl (Nat.le_of_ble_eq_true rfl) ⟨by decide, by decide, by decide, by decide⟩ (fun r_13 S_13 q_13 => ?_)
    obtain ⟨rfl, rfl, b_13⟩ := q_13
    refine a_zret X (by first | exact Or.inl rfl | exact Or.inr rfl | assumption) hr dX3_readAsks_16 ⟨by decide, by decide⟩ ?_
    subst hF
    rw [← Option.some.inj h]
    exact ⟨rfl, rfl, (by first | exact Or.inl rfl | exact Or.inr rfl | assumption)⟩
