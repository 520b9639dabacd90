/-! PURE READINGS: D_m tells what the method m answers and what it leaves in the two tables (none: not told here); t_m says that the machine does just that. -/
abbrev zMt : Type := Nat → Nat → Int32
abbrev zNt : Type := Nat → Nat → Int64
/-- how often a loop's head is told at most -/
def zFu : Nat := 4294967297
def zLt {α β : Type} (a : α) (f : α → Option β) : Option β := f a
def zB {α β : Type} (o : Option α) (f : α → Option β) : Option β := match o with
  | none => none
  | some a => f a
def zI {β : Type} (i : Int32) (n : Nat) (o : Option β) : Option β := if i < 0 ∨ n ≤ i.toNatClampNeg then none else o
def zZ {β : Type} (y : Int32) (o : Option β) : Option β := if y = 0 then none else o
def zZl {β : Type} (y : Int64) (o : Option β) : Option β := if y = 0 then none else o
def zO {β : Type} (v : Int32) (o : Option β) : Option β := if v = 0 ∨ v = 1 then o else none
theorem zLtx {α β : Type} {a : α} {f : α → Option β} {r : β} (h : zLt a f = some r) : ∃ y, a = y ∧ f y = some r := ⟨a, rfl, h⟩
theorem zBx {α β : Type} {o : Option α} {f : α → Option β} {r : β} (h : zB o f = some r) : ∃ y, o = some y ∧ f y = some r := by
  cases o with
  | none => cases h
  | some a => exact ⟨a, rfl, h⟩
theorem zIx {β : Type} {i : Int32} {n : Nat} {o : Option β} {r : β} (h : zI i n o = some r) : vp_in i n ∧ o = some r := by
  unfold zI at h
  by_cases c : i < 0 ∨ n ≤ i.toNatClampNeg
  · rw [if_pos c] at h; cases h
  · rw [if_neg c] at h; exact ⟨c, h⟩
theorem zZx {β : Type} {y : Int32} {o : Option β} {r : β} (h : zZ y o = some r) : ¬ y = 0 ∧ o = some r := by
  unfold zZ at h
  by_cases c : y = 0
  · rw [if_pos c] at h; cases h
  · rw [if_neg c] at h; exact ⟨c, h⟩
theorem zZlx {β : Type} {y : Int64} {o : Option β} {r : β} (h : zZl y o = some r) : ¬ y = 0 ∧ o = some r := by
  unfold zZl at h
  by_cases c : y = 0
  · rw [if_pos c] at h; cases h
  · rw [if_neg c] at h; exact ⟨c, h⟩
theorem zOx {β : Type} {v : Int32} {o : Option β} {r : β} (h : zO v o = some r) : (v = 0 ∨ v = 1) ∧ o = some r := by
  unfold zO at h
  by_cases c : v = 0 ∨ v = 1
  · rw [if_pos c] at h; exact ⟨c, h⟩
  · rw [if_neg c] at h; cases h
theorem zi_1 {x : Int32} : x + Int32.ofInt 1 = x + 1 := by rw [show Int32.ofInt 1 = (1 : Int32) by decide]
theorem zi_m1 {x : Int32} : x + Int32.ofInt (-1) = x + (-1) := by rw [show Int32.ofInt (-1) = (-1 : Int32) by decide]
theorem zMu {l : Launch} {G : zG} {b : Nat} {y : MethodName} {cc : ByteArray} {nL : Nat} {ret : Option FieldType} {d : Nat} {av : List Value} {S : zS} {A B : zMt} {N : zNt} (h : zM l G b y cc nL ret d 0 0 av S (fun r z => r = none ∧ z = (S.1, A, N))) (he : A = B) : zM l G b y cc nL ret d 0 0 av S (fun r z => r = none ∧ z = (S.1, B, N)) := he ▸ h
theorem zMuN {l : Launch} {G : zG} {b : Nat} {y : MethodName} {cc : ByteArray} {nL : Nat} {ret : Option FieldType} {d : Nat} {av : List Value} {S : zS} {M : zMt} {A B : zNt} (h : zM l G b y cc nL ret d 0 0 av S (fun r z => r = none ∧ z = (S.1, M, A))) (he : A = B) : zM l G b y cc nL ret d 0 0 av S (fun r z => r = none ∧ z = (S.1, M, B)) := he ▸ h
theorem vLm {β : Type} {W : Nat → Nat → Prop} {M0 E : zMt} {f : zMt → Option β} {G : β → Prop} (hk : ∀ a j, ¬ W a j → E a j = M0 a j) (h : ∀ y : zMt, E = y → (∀ a j, ¬ W a j → y a j = M0 a j) → ∃ r, f y = some r ∧ G r) : ∃ r, zLt E f = some r ∧ G r := h E rfl hk
theorem vLn {β : Type} {W : Nat → Nat → Prop} {M0 E : zNt} {f : zNt → Option β} {G : β → Prop} (hk : ∀ a j, ¬ W a j → E a j = M0 a j) (h : ∀ y : zNt, E = y → (∀ a j, ¬ W a j → y a j = M0 a j) → ∃ r, f y = some r ∧ G r) : ∃ r, zLt E f = some r ∧ G r := h E rfl hk
theorem vB {α β : Type} {o : Option α} {f : α → Option β} {H : α → Prop} {G : β → Prop} (ho : ∃ e, o = some e ∧ H e) (h : ∀ e, o = some e → H e → ∃ r, f e = some r ∧ G r) : ∃ r, zB o f = some r ∧ G r := by
  obtain ⟨e, he, hh⟩ := ho
  rw [he]
  exact h e he hh
theorem vIf {β : Type} {c : Prop} [Decidable c] {a b : Option β} {G : β → Prop} (h1 : c → ∃ r, a = some r ∧ G r) (h2 : ¬ c → ∃ r, b = some r ∧ G r) : ∃ r, (if c then a else b) = some r ∧ G r := by
  by_cases h : c
  · rw [if_pos h]; exact h1 h
  · rw [if_neg h]; exact h2 h
theorem vI {β : Type} {i : Int32} {n : Nat} {o : Option β} {G : β → Prop} (hi : vp_in i n) (h : ∃ r, o = some r ∧ G r) : ∃ r, zI i n o = some r ∧ G r := by
  unfold zI
  rw [if_neg hi]
  exact h
theorem vZ {β : Type} {y : Int32} {o : Option β} {G : β → Prop} (hi : ¬ y = 0) (h : ∃ r, o = some r ∧ G r) : ∃ r, zZ y o = some r ∧ G r := by
  unfold zZ
  rw [if_neg hi]
  exact h
theorem vZl {β : Type} {y : Int64} {o : Option β} {G : β → Prop} (hi : ¬ y = 0) (h : ∃ r, o = some r ∧ G r) : ∃ r, zZl y o = some r ∧ G r := by
  unfold zZl
  rw [if_neg hi]
  exact h
theorem vO {β : Type} {v : Int32} {o : Option β} {G : β → Prop} (hi : v = 0 ∨ v = 1) (h : ∃ r, o = some r ∧ G r) : ∃ r, zO v o = some r ∧ G r := by
  unfold zO
  rw [if_pos hi]
  exact h
theorem z_lt {x E : Int32} (h : ¬ E ≤ x) : x.toInt < 2147483647 := by
  have h1 := Int32.lt_iff_toInt_lt.mp (Int32.not_le.mp h)
  have h2 := Int32.toInt_le E
  have h3 : Int32.maxValue.toInt = 2147483647 := by decide
  omega
theorem z_lt2 {x E : Int32} (h : x < E) : x.toInt < 2147483647 := z_lt (Int32.not_le.mpr h)
theorem z_lt3 {x E : Int32} (h : ¬ E < x) (hE : E.toInt < 2147483647) : x.toInt < 2147483647 := by
  have h1 := Int32.le_iff_toInt_le.mp (Int32.not_lt.mp h)
  omega
theorem z_up {x : Int32} {u : Nat} (h : x.toInt < 2147483647) (hm : (2147483648 - x.toInt).toNat < u + 1) : (2147483648 - (x + Int32.ofInt 1).toInt).toNat < u := by
  have h1 := Int32.le_toInt x
  have e1 : (Int32.ofInt 1).toInt = 1 := by decide
  rw [Int32.toInt_add, e1, Int.bmod_def]
  omega
theorem z_or01 {x y : Int32} (h : x = 0 ∨ x = 1) (h' : y = 0 ∨ y = 1) : x ||| y = 0 ∨ x ||| y = 1 := by
  rcases h with rfl | rfl <;> rcases h' with rfl | rfl <;> decide
theorem z_nzl {x : Int32} (h : ¬ x ≤ 0) : ¬ x.toInt64 = 0 := by
  have h1 := Int32.lt_iff_toInt_lt.mp (Int32.not_le.mp h)
  intro q
  have h2 := congrArg Int64.toInt q
  rw [Int32.toInt_toInt64] at h2
  have e0 : (0 : Int32).toInt = 0 := by decide
  have e1 : (0 : Int64).toInt = 0 := by decide
  omega
theorem z_gt {x : Int32} (h : ¬ x ≤ 0) : 0 < x.toInt := by
  have h1 := Int32.lt_iff_toInt_lt.mp (Int32.not_le.mp h)
  have e0 : (0 : Int32).toInt = 0 := by decide
  omega
theorem z_dn {x : Int32} {u : Nat} (h : 0 < x.toInt) (hm : x.toInt.toNat < u + 1) : (x + Int32.ofInt (-1)).toInt.toNat < u := by
  have h1 := Int32.toInt_le x
  have e1 : (Int32.ofInt (-1)).toInt = -1 := by decide
  rw [Int32.toInt_add, e1, Int.bmod_def]
  omega
theorem z_up1 {x : Int32} {u : Nat} (h : x.toInt < 2147483647) (hm : (2147483648 - x.toInt).toNat < u + 1) : (2147483648 - (x + 1).toInt).toNat < u := by
  rw [← zi_1]; exact z_up h hm
theorem z_dn1 {x : Int32} {u : Nat} (h : 0 < x.toInt) (hm : x.toInt.toNat < u + 1) : (x + (-1)).toInt.toNat < u := by
  rw [← zi_m1]; exact z_dn h hm
theorem zFu_up (x : Int32) : (2147483648 - x.toInt).toNat < zFu := by
  have h1 := Int32.le_toInt x
  unfold zFu
  omega
theorem zFu_dn (x : Int32) : x.toInt.toNat < zFu := by
  have h1 := Int32.toInt_lt x
  unfold zFu
  omega
theorem z_dep {x : Int32} {w : Nat} (h : ¬ 7 ≤ x) (hm : (7 - x.toInt).toNat < w + 1) : (7 - (x + 1).toInt).toNat < w := by
  have h1 := Int32.lt_iff_toInt_lt.mp (Int32.not_le.mp h)
  have e7 : (7 : Int32).toInt = 7 := by decide
  have e1 : (1 : Int32).toInt = 1 := by decide
  have h2 := Int32.le_toInt x
  rw [Int32.toInt_add, e1, Int.bmod_def]
  omega
theorem z_nlt {x : Int32} (h : 0 ≤ x.toInt) : ¬ x < 0 := fun q => by
  have := Int32.lt_iff_toInt_lt.mp q
  have e0 : (0 : Int32).toInt = 0 := by decide
  omega
theorem z_nn {x E : Int32} (h0 : 0 ≤ x.toInt) (h : ¬ E ≤ x) : 0 ≤ (x + 1).toInt := by
  have h1 := z_lt h
  have e1 : (1 : Int32).toInt = 1 := by decide
  rw [Int32.toInt_add, e1, Int.bmod_def]
  omega
section ZDN
variable {p : Program} {l : Launch} {e : Env} {R : Room} {s : State} {m : MethodId} {args : Array Value} {below : List Frame} {meth : Method} {c : Code} {G : zG} {b : Nat} {Q : State → Prop} {nc ns : Nat}
variable {cc : ByteArray} {pc nL : Nat} {own : String} {ls : List (Option Value)} {st : List Value} {L : List zC} {M M1 : zMt} {N N1 : zNt}
theorem d_puti (X : zOK p s m args meth c G b own cc nL) {idx ci k P z : Nat} {fs : List (Nat × Nat)} {x : Int32} (hf : zFl own idx ci k .int false) (hq : L[P]? = some (0, ci, fs)) (hk : fs[k]? = some (0, z)) (hd : decode cc pc = .ok (.putfield idx, 3)) (he : zu M P k x = M1) (kk : Zw p l e R s m args below meth c G b nL Q nc ns (pc + 3) ls st (L, M1, N)) : Zw p l e R s m args below meth c G b nL Q nc ns pc ls (.int x :: .ref P :: st) (L, M, N) := by
  subst he
  exact a_puti X hf hq hk hd kk
theorem d_putz (X : zOK p s m args meth c G b own cc nL) {idx ci k P z : Nat} {fs : List (Nat × Nat)} {x : Int32} (hx : x = 0 ∨ x = 1) (hf : zFl own idx ci k .boolean false) (hq : L[P]? = some (0, ci, fs)) (hk : fs[k]? = some (0, z)) (hd : decode cc pc = .ok (.putfield idx, 3)) (he : zu M P k x = M1) (kk : Zw p l e R s m args below meth c G b nL Q nc ns (pc + 3) ls st (L, M1, N)) : Zw p l e R s m args below meth c G b nL Q nc ns pc ls (.int x :: .ref P :: st) (L, M, N) := by
  subst he
  exact a_putz X hx hf hq hk hd kk
theorem d_putl (X : zOK p s m args meth c G b own cc nL) {idx ci k P z : Nat} {fs : List (Nat × Nat)} {x : Int64} (hf : zFl own idx ci k .long false) (hq : L[P]? = some (0, ci, fs)) (hk : fs[k]? = some (1, z)) (hd : decode cc pc = .ok (.putfield idx, 3)) (he : zu N P k x = N1) (kk : Zw p l e R s m args below meth c G b nL Q nc ns (pc + 3) ls st (L, M, N1)) : Zw p l e R s m args below meth c G b nL Q nc ns pc ls (.long x :: .ref P :: st) (L, M, N) := by
  subst he
  exact a_putl X hf hq hk hd kk
theorem d_iastore (X : zOK p s m args meth c G b own cc nL) {P n : Nat} {fs : List (Nat × Nat)} {i x : Int32} (hq : L[P]? = some (1, n, fs)) (hin : vp_in i n) (hd : decode cc pc = .ok (.iastore, 1)) (he : zu M P i.toNatClampNeg x = M1) (kk : Zw p l e R s m args below meth c G b nL Q nc ns (pc + 1) ls st (L, M1, N)) : Zw p l e R s m args below meth c G b nL Q nc ns pc ls (.int x :: .int i :: .ref P :: st) (L, M, N) := by
  subst he
  exact a_iastore X hq hin hd kk
theorem d_bastore (X : zOK p s m args meth c G b own cc nL) {P n : Nat} {fs : List (Nat × Nat)} {i x : Int32} (hx : x = 0 ∨ x = 1) (hq : L[P]? = some (2, n, fs)) (hin : vp_in i n) (hd : decode cc pc = .ok (.bastore, 1)) (he : zu M P i.toNatClampNeg x = M1) (kk : Zw p l e R s m args below meth c G b nL Q nc ns (pc + 1) ls st (L, M1, N)) : Zw p l e R s m args below meth c G b nL Q nc ns pc ls (.int x :: .int i :: .ref P :: st) (L, M, N) := by
  subst he
  exact a_bastore X hx hq hin hd kk
theorem d_lastore (X : zOK p s m args meth c G b own cc nL) {P n : Nat} {fs : List (Nat × Nat)} {i : Int32} {x : Int64} (hq : L[P]? = some (3, n, fs)) (hin : vp_in i n) (hd : decode cc pc = .ok (.lastore, 1)) (he : zu N P i.toNatClampNeg x = N1) (kk : Zw p l e R s m args below meth c G b nL Q nc ns (pc + 1) ls st (L, M, N1)) : Zw p l e R s m args below meth c G b nL Q nc ns pc ls (.long x :: .int i :: .ref P :: st) (L, M, N) := by
  subst he
  exact a_lastore X hq hin hd kk
end ZDN
theorem t_charAt {l : Launch} {G : zG} {b : Nat} {S : zS} {i : Nat} {k : Int32} (hi : i < zLit.length) (hj : vp_in k (zLen.getD i 0)) : zM l G b yJ0_charAt_5068e cJ0_charAt_5068e 2 (some .char) 3 0 0 [.ref (1000000 + zKa G i), .int k] S (fun r z => r = some (.int (zCh i k.toNatClampNeg)) ∧ z = S) := by
  have h0 : ¬ k < 0 := fun q => hj (Or.inl q)
  have h1 : k.toNatClampNeg < zLen.getD i 0 := Nat.not_le.mp (fun q => hj (Or.inr q))
  have e : k = nI k.toNatClampNeg := by
    have e1 : k.toNatClampNeg = k.toInt.toNat := rfl
    have e0 : (0 : Int32).toInt = 0 := by decide
    rw [Int32.lt_iff_toInt_lt] at h0
    have h2 := Int32.toInt_lt k
    apply Int32.toInt_inj.mp
    rw [nI_toInt (by omega), e1]
    omega
  have := c_charAt (l := l) (G := G) (b := b) (S := S) hi h1
  rwa [← e] at this
def zRec : Nat := 9
noncomputable def D_X5_rank_86 (Q : Nat) (A : Nat) (k2 : Int32 → zMt → Option (zMt)) (x2_86 : Int32) (x3_86 : Int32) (x5_86 : Int32) (M_86 : zMt) : Option (zMt) :=
  zLt (zwr M_86 (Q + 7) 10 x5_86 x3_86) fun M_93 =>
  k2 (x2_86 + 1) M_93
noncomputable def D_X5_rank_32 (Q : Nat) (A : Nat) (k2 : Int32 → zMt → Option (zMt)) : Nat → Int32 → Int32 → Int32 → Int32 → zMt → Option (zMt)
  | 0, _, _, _, _, _ => none
  | n + 1, x2_32, x3_32, x4_32, x5_32, M_32 =>
    if x5_32 ≤ 0 then
      D_X5_rank_86 Q A k2 x2_32 x3_32 x5_32 M_32
    else
      if x4_32 ≤ (zrd 0 (M_32 (A + 7)) 10 (zrd 0 (M_32 (Q + 7)) 10 (x5_32 - (1 : Int32)))) then
        D_X5_rank_86 Q A k2 x2_32 x3_32 x5_32 M_32
      else
        zLt (zwr M_32 (Q + 7) 10 x5_32 (zrd 0 (M_32 (Q + 7)) 10 (x5_32 - (1 : Int32)))) fun M_77 =>
        (D_X5_rank_32 Q A k2 n) x2_32 x3_32 x4_32 (x5_32 + (-1)) M_77
noncomputable def D_X5_rank_2 (Q : Nat) (A : Nat) : Nat → Int32 → zMt → Option (zMt)
  | 0, _, _ => none
  | n + 1, x2_2, M_2 =>
    if (M_2 A 1) ≤ x2_2 then
      some (M_2)
    else
      D_X5_rank_32 Q A (D_X5_rank_2 Q A n) zFu x2_2 (zrd 0 (M_2 (Q + 1)) 10 x2_2) (zrd 0 (M_2 (A + 7)) 10 (zrd 0 (M_2 (Q + 1)) 10 x2_2)) x2_2 M_2
noncomputable def D_X5_rank (Q : Nat) (A : Nat) (M : zMt) : Option (zMt) :=
  D_X5_rank_2 Q A zFu (0 : Int32) M
set_option maxRecDepth 100000 in
set_option maxHeartbeats 4000000 in
theorem t_X5_rank {l : Launch} {G : zG} {b : Nat} {L : List zC} {M : zMt} {N : zNt} {Q : Nat} {A : Nat}  (hQ : LX5 L Q) (hA : LX2 L A) {r : zMt} (h : D_X5_rank Q A M = some r) : zM l G b yX5_rank cX5_rank 6 none 1 0 0 [.ref Q, .ref A] (L, M, N) (fun r2 z => r2 = none ∧ z = (L, r, N)) := by
  refine zM.of miX5_rank (Nat.le_of_ble_eq_true rfl) ?_
  intro p e s m args below meth c X hr hname
  generalize hF : ((fun r2 z => r2 = none ∧ z = (L, r, N)) : Option Value → zS → Prop) = FQ
  change Zw p l e { frames := 1, cells := 0, slots := 0, locals := 80 * (1) } s m args below meth c G b 6 (MQ below (zQ G b FQ) args s 0 0 (fun q : Nat => b ≤ q)) 0 0 0 [some (.ref Q), some (.ref A), none, none, none, none] [] (L, M, N)
  obtain ⟨q_lt, q_o, q_line, q_unitOf, q_roundOf, q_leftTags, q_leftGuests, q_leftPreferred, q_ranked⟩ := id hQ
  obtain ⟨a_lt, a_o, a_quota, a_preferred, a_forGuests, a_applicantOf, a_size, a_guestCount, a_score, a_tickets, a_bits, a_party, a_wishCount, a_wishes⟩ := id hA
  have L_2 : ∀ u : Nat, ∀ (x2_2 : Int32) (x3_2 : Option Value) (x4_2 : Option Value) (x5_2 : Option Value) (M_2 : zMt), D_X5_rank_2 Q A u x2_2 M_2 = some r → Zw p l e { frames := 1, cells := 0, slots := 0, locals := 80 * (1) } s m args below meth c G b 6 (MQ below (zQ G b FQ) args s 0 0 (fun q : Nat => b ≤ q)) 0 0 2 [some (.ref (Q)), some (.ref (A)), some (.int x2_2), x3_2, x4_2, x5_2] [] (L, M_2, N) := by
    intro u
    induction u with
    | zero => intro x2_2 x3_2 x4_2 x5_2 M_2 h; cases (show none = some r from h)
    | succ u_2 ih_2 =>
      have J_86 : ∀ (x2_86 : Int32) (x3_86 : Int32) (x4_86 : Int32) (x5_86 : Int32) (M_86 : zMt), D_X5_rank_86 Q A (D_X5_rank_2 Q A u_2) x2_86 x3_86 x5_86 M_86 = some r → Zw p l e { frames := 1, cells := 0, slots := 0, locals := 80 * (1) } s m args below meth c G b 6 (MQ below (zQ G b FQ) args s 0 0 (fun q : Nat => b ≤ q)) 0 0 86 [some (.ref (Q)), some (.ref (A)), some (.int x2_86), some (.int x3_86), some (.int x4_86), some (.int x5_86)] [] (L, M_86, N) := by
        intro x2_86 x3_86 x4_86 x5_86 M_86 h
        unfold D_X5_rank_86 at h
        refine a_aload_n X dX5_rank_86 rfl ?_
        refine a_getr X lf5_30 (by assumption) rfl (by omega) dX5_rank_87 ?_
        refine a_iload X dX5_rank_90 rfl ?_
        refine a_iload_n X dX5_rank_92 rfl ?_
        obtain ⟨M_93, f_93, h⟩ := zLtx h
        refine a_callSNu X dX5_rank_93 miX7_put lm5_62 (zMu (c_put (by assumption) (by first | decide | assumption)) f_93) rfl rfl (Nat.le_of_ble_eq_true rfl) ⟨by decide, by decide, by decide, by decide⟩ ?_
        refine a_iinc (v := x2_86 + 1) X dX5_rank_96 (by decide) rfl zi_1 ?_
        refine a_goto (tgt := 2) X dX5_rank_99 (by decide) ?_
        exact Zw.to2 (ih_2 _ _ _ _ _ h) rfl rfl rfl
      have L_32 : ∀ u : Nat, ∀ (x2_32 : Int32) (x3_32 : Int32) (x4_32 : Int32) (x5_32 : Int32) (M_32 : zMt), D_X5_rank_32 Q A (D_X5_rank_2 Q A u_2) u x2_32 x3_32 x4_32 x5_32 M_32 = some r → Zw p l e { frames := 1, cells := 0, slots := 0, locals := 80 * (1) } s m args below meth c G b 6 (MQ below (zQ G b FQ) args s 0 0 (fun q : Nat => b ≤ q)) 0 0 32 [some (.ref (Q)), some (.ref (A)), some (.int x2_32), some (.int x3_32), some (.int x4_32), some (.int x5_32)] [] (L, M_32, N) := by
        intro u
        induction u with
        | zero => intro x2_32 x3_32 x4_32 x5_32 M_32 h; cases (show none = some r from h)
        | succ u_32 ih_32 =>
          intro x2_32 x3_32 x4_32 x5_32 M_32 h
          rw [D_X5_rank_32] at h
          refine a_iload X dX5_rank_32 rfl ?_
          refine a_if_le (tgt := 86) X dX5_rank_34 (by decide) (fun h_34 => ?_) (fun h_34 => ?_)
          · replace h := (if_pos h_34).symm.trans h
            exact Zw.to2 (J_86 _ _ _ _ _ h) rfl rfl rfl
          · replace h := (if_neg h_34).symm.trans h
            refine a_aload_n X dX5_rank_37 rfl ?_
            refine a_getr X lf5_116 (by assumption) rfl (by omega) dX5_rank_38 ?_
            refine a_aload_n X dX5_rank_41 rfl ?_
            refine a_getr X lf5_30 (by assumption) rfl (by omega) dX5_rank_42 ?_
            refine a_iload X dX5_rank_45 rfl ?_
            refine a_iconst (v := 1) X dX5_rank_47 (by decide) ?_
            refine a_isub X dX5_rank_48 ?_
            refine a_callSNv X dX5_rank_49 miX7_cell lm5_69 (c_cell (by assumption) (by first | decide | assumption)) rfl rfl (Nat.le_of_ble_eq_true rfl) ⟨by decide, by decide, by decide, by decide⟩ ?_
            refine a_callSNv X dX5_rank_52 miX7_cell lm5_69 (c_cell (by assumption) (by first | decide | assumption)) rfl rfl (Nat.le_of_ble_eq_true rfl) ⟨by decide, by decide, by decide, by decide⟩ ?_
            refine a_iload X dX5_rank_55 rfl ?_
            refine a_icmp_ge (tgt := 86) X dX5_rank_57 (by decide) (fun h_57 => ?_) (fun h_57 => ?_)
            · replace h := (if_pos h_57).symm.trans h
              exact Zw.to2 (J_86 _ _ _ _ _ h) rfl rfl rfl
            · replace h := (if_neg h_57).symm.trans h
              refine a_aload_n X dX5_rank_60 rfl ?_
              refine a_getr X lf5_30 (by assumption) rfl (by omega) dX5_rank_61 ?_
              refine a_iload X dX5_rank_64 rfl ?_
              refine a_aload_n X dX5_rank_66 rfl ?_
              refine a_getr X lf5_30 (by assumption) rfl (by omega) dX5_rank_67 ?_
              refine a_iload X dX5_rank_70 rfl ?_
              refine a_iconst (v := 1) X dX5_rank_72 (by decide) ?_
              refine a_isub X dX5_rank_73 ?_
              refine a_callSNv X dX5_rank_74 miX7_cell lm5_69 (c_cell (by assumption) (by first | decide | assumption)) rfl rfl (Nat.le_of_ble_eq_true rfl) ⟨by decide, by decide, by decide, by decide⟩ ?_
              obtain ⟨M_77, f_77, h⟩ := zLtx h
              refine a_callSNu X dX5_rank_77 miX7_put lm5_62 (zMu (c_put (by assumption) (by first | decide | assumption)) f_77) rfl rfl (Nat.le_of_ble_eq_true rfl) ⟨by decide, by decide, by decide, by decide⟩ ?_
              refine a_iinc (v := x5_32 + (-1)) X dX5_rank_80 (by decide) rfl zi_m1 ?_
              refine a_goto (tgt := 32) X dX5_rank_83 (by decide) ?_
              exact Zw.to2 (ih_32 _ _ _ _ _ h) rfl rfl rfl
      have H_32 : ∀ (x2_32 : Int32) (x3_32 : Int32) (x4_32 : Int32) (x5_32 : Int32) (M_32 : zMt), D_X5_rank_32 Q A (D_X5_rank_2 Q A u_2) zFu x2_32 x3_32 x4_32 x5_32 M_32 = some r → Zw p l e { frames := 1, cells := 0, slots := 0, locals := 80 * (1) } s m args below meth c G b 6 (MQ below (zQ G b FQ) args s 0 0 (fun q : Nat => b ≤ q)) 0 0 32 [some (.ref (Q)), some (.ref (A)), some (.int x2_32), some (.int x3_32), some (.int x4_32), some (.int x5_32)] [] (L, M_32, N) := L_32 zFu
      intro x2_2 x3_2 x4_2 x5_2 M_2 h
      rw [D_X5_rank_2] at h
      refine a_iload_n X dX5_rank_2 rfl ?_
      refine a_aload_n X dX5_rank_3 rfl ?_
      refine a_geti X lf5_47 (by assumption) rfl dX5_rank_4 ?_
      refine a_icmp_ge (tgt := 102) X dX5_rank_7 (by decide) (fun h_7 => ?_) (fun h_7 => ?_)
      · replace h := (if_pos h_7).symm.trans h
        refine a_vret X hr dX5_rank_102 ⟨by decide, by decide⟩ ?_
        subst hF
        rw [← Option.some.inj h]
        exact ⟨rfl, rfl⟩
      · replace h := (if_neg h_7).symm.trans h
        refine a_aload_n X dX5_rank_10 rfl ?_
        refine a_getr X lf5_9 (by assumption) rfl (by omega) dX5_rank_11 ?_
        refine a_iload_n X dX5_rank_14 rfl ?_
        refine a_callSNv X dX5_rank_15 miX7_cell lm5_69 (c_cell (by assumption) (by first | decide | assumption)) rfl rfl (Nat.le_of_ble_eq_true rfl) ⟨by decide, by decide, by decide, by decide⟩ ?_
        refine a_istore_n X dX5_rank_18 (by decide) ?_
        refine a_aload_n X dX5_rank_19 rfl ?_
        refine a_getr X lf5_116 (by assumption) rfl (by omega) dX5_rank_20 ?_
        refine a_iload_n X dX5_rank_23 rfl ?_
        refine a_callSNv X dX5_rank_24 miX7_cell lm5_69 (c_cell (by assumption) (by first | decide | assumption)) rfl rfl (Nat.le_of_ble_eq_true rfl) ⟨by decide, by decide, by decide, by decide⟩ ?_
        refine a_istore X dX5_rank_27 (by decide) ?_
        refine a_iload_n X dX5_rank_29 rfl ?_
        refine a_istore X dX5_rank_30 (by decide) ?_
        exact Zw.to2 (H_32 _ _ _ _ _ h) rfl rfl rfl
  have H_2 : ∀ (x2_2 : Int32) (x3_2 : Option Value) (x4_2 : Option Value) (x5_2 : Option Value) (M_2 : zMt), D_X5_rank_2 Q A zFu x2_2 M_2 = some r → Zw p l e { frames := 1, cells := 0, slots := 0, locals := 80 * (1) } s m args below meth c G b 6 (MQ below (zQ G b FQ) args s 0 0 (fun q : Nat => b ≤ q)) 0 0 2 [some (.ref (Q)), some (.ref (A)), some (.int x2_2), x3_2, x4_2, x5_2] [] (L, M_2, N) := L_2 zFu
  unfold D_X5_rank at h
  refine a_iconst (v := 0) X dX5_rank_0 (by decide) ?_
  refine a_istore_n X dX5_rank_1 (by decide) ?_
  exact Zw.to2 (H_2 _ _ _ _ _ h) rfl rfl rfl
noncomputable def D_X2_wish (Q : Nat) (M : zMt) (v0 : Int32) (v1 : Int32) : Option (Int32) :=
  some ((zrd 0 (M (Q + 12)) 30 ((v0 * (3 : Int32)) + v1)))
set_option maxRecDepth 100000 in
set_option maxHeartbeats 4000000 in
theorem t_X2_wish {l : Launch} {G : zG} {b : Nat} {L : List zC} {M : zMt} {N : zNt} {Q : Nat} {v0 : Int32} {v1 : Int32} (hQ : LX2 L Q) {r : Int32} (h : D_X2_wish Q M v0 v1 = some r) : zM l G b yX2_wish cX2_wish 3 (some .int) 1 0 0 [.ref Q, .int v0, .int v1] (L, M, N) (fun r2 z => r2 = some (.int r) ∧ z = (L, M, N)) := by
  refine zM.of miX2_wish (Nat.le_of_ble_eq_true rfl) ?_
  intro p e s m args below meth c X hr hname
  generalize hF : ((fun r2 z => r2 = some (.int r) ∧ z = (L, M, N)) : Option Value → zS → Prop) = FQ
  change Zw p l e { frames := 1, cells := 0, slots := 0, locals := 80 * (1) } s m args below meth c G b 3 (MQ below (zQ G b FQ) args s 0 0 (fun q : Nat => b ≤ q)) 0 0 0 [some (.ref Q), some (.int v0), some (.int v1)] [] (L, M, N)
  obtain ⟨q_lt, q_o, q_quota, q_preferred, q_forGuests, q_applicantOf, q_size, q_guestCount, q_score, q_tickets, q_bits, q_party, q_wishCount, q_wishes⟩ := id hQ
  unfold D_X2_wish at h
  refine a_aload_n X dX2_wish_0 rfl ?_
  refine a_getr X lf2_45 (by assumption) rfl (by omega) dX2_wish_1 ?_
  refine a_iload_n X dX2_wish_4 rfl ?_
  refine a_iconst (v := 3) X dX2_wish_5 (by decide) ?_
  refine a_imul X dX2_wish_6 ?_
  refine a_iload_n X dX2_wish_7 rfl ?_
  refine a_iadd X dX2_wish_8 ?_
  refine a_callSNv X dX2_wish_9 miX7_cell lm2_62 (c_cell (by assumption) (by first | decide | assumption)) rfl rfl (Nat.le_of_ble_eq_true rfl) ⟨by decide, by decide, by decide, by decide⟩ ?_
  refine a_iret X hr dX2_wish_12 ⟨by decide, by decide⟩ ?_
  subst hF
  rw [← Option.some.inj h]
  exact ⟨rfl, rfl⟩
noncomputable def D_X2_fits_29 (Q : Nat) (M : zMt) (y0_29 : Int32) : Option (Int32) :=
  some (y0_29)
noncomputable def D_X2_fits_28 (Q : Nat) (M : zMt)  : Option (Int32) :=
  D_X2_fits_29 Q M (0 : Int32)
noncomputable def D_X2_fits (Q : Nat) (M : zMt) (v0 : Int32) (v1 : Int32) (v2 : Int32) : Option (Int32) :=
  if v1 < (zrd 0 (M (Q + 5)) 10 v0) then
    D_X2_fits_28 Q M
  else
    if v2 < (zrd 0 (M (Q + 6)) 10 v0) then
      D_X2_fits_28 Q M
    else
      D_X2_fits_29 Q M (1 : Int32)
set_option maxRecDepth 100000 in
set_option maxHeartbeats 4000000 in
theorem t_X2_fits {l : Launch} {G : zG} {b : Nat} {L : List zC} {M : zMt} {N : zNt} {Q : Nat} {v0 : Int32} {v1 : Int32} {v2 : Int32} (hQ : LX2 L Q) {r : Int32} (h : D_X2_fits Q M v0 v1 v2 = some r) : zM l G b yX2_fits cX2_fits 4 (some .boolean) 1 0 0 [.ref Q, .int v0, .int v1, .int v2] (L, M, N) (fun r2 z => r2 = some (.int r) ∧ z = (L, M, N) ∧ (r = 0 ∨ r = 1)) := by
  refine zM.of miX2_fits (Nat.le_of_ble_eq_true rfl) ?_
  intro p e s m args below meth c X hr hname
  generalize hF : ((fun r2 z => r2 = some (.int r) ∧ z = (L, M, N) ∧ (r = 0 ∨ r = 1)) : Option Value → zS → Prop) = FQ
  change Zw p l e { frames := 1, cells := 0, slots := 0, locals := 80 * (1) } s m args below meth c G b 4 (MQ below (zQ G b FQ) args s 0 0 (fun q : Nat => b ≤ q)) 0 0 0 [some (.ref Q), some (.int v0), some (.int v1), some (.int v2)] [] (L, M, N)
  obtain ⟨q_lt, q_o, q_quota, q_preferred, q_forGuests, q_applicantOf, q_size, q_guestCount, q_score, q_tickets, q_bits, q_party, q_wishCount, q_wishes⟩ := id hQ
  have J_29 : ∀ (x1_29 : Int32) (x2_29 : Int32) (x3_29 : Int32) (y0_29 : Int32), (y0_29 = 0 ∨ y0_29 = 1) → D_X2_fits_29 Q M y0_29 = some r → Zw p l e { frames := 1, cells := 0, slots := 0, locals := 80 * (1) } s m args below meth c G b 4 (MQ below (zQ G b FQ) args s 0 0 (fun q : Nat => b ≤ q)) 0 0 29 [some (.ref (Q)), some (.int x1_29), some (.int x2_29), some (.int x3_29)] [.int y0_29] (L, M, N) := by
    intro x1_29 x2_29 x3_29 y0_29 fb_y0_29 h
    unfold D_X2_fits_29 at h
    refine a_zret X (by first | exact Or.inl rfl | exact Or.inr rfl | assumption) hr dX2_fits_29 ⟨by decide, by decide⟩ ?_
    subst hF
    rw [← Option.some.inj h]
    exact ⟨rfl, rfl, (by first | exact Or.inl rfl | exact Or.inr rfl | assumption)⟩
  have J_28 : ∀ (x1_28 : Int32) (x2_28 : Int32) (x3_28 : Int32), D_X2_fits_28 Q M = some r → Zw p l e { frames := 1, cells := 0, slots := 0, locals := 80 * (1) } s m args below meth c G b 4 (MQ below (zQ G b FQ) args s 0 0 (fun q : Nat => b ≤ q)) 0 0 28 [some (.ref (Q)), some (.int x1_28), some (.int x2_28), some (.int x3_28)] [] (L, M, N) := by
    intro x1_28 x2_28 x3_28 h
    unfold D_X2_fits_28 at h
    refine a_iconst (v := 0) X dX2_fits_28 (by decide) ?_
    exact Zw.to2 (J_29 _ _ _ _ (by first | exact Or.inl rfl | exact Or.inr rfl | assumption) h) rfl rfl rfl
  unfold D_X2_fits at h
  refine a_aload_n X dX2_fits_0 rfl ?_
  refine a_getr X lf2_24 (by assumption) rfl (by omega) dX2_fits_1 ?_
  refine a_iload_n X dX2_fits_4 rfl ?_
  refine a_callSNv X dX2_fits_5 miX7_cell lm2_62 (c_cell (by assumption) (by first | decide | assumption)) rfl rfl (Nat.le_of_ble_eq_true rfl) ⟨by decide, by decide, by decide, by decide⟩ ?_
  refine a_iload_n X dX2_fits_8 rfl ?_
  refine a_icmp_gt (tgt := 28) X dX2_fits_9 (by decide) (fun h_9 => ?_) (fun h_9 => ?_)
  · replace h := (if_pos h_9).symm.trans h
    exact Zw.to2 (J_28 _ _ _ h) rfl rfl rfl
  · replace h := (if_neg h_9).symm.trans h
    refine a_aload_n X dX2_fits_12 rfl ?_
    refine a_getr X lf2_27 (by assumption) rfl (by omega) dX2_fits_13 ?_
    refine a_iload_n X dX2_fits_16 rfl ?_
    refine a_callSNv X dX2_fits_17 miX7_cell lm2_62 (c_cell (by assumption) (by first | decide | assumption)) rfl rfl (Nat.le_of_ble_eq_true rfl) ⟨by decide, by decide, by decide, by decide⟩ ?_
    refine a_iload_n X dX2_fits_20 rfl ?_
    refine a_icmp_gt (tgt := 28) X dX2_fits_21 (by decide) (fun h_21 => ?_) (fun h_21 => ?_)
    · replace h := (if_pos h_21).symm.trans h
      exact Zw.to2 (J_28 _ _ _ h) rfl rfl rfl
    · replace h := (if_neg h_21).symm.trans h
      refine a_iconst (v := 1) X dX2_fits_24 (by decide) ?_
      refine a_goto (tgt := 29) X dX2_fits_25 (by decide) ?_
      exact Zw.to2 (J_29 _ _ _ _ (by first | exact Or.inl rfl | exact Or.inr rfl | assumption) h) rfl rfl rfl
noncomputable def D_X5_hold (Q : Nat) (A : Nat) (v0 : Int32) (v1 : Int32) (v2 : Int32) (M : zMt) : Option (zMt) :=
  zLt (zwr M (Q + 2) 10 v0 v1) fun M_6 =>
  zLt (zwr M_6 (Q + 3) 10 v0 v2) fun M_16 =>
  zLt (zwr M_16 (Q + 4) 5 v1 (zrd 0 (M_16 (Q + 4)) 5 v1 + (-(zrd 0 (M_16 (A + 5)) 10 v0)))) fun M_33 =>
  zLt (zwr M_33 (Q + 5) 5 v1 (zrd 0 (M_33 (Q + 5)) 5 v1 + (-(zrd 0 (M_33 (A + 6)) 10 v0)))) fun M_50 =>
  some (M_50)
set_option maxRecDepth 100000 in
set_option maxHeartbeats 4000000 in
theorem t_X5_hold {l : Launch} {G : zG} {b : Nat} {L : List zC} {M : zMt} {N : zNt} {Q : Nat} {A : Nat} {v0 : Int32} {v1 : Int32} {v2 : Int32} (hQ : LX5 L Q) (hA : LX2 L A) {r : zMt} (h : D_X5_hold Q A v0 v1 v2 M = some r) : zM l G b yX5_hold cX5_hold 5 none 1 0 0 [.ref Q, .ref A, .int v0, .int v1, .int v2] (L, M, N) (fun r2 z => r2 = none ∧ z = (L, r, N)) := by
  refine zM.of miX5_hold (Nat.le_of_ble_eq_true rfl) ?_
  intro p e s m args below meth c X hr hname
  generalize hF : ((fun r2 z => r2 = none ∧ z = (L, r, N)) : Option Value → zS → Prop) = FQ
  change Zw p l e { frames := 1, cells := 0, slots := 0, locals := 80 * (1) } s m args below meth c G b 5 (MQ below (zQ G b FQ) args s 0 0 (fun q : Nat => b ≤ q)) 0 0 0 [some (.ref Q), some (.ref A), some (.int v0), some (.int v1), some (.int v2)] [] (L, M, N)
  obtain ⟨q_lt, q_o, q_line, q_unitOf, q_roundOf, q_leftTags, q_leftGuests, q_leftPreferred, q_ranked⟩ := id hQ
  obtain ⟨a_lt, a_o, a_quota, a_preferred, a_forGuests, a_applicantOf, a_size, a_guestCount, a_score, a_tickets, a_bits, a_party, a_wishCount, a_wishes⟩ := id hA
  unfold D_X5_hold at h
  refine a_aload_n X dX5_hold_0 rfl ?_
  refine a_getr X lf5_15 (by assumption) rfl (by omega) dX5_hold_1 ?_
  refine a_iload_n X dX5_hold_4 rfl ?_
  refine a_iload_n X dX5_hold_5 rfl ?_
  obtain ⟨M_6, f_6, h⟩ := zLtx h
  refine a_callSNu X dX5_hold_6 miX7_put lm5_62 (zMu (c_put (by assumption) (by first | decide | assumption)) f_6) rfl rfl (Nat.le_of_ble_eq_true rfl) ⟨by decide, by decide, by decide, by decide⟩ ?_
  refine a_aload_n X dX5_hold_9 rfl ?_
  refine a_getr X lf5_18 (by assumption) rfl (by omega) dX5_hold_10 ?_
  refine a_iload_n X dX5_hold_13 rfl ?_
  refine a_iload X dX5_hold_14 rfl ?_
  obtain ⟨M_16, f_16, h⟩ := zLtx h
  refine a_callSNu X dX5_hold_16 miX7_put lm5_62 (zMu (c_put (by assumption) (by first | decide | assumption)) f_16) rfl rfl (Nat.le_of_ble_eq_true rfl) ⟨by decide, by decide, by decide, by decide⟩ ?_
  refine a_aload_n X dX5_hold_19 rfl ?_
  refine a_getr X lf5_21 (by assumption) rfl (by omega) dX5_hold_20 ?_
  refine a_iload_n X dX5_hold_23 rfl ?_
  refine a_aload_n X dX5_hold_24 rfl ?_
  refine a_getr X lf5_106 (by assumption) rfl (by omega) dX5_hold_25 ?_
  refine a_iload_n X dX5_hold_28 rfl ?_
  refine a_callSNv X dX5_hold_29 miX7_cell lm5_69 (c_cell (by assumption) (by first | decide | assumption)) rfl rfl (Nat.le_of_ble_eq_true rfl) ⟨by decide, by decide, by decide, by decide⟩ ?_
  refine a_ineg X dX5_hold_32 ?_
  obtain ⟨M_33, f_33, h⟩ := zLtx h
  refine a_callSNu X dX5_hold_33 miX7_add lm5_109 (zMu (c_add (by assumption) (by first | decide | assumption)) f_33) rfl rfl (Nat.le_of_ble_eq_true rfl) ⟨by decide, by decide, by decide, by decide⟩ ?_
  refine a_aload_n X dX5_hold_36 rfl ?_
  refine a_getr X lf5_24 (by assumption) rfl (by omega) dX5_hold_37 ?_
  refine a_iload_n X dX5_hold_40 rfl ?_
  refine a_aload_n X dX5_hold_41 rfl ?_
  refine a_getr X lf5_122 (by assumption) rfl (by omega) dX5_hold_42 ?_
  refine a_iload_n X dX5_hold_45 rfl ?_
  refine a_callSNv X dX5_hold_46 miX7_cell lm5_69 (c_cell (by assumption) (by first | decide | assumption)) rfl rfl (Nat.le_of_ble_eq_true rfl) ⟨by decide, by decide, by decide, by decide⟩ ?_
  refine a_ineg X dX5_hold_49 ?_
  obtain ⟨M_50, f_50, h⟩ := zLtx h
  refine a_callSNu X dX5_hold_50 miX7_add lm5_109 (zMu (c_add (by assumption) (by first | decide | assumption)) f_50) rfl rfl (Nat.le_of_ble_eq_true rfl) ⟨by decide, by decide, by decide, by decide⟩ ?_
  refine a_vret X hr dX5_hold_53 ⟨by decide, by decide⟩ ?_
  subst hF
  rw [← Option.some.inj h]
  exact ⟨rfl, rfl⟩
noncomputable def D_X5_firstRound_91 (Q : Nat) (A : Nat) (k7 : Int32 → zMt → Option (zMt)) (x2_91 : Int32) (M_91 : zMt) : Option (zMt) :=
  k7 (x2_91 + 1) M_91
noncomputable def D_X5_firstRound_7 (Q : Nat) (A : Nat) : Nat → Int32 → zMt → Option (zMt)
  | 0, _, _ => none
  | n + 1, x2_7, M_7 =>
    if (M_7 A 1) ≤ x2_7 then
      some (M_7)
    else
      zB (D_X2_wish A M_7 (zrd 0 (M_7 (Q + 7)) 10 x2_7) (0 : Int32)) fun e_27 =>
      if e_27 = (-1 : Int32) then
        D_X5_firstRound_91 Q A (D_X5_firstRound_7 Q A n) x2_7 M_7
      else
        zB (D_X2_fits A M_7 (zrd 0 (M_7 (Q + 7)) 10 x2_7) (zrd 0 (M_7 (Q + 6)) 5 e_27) (zrd 0 (M_7 (Q + 5)) 5 e_27)) fun e_58 =>
        if e_58 = 0 then
          D_X5_firstRound_91 Q A (D_X5_firstRound_7 Q A n) x2_7 M_7
        else
          zLt (zwr M_7 (Q + 6) 5 e_27 (zrd 0 (M_7 (Q + 6)) 5 e_27 + (-(zrd 0 (M_7 (A + 5)) 10 (zrd 0 (M_7 (Q + 7)) 10 x2_7))))) fun M_79 =>
          zB (D_X5_hold Q A (zrd 0 (M_7 (Q + 7)) 10 x2_7) e_27 (1 : Int32) M_79) fun e_88 =>
          D_X5_firstRound_91 Q A (D_X5_firstRound_7 Q A n) x2_7 e_88
noncomputable def D_X5_firstRound (Q : Nat) (A : Nat) (M : zMt) : Option (zMt) :=
  zB (D_X5_rank Q A M) fun e_2 =>
  D_X5_firstRound_7 Q A zFu (0 : Int32) e_2
set_option maxRecDepth 100000 in
set_option maxHeartbeats 4000000 in
theorem t_X5_firstRound {l : Launch} {G : zG} {b : Nat} {L : List zC} {M : zMt} {N : zNt} {Q : Nat} {A : Nat}  (hQ : LX5 L Q) (hA : LX2 L A) {r : zMt} (h : D_X5_firstRound Q A M = some r) : zM l G b yX5_firstRound cX5_firstRound 5 none 2 0 0 [.ref Q, .ref A] (L, M, N) (fun r2 z => r2 = none ∧ z = (L, r, N)) := by
  refine zM.of miX5_firstRound (Nat.le_of_ble_eq_true rfl) ?_
  intro p e s m args below meth c X hr hname
  generalize hF : ((fun r2 z => r2 = none ∧ z = (L, r, N)) : Option Value → zS → Prop) = FQ
  change Zw p l e { frames := 2, cells := 0, slots := 0, locals := 80 * (2) } s m args below meth c G b 5 (MQ below (zQ G b FQ) args s 0 0 (fun q : Nat => b ≤ q)) 0 0 0 [some (.ref Q), some (.ref A), none, none, none] [] (L, M, N)
  obtain ⟨q_lt, q_o, q_line, q_unitOf, q_roundOf, q_leftTags, q_leftGuests, q_leftPreferred, q_ranked⟩ := id hQ
  obtain ⟨a_lt, a_o, a_quota, a_preferred, a_forGuests, a_applicantOf, a_size, a_guestCount, a_score, a_tickets, a_bits, a_party, a_wishCount, a_wishes⟩ := id hA
  have L_7 : ∀ u : Nat, ∀ (x2_7 : Int32) (x3_7 : Option Value) (x4_7 : Option Value) (M_7 : zMt), D_X5_firstRound_7 Q A u x2_7 M_7 = some r → Zw p l e { frames := 2, cells := 0, slots := 0, locals := 80 * (2) } s m args below meth c G b 5 (MQ below (zQ G b FQ) args s 0 0 (fun q : Nat => b ≤ q)) 0 0 7 [some (.ref (Q)), some (.ref (A)), some (.int x2_7), x3_7, x4_7] [] (L, M_7, N) := by
    intro u
    induction u with
    | zero => intro x2_7 x3_7 x4_7 M_7 h; cases (show none = some r from h)
    | succ u_7 ih_7 =>
      have J_91 : ∀ (x2_91 : Int32) (x3_91 : Int32) (x4_91 : Int32) (M_91 : zMt), D_X5_firstRound_91 Q A (D_X5_firstRound_7 Q A u_7) x2_91 M_91 = some r → Zw p l e { frames := 2, cells := 0, slots := 0, locals := 80 * (2) } s m args below meth c G b 5 (MQ below (zQ G b FQ) args s 0 0 (fun q : Nat => b ≤ q)) 0 0 91 [some (.ref (Q)), some (.ref (A)), some (.int x2_91), some (.int x3_91), some (.int x4_91)] [] (L, M_91, N) := by
        intro x2_91 x3_91 x4_91 M_91 h
        unfold D_X5_firstRound_91 at h
        refine a_iinc (v := x2_91 + 1) X dX5_firstRound_91 (by decide) rfl zi_1 ?_
        refine a_goto (tgt := 7) X dX5_firstRound_94 (by decide) ?_
        exact Zw.to2 (ih_7 _ _ _ _ h) rfl rfl rfl
      intro x2_7 x3_7 x4_7 M_7 h
      rw [D_X5_firstRound_7] at h
      refine a_iload_n X dX5_firstRound_7 rfl ?_
      refine a_aload_n X dX5_firstRound_8 rfl ?_
      refine a_geti X lf5_47 (by assumption) rfl dX5_firstRound_9 ?_
      refine a_icmp_ge (tgt := 97) X dX5_firstRound_12 (by decide) (fun h_12 => ?_) (fun h_12 => ?_)
      · replace h := (if_pos h_12).symm.trans h
        refine a_vret X hr dX5_firstRound_97 ⟨by decide, by decide⟩ ?_
        subst hF
        rw [← Option.some.inj h]
        exact ⟨rfl, rfl⟩
      · replace h := (if_neg h_12).symm.trans h
        refine a_aload_n X dX5_firstRound_15 rfl ?_
        refine a_getr X lf5_30 (by assumption) rfl (by omega) dX5_firstRound_16 ?_
        refine a_iload_n X dX5_firstRound_19 rfl ?_
        refine a_callSNv X dX5_firstRound_20 miX7_cell lm5_69 (c_cell (by assumption) (by first | decide | assumption)) rfl rfl (Nat.le_of_ble_eq_true rfl) ⟨by decide, by decide, by decide, by decide⟩ ?_
        refine a_istore_n X dX5_firstRound_23 (by decide) ?_
        refine a_aload_n X dX5_firstRound_24 rfl ?_
        refine a_iload_n X dX5_firstRound_25 rfl ?_
        refine a_iconst (v := 0) X dX5_firstRound_26 (by decide) ?_
        obtain ⟨e_27, f_27, h⟩ := zBx h
        refine a_callVv X dX5_firstRound_27 miX2_wish lm5_98 (t_X2_wish (by assumption) f_27) (by assumption) rfl rfl rfl (Nat.le_of_ble_eq_true rfl) ⟨by decide, by decide, by decide, by decide⟩ ?_
        refine a_istore X dX5_firstRound_30 (by decide) ?_
        refine a_iload X dX5_firstRound_32 rfl ?_
        refine a_iconst (v := -1) X dX5_firstRound_34 (by decide) ?_
        refine a_icmp_eq (tgt := 91) X dX5_firstRound_35 (by decide) (fun h_35 => ?_) (fun h_35 => ?_)
        · replace h := (if_pos h_35).symm.trans h
          exact Zw.to2 (J_91 _ _ _ _ h) rfl rfl rfl
        · replace h := (if_neg h_35).symm.trans h
          refine a_aload_n X dX5_firstRound_38 rfl ?_
          refine a_iload_n X dX5_firstRound_39 rfl ?_
          refine a_aload_n X dX5_firstRound_40 rfl ?_
          refine a_getr X lf5_27 (by assumption) rfl (by omega) dX5_firstRound_41 ?_
          refine a_iload X dX5_firstRound_44 rfl ?_
          refine a_callSNv X dX5_firstRound_46 miX7_cell lm5_69 (c_cell (by assumption) (by first | decide | assumption)) rfl rfl (Nat.le_of_ble_eq_true rfl) ⟨by decide, by decide, by decide, by decide⟩ ?_
          refine a_aload_n X dX5_firstRound_49 rfl ?_
          refine a_getr X lf5_24 (by assumption) rfl (by omega) dX5_firstRound_50 ?_
          refine a_iload X dX5_firstRound_53 rfl ?_
          refine a_callSNv X dX5_firstRound_55 miX7_cell lm5_69 (c_cell (by assumption) (by first | decide | assumption)) rfl rfl (Nat.le_of_ble_eq_true rfl) ⟨by decide, by decide, by decide, by decide⟩ ?_
          obtain ⟨e_58, f_58, h⟩ := zBx h
          refine a_callVx X dX5_firstRound_58 miX2_fits lm5_102 (t_X2_fits (by assumption) f_58) (by assumption) rfl rfl rfl (Nat.le_of_ble_eq_true rfl) ⟨by decide, by decide, by decide, by decide⟩ (fun r_58 S_58 q_58 => ?_)
          obtain ⟨rfl, rfl, b_58⟩ := q_58
          refine a_if_eq (tgt := 91) X dX5_firstRound_61 (by decide) (fun h_61 => ?_) (fun h_61 => ?_)
          · replace h := (if_pos h_61).symm.trans h
            exact Zw.to2 (J_91 _ _ _ _ h) rfl rfl rfl
          · replace h := (if_neg h_61).symm.trans h
            refine a_aload_n X dX5_firstRound_64 rfl ?_
            refine a_getr X lf5_27 (by assumption) rfl (by omega) dX5_firstRound_65 ?_
            refine a_iload X dX5_firstRound_68 rfl ?_
            refine a_aload_n X dX5_firstRound_70 rfl ?_
            refine a_getr X lf5_106 (by assumption) rfl (by omega) dX5_firstRound_71 ?_
            refine a_iload_n X dX5_firstRound_74 rfl ?_
            refine a_callSNv X dX5_firstRound_75 miX7_cell lm5_69 (c_cell (by assumption) (by first | decide | assumption)) rfl rfl (Nat.le_of_ble_eq_true rfl) ⟨by decide, by decide, by decide, by decide⟩ ?_
            refine a_ineg X dX5_firstRound_78 ?_
            obtain ⟨M_79, f_79, h⟩ := zLtx h
            refine a_callSNu X dX5_firstRound_79 miX7_add lm5_109 (zMu (c_add (by assumption) (by first | decide | assumption)) f_79) rfl rfl (Nat.le_of_ble_eq_true rfl) ⟨by decide, by decide, by decide, by decide⟩ ?_
            refine a_aload_n X dX5_firstRound_82 rfl ?_
            refine a_aload_n X dX5_firstRound_83 rfl ?_
            refine a_iload_n X dX5_firstRound_84 rfl ?_
            refine a_iload X dX5_firstRound_85 rfl ?_
            refine a_iconst (v := 1) X dX5_firstRound_87 (by decide) ?_
            obtain ⟨e_88, f_88, h⟩ := zBx h
            refine a_callVu X dX5_firstRound_88 miX5_hold lm5_112 (t_X5_hold (by assumption) (by assumption) f_88) (by assumption) rfl rfl rfl (Nat.le_of_ble_eq_true rfl) ⟨by decide, by decide, by decide, by decide⟩ ?_
            exact Zw.to2 (J_91 _ _ _ _ h) rfl rfl rfl
  have H_7 : ∀ (x2_7 : Int32) (x3_7 : Option Value) (x4_7 : Option Value) (M_7 : zMt), D_X5_firstRound_7 Q A zFu x2_7 M_7 = some r → Zw p l e { frames := 2, cells := 0, slots := 0, locals := 80 * (2) } s m args below meth c G b 5 (MQ below (zQ G b FQ) args s 0 0 (fun q : Nat => b ≤ q)) 0 0 7 [some (.ref (Q)), some (.ref (A)), some (.int x2_7), x3_7, x4_7] [] (L, M_7, N) := L_7 zFu
  unfold D_X5_firstRound at h
  refine a_aload_n X dX5_firstRound_0 rfl ?_
  refine a_aload_n X dX5_firstRound_1 rfl ?_
  obtain ⟨e_2, f_2, h⟩ := zBx h
  refine a_callVu X dX5_firstRound_2 miX5_rank lm5_95 (t_X5_rank (by assumption) (by assumption) f_2) (by assumption) rfl rfl rfl (Nat.le_of_ble_eq_true rfl) ⟨by decide, by decide, by decide, by decide⟩ ?_
  refine a_iconst (v := 0) X dX5_firstRound_5 (by decide) ?_
  refine a_istore_n X dX5_firstRound_6 (by decide) ?_
  exact Zw.to2 (H_7 _ _ _ _ h) rfl rfl rfl
noncomputable def D_X5_secondRound_108 (Q : Nat) (A : Nat) (k2 : Int32 → zMt → Option (zMt)) (x2_108 : Int32) (M_108 : zMt) : Option (zMt) :=
  k2 (x2_108 + 1) M_108
noncomputable def D_X5_secondRound_48 (Q : Nat) (A : Nat) (k2 : Int32 → zMt → Option (zMt)) : Nat → Int32 → Int32 → Int32 → Int32 → zMt → Option (zMt)
  | 0, _, _, _, _, _ => none
  | n + 1, x2_48, x3_48, x4_48, x5_48, M_48 =>
    if x4_48 ≤ x5_48 then
      D_X5_secondRound_108 Q A k2 x2_48 M_48
    else
      zB (D_X2_wish A M_48 x3_48 x5_48) fun e_59 =>
      zB (D_X2_fits A M_48 x3_48 (zrd 0 (M_48 (Q + 4)) 5 e_59) (zrd 0 (M_48 (Q + 5)) 5 e_59)) fun e_84 =>
      if e_84 = 0 then
        (D_X5_secondRound_48 Q A k2 n) x2_48 x3_48 x4_48 (x5_48 + 1) M_48
      else
        zB (D_X5_hold Q A x3_48 e_59 (2 : Int32) M_48) fun e_96 =>
        D_X5_secondRound_108 Q A k2 x2_48 e_96
noncomputable def D_X5_secondRound_43 (Q : Nat) (A : Nat) (k2 : Int32 → zMt → Option (zMt)) (x2_43 : Int32) (x3_43 : Int32) (y0_43 : Int32) (M_43 : zMt) : Option (zMt) :=
  D_X5_secondRound_48 Q A k2 zFu x2_43 x3_43 y0_43 (0 : Int32) M_43
noncomputable def D_X5_secondRound_2 (Q : Nat) (A : Nat) : Nat → Int32 → zMt → Option (zMt)
  | 0, _, _ => none
  | n + 1, x2_2, M_2 =>
    if (M_2 A 1) ≤ x2_2 then
      some (M_2)
    else
      if (zrd 0 (M_2 (Q + 2)) 10 (zrd 0 (M_2 (Q + 1)) 10 x2_2)) = (-1 : Int32) then
        D_X5_secondRound_43 Q A (D_X5_secondRound_2 Q A n) x2_2 (zrd 0 (M_2 (Q + 1)) 10 x2_2) (zrd 0 (M_2 (A + 11)) 10 (zrd 0 (M_2 (Q + 1)) 10 x2_2)) M_2
      else
        D_X5_secondRound_43 Q A (D_X5_secondRound_2 Q A n) x2_2 (zrd 0 (M_2 (Q + 1)) 10 x2_2) (0 : Int32) M_2
noncomputable def D_X5_secondRound (Q : Nat) (A : Nat) (M : zMt) : Option (zMt) :=
  D_X5_secondRound_2 Q A zFu (0 : Int32) M
set_option maxRecDepth 100000 in
set_option maxHeartbeats 4000000 in
theorem t_X5_secondRound {l : Launch} {G : zG} {b : Nat} {L : List zC} {M : zMt} {N : zNt} {Q : Nat} {A : Nat}  (hQ : LX5 L Q) (hA : LX2 L A) {r : zMt} (h : D_X5_secondRound Q A M = some r) : zM l G b yX5_secondRound cX5_secondRound 7 none 2 0 0 [.ref Q, .ref A] (L, M, N) (fun r2 z => r2 = none ∧ z = (L, r, N)) := by
  refine zM.of miX5_secondRound (Nat.le_of_ble_eq_true rfl) ?_
  intro p e s m args below meth c X hr hname
  generalize hF : ((fun r2 z => r2 = none ∧ z = (L, r, N)) : Option Value → zS → Prop) = FQ
  change Zw p l e { frames := 2, cells := 0, slots := 0, locals := 80 * (2) } s m args below meth c G b 7 (MQ below (zQ G b FQ) args s 0 0 (fun q : Nat => b ≤ q)) 0 0 0 [some (.ref Q), some (.ref A), none, none, none, none, none] [] (L, M, N)
  obtain ⟨q_lt, q_o, q_line, q_unitOf, q_roundOf, q_leftTags, q_leftGuests, q_leftPreferred, q_ranked⟩ := id hQ
  obtain ⟨a_lt, a_o, a_quota, a_preferred, a_forGuests, a_applicantOf, a_size, a_guestCount, a_score, a_tickets, a_bits, a_party, a_wishCount, a_wishes⟩ := id hA
  have L_2 : ∀ u : Nat, ∀ (x2_2 : Int32) (x3_2 : Option Value) (x4_2 : Option Value) (x5_2 : Option Value) (x6_2 : Option Value) (M_2 : zMt), D_X5_secondRound_2 Q A u x2_2 M_2 = some r → Zw p l e { frames := 2, cells := 0, slots := 0, locals := 80 * (2) } s m args below meth c G b 7 (MQ below (zQ G b FQ) args s 0 0 (fun q : Nat => b ≤ q)) 0 0 2 [some (.ref (Q)), some (.ref (A)), some (.int x2_2), x3_2, x4_2, x5_2, x6_2] [] (L, M_2, N) := by
    intro u
    induction u with
    | zero => intro x2_2 x3_2 x4_2 x5_2 x6_2 M_2 h; cases (show none = some r from h)
    | succ u_2 ih_2 =>
      have J_108 : ∀ (x2_108 : Int32) (x3_108 : Int32) (x4_108 : Int32) (x5_108 : Int32) (x6_108 : Option Value) (M_108 : zMt), D_X5_secondRound_108 Q A (D_X5_secondRound_2 Q A u_2) x2_108 M_108 = some r → Zw p l e { frames := 2, cells := 0, slots := 0, locals := 80 * (2) } s m args below meth c G b 7 (MQ below (zQ G b FQ) args s 0 0 (fun q : Nat => b ≤ q)) 0 0 108 [some (.ref (Q)), some (.ref (A)), some (.int x2_108), some (.int x3_108), some (.int x4_108), some (.int x5_108), x6_108] [] (L, M_108, N) := by
        intro x2_108 x3_108 x4_108 x5_108 x6_108 M_108 h
        unfold D_X5_secondRound_108 at h
        refine a_iinc (v := x2_108 + 1) X dX5_secondRound_108 (by decide) rfl zi_1 ?_
        refine a_goto (tgt := 2) X dX5_secondRound_111 (by decide) ?_
        exact Zw.to2 (ih_2 _ _ _ _ _ _ h) rfl rfl rfl
      have L_48 : ∀ u : Nat, ∀ (x2_48 : Int32) (x3_48 : Int32) (x4_48 : Int32) (x5_48 : Int32) (x6_48 : Option Value) (M_48 : zMt), D_X5_secondRound_48 Q A (D_X5_secondRound_2 Q A u_2) u x2_48 x3_48 x4_48 x5_48 M_48 = some r → Zw p l e { frames := 2, cells := 0, slots := 0, locals := 80 * (2) } s m args below meth c G b 7 (MQ below (zQ G b FQ) args s 0 0 (fun q : Nat => b ≤ q)) 0 0 48 [some (.ref (Q)), some (.ref (A)), some (.int x2_48), some (.int x3_48), some (.int x4_48), some (.int x5_48), x6_48] [] (L, M_48, N) := by
        intro u
        induction u with
        | zero => intro x2_48 x3_48 x4_48 x5_48 x6_48 M_48 h; cases (show none = some r from h)
        | succ u_48 ih_48 =>
          intro x2_48 x3_48 x4_48 x5_48 x6_48 M_48 h
          rw [D_X5_secondRound_48] at h
          refine a_iload X dX5_secondRound_48 rfl ?_
          refine a_iload X dX5_secondRound_50 rfl ?_
          refine a_icmp_ge (tgt := 108) X dX5_secondRound_52 (by decide) (fun h_52 => ?_) (fun h_52 => ?_)
          · replace h := (if_pos h_52).symm.trans h
            exact Zw.to2 (J_108 _ _ _ _ _ _ h) rfl rfl rfl
          · replace h := (if_neg h_52).symm.trans h
            refine a_aload_n X dX5_secondRound_55 rfl ?_
            refine a_iload_n X dX5_secondRound_56 rfl ?_
            refine a_iload X dX5_secondRound_57 rfl ?_
            obtain ⟨e_59, f_59, h⟩ := zBx h
            refine a_callVv X dX5_secondRound_59 miX2_wish lm5_98 (t_X2_wish (by assumption) f_59) (by assumption) rfl rfl rfl (Nat.le_of_ble_eq_true rfl) ⟨by decide, by decide, by decide, by decide⟩ ?_
            refine a_istore X dX5_secondRound_62 (by decide) ?_
            refine a_aload_n X dX5_secondRound_64 rfl ?_
            refine a_iload_n X dX5_secondRound_65 rfl ?_
            refine a_aload_n X dX5_secondRound_66 rfl ?_
            refine a_getr X lf5_21 (by assumption) rfl (by omega) dX5_secondRound_67 ?_
            refine a_iload X dX5_secondRound_70 rfl ?_
            refine a_callSNv X dX5_secondRound_72 miX7_cell lm5_69 (c_cell (by assumption) (by first | decide | assumption)) rfl rfl (Nat.le_of_ble_eq_true rfl) ⟨by decide, by decide, by decide, by decide⟩ ?_
            refine a_aload_n X dX5_secondRound_75 rfl ?_
            refine a_getr X lf5_24 (by assumption) rfl (by omega) dX5_secondRound_76 ?_
            refine a_iload X dX5_secondRound_79 rfl ?_
            refine a_callSNv X dX5_secondRound_81 miX7_cell lm5_69 (c_cell (by assumption) (by first | decide | assumption)) rfl rfl (Nat.le_of_ble_eq_true rfl) ⟨by decide, by decide, by decide, by decide⟩ ?_
            obtain ⟨e_84, f_84, h⟩ := zBx h
            refine a_callVx X dX5_secondRound_84 miX2_fits lm5_102 (t_X2_fits (by assumption) f_84) (by assumption) rfl rfl rfl (Nat.le_of_ble_eq_true rfl) ⟨by decide, by decide, by decide, by decide⟩ (fun r_84 S_84 q_84 => ?_)
            obtain ⟨rfl, rfl, b_84⟩ := q_84
            refine a_if_eq (tgt := 102) X dX5_secondRound_87 (by decide) (fun h_87 => ?_) (fun h_87 => ?_)
            · replace h := (if_pos h_87).symm.trans h
              refine a_iinc (v := x5_48 + 1) X dX5_secondRound_102 (by decide) rfl zi_1 ?_
              refine a_goto (tgt := 48) X dX5_secondRound_105 (by decide) ?_
              exact Zw.to2 (ih_48 _ _ _ _ _ _ h) rfl rfl rfl
            · replace h := (if_neg h_87).symm.trans h
              refine a_aload_n X dX5_secondRound_90 rfl ?_
              refine a_aload_n X dX5_secondRound_91 rfl ?_
              refine a_iload_n X dX5_secondRound_92 rfl ?_
              refine a_iload X dX5_secondRound_93 rfl ?_
              refine a_iconst (v := 2) X dX5_secondRound_95 (by decide) ?_
              obtain ⟨e_96, f_96, h⟩ := zBx h
              refine a_callVu X dX5_secondRound_96 miX5_hold lm5_112 (t_X5_hold (by assumption) (by assumption) f_96) (by assumption) rfl rfl rfl (Nat.le_of_ble_eq_true rfl) ⟨by decide, by decide, by decide, by decide⟩ ?_
              refine a_goto (tgt := 108) X dX5_secondRound_99 (by decide) ?_
              exact Zw.to2 (J_108 _ _ _ _ _ _ h) rfl rfl rfl
      have H_48 : ∀ (x2_48 : Int32) (x3_48 : Int32) (x4_48 : Int32) (x5_48 : Int32) (x6_48 : Option Value) (M_48 : zMt), D_X5_secondRound_48 Q A (D_X5_secondRound_2 Q A u_2) zFu x2_48 x3_48 x4_48 x5_48 M_48 = some r → Zw p l e { frames := 2, cells := 0, slots := 0, locals := 80 * (2) } s m args below meth c G b 7 (MQ below (zQ G b FQ) args s 0 0 (fun q : Nat => b ≤ q)) 0 0 48 [some (.ref (Q)), some (.ref (A)), some (.int x2_48), some (.int x3_48), some (.int x4_48), some (.int x5_48), x6_48] [] (L, M_48, N) := L_48 zFu
      have J_43 : ∀ (x2_43 : Int32) (x3_43 : Int32) (x4_43 : Option Value) (x5_43 : Option Value) (x6_43 : Option Value) (y0_43 : Int32) (M_43 : zMt), D_X5_secondRound_43 Q A (D_X5_secondRound_2 Q A u_2) x2_43 x3_43 y0_43 M_43 = some r → Zw p l e { frames := 2, cells := 0, slots := 0, locals := 80 * (2) } s m args below meth c G b 7 (MQ below (zQ G b FQ) args s 0 0 (fun q : Nat => b ≤ q)) 0 0 43 [some (.ref (Q)), some (.ref (A)), some (.int x2_43), some (.int x3_43), x4_43, x5_43, x6_43] [.int y0_43] (L, M_43, N) := by
        intro x2_43 x3_43 x4_43 x5_43 x6_43 y0_43 M_43 h
        unfold D_X5_secondRound_43 at h
        refine a_istore X dX5_secondRound_43 (by decide) ?_
        refine a_iconst (v := 0) X dX5_secondRound_45 (by decide) ?_
        refine a_istore X dX5_secondRound_46 (by decide) ?_
        exact Zw.to2 (H_48 _ _ _ _ _ _ h) rfl rfl rfl
      intro x2_2 x3_2 x4_2 x5_2 x6_2 M_2 h
      rw [D_X5_secondRound_2] at h
      refine a_iload_n X dX5_secondRound_2 rfl ?_
      refine a_aload_n X dX5_secondRound_3 rfl ?_
      refine a_geti X lf5_47 (by assumption) rfl dX5_secondRound_4 ?_
      refine a_icmp_ge (tgt := 114) X dX5_secondRound_7 (by decide) (fun h_7 => ?_) (fun h_7 => ?_)
      · replace h := (if_pos h_7).symm.trans h
        refine a_vret X hr dX5_secondRound_114 ⟨by decide, by decide⟩ ?_
        subst hF
        rw [← Option.some.inj h]
        exact ⟨rfl, rfl⟩
      · replace h := (if_neg h_7).symm.trans h
        refine a_aload_n X dX5_secondRound_10 rfl ?_
        refine a_getr X lf5_9 (by assumption) rfl (by omega) dX5_secondRound_11 ?_
        refine a_iload_n X dX5_secondRound_14 rfl ?_
        refine a_callSNv X dX5_secondRound_15 miX7_cell lm5_69 (c_cell (by assumption) (by first | decide | assumption)) rfl rfl (Nat.le_of_ble_eq_true rfl) ⟨by decide, by decide, by decide, by decide⟩ ?_
        refine a_istore_n X dX5_secondRound_18 (by decide) ?_
        refine a_aload_n X dX5_secondRound_19 rfl ?_
        refine a_getr X lf5_15 (by assumption) rfl (by omega) dX5_secondRound_20 ?_
        refine a_iload_n X dX5_secondRound_23 rfl ?_
        refine a_callSNv X dX5_secondRound_24 miX7_cell lm5_69 (c_cell (by assumption) (by first | decide | assumption)) rfl rfl (Nat.le_of_ble_eq_true rfl) ⟨by decide, by decide, by decide, by decide⟩ ?_
        refine a_iconst (v := -1) X dX5_secondRound_27 (by decide) ?_
        refine a_icmp_ne (tgt := 42) X dX5_secondRound_28 (by decide) (fun h_28 => ?_) (fun h_28 => ?_)
        · replace h := (if_neg h_28).symm.trans h
          refine a_iconst (v := 0) X dX5_secondRound_42 (by decide) ?_
          exact Zw.to2 (J_43 _ _ _ _ _ _ _ h) rfl rfl rfl
        · replace h := (if_pos h_28).symm.trans h
          refine a_aload_n X dX5_secondRound_31 rfl ?_
          refine a_getr X lf5_119 (by assumption) rfl (by omega) dX5_secondRound_32 ?_
          refine a_iload_n X dX5_secondRound_35 rfl ?_
          refine a_callSNv X dX5_secondRound_36 miX7_cell lm5_69 (c_cell (by assumption) (by first | decide | assumption)) rfl rfl (Nat.le_of_ble_eq_true rfl) ⟨by decide, by decide, by decide, by decide⟩ ?_
          refine a_goto (tgt := 43) X dX5_secondRound_39 (by decide) ?_
          exact Zw.to2 (J_43 _ _ _ _ _ _ _ h) rfl rfl rfl
  have H_2 : ∀ (x2_2 : Int32) (x3_2 : Option Value) (x4_2 : Option Value) (x5_2 : Option Value) (x6_2 : Option Value) (M_2 : zMt), D_X5_secondRound_2 Q A zFu x2_2 M_2 = some r → Zw p l e { frames := 2, cells := 0, slots := 0, locals := 80 * (2) } s m args below meth c G b 7 (MQ below (zQ G b FQ) args s 0 0 (fun q : Nat => b ≤ q)) 0 0 2 [some (.ref (Q)), some (.ref (A)), some (.int x2_2), x3_2, x4_2, x5_2, x6_2] [] (L, M_2, N) := L_2 zFu
  unfold D_X5_secondRound at h
  refine a_iconst (v := 0) X dX5_secondRound_0 (by decide) ?_
  refine a_istore_n X dX5_secondRound_1 (by decide) ?_
  exact Zw.to2 (H_2 _ _ _ _ _ _ h) rfl rfl rfl
noncomputable def D_X5_settle_110 (Q : Nat) (A : Nat) (M_110 : zMt) : Option (zMt) :=
  zB (D_X5_secondRound Q A M_110) fun e_112 =>
  some (e_112)
noncomputable def D_X5_settle_36 (Q : Nat) (A : Nat) : Nat → Int32 → zMt → Option (zMt)
  | 0, _, _ => none
  | n + 1, x2_36, M_36 =>
    if (M_36 A 0) ≤ x2_36 then
      if (M_36 A 3) = 0 then
        D_X5_settle_110 Q A M_36
      else
        zB (D_X5_firstRound Q A M_36) fun e_107 =>
        D_X5_settle_110 Q A e_107
    else
      zLt (zwr M_36 (Q + 4) 5 x2_36 (zrd 0 (M_36 (A + 1)) 5 x2_36)) fun M_57 =>
      zLt (zwr M_57 (Q + 6) 5 x2_36 (zrd 0 (M_57 (A + 2)) 5 x2_36)) fun M_73 =>
      zLt (zwr M_73 (Q + 5) 5 x2_36 (zrd 0 (M_73 (A + 3)) 5 x2_36)) fun M_89 =>
      (D_X5_settle_36 Q A n) (x2_36 + 1) M_89
noncomputable def D_X5_settle_2 (Q : Nat) (A : Nat) : Nat → Int32 → zMt → Option (zMt)
  | 0, _, _ => none
  | n + 1, x2_2, M_2 =>
    if (M_2 A 1) ≤ x2_2 then
      D_X5_settle_36 Q A zFu (0 : Int32) M_2
    else
      zLt (zwr M_2 (Q + 2) 10 x2_2 (-1 : Int32)) fun M_16 =>
      zLt (zwr M_16 (Q + 3) 10 x2_2 (0 : Int32)) fun M_25 =>
      (D_X5_settle_2 Q A n) (x2_2 + 1) M_25
noncomputable def D_X5_settle (Q : Nat) (A : Nat) (M : zMt) : Option (zMt) :=
  D_X5_settle_2 Q A zFu (0 : Int32) M
set_option maxRecDepth 100000 in
set_option maxHeartbeats 4000000 in
theorem t_X5_settle {l : Launch} {G : zG} {b : Nat} {L : List zC} {M : zMt} {N : zNt} {Q : Nat} {A : Nat}  (hQ : LX5 L Q) (hA : LX2 L A) {r : zMt} (h : D_X5_settle Q A M = some r) : zM l G b yX5_settle cX5_settle 3 none 3 0 0 [.ref Q, .ref A] (L, M, N) (fun r2 z => r2 = none ∧ z = (L, r, N)) := by
  refine zM.of miX5_settle (Nat.le_of_ble_eq_true rfl) ?_
  intro p e s m args below meth c X hr hname
  generalize hF : ((fun r2 z => r2 = none ∧ z = (L, r, N)) : Option Value → zS → Prop) = FQ
  change Zw p l e { frames := 3, cells := 0, slots := 0, locals := 80 * (3) } s m args below meth c G b 3 (MQ below (zQ G b FQ) args s 0 0 (fun q : Nat => b ≤ q)) 0 0 0 [some (.ref Q), some (.ref A), none] [] (L, M, N)
  obtain ⟨q_lt, q_o, q_line, q_unitOf, q_roundOf, q_leftTags, q_leftGuests, q_leftPreferred, q_ranked⟩ := id hQ
  obtain ⟨a_lt, a_o, a_quota, a_preferred, a_forGuests, a_applicantOf, a_size, a_guestCount, a_score, a_tickets, a_bits, a_party, a_wishCount, a_wishes⟩ := id hA
  have J_110 : ∀ (x2_110 : Int32) (M_110 : zMt), D_X5_settle_110 Q A M_110 = some r → Zw p l e { frames := 3, cells := 0, slots := 0, locals := 80 * (3) } s m args below meth c G b 3 (MQ below (zQ G b FQ) args s 0 0 (fun q : Nat => b ≤ q)) 0 0 110 [some (.ref (Q)), some (.ref (A)), some (.int x2_110)] [] (L, M_110, N) := by
    intro x2_110 M_110 h
    unfold D_X5_settle_110 at h
    refine a_aload_n X dX5_settle_110 rfl ?_
    refine a_aload_n X dX5_settle_111 rfl ?_
    obtain ⟨e_112, f_112, h⟩ := zBx h
    refine a_callVu X dX5_settle_112 miX5_secondRound lm5_92 (t_X5_secondRound (by assumption) (by assumption) f_112) (by assumption) rfl rfl rfl (Nat.le_of_ble_eq_true rfl) ⟨by decide, by decide, by decide, by decide⟩ ?_
    refine a_vret X hr dX5_settle_115 ⟨by decide, by decide⟩ ?_
    subst hF
    rw [← Option.some.inj h]
    exact ⟨rfl, rfl⟩
  have L_36 : ∀ u : Nat, ∀ (x2_36 : Int32) (M_36 : zMt), D_X5_settle_36 Q A u x2_36 M_36 = some r → Zw p l e { frames := 3, cells := 0, slots := 0, locals := 80 * (3) } s m args below meth c G b 3 (MQ below (zQ G b FQ) args s 0 0 (fun q : Nat => b ≤ q)) 0 0 36 [some (.ref (Q)), some (.ref (A)), some (.int x2_36)] [] (L, M_36, N) := by
    intro u
    induction u with
    | zero => intro x2_36 M_36 h; cases (show none = some r from h)
    | succ u_36 ih_36 =>
      intro x2_36 M_36 h
      rw [D_X5_settle_36] at h
      refine a_iload_n X dX5_settle_36 rfl ?_
      refine a_aload_n X dX5_settle_37 rfl ?_
      refine a_geti X lf5_73 (by assumption) rfl dX5_settle_38 ?_
      refine a_icmp_ge (tgt := 98) X dX5_settle_41 (by decide) (fun h_41 => ?_) (fun h_41 => ?_)
      · replace h := (if_pos h_41).symm.trans h
        refine a_aload_n X dX5_settle_98 rfl ?_
        refine a_geti X lf5_85 (by assumption) rfl dX5_settle_99 ?_
        refine a_if_eq (tgt := 110) X dX5_settle_102 (by decide) (fun h_102 => ?_) (fun h_102 => ?_)
        · replace h := (if_pos h_102).symm.trans h
          exact Zw.to2 (J_110 _ _ h) rfl rfl rfl
        · replace h := (if_neg h_102).symm.trans h
          refine a_aload_n X dX5_settle_105 rfl ?_
          refine a_aload_n X dX5_settle_106 rfl ?_
          obtain ⟨e_107, f_107, h⟩ := zBx h
          refine a_callVu X dX5_settle_107 miX5_firstRound lm5_89 (t_X5_firstRound (by assumption) (by assumption) f_107) (by assumption) rfl rfl rfl (Nat.le_of_ble_eq_true rfl) ⟨by decide, by decide, by decide, by decide⟩ ?_
          exact Zw.to2 (J_110 _ _ h) rfl rfl rfl
      · replace h := (if_neg h_41).symm.trans h
        refine a_aload_n X dX5_settle_44 rfl ?_
        refine a_getr X lf5_21 (by assumption) rfl (by omega) dX5_settle_45 ?_
        refine a_iload_n X dX5_settle_48 rfl ?_
        refine a_aload_n X dX5_settle_49 rfl ?_
        refine a_getr X lf5_76 (by assumption) rfl (by omega) dX5_settle_50 ?_
        refine a_iload_n X dX5_settle_53 rfl ?_
        refine a_callSNv X dX5_settle_54 miX7_cell lm5_69 (c_cell (by assumption) (by first | decide | assumption)) rfl rfl (Nat.le_of_ble_eq_true rfl) ⟨by decide, by decide, by decide, by decide⟩ ?_
        obtain ⟨M_57, f_57, h⟩ := zLtx h
        refine a_callSNu X dX5_settle_57 miX7_put lm5_62 (zMu (c_put (by assumption) (by first | decide | assumption)) f_57) rfl rfl (Nat.le_of_ble_eq_true rfl) ⟨by decide, by decide, by decide, by decide⟩ ?_
        refine a_aload_n X dX5_settle_60 rfl ?_
        refine a_getr X lf5_27 (by assumption) rfl (by omega) dX5_settle_61 ?_
        refine a_iload_n X dX5_settle_64 rfl ?_
        refine a_aload_n X dX5_settle_65 rfl ?_
        refine a_getr X lf5_79 (by assumption) rfl (by omega) dX5_settle_66 ?_
        refine a_iload_n X dX5_settle_69 rfl ?_
        refine a_callSNv X dX5_settle_70 miX7_cell lm5_69 (c_cell (by assumption) (by first | decide | assumption)) rfl rfl (Nat.le_of_ble_eq_true rfl) ⟨by decide, by decide, by decide, by decide⟩ ?_
        obtain ⟨M_73, f_73, h⟩ := zLtx h
        refine a_callSNu X dX5_settle_73 miX7_put lm5_62 (zMu (c_put (by assumption) (by first | decide | assumption)) f_73) rfl rfl (Nat.le_of_ble_eq_true rfl) ⟨by decide, by decide, by decide, by decide⟩ ?_
        refine a_aload_n X dX5_settle_76 rfl ?_
        refine a_getr X lf5_24 (by assumption) rfl (by omega) dX5_settle_77 ?_
        refine a_iload_n X dX5_settle_80 rfl ?_
        refine a_aload_n X dX5_settle_81 rfl ?_
        refine a_getr X lf5_82 (by assumption) rfl (by omega) dX5_settle_82 ?_
        refine a_iload_n X dX5_settle_85 rfl ?_
        refine a_callSNv X dX5_settle_86 miX7_cell lm5_69 (c_cell (by assumption) (by first | decide | assumption)) rfl rfl (Nat.le_of_ble_eq_true rfl) ⟨by decide, by decide, by decide, by decide⟩ ?_
        obtain ⟨M_89, f_89, h⟩ := zLtx h
        refine a_callSNu X dX5_settle_89 miX7_put lm5_62 (zMu (c_put (by assumption) (by first | decide | assumption)) f_89) rfl rfl (Nat.le_of_ble_eq_true rfl) ⟨by decide, by decide, by decide, by decide⟩ ?_
        refine a_iinc (v := x2_36 + 1) X dX5_settle_92 (by decide) rfl zi_1 ?_
        refine a_goto (tgt := 36) X dX5_settle_95 (by decide) ?_
        exact Zw.to2 (ih_36 _ _ h) rfl rfl rfl
  have H_36 : ∀ (x2_36 : Int32) (M_36 : zMt), D_X5_settle_36 Q A zFu x2_36 M_36 = some r → Zw p l e { frames := 3, cells := 0, slots := 0, locals := 80 * (3) } s m args below meth c G b 3 (MQ below (zQ G b FQ) args s 0 0 (fun q : Nat => b ≤ q)) 0 0 36 [some (.ref (Q)), some (.ref (A)), some (.int x2_36)] [] (L, M_36, N) := L_36 zFu
  have L_2 : ∀ u : Nat, ∀ (x2_2 : Int32) (M_2 : zMt), D_X5_settle_2 Q A u x2_2 M_2 = some r → Zw p l e { frames := 3, cells := 0, slots := 0, locals := 80 * (3) } s m args below meth c G b 3 (MQ below (zQ G b FQ) args s 0 0 (fun q : Nat => b ≤ q)) 0 0 2 [some (.ref (Q)), some (.ref (A)), some (.int x2_2)] [] (L, M_2, N) := by
    intro u
    induction u with
    | zero => intro x2_2 M_2 h; cases (show none = some r from h)
    | succ u_2 ih_2 =>
      intro x2_2 M_2 h
      rw [D_X5_settle_2] at h
      refine a_iload_n X dX5_settle_2 rfl ?_
      refine a_aload_n X dX5_settle_3 rfl ?_
      refine a_geti X lf5_47 (by assumption) rfl dX5_settle_4 ?_
      refine a_icmp_ge (tgt := 34) X dX5_settle_7 (by decide) (fun h_7 => ?_) (fun h_7 => ?_)
      · replace h := (if_pos h_7).symm.trans h
        refine a_iconst (v := 0) X dX5_settle_34 (by decide) ?_
        refine a_istore_n X dX5_settle_35 (by decide) ?_
        exact Zw.to2 (H_36 _ _ h) rfl rfl rfl
      · replace h := (if_neg h_7).symm.trans h
        refine a_aload_n X dX5_settle_10 rfl ?_
        refine a_getr X lf5_15 (by assumption) rfl (by omega) dX5_settle_11 ?_
        refine a_iload_n X dX5_settle_14 rfl ?_
        refine a_iconst (v := -1) X dX5_settle_15 (by decide) ?_
        obtain ⟨M_16, f_16, h⟩ := zLtx h
        refine a_callSNu X dX5_settle_16 miX7_put lm5_62 (zMu (c_put (by assumption) (by first | decide | assumption)) f_16) rfl rfl (Nat.le_of_ble_eq_true rfl) ⟨by decide, by decide, by decide, by decide⟩ ?_
        refine a_aload_n X dX5_settle_19 rfl ?_
        refine a_getr X lf5_18 (by assumption) rfl (by omega) dX5_settle_20 ?_
        refine a_iload_n X dX5_settle_23 rfl ?_
        refine a_iconst (v := 0) X dX5_settle_24 (by decide) ?_
        obtain ⟨M_25, f_25, h⟩ := zLtx h
        refine a_callSNu X dX5_settle_25 miX7_put lm5_62 (zMu (c_put (by assumption) (by first | decide | assumption)) f_25) rfl rfl (Nat.le_of_ble_eq_true rfl) ⟨by decide, by decide, by decide, by decide⟩ ?_
        refine a_iinc (v := x2_2 + 1) X dX5_settle_28 (by decide) rfl zi_1 ?_
        refine a_goto (tgt := 2) X dX5_settle_31 (by decide) ?_
        exact Zw.to2 (ih_2 _ _ h) rfl rfl rfl
  have H_2 : ∀ (x2_2 : Int32) (M_2 : zMt), D_X5_settle_2 Q A zFu x2_2 M_2 = some r → Zw p l e { frames := 3, cells := 0, slots := 0, locals := 80 * (3) } s m args below meth c G b 3 (MQ below (zQ G b FQ) args s 0 0 (fun q : Nat => b ≤ q)) 0 0 2 [some (.ref (Q)), some (.ref (A)), some (.int x2_2)] [] (L, M_2, N) := L_2 zFu
  unfold D_X5_settle at h
  refine a_iconst (v := 0) X dX5_settle_0 (by decide) ?_
  refine a_istore_n X dX5_settle_1 (by decide) ?_
  exact Zw.to2 (H_2 _ _ h) rfl rfl rfl
noncomputable def D_X0_record_88 (Q : Nat) (A : Nat) (k6 : Int64 → Int32 → Int32 → zMt → zNt → Option (zMt × zNt)) (x2_88 : Int64) (x4_88 : Int32) (x5_88 : Int32) (M_88 : zMt) (N_88 : zNt) : Option (zMt × zNt) :=
  k6 x2_88 x4_88 (x5_88 + 1) M_88 N_88
noncomputable def D_X0_record_6 (Q : Nat) (A : Nat) : Nat → Int64 → Int32 → Int32 → zMt → zNt → Option (zMt × zNt)
  | 0, _, _, _, _, _ => none
  | n + 1, x2_6, x4_6, x5_6, M_6, N_6 =>
    if (M_6 A 1) ≤ x5_6 then
      zLt (zwr N_6 (Q + 1) 128 x4_6 (zrd 0 (N_6 (Q + 1)) 128 x4_6 + x2_6)) fun N_101 =>
      zLt (zwr M_6 (Q + 2) 128 x4_6 (1 : Int32)) fun M_111 =>
      some (M_111, N_101)
    else
      if (zrd 0 (M_6 (Q + 7)) 10 x5_6) = (-1 : Int32) then
        D_X0_record_88 Q A (D_X0_record_6 Q A n) x2_6 x4_6 x5_6 M_6 N_6
      else
        zLt (zwr N_6 (Q + 3) 35 ((x5_6 * (5 : Int32)) + (zrd 0 (M_6 (Q + 7)) 10 x5_6)) (zrd 0 (N_6 (Q + 3)) 35 ((x5_6 * (5 : Int32)) + (zrd 0 (M_6 (Q + 7)) 10 x5_6)) + x2_6)) fun N_59 =>
        if (zrd 0 (M_6 (Q + 8)) 10 x5_6) = (1 : Int32) then
          zLt (zwr N_59 (Q + 4) 7 x5_6 (zrd 0 (N_59 (Q + 4)) 7 x5_6 + x2_6)) fun N_85 =>
          D_X0_record_88 Q A (D_X0_record_6 Q A n) x2_6 (x4_6 ||| ((1 : Int32) <<< (x5_6 &&& 31))) x5_6 M_6 N_85
        else
          D_X0_record_88 Q A (D_X0_record_6 Q A n) x2_6 (x4_6 ||| ((1 : Int32) <<< (x5_6 &&& 31))) x5_6 M_6 N_59
noncomputable def D_X0_record (Q : Nat) (A : Nat) (v0 : Int64) (M : zMt) (N : zNt) : Option (zMt × zNt) :=
  D_X0_record_6 Q A zFu v0 (0 : Int32) (0 : Int32) M N
set_option maxRecDepth 100000 in
set_option maxHeartbeats 4000000 in
theorem t_X0_record {l : Launch} {G : zG} {b : Nat} {L : List zC} {M : zMt} {N : zNt} {Q : Nat} {A : Nat} {v0 : Int64} (hQ : LX0 L Q) (hA : LX2 L A) {r : zMt × zNt} (h : D_X0_record Q A v0 M N = some r) : zM l G b yX0_record cX0_record 7 none 1 0 0 [.ref Q, .ref A, .long v0] (L, M, N) (fun r2 z => r2 = none ∧ z = (L, r.1, r.2)) := by
  refine zM.of miX0_record (Nat.le_of_ble_eq_true rfl) ?_
  intro p e s m args below meth c X hr hname
  generalize hF : ((fun r2 z => r2 = none ∧ z = (L, r.1, r.2)) : Option Value → zS → Prop) = FQ
  change Zw p l e { frames := 1, cells := 0, slots := 0, locals := 80 * (1) } s m args below meth c G b 7 (MQ below (zQ G b FQ) args s 0 0 (fun q : Nat => b ≤ q)) 0 0 0 [some (.ref Q), some (.ref A), some (.long v0), none, none, none, none] [] (L, M, N)
  obtain ⟨q_lt, q_o, q_sets, q_seen, q_atUnit, q_early, q_result⟩ := id hQ
  obtain ⟨q_result_lt, q_result_o, q_result_line, q_result_unitOf, q_result_roundOf, q_result_leftTags, q_result_leftGuests, q_result_leftPreferred, q_result_ranked⟩ := id q_result
  obtain ⟨a_lt, a_o, a_quota, a_preferred, a_forGuests, a_applicantOf, a_size, a_guestCount, a_score, a_tickets, a_bits, a_party, a_wishCount, a_wishes⟩ := id hA
  have L_6 : ∀ u : Nat, ∀ (x2_6 : Int64) (x4_6 : Int32) (x5_6 : Int32) (x6_6 : Option Value) (M_6 : zMt) (N_6 : zNt), D_X0_record_6 Q A u x2_6 x4_6 x5_6 M_6 N_6 = some r → Zw p l e { frames := 1, cells := 0, slots := 0, locals := 80 * (1) } s m args below meth c G b 7 (MQ below (zQ G b FQ) args s 0 0 (fun q : Nat => b ≤ q)) 0 0 6 [some (.ref (Q)), some (.ref (A)), some (.long x2_6), none, some (.int x4_6), some (.int x5_6), x6_6] [] (L, M_6, N_6) := by
    intro u
    induction u with
    | zero => intro x2_6 x4_6 x5_6 x6_6 M_6 N_6 h; cases (show none = some r from h)
    | succ u_6 ih_6 =>
      have J_88 : ∀ (x2_88 : Int64) (x4_88 : Int32) (x5_88 : Int32) (x6_88 : Int32) (M_88 : zMt) (N_88 : zNt), D_X0_record_88 Q A (D_X0_record_6 Q A u_6) x2_88 x4_88 x5_88 M_88 N_88 = some r → Zw p l e { frames := 1, cells := 0, slots := 0, locals := 80 * (1) } s m args below meth c G b 7 (MQ below (zQ G b FQ) args s 0 0 (fun q : Nat => b ≤ q)) 0 0 88 [some (.ref (Q)), some (.ref (A)), some (.long x2_88), none, some (.int x4_88), some (.int x5_88), some (.int x6_88)] [] (L, M_88, N_88) := by
        intro x2_88 x4_88 x5_88 x6_88 M_88 N_88 h
        unfold D_X0_record_88 at h
        refine a_iinc (v := x5_88 + 1) X dX0_record_88 (by decide) rfl zi_1 ?_
        refine a_goto (tgt := 6) X dX0_record_91 (by decide) ?_
        exact Zw.to2 (ih_6 _ _ _ _ _ _ h) rfl rfl rfl
      intro x2_6 x4_6 x5_6 x6_6 M_6 N_6 h
      rw [D_X0_record_6] at h
      refine a_iload X dX0_record_6 rfl ?_
      refine a_aload_n X dX0_record_8 rfl ?_
      refine a_geti X lf0_40 (by assumption) rfl dX0_record_9 ?_
      refine a_icmp_ge (tgt := 94) X dX0_record_12 (by decide) (fun h_12 => ?_) (fun h_12 => ?_)
      · replace h := (if_pos h_12).symm.trans h
        refine a_aload_n X dX0_record_94 rfl ?_
        refine a_getr X lf0_9 (by assumption) rfl (by omega) dX0_record_95 ?_
        refine a_iload X dX0_record_98 rfl ?_
        refine a_lload_n X dX0_record_100 rfl ?_
        obtain ⟨N_101, f_101, h⟩ := zLtx h
        refine a_callSNu X dX0_record_101 miX7_bigAdd lm0_80 (zMuN (c_bigAdd (by assumption) (by first | decide | assumption)) f_101) rfl rfl (Nat.le_of_ble_eq_true rfl) ⟨by decide, by decide, by decide, by decide⟩ ?_
        refine a_aload_n X dX0_record_104 rfl ?_
        refine a_getr X lf0_15 (by assumption) rfl (by omega) dX0_record_105 ?_
        refine a_iload X dX0_record_108 rfl ?_
        refine a_iconst (v := 1) X dX0_record_110 (by decide) ?_
        obtain ⟨M_111, f_111, h⟩ := zLtx h
        refine a_callSNu X dX0_record_111 miX7_put lm0_73 (zMu (c_put (by assumption) (by first | decide | assumption)) f_111) rfl rfl (Nat.le_of_ble_eq_true rfl) ⟨by decide, by decide, by decide, by decide⟩ ?_
        refine a_vret X hr dX0_record_114 ⟨by decide, by decide⟩ ?_
        subst hF
        rw [← Option.some.inj h]
        exact ⟨rfl, rfl⟩
      · replace h := (if_neg h_12).symm.trans h
        refine a_aload_n X dX0_record_15 rfl ?_
        refine a_getr X lf0_28 (by assumption) rfl (by omega) dX0_record_16 ?_
        refine a_getr X lf0_77 (by assumption) rfl (by omega) dX0_record_19 ?_
        refine a_iload X dX0_record_22 rfl ?_
        refine a_callSNv X dX0_record_24 miX7_cell lm0_66 (c_cell (by assumption) (by first | decide | assumption)) rfl rfl (Nat.le_of_ble_eq_true rfl) ⟨by decide, by decide, by decide, by decide⟩ ?_
        refine a_istore X dX0_record_27 (by decide) ?_
        refine a_iload X dX0_record_29 rfl ?_
        refine a_iconst (v := -1) X dX0_record_31 (by decide) ?_
        refine a_icmp_ne (tgt := 38) X dX0_record_32 (by decide) (fun h_32 => ?_) (fun h_32 => ?_)
        · replace h := (if_neg h_32).symm.trans h
          refine a_iload X dX0_record_38 rfl ?_
          refine a_iconst (v := 1) X dX0_record_40 (by decide) ?_
          refine a_iload X dX0_record_41 rfl ?_
          refine a_ishl X dX0_record_43 ?_
          refine a_ior X dX0_record_44 ?_
          refine a_istore X dX0_record_45 (by decide) ?_
          refine a_aload_n X dX0_record_47 rfl ?_
          refine a_getr X lf0_19 (by assumption) rfl (by omega) dX0_record_48 ?_
          refine a_iload X dX0_record_51 rfl ?_
          refine a_iconst (v := 5) X dX0_record_53 (by decide) ?_
          refine a_imul X dX0_record_54 ?_
          refine a_iload X dX0_record_55 rfl ?_
          refine a_iadd X dX0_record_57 ?_
          refine a_lload_n X dX0_record_58 rfl ?_
          obtain ⟨N_59, f_59, h⟩ := zLtx h
          refine a_callSNu X dX0_record_59 miX7_bigAdd lm0_80 (zMuN (c_bigAdd (by assumption) (by first | decide | assumption)) f_59) rfl rfl (Nat.le_of_ble_eq_true rfl) ⟨by decide, by decide, by decide, by decide⟩ ?_
          refine a_aload_n X dX0_record_62 rfl ?_
          refine a_getr X lf0_28 (by assumption) rfl (by omega) dX0_record_63 ?_
          refine a_getr X lf0_84 (by assumption) rfl (by omega) dX0_record_66 ?_
          refine a_iload X dX0_record_69 rfl ?_
          refine a_callSNv X dX0_record_71 miX7_cell lm0_66 (c_cell (by assumption) (by first | decide | assumption)) rfl rfl (Nat.le_of_ble_eq_true rfl) ⟨by decide, by decide, by decide, by decide⟩ ?_
          refine a_iconst (v := 1) X dX0_record_74 (by decide) ?_
          refine a_icmp_ne (tgt := 88) X dX0_record_75 (by decide) (fun h_75 => ?_) (fun h_75 => ?_)
          · replace h := (if_neg h_75).symm.trans h
            exact Zw.to2 (J_88 _ _ _ _ _ _ h) rfl rfl rfl
          · replace h := (if_pos h_75).symm.trans h
            refine a_aload_n X dX0_record_78 rfl ?_
            refine a_getr X lf0_22 (by assumption) rfl (by omega) dX0_record_79 ?_
            refine a_iload X dX0_record_82 rfl ?_
            refine a_lload_n X dX0_record_84 rfl ?_
            obtain ⟨N_85, f_85, h⟩ := zLtx h
            refine a_callSNu X dX0_record_85 miX7_bigAdd lm0_80 (zMuN (c_bigAdd (by assumption) (by first | decide | assumption)) f_85) rfl rfl (Nat.le_of_ble_eq_true rfl) ⟨by decide, by decide, by decide, by decide⟩ ?_
            exact Zw.to2 (J_88 _ _ _ _ _ _ h) rfl rfl rfl
        · replace h := (if_pos h_32).symm.trans h
          refine a_goto (tgt := 88) X dX0_record_35 (by decide) ?_
          exact Zw.to2 (J_88 _ _ _ _ _ _ h) rfl rfl rfl
  have H_6 : ∀ (x2_6 : Int64) (x4_6 : Int32) (x5_6 : Int32) (x6_6 : Option Value) (M_6 : zMt) (N_6 : zNt), D_X0_record_6 Q A zFu x2_6 x4_6 x5_6 M_6 N_6 = some r → Zw p l e { frames := 1, cells := 0, slots := 0, locals := 80 * (1) } s m args below meth c G b 7 (MQ below (zQ G b FQ) args s 0 0 (fun q : Nat => b ≤ q)) 0 0 6 [some (.ref (Q)), some (.ref (A)), some (.long x2_6), none, some (.int x4_6), some (.int x5_6), x6_6] [] (L, M_6, N_6) := L_6 zFu
  unfold D_X0_record at h
  refine a_iconst (v := 0) X dX0_record_0 (by decide) ?_
  refine a_istore X dX0_record_1 (by decide) ?_
  refine a_iconst (v := 0) X dX0_record_3 (by decide) ?_
  refine a_istore X dX0_record_4 (by decide) ?_
  exact Zw.to2 (H_6 _ _ _ _ _ _ h) rfl rfl rfl
noncomputable def D_X0_walk_109 (Q : Nat) (A : Nat) (rec : Int32 → Int32 → Int32 → Int64 → zMt → zNt → Option (zMt × zNt)) (k35 : Int32 → Int32 → Int32 → Int64 → Int32 → zMt → zNt → Option (zMt × zNt)) (x2_109 : Int32) (x3_109 : Int32) (x4_109 : Int32) (x5_109 : Int64) (x7_109 : Int32) (M_109 : zMt) (N_109 : zNt) : Option (zMt × zNt) :=
  k35 x2_109 x3_109 x4_109 x5_109 (x7_109 + 1) M_109 N_109
noncomputable def D_X0_walk_35 (Q : Nat) (A : Nat) (rec : Int32 → Int32 → Int32 → Int64 → zMt → zNt → Option (zMt × zNt)) : Nat → Int32 → Int32 → Int32 → Int64 → Int32 → zMt → zNt → Option (zMt × zNt)
  | 0, _, _, _, _, _, _, _ => none
  | n + 1, x2_35, x3_35, x4_35, x5_35, x7_35, M_35, N_35 =>
    if (M_35 A 1) ≤ x7_35 then
      some (M_35, N_35)
    else
      if ((x3_35 >>> (x7_35 &&& 31)) &&& (1 : Int32)) = (1 : Int32) then
        zLt (zwr M_35 (Q + 6) 10 x2_35 x7_35) fun M_75 =>
        zZl (Int32.toInt64 x4_35) <|
        zB (rec (x2_35 + (1 : Int32)) (x3_35 &&& (((1 : Int32) <<< (x7_35 &&& 31)) ^^^ (-1 : Int32))) (x4_35 - (zrd 0 (M_35 (A + 8)) 10 x7_35)) ((x5_35 * (Int32.toInt64 (zrd 0 (M_35 (A + 8)) 10 x7_35))) / (Int32.toInt64 x4_35)) M_75 N_35) fun e_106 =>
        D_X0_walk_109 Q A rec (D_X0_walk_35 Q A rec n) x2_35 x3_35 x4_35 x5_35 x7_35 e_106.1 e_106.2
      else
        D_X0_walk_109 Q A rec (D_X0_walk_35 Q A rec n) x2_35 x3_35 x4_35 x5_35 x7_35 M_35 N_35
noncomputable def D_X0_walk_31 (Q : Nat) (A : Nat) (rec : Int32 → Int32 → Int32 → Int64 → zMt → zNt → Option (zMt × zNt)) (M_31 : zMt) (N_31 : zNt) : Option (zMt × zNt) :=
  some (M_31, N_31)
noncomputable def D_X0_walk (Q : Nat) (A : Nat) : Nat → Int32 → Int32 → Int32 → Int64 → zMt → zNt → Option (zMt × zNt)
  | 0, _, _, _, _, _, _ => none
  | w + 1, v0, v1, v2, v3, M, N =>
    if v1 = 0 then
      zB (D_X5_settle (Q + 5) A M) fun e_9 =>
      zB (D_X0_record Q A v3 e_9 N) fun e_16 =>
      some (e_16.1, e_16.2)
    else
      if (7 : Int32) ≤ v0 then
        D_X0_walk_31 Q A (D_X0_walk Q A w) M N
      else
        if 0 < v2 then
          D_X0_walk_35 Q A (D_X0_walk Q A w) zFu v0 v1 v2 v3 (0 : Int32) M N
        else
          D_X0_walk_31 Q A (D_X0_walk Q A w) M N
set_option maxRecDepth 100000 in
set_option maxHeartbeats 4000000 in
theorem t_X0_walk_w {l : Launch} {G : zG} {b : Nat} {L : List zC} {Q : Nat} {A : Nat} (hQ : LX0 L Q) (hA : LX2 L A) : ∀ (w : Nat) {v0 : Int32} {v1 : Int32} {v2 : Int32} {v3 : Int64} {M : zMt} {N : zNt} {r : zMt × zNt}, D_X0_walk Q A w v0 v1 v2 v3 M N = some r → zM l G b yX0_walk cX0_walk 9 none (3 + w) 0 0 [.ref Q, .ref A, .int v0, .int v1, .int v2, .long v3] (L, M, N) (fun r2 z => r2 = none ∧ z = (L, r.1, r.2)) := by
  intro w
  induction w with
  | zero => intro v0 v1 v2 v3 M N r h; cases (show none = some r from h)
  | succ w ihw =>
    intro v0 v1 v2 v3 M N r h
    refine zM.of miX0_walk (Nat.le_of_ble_eq_true rfl) ?_
    intro p e s m args below meth c X hr hname
    generalize hF : ((fun r2 z => r2 = none ∧ z = (L, r.1, r.2)) : Option Value → zS → Prop) = FQ
    rw [show 3 + (w + 1) = 4 + w by omega]
    change Zw p l e { frames := 4 + w, cells := 0, slots := 0, locals := 80 * (4 + w) } s m args below meth c G b 9 (MQ below (zQ G b FQ) args s 0 0 (fun q : Nat => b ≤ q)) 0 0 0 [some (.ref Q), some (.ref A), some (.int v0), some (.int v1), some (.int v2), some (.long v3), none, none, none] [] (L, M, N)
    obtain ⟨q_lt, q_o, q_sets, q_seen, q_atUnit, q_early, q_result⟩ := id hQ
    obtain ⟨q_result_lt, q_result_o, q_result_line, q_result_unitOf, q_result_roundOf, q_result_leftTags, q_result_leftGuests, q_result_leftPreferred, q_result_ranked⟩ := id q_result
    obtain ⟨a_lt, a_o, a_quota, a_preferred, a_forGuests, a_applicantOf, a_size, a_guestCount, a_score, a_tickets, a_bits, a_party, a_wishCount, a_wishes⟩ := id hA
    have L_35 : ∀ u : Nat, ∀ (x2_35 : Int32) (x3_35 : Int32) (x4_35 : Int32) (x5_35 : Int64) (x7_35 : Int32) (x8_35 : Option Value) (M_35 : zMt) (N_35 : zNt), D_X0_walk_35 Q A (D_X0_walk Q A w) u x2_35 x3_35 x4_35 x5_35 x7_35 M_35 N_35 = some r → Zw p l e { frames := 4 + w, cells := 0, slots := 0, locals := 80 * (4 + w) } s m args below meth c G b 9 (MQ below (zQ G b FQ) args s 0 0 (fun q : Nat => b ≤ q)) 0 0 35 [some (.ref (Q)), some (.ref (A)), some (.int x2_35), some (.int x3_35), some (.int x4_35), some (.long x5_35), none, some (.int x7_35), x8_35] [] (L, M_35, N_35) := by
      intro u
      induction u with
      | zero => intro x2_35 x3_35 x4_35 x5_35 x7_35 x8_35 M_35 N_35 h; cases (show none = some r from h)
      | succ u_35 ih_35 =>
        have J_109 : ∀ (x2_109 : Int32) (x3_109 : Int32) (x4_109 : Int32) (x5_109 : Int64) (x7_109 : Int32) (x8_109 : Option Value) (M_109 : zMt) (N_109 : zNt), D_X0_walk_109 Q A (D_X0_walk Q A w) (D_X0_walk_35 Q A (D_X0_walk Q A w) u_35) x2_109 x3_109 x4_109 x5_109 x7_109 M_109 N_109 = some r → Zw p l e { frames := 4 + w, cells := 0, slots := 0, locals := 80 * (4 + w) } s m args below meth c G b 9 (MQ below (zQ G b FQ) args s 0 0 (fun q : Nat => b ≤ q)) 0 0 109 [some (.ref (Q)), some (.ref (A)), some (.int x2_109), some (.int x3_109), some (.int x4_109), some (.long x5_109), none, some (.int x7_109), x8_109] [] (L, M_109, N_109) := by
          intro x2_109 x3_109 x4_109 x5_109 x7_109 x8_109 M_109 N_109 h
          unfold D_X0_walk_109 at h
          refine a_iinc (v := x7_109 + 1) X dX0_walk_109 (by decide) rfl zi_1 ?_
          refine a_goto (tgt := 35) X dX0_walk_112 (by decide) ?_
          exact Zw.to2 (ih_35 _ _ _ _ _ _ _ _ h) rfl rfl rfl
        intro x2_35 x3_35 x4_35 x5_35 x7_35 x8_35 M_35 N_35 h
        rw [D_X0_walk_35] at h
        refine a_iload X dX0_walk_35 rfl ?_
        refine a_aload_n X dX0_walk_37 rfl ?_
        refine a_geti X lf0_40 (by assumption) rfl dX0_walk_38 ?_
        refine a_icmp_ge (tgt := 115) X dX0_walk_41 (by decide) (fun h_41 => ?_) (fun h_41 => ?_)
        · replace h := (if_pos h_41).symm.trans h
          refine a_vret X hr dX0_walk_115 ⟨by decide, by decide⟩ ?_
          subst hF
          rw [← Option.some.inj h]
          exact ⟨rfl, rfl⟩
        · replace h := (if_neg h_41).symm.trans h
          refine a_iload_n X dX0_walk_44 rfl ?_
          refine a_iload X dX0_walk_45 rfl ?_
          refine a_ishr X dX0_walk_47 ?_
          refine a_iconst (v := 1) X dX0_walk_48 (by decide) ?_
          refine a_iand X dX0_walk_49 ?_
          refine a_iconst (v := 1) X dX0_walk_50 (by decide) ?_
          refine a_icmp_ne (tgt := 109) X dX0_walk_51 (by decide) (fun h_51 => ?_) (fun h_51 => ?_)
          · replace h := (if_neg h_51).symm.trans h
            exact Zw.to2 (J_109 _ _ _ _ _ _ _ _ h) rfl rfl rfl
          · replace h := (if_pos h_51).symm.trans h
            refine a_aload_n X dX0_walk_54 rfl ?_
            refine a_getr X lf0_63 (by assumption) rfl (by omega) dX0_walk_55 ?_
            refine a_iload X dX0_walk_58 rfl ?_
            refine a_callSNv X dX0_walk_60 miX7_cell lm0_66 (c_cell (by assumption) (by first | decide | assumption)) rfl rfl (Nat.le_of_ble_eq_true rfl) ⟨by first | decide | (show _ ≤ _; dsimp only; omega), by first | decide | (show _ ≤ _; dsimp only; omega), by first | decide | exact Nat.le_refl 0, by first | decide | exact Nat.le_refl 0⟩ ?_
            refine a_istore X dX0_walk_63 (by decide) ?_
            refine a_aload_n X dX0_walk_65 rfl ?_
            refine a_getr X lf0_28 (by assumption) rfl (by omega) dX0_walk_66 ?_
            refine a_getr X lf0_70 (by assumption) rfl (by omega) dX0_walk_69 ?_
            refine a_iload_n X dX0_walk_72 rfl ?_
            refine a_iload X dX0_walk_73 rfl ?_
            obtain ⟨M_75, f_75, h⟩ := zLtx h
            refine a_callSNu X dX0_walk_75 miX7_put lm0_73 (zMu (c_put (by assumption) (by first | decide | assumption)) f_75) rfl rfl (Nat.le_of_ble_eq_true rfl) ⟨by first | decide | (show _ ≤ _; dsimp only; omega), by first | decide | (show _ ≤ _; dsimp only; omega), by first | decide | exact Nat.le_refl 0, by first | decide | exact Nat.le_refl 0⟩ ?_
            refine a_aload_n X dX0_walk_78 rfl ?_
            refine a_aload_n X dX0_walk_79 rfl ?_
            refine a_iload_n X dX0_walk_80 rfl ?_
            refine a_iconst (v := 1) X dX0_walk_81 (by decide) ?_
            refine a_iadd X dX0_walk_82 ?_
            refine a_iload_n X dX0_walk_83 rfl ?_
            refine a_iconst (v := 1) X dX0_walk_84 (by decide) ?_
            refine a_iload X dX0_walk_85 rfl ?_
            refine a_ishl X dX0_walk_87 ?_
            refine a_iconst (v := -1) X dX0_walk_88 (by decide) ?_
            refine a_ixor X dX0_walk_89 ?_
            refine a_iand X dX0_walk_90 ?_
            refine a_iload X dX0_walk_91 rfl ?_
            refine a_iload X dX0_walk_93 rfl ?_
            refine a_isub X dX0_walk_95 ?_
            refine a_lload X dX0_walk_96 rfl ?_
            refine a_iload X dX0_walk_98 rfl ?_
            refine a_i2l X dX0_walk_100 ?_
            refine a_lmul X dX0_walk_101 ?_
            refine a_iload X dX0_walk_102 rfl ?_
            refine a_i2l X dX0_walk_104 ?_
            obtain ⟨z_105, h⟩ := zZlx h
            refine a_ldiv X dX0_walk_105 (z_105) ?_
            obtain ⟨e_106, f_106, h⟩ := zBx h
            refine a_callSu X dX0_walk_106 miX0_walk lm0_51 (ihw f_106) rfl rfl (Nat.le_of_ble_eq_true rfl) ⟨by first | decide | (show _ ≤ _; dsimp only; omega), by first | decide | (show _ ≤ _; dsimp only; omega), by first | decide | exact Nat.le_refl 0, by first | decide | exact Nat.le_refl 0⟩ ?_
            exact Zw.to2 (J_109 _ _ _ _ _ _ _ _ h) rfl rfl rfl
    have H_35 : ∀ (x2_35 : Int32) (x3_35 : Int32) (x4_35 : Int32) (x5_35 : Int64) (x7_35 : Int32) (x8_35 : Option Value) (M_35 : zMt) (N_35 : zNt), D_X0_walk_35 Q A (D_X0_walk Q A w) zFu x2_35 x3_35 x4_35 x5_35 x7_35 M_35 N_35 = some r → Zw p l e { frames := 4 + w, cells := 0, slots := 0, locals := 80 * (4 + w) } s m args below meth c G b 9 (MQ below (zQ G b FQ) args s 0 0 (fun q : Nat => b ≤ q)) 0 0 35 [some (.ref (Q)), some (.ref (A)), some (.int x2_35), some (.int x3_35), some (.int x4_35), some (.long x5_35), none, some (.int x7_35), x8_35] [] (L, M_35, N_35) := L_35 zFu
    have J_31 : ∀ (x2_31 : Int32) (x3_31 : Int32) (x4_31 : Int32) (x5_31 : Int64) (x7_31 : Option Value) (x8_31 : Option Value) (M_31 : zMt) (N_31 : zNt), D_X0_walk_31 Q A (D_X0_walk Q A w) M_31 N_31 = some r → Zw p l e { frames := 4 + w, cells := 0, slots := 0, locals := 80 * (4 + w) } s m args below meth c G b 9 (MQ below (zQ G b FQ) args s 0 0 (fun q : Nat => b ≤ q)) 0 0 31 [some (.ref (Q)), some (.ref (A)), some (.int x2_31), some (.int x3_31), some (.int x4_31), some (.long x5_31), none, x7_31, x8_31] [] (L, M_31, N_31) := by
      intro x2_31 x3_31 x4_31 x5_31 x7_31 x8_31 M_31 N_31 h
      unfold D_X0_walk_31 at h
      refine a_vret X hr dX0_walk_31 ⟨by decide, by decide⟩ ?_
      subst hF
      rw [← Option.some.inj h]
      exact ⟨rfl, rfl⟩
    rw [D_X0_walk] at h
    refine a_iload_n X dX0_walk_0 rfl ?_
    refine a_if_ne (tgt := 20) X dX0_walk_1 (by decide) (fun h_1 => ?_) (fun h_1 => ?_)
    · replace h := (if_neg h_1).symm.trans h
      refine a_iload_n X dX0_walk_20 rfl ?_
      refine a_bipush (v := 7) X dX0_walk_21 (by decide) ?_
      refine a_icmp_ge (tgt := 31) X dX0_walk_23 (by decide) (fun h_23 => ?_) (fun h_23 => ?_)
      · replace h := (if_pos h_23).symm.trans h
        exact Zw.to2 (J_31 _ _ _ _ _ _ _ _ h) rfl rfl rfl
      · replace h := (if_neg h_23).symm.trans h
        refine a_iload X dX0_walk_26 rfl ?_
        refine a_if_gt (tgt := 32) X dX0_walk_28 (by decide) (fun h_28 => ?_) (fun h_28 => ?_)
        · replace h := (if_pos h_28).symm.trans h
          refine a_iconst (v := 0) X dX0_walk_32 (by decide) ?_
          refine a_istore X dX0_walk_33 (by decide) ?_
          exact Zw.to2 (H_35 _ _ _ _ _ _ _ _ h) rfl rfl rfl
        · replace h := (if_neg h_28).symm.trans h
          exact Zw.to2 (J_31 _ _ _ _ _ _ _ _ h) rfl rfl rfl
    · replace h := (if_pos h_1).symm.trans h
      refine a_aload_n X dX0_walk_4 rfl ?_
      refine a_getr X lf0_28 (by assumption) rfl (by omega) dX0_walk_5 ?_
      refine a_aload_n X dX0_walk_8 rfl ?_
      obtain ⟨e_9, f_9, h⟩ := zBx h
      refine a_callVu X dX0_walk_9 miX5_settle lm0_55 (t_X5_settle (by assumption) (by assumption) f_9) (by assumption) rfl rfl rfl (Nat.le_of_ble_eq_true rfl) ⟨by first | decide | (show _ ≤ _; dsimp only; omega), by first | decide | (show _ ≤ _; dsimp only; omega), by first | decide | exact Nat.le_refl 0, by first | decide | exact Nat.le_refl 0⟩ ?_
      refine a_aload_n X dX0_walk_12 rfl ?_
      refine a_aload_n X dX0_walk_13 rfl ?_
      refine a_lload X dX0_walk_14 rfl ?_
      obtain ⟨e_16, f_16, h⟩ := zBx h
      refine a_callVu X dX0_walk_16 miX0_record lm0_59 (t_X0_record (by assumption) (by assumption) f_16) (by assumption) rfl rfl rfl (Nat.le_of_ble_eq_true rfl) ⟨by first | decide | (show _ ≤ _; dsimp only; omega), by first | decide | (show _ ≤ _; dsimp only; omega), by first | decide | exact Nat.le_refl 0, by first | decide | exact Nat.le_refl 0⟩ ?_
      refine a_vret X hr dX0_walk_19 ⟨by decide, by decide⟩ ?_
      subst hF
      rw [← Option.some.inj h]
      exact ⟨rfl, rfl⟩
theorem t_X0_walk {l : Launch} {G : zG} {b : Nat} {L : List zC} {M : zMt} {N : zNt} {Q : Nat} {A : Nat} {v0 : Int32} {v1 : Int32} {v2 : Int32} {v3 : Int64} (hQ : LX0 L Q) (hA : LX2 L A) {r : zMt × zNt} (h : D_X0_walk Q A zRec v0 v1 v2 v3 M N = some r) : zM l G b yX0_walk cX0_walk 9 none 12 0 0 [.ref Q, .ref A, .int v0, .int v1, .int v2, .long v3] (L, M, N) (fun r2 z => r2 = none ∧ z = (L, r.1, r.2)) := t_X0_walk_w hQ hA zRec h
noncomputable def D_X0_reckon_62 (Q : Nat) (A : Nat) (M_62 : zMt) (N_62 : zNt) : Option (zMt × zNt) :=
  some (M_62, N_62)
noncomputable def D_X0_reckon (Q : Nat) (A : Nat) (M : zMt) (N : zNt) : Option (zMt × zNt) :=
  zLt (zfil N (Q + 1) 128 (0 : Int64)) fun N_5 =>
  zLt (zfil M (Q + 2) 128 (0 : Int32)) fun M_13 =>
  zLt (zfil N_5 (Q + 3) 35 (0 : Int64)) fun N_21 =>
  zLt (zfil N_21 (Q + 4) 7 (0 : Int64)) fun N_29 =>
  if (7 : Int32) < (M_13 A 1) then
    D_X0_reckon_62 Q A M_13 N_29
  else
    zB (D_X0_walk Q A zRec (0 : Int32) (((1 : Int32) <<< ((M_13 A 1) &&& 31)) - (1 : Int32)) (M_13 A 2) (1000000000000 : Int64) M_13 N_29) fun e_59 =>
    D_X0_reckon_62 Q A e_59.1 e_59.2
set_option maxRecDepth 100000 in
set_option maxHeartbeats 4000000 in
theorem t_X0_reckon {l : Launch} {G : zG} {b : Nat} {L : List zC} {M : zMt} {N : zNt} {Q : Nat} {A : Nat}  (hQ : LX0 L Q) (hA : LX2 L A) {r : zMt × zNt} (h : D_X0_reckon Q A M N = some r) : zM l G b yX0_reckon cX0_reckon 2 none 13 0 0 [.ref Q, .ref A] (L, M, N) (fun r2 z => r2 = none ∧ z = (L, r.1, r.2)) := by
  refine zM.of miX0_reckon (Nat.le_of_ble_eq_true rfl) ?_
  intro p e s m args below meth c X hr hname
  generalize hF : ((fun r2 z => r2 = none ∧ z = (L, r.1, r.2)) : Option Value → zS → Prop) = FQ
  change Zw p l e { frames := 13, cells := 0, slots := 0, locals := 80 * (13) } s m args below meth c G b 2 (MQ below (zQ G b FQ) args s 0 0 (fun q : Nat => b ≤ q)) 0 0 0 [some (.ref Q), some (.ref A)] [] (L, M, N)
  obtain ⟨q_lt, q_o, q_sets, q_seen, q_atUnit, q_early, q_result⟩ := id hQ
  obtain ⟨q_result_lt, q_result_o, q_result_line, q_result_unitOf, q_result_roundOf, q_result_leftTags, q_result_leftGuests, q_result_leftPreferred, q_result_ranked⟩ := id q_result
  obtain ⟨a_lt, a_o, a_quota, a_preferred, a_forGuests, a_applicantOf, a_size, a_guestCount, a_score, a_tickets, a_bits, a_party, a_wishCount, a_wishes⟩ := id hA
  have J_62 : ∀ (M_62 : zMt) (N_62 : zNt), D_X0_reckon_62 Q A M_62 N_62 = some r → Zw p l e { frames := 13, cells := 0, slots := 0, locals := 80 * (13) } s m args below meth c G b 2 (MQ below (zQ G b FQ) args s 0 0 (fun q : Nat => b ≤ q)) 0 0 62 [some (.ref (Q)), some (.ref (A))] [] (L, M_62, N_62) := by
    intro M_62 N_62 h
    unfold D_X0_reckon_62 at h
    refine a_vret X hr dX0_reckon_62 ⟨by decide, by decide⟩ ?_
    subst hF
    rw [← Option.some.inj h]
    exact ⟨rfl, rfl⟩
  unfold D_X0_reckon at h
  refine a_aload_n X dX0_reckon_0 rfl ?_
  refine a_getr X lf0_9 (by assumption) rfl (by omega) dX0_reckon_1 ?_
  refine a_lconst (v := 0) X dX0_reckon_4 (by decide) ?_
  obtain ⟨N_5, f_5, h⟩ := zLtx h
  refine a_callSNu X dX0_reckon_5 miX7_bigFill lm0_32 (zMuN (c_bigFill (by assumption) (by first | decide | assumption)) f_5) rfl rfl (Nat.le_of_ble_eq_true rfl) ⟨by decide, by decide, by decide, by decide⟩ ?_
  refine a_aload_n X dX0_reckon_8 rfl ?_
  refine a_getr X lf0_15 (by assumption) rfl (by omega) dX0_reckon_9 ?_
  refine a_iconst (v := 0) X dX0_reckon_12 (by decide) ?_
  obtain ⟨M_13, f_13, h⟩ := zLtx h
  refine a_callSNu X dX0_reckon_13 miX7_fill lm0_36 (zMu (c_fill (by assumption) (by first | decide | assumption)) f_13) rfl rfl (Nat.le_of_ble_eq_true rfl) ⟨by decide, by decide, by decide, by decide⟩ ?_
  refine a_aload_n X dX0_reckon_16 rfl ?_
  refine a_getr X lf0_19 (by assumption) rfl (by omega) dX0_reckon_17 ?_
  refine a_lconst (v := 0) X dX0_reckon_20 (by decide) ?_
  obtain ⟨N_21, f_21, h⟩ := zLtx h
  refine a_callSNu X dX0_reckon_21 miX7_bigFill lm0_32 (zMuN (c_bigFill (by assumption) (by first | decide | assumption)) f_21) rfl rfl (Nat.le_of_ble_eq_true rfl) ⟨by decide, by decide, by decide, by decide⟩ ?_
  refine a_aload_n X dX0_reckon_24 rfl ?_
  refine a_getr X lf0_22 (by assumption) rfl (by omega) dX0_reckon_25 ?_
  refine a_lconst (v := 0) X dX0_reckon_28 (by decide) ?_
  obtain ⟨N_29, f_29, h⟩ := zLtx h
  refine a_callSNu X dX0_reckon_29 miX7_bigFill lm0_32 (zMuN (c_bigFill (by assumption) (by first | decide | assumption)) f_29) rfl rfl (Nat.le_of_ble_eq_true rfl) ⟨by decide, by decide, by decide, by decide⟩ ?_
  refine a_aload_n X dX0_reckon_32 rfl ?_
  refine a_geti X lf0_40 (by assumption) rfl dX0_reckon_33 ?_
  refine a_bipush (v := 7) X dX0_reckon_36 (by decide) ?_
  refine a_icmp_gt (tgt := 62) X dX0_reckon_38 (by decide) (fun h_38 => ?_) (fun h_38 => ?_)
  · replace h := (if_pos h_38).symm.trans h
    exact Zw.to2 (J_62 _ _ h) rfl rfl rfl
  · replace h := (if_neg h_38).symm.trans h
    refine a_aload_n X dX0_reckon_41 rfl ?_
    refine a_aload_n X dX0_reckon_42 rfl ?_
    refine a_iconst (v := 0) X dX0_reckon_43 (by decide) ?_
    refine a_iconst (v := 1) X dX0_reckon_44 (by decide) ?_
    refine a_aload_n X dX0_reckon_45 rfl ?_
    refine a_geti X lf0_40 (by assumption) rfl dX0_reckon_46 ?_
    refine a_ishl X dX0_reckon_49 ?_
    refine a_iconst (v := 1) X dX0_reckon_50 (by decide) ?_
    refine a_isub X dX0_reckon_51 ?_
    refine a_aload_n X dX0_reckon_52 rfl ?_
    refine a_geti X lf0_46 (by assumption) rfl dX0_reckon_53 ?_
    refine a_ldc2 X dX0_reckon_56 lk0_49 ?_
    obtain ⟨e_59, f_59, h⟩ := zBx h
    refine a_callSu X dX0_reckon_59 miX0_walk lm0_51 (t_X0_walk (by assumption) (by assumption) f_59) rfl rfl (Nat.le_of_ble_eq_true rfl) ⟨by decide, by decide, by decide, by decide⟩ ?_
    exact Zw.to2 (J_62 _ _ h) rfl rfl rfl
noncomputable def D_X0_certainUnit (Q : Nat) (N : zNt) (v0 : Int32) (v1 : Int32) : Option (Int64) :=
  some ((zrd 0 (N (Q + 3)) 35 ((v0 * (5 : Int32)) + v1)))
set_option maxRecDepth 100000 in
set_option maxHeartbeats 4000000 in
theorem t_X0_certainUnit {l : Launch} {G : zG} {b : Nat} {L : List zC} {M : zMt} {N : zNt} {Q : Nat} {v0 : Int32} {v1 : Int32} (hQ : LX0 L Q) {r : Int64} (h : D_X0_certainUnit Q N v0 v1 = some r) : zM l G b yX0_certainUnit cX0_certainUnit 3 (some .long) 1 0 0 [.ref Q, .int v0, .int v1] (L, M, N) (fun r2 z => r2 = some (.long r) ∧ z = (L, M, N)) := by
  refine zM.of miX0_certainUnit (Nat.le_of_ble_eq_true rfl) ?_
  intro p e s m args below meth c X hr hname
  generalize hF : ((fun r2 z => r2 = some (.long r) ∧ z = (L, M, N)) : Option Value → zS → Prop) = FQ
  change Zw p l e { frames := 1, cells := 0, slots := 0, locals := 80 * (1) } s m args below meth c G b 3 (MQ below (zQ G b FQ) args s 0 0 (fun q : Nat => b ≤ q)) 0 0 0 [some (.ref Q), some (.int v0), some (.int v1)] [] (L, M, N)
  obtain ⟨q_lt, q_o, q_sets, q_seen, q_atUnit, q_early, q_result⟩ := id hQ
  obtain ⟨q_result_lt, q_result_o, q_result_line, q_result_unitOf, q_result_roundOf, q_result_leftTags, q_result_leftGuests, q_result_leftPreferred, q_result_ranked⟩ := id q_result
  unfold D_X0_certainUnit at h
  refine a_aload_n X dX0_certainUnit_0 rfl ?_
  refine a_getr X lf0_19 (by assumption) rfl (by omega) dX0_certainUnit_1 ?_
  refine a_iload_n X dX0_certainUnit_4 rfl ?_
  refine a_iconst (v := 5) X dX0_certainUnit_5 (by decide) ?_
  refine a_imul X dX0_certainUnit_6 ?_
  refine a_iload_n X dX0_certainUnit_7 rfl ?_
  refine a_iadd X dX0_certainUnit_8 ?_
  refine a_callSNv X dX0_certainUnit_9 miX7_bigCell lm0_87 (c_bigCell (by assumption) (by first | decide | assumption)) rfl rfl (Nat.le_of_ble_eq_true rfl) ⟨by decide, by decide, by decide, by decide⟩ ?_
  refine a_lret X hr dX0_certainUnit_12 ⟨by decide, by decide⟩ ?_
  subst hF
  rw [← Option.some.inj h]
  exact ⟨rfl, rfl⟩
noncomputable def D_X0_allOf_33 (Q : Nat) (N : zNt) (k5 : Int32 → Int64 → Int32 → Option (Int64)) (x1_33 : Int32) (x2_33 : Int64) (x4_33 : Int32) : Option (Int64) :=
  k5 x1_33 x2_33 (x4_33 + 1)
noncomputable def D_X0_allOf_5 (Q : Nat) (N : zNt) : Nat → Int32 → Int64 → Int32 → Option (Int64)
  | 0, _, _, _ => none
  | n + 1, x1_5, x2_5, x4_5 =>
    if (128 : Int32) ≤ x4_5 then
      some (x2_5)
    else
      if (x4_5 &&& x1_5) = x1_5 then
        D_X0_allOf_33 Q N (D_X0_allOf_5 Q N n) x1_5 (x2_5 + (zrd 0 (N (Q + 1)) 128 x4_5)) x4_5
      else
        D_X0_allOf_33 Q N (D_X0_allOf_5 Q N n) x1_5 x2_5 x4_5
noncomputable def D_X0_allOf (Q : Nat) (N : zNt) (v0 : Int32) : Option (Int64) :=
  D_X0_allOf_5 Q N zFu v0 (0 : Int64) (0 : Int32)
set_option maxRecDepth 100000 in
set_option maxHeartbeats 4000000 in
theorem t_X0_allOf {l : Launch} {G : zG} {b : Nat} {L : List zC} {M : zMt} {N : zNt} {Q : Nat} {v0 : Int32} (hQ : LX0 L Q) {r : Int64} (h : D_X0_allOf Q N v0 = some r) : zM l G b yX0_allOf cX0_allOf 5 (some .long) 1 0 0 [.ref Q, .int v0] (L, M, N) (fun r2 z => r2 = some (.long r) ∧ z = (L, M, N)) := by
  refine zM.of miX0_allOf (Nat.le_of_ble_eq_true rfl) ?_
  intro p e s m args below meth c X hr hname
  generalize hF : ((fun r2 z => r2 = some (.long r) ∧ z = (L, M, N)) : Option Value → zS → Prop) = FQ
  change Zw p l e { frames := 1, cells := 0, slots := 0, locals := 80 * (1) } s m args below meth c G b 5 (MQ below (zQ G b FQ) args s 0 0 (fun q : Nat => b ≤ q)) 0 0 0 [some (.ref Q), some (.int v0), none, none, none] [] (L, M, N)
  obtain ⟨q_lt, q_o, q_sets, q_seen, q_atUnit, q_early, q_result⟩ := id hQ
  obtain ⟨q_result_lt, q_result_o, q_result_line, q_result_unitOf, q_result_roundOf, q_result_leftTags, q_result_leftGuests, q_result_leftPreferred, q_result_ranked⟩ := id q_result
  have L_5 : ∀ u : Nat, ∀ (x1_5 : Int32) (x2_5 : Int64) (x4_5 : Int32), D_X0_allOf_5 Q N u x1_5 x2_5 x4_5 = some r → Zw p l e { frames := 1, cells := 0, slots := 0, locals := 80 * (1) } s m args below meth c G b 5 (MQ below (zQ G b FQ) args s 0 0 (fun q : Nat => b ≤ q)) 0 0 5 [some (.ref (Q)), some (.int x1_5), some (.long x2_5), none, some (.int x4_5)] [] (L, M, N) := by
    intro u
    induction u with
    | zero => intro x1_5 x2_5 x4_5 h; cases (show none = some r from h)
    | succ u_5 ih_5 =>
      have J_33 : ∀ (x1_33 : Int32) (x2_33 : Int64) (x4_33 : Int32), D_X0_allOf_33 Q N (D_X0_allOf_5 Q N u_5) x1_33 x2_33 x4_33 = some r → Zw p l e { frames := 1, cells := 0, slots := 0, locals := 80 * (1) } s m args below meth c G b 5 (MQ below (zQ G b FQ) args s 0 0 (fun q : Nat => b ≤ q)) 0 0 33 [some (.ref (Q)), some (.int x1_33), some (.long x2_33), none, some (.int x4_33)] [] (L, M, N) := by
        intro x1_33 x2_33 x4_33 h
        unfold D_X0_allOf_33 at h
        refine a_iinc (v := x4_33 + 1) X dX0_allOf_33 (by decide) rfl zi_1 ?_
        refine a_goto (tgt := 5) X dX0_allOf_36 (by decide) ?_
        exact Zw.to2 (ih_5 _ _ _ h) rfl rfl rfl
      intro x1_5 x2_5 x4_5 h
      rw [D_X0_allOf_5] at h
      refine a_iload X dX0_allOf_5 rfl ?_
      refine a_sipush (v := 128) X dX0_allOf_7 (by decide) ?_
      refine a_icmp_ge (tgt := 39) X dX0_allOf_10 (by decide) (fun h_10 => ?_) (fun h_10 => ?_)
      · replace h := (if_pos h_10).symm.trans h
        refine a_lload_n X dX0_allOf_39 rfl ?_
        refine a_lret X hr dX0_allOf_40 ⟨by decide, by decide⟩ ?_
        subst hF
        rw [← Option.some.inj h]
        exact ⟨rfl, rfl⟩
      · replace h := (if_neg h_10).symm.trans h
        refine a_iload X dX0_allOf_13 rfl ?_
        refine a_iload_n X dX0_allOf_15 rfl ?_
        refine a_iand X dX0_allOf_16 ?_
        refine a_iload_n X dX0_allOf_17 rfl ?_
        refine a_icmp_ne (tgt := 33) X dX0_allOf_18 (by decide) (fun h_18 => ?_) (fun h_18 => ?_)
        · replace h := (if_neg h_18).symm.trans h
          exact Zw.to2 (J_33 _ _ _ h) rfl rfl rfl
        · replace h := (if_pos h_18).symm.trans h
          refine a_lload_n X dX0_allOf_21 rfl ?_
          refine a_aload_n X dX0_allOf_22 rfl ?_
          refine a_getr X lf0_9 (by assumption) rfl (by omega) dX0_allOf_23 ?_
          refine a_iload X dX0_allOf_26 rfl ?_
          refine a_callSNv X dX0_allOf_28 miX7_bigCell lm0_87 (c_bigCell (by assumption) (by first | decide | assumption)) rfl rfl (Nat.le_of_ble_eq_true rfl) ⟨by decide, by decide, by decide, by decide⟩ ?_
          refine a_ladd X dX0_allOf_31 ?_
          refine a_lstore_n X dX0_allOf_32 (by decide) ?_
          exact Zw.to2 (J_33 _ _ _ h) rfl rfl rfl
  have H_5 : ∀ (x1_5 : Int32) (x2_5 : Int64) (x4_5 : Int32), D_X0_allOf_5 Q N zFu x1_5 x2_5 x4_5 = some r → Zw p l e { frames := 1, cells := 0, slots := 0, locals := 80 * (1) } s m args below meth c G b 5 (MQ below (zQ G b FQ) args s 0 0 (fun q : Nat => b ≤ q)) 0 0 5 [some (.ref (Q)), some (.int x1_5), some (.long x2_5), none, some (.int x4_5)] [] (L, M, N) := L_5 zFu
  unfold D_X0_allOf at h
  refine a_lconst (v := 0) X dX0_allOf_0 (by decide) ?_
  refine a_lstore_n X dX0_allOf_1 (by decide) ?_
  refine a_iconst (v := 0) X dX0_allOf_2 (by decide) ?_
  refine a_istore X dX0_allOf_3 (by decide) ?_
  exact Zw.to2 (H_5 _ _ _ h) rfl rfl rfl
noncomputable def D_X0_anyUnit (Q : Nat) (N : zNt) (v0 : Int32) : Option (Int64) :=
  zB (D_X0_allOf Q N ((1 : Int32) <<< (v0 &&& 31))) fun e_4 =>
  some (e_4)
set_option maxRecDepth 100000 in
set_option maxHeartbeats 4000000 in
theorem t_X0_anyUnit {l : Launch} {G : zG} {b : Nat} {L : List zC} {M : zMt} {N : zNt} {Q : Nat} {v0 : Int32} (hQ : LX0 L Q) {r : Int64} (h : D_X0_anyUnit Q N v0 = some r) : zM l G b yX0_anyUnit cX0_anyUnit 2 (some .long) 2 0 0 [.ref Q, .int v0] (L, M, N) (fun r2 z => r2 = some (.long r) ∧ z = (L, M, N)) := by
  refine zM.of miX0_anyUnit (Nat.le_of_ble_eq_true rfl) ?_
  intro p e s m args below meth c X hr hname
  generalize hF : ((fun r2 z => r2 = some (.long r) ∧ z = (L, M, N)) : Option Value → zS → Prop) = FQ
  change Zw p l e { frames := 2, cells := 0, slots := 0, locals := 80 * (2) } s m args below meth c G b 2 (MQ below (zQ G b FQ) args s 0 0 (fun q : Nat => b ≤ q)) 0 0 0 [some (.ref Q), some (.int v0)] [] (L, M, N)
  obtain ⟨q_lt, q_o, q_sets, q_seen, q_atUnit, q_early, q_result⟩ := id hQ
  obtain ⟨q_result_lt, q_result_o, q_result_line, q_result_unitOf, q_result_roundOf, q_result_leftTags, q_result_leftGuests, q_result_leftPreferred, q_result_ranked⟩ := id q_result
  unfold D_X0_anyUnit at h
  refine a_aload_n X dX0_anyUnit_0 rfl ?_
  refine a_iconst (v := 1) X dX0_anyUnit_1 (by decide) ?_
  refine a_iload_n X dX0_anyUnit_2 rfl ?_
  refine a_ishl X dX0_anyUnit_3 ?_
  obtain ⟨e_4, f_4, h⟩ := zBx h
  refine a_callVv X dX0_anyUnit_4 miX0_allOf lm0_91 (t_X0_allOf (by assumption) f_4) (by assumption) rfl rfl rfl (Nat.le_of_ble_eq_true rfl) ⟨by decide, by decide, by decide, by decide⟩ ?_
  refine a_lret X hr dX0_anyUnit_7 ⟨by decide, by decide⟩ ?_
  subst hF
  rw [← Option.some.inj h]
  exact ⟨rfl, rfl⟩
