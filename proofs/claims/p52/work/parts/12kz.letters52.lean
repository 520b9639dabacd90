/-! p52: the letters of the law's list: what they are -/
def nvl (w : List Nat) : Int32 := w.foldl (fun a c => (a * (10 : Int32)) + (nI c - (48 : Int32))) 0
def wtx : List Nat → List Nat
  | [] => []
  | u :: r => [32, 117, 97 + u] ++ wtx r
theorem wtx_len : ∀ l : List Nat, (wtx l).length = 3 * l.length
  | [] => rfl
  | u :: r => by
    show (32 :: 117 :: (97 + u) :: wtx r).length = 3 * (r.length + 1)
    rw [List.length_cons, List.length_cons, List.length_cons, wtx_len r]
    omega
/-- wishes are written at those of a word of bits alone -/
def uT : Nat → List Nat → List Nat
  | _, [] => []
  | u, d :: r => [117, 110, 105, 116, 32, 117, 97 + u, 32, 48 + d, 59] ++ uT (u + 1) r
theorem uT_len : ∀ (l : List Nat) (u : Nat), (uT u l).length = 10 * l.length
  | [], _ => rfl
  | d :: r, u => by
    show (_ :: _ :: _ :: _ :: _ :: _ :: _ :: _ :: _ :: _ :: uT (u + 1) r).length = 10 * (r.length + 1)
    simp only [List.length_cons, uT_len r (u + 1)]
    omega
def hL (h d : Nat) (g : Bool) : List Nat := [104, 117, 110, 116, 101, 114, 32] ++ ([104, 97 + h, 32, 48 + d] ++ (if g then [32, 103, 117, 101, 115, 116, 59] else [59]))
def hT : Nat → List (Nat × Bool) → List Nat
  | _, [] => []
  | h, p :: r => hL h p.1 p.2 ++ hT (h + 1) r
theorem hL_len {h d : Nat} {g : Bool} : (hL h d g).length = if g then 18 else 12 := by cases g <;> rfl
def aL (b : Bool) (h : Nat) (us : List Nat) : List Nat := [97, 115, 107, 115, 32] ++ ((if b && h == 1 then [112] else [104, 97 + h]) ++ (wtx us ++ [59]))
def aT (b : Bool) : List (Nat × List Nat) → List Nat
  | [] => []
  | p :: r => aL b p.1 p.2 ++ aT b r
def aOk (b : Bool) (U H : Nat) : Nat → List (Nat × List Nat) → Prop
  | _, [] => True
  | lo, p :: r => lo ≤ p.1 ∧ p.1 < H ∧ (b = true → 1 ≤ p.1) ∧ ¬ p.2 = [] ∧ p.2.length ≤ 3 ∧ p.2.Nodup ∧ (∀ u, u ∈ p.2 → u < U) ∧ aOk b U H (p.1 + 1) r
def pT (b : Bool) : List Nat := if b then [112, 97, 114, 116, 121, 32, 112, 32, 104, 97, 32, 104, 98, 59] else []
def lT (l : Nat) : List Nat := if l = 0 then [] else if l = 1 then [108, 97, 119, 32, 108, 105, 110, 101, 59] else [108, 97, 119, 32, 115, 113, 117, 97, 114, 101, 59]
def fT (ds : List Nat) : List Nat := [112, 114, 101, 102, 101, 114, 32] ++ (ds ++ [59])
def gT5 : Option (List Nat) → List Nat
  | none => []
  | some ds => [103, 117, 101, 115, 116, 115, 32] ++ (ds ++ [59])
/-- digits of a share -/
def dOk (ds : List Nat) : Prop := 1 ≤ ds.length ∧ ds.length ≤ 3 ∧ (∀ c, c ∈ ds → 48 ≤ c ∧ c ≤ 57) ∧ nvl ds ≤ 100
def txt (qs : List Nat) (hs : List (Nat × Bool)) (b : Bool) (as : List (Nat × List Nat)) (l : Nat) (pd : List Nat) (gd : Option (List Nat)) : List Nat := uT 0 qs ++ (hT 0 hs ++ (pT b ++ (aT b as ++ (lT l ++ (fT pd ++ gT5 gd)))))
def tOk (qs : List Nat) (hs : List (Nat × Bool)) (b : Bool) (as : List (Nat × List Nat)) (pd : List Nat) (gd : Option (List Nat)) : Prop := qs.length ≤ 3 ∧ (∀ d, d ∈ qs → d < 10) ∧ 2 ≤ hs.length ∧ hs.length ≤ 5 ∧ (∀ p, p ∈ hs → p.1 < 10) ∧ aOk b qs.length hs.length 0 as ∧ as.length ≤ 5 ∧ dOk pd ∧ ∀ ds, gd = some ds → dOk ds
