/-! p52: the reference of the other ids, as a ghost: pure texts alone -/
def gLit : List (String × Nat × String) := [("TagDraw$Reader", 122, "unit"), ("TagDraw$Reader", 128, "hunter"), ("TagDraw$Reader", 130, "guest"), ("TagDraw$Reader", 132, "party"), ("TagDraw$Reader", 134, "asks"), ("TagDraw$Reader", 136, "law"), ("TagDraw$Reader", 138, "prefer"), ("TagDraw$Reader", 140, "guests"), ("TagDraw$Reader", 227, "line"), ("TagDraw$Reader", 232, "square"), ("TagDraw$Reader", 234, "plain"), ("TagDrawModel", 173, "unit hunter guest party asks law prefer guests "), ("TagDrawModel", 246, "plain line square ")]
def gLen : List Nat := [4, 6, 5, 5, 4, 3, 6, 6, 4, 6, 5, 47, 18]
def gByt : List (List Int32) := [[117, 110, 105, 116], [104, 117, 110, 116, 101, 114], [103, 117, 101, 115, 116], [112, 97, 114, 116, 121], [97, 115, 107, 115], [108, 97, 119], [112, 114, 101, 102, 101, 114], [103, 117, 101, 115, 116, 115], [108, 105, 110, 101], [115, 113, 117, 97, 114, 101], [112, 108, 97, 105, 110], [117, 110, 105, 116, 32, 104, 117, 110, 116, 101, 114, 32, 103, 117, 101, 115, 116, 32, 112, 97, 114, 116, 121, 32, 97, 115, 107, 115, 32, 108, 97, 119, 32, 112, 114, 101, 102, 101, 114, 32, 103, 117, 101, 115, 116, 115, 32], [112, 108, 97, 105, 110, 32, 108, 105, 110, 101, 32, 115, 113, 117, 97, 114, 101, 32]]
def gCh (i j : Nat) : Int32 := (gByt.getD i []).getD j 0
theorem gCh_ok : ∀ i, i < gLit.length → gLen.getD i 0 < 1000 ∧ True := by decide
noncomputable def D_X8_refuse (P : Nat) (v0 : Int32) (M : zMt) : Option (Int32 × zMt) :=
  zLt (zu M P 6 (0 : Int32)) fun M_2 =>
  zLt (zu M_2 P 12 v0) fun M_7 =>
  some ((-1 : Int32), M_7)
noncomputable def D_X8_gives (P : Nat) (v0 : Int32) (M : zMt) : Option (Int32 × zMt) :=
  zLt (zu M P 6 (0 : Int32)) fun M_2 =>
  zLt (zu M_2 P 12 (0 : Int32)) fun M_7 =>
  some (v0, M_7)
noncomputable def D_X8_isFrom_18  (y0_18 : Int32) : Option (Int32) :=
  some (y0_18)
noncomputable def D_X8_isFrom_17   : Option (Int32) :=
  D_X8_isFrom_18 (0 : Int32)
noncomputable def D_X8_isFrom  (v0 : Int64) (v1 : Int64) (v2 : Int64) : Option (Int32) :=
  if (lg_cmp v0 v1) < 0 then
    D_X8_isFrom_17
  else
    if 0 < (lg_cmp v0 v2) then
      D_X8_isFrom_17
    else
      D_X8_isFrom_18 (1 : Int32)
noncomputable def D_X8_has_14  (y0_14 : Int32) : Option (Int32) :=
  some (y0_14)
noncomputable def D_X8_has  (v0 : Int32) (v1 : Int32) : Option (Int32) :=
  if ((v0 >>> (v1 &&& 31)) &&& (1 : Int32)) = (1 : Int32) then
    D_X8_has_14 (1 : Int32)
  else
    D_X8_has_14 (0 : Int32)
noncomputable def D_X8_begins_39 (Q : Nat) (nQ : Nat) : Nat → Int32 → zMt → Option (zMt)
  | 0, _, _ => none
  | n + 1, x1_39, M_39 =>
    if (10 : Int32) ≤ x1_39 then
      zI (69 : Int32) nQ <|
      zLt (zu M_39 Q (69 : Int32).toNatClampNeg (100 : Int32)) fun M_63 =>
      some (M_63)
    else
      zI ((72 : Int32) + x1_39) nQ <|
      zLt (zu M_39 Q ((72 : Int32) + x1_39).toNatClampNeg (-1 : Int32)) fun M_51 =>
      (D_X8_begins_39 Q nQ n) (x1_39 + 1) M_51
noncomputable def D_X8_begins_21 (Q : Nat) (nQ : Nat) : Nat → Int32 → zMt → Option (zMt)
  | 0, _, _ => none
  | n + 1, x1_21, M_21 =>
    if (62 : Int32) ≤ x1_21 then
      D_X8_begins_39 Q nQ zFu (0 : Int32) M_21
    else
      zI x1_21 nQ <|
      zLt (zu M_21 Q x1_21.toNatClampNeg (-1 : Int32)) fun M_30 =>
      (D_X8_begins_21 Q nQ n) (x1_21 + 1) M_30
noncomputable def D_X8_begins_2 (Q : Nat) (nQ : Nat) : Nat → Int32 → zMt → Option (zMt)
  | 0, _, _ => none
  | n + 1, x1_2, M_2 =>
    if (82 : Int32) ≤ x1_2 then
      D_X8_begins_21 Q nQ zFu (10 : Int32) M_2
    else
      zI x1_2 nQ <|
      zLt (zu M_2 Q x1_2.toNatClampNeg (0 : Int32)) fun M_11 =>
      (D_X8_begins_2 Q nQ n) (x1_2 + 1) M_11
noncomputable def D_X8_begins (Q : Nat) (nQ : Nat) (M : zMt) : Option (zMt) :=
  D_X8_begins_2 Q nQ zFu (0 : Int32) M
noncomputable def D_X8_isSeed  (v0 : Int32) : Option (Int32) :=
  zB (D_X8_isFrom (Int32.toInt64 v0) (0 : Int64) (999999999 : Int64)) fun e_6 =>
  some (e_6)
noncomputable def D_X8_byteAt_18 (P : Nat) (M : zMt) (y0_18 : Int32) : Option (Int32) :=
  some (y0_18)
noncomputable def D_X8_byteAt (P : Nat) (M : zMt) (v0 : Int32) : Option (Int32) :=
  if (M P 15) ≤ v0 then
    D_X8_byteAt_18 P M (-1 : Int32)
  else
    zI v0 700 <|
    D_X8_byteAt_18 P M (M (P + 7) v0.toNatClampNeg)
noncomputable def D_X8_isLetter_17  (y0_17 : Int32) : Option (Int32) :=
  some (y0_17)
noncomputable def D_X8_isLetter_16   : Option (Int32) :=
  D_X8_isLetter_17 (0 : Int32)
noncomputable def D_X8_isLetter  (v0 : Int32) : Option (Int32) :=
  if v0 < (97 : Int32) then
    D_X8_isLetter_16
  else
    if (122 : Int32) < v0 then
      D_X8_isLetter_16
    else
      D_X8_isLetter_17 (1 : Int32)
noncomputable def D_X8_isDigit_17  (y0_17 : Int32) : Option (Int32) :=
  some (y0_17)
noncomputable def D_X8_isDigit_16   : Option (Int32) :=
  D_X8_isDigit_17 (0 : Int32)
noncomputable def D_X8_isDigit  (v0 : Int32) : Option (Int32) :=
  if v0 < (48 : Int32) then
    D_X8_isDigit_16
  else
    if (57 : Int32) < v0 then
      D_X8_isDigit_16
    else
      D_X8_isDigit_17 (1 : Int32)
noncomputable def D_X8_among_62 (P : Nat) (w0 : Nat) (N : zNt) (k7 : Int32 → Int64 → Int32 → Option (Int32)) (x2_62 : Int32) (x3_62 : Int64) (x5_62 : Int32) : Option (Int32) :=
  k7 x2_62 x3_62 (x5_62 + 1)
noncomputable def D_X8_among_7 (P : Nat) (w0 : Nat) (N : zNt) : Nat → Int32 → Int64 → Int32 → Option (Int32)
  | 0, _, _, _ => none
  | n + 1, x2_7, x3_7, x5_7 =>
    if (Int32.ofNat (gLen.getD w0 0)) ≤ x5_7 then
      some ((-1 : Int32))
    else
      zI x5_7 (gLen.getD w0 0) <|
      if (gCh w0 x5_7.toNatClampNeg) = (32 : Int32) then
        if (lg_cmp x3_7 (N P 24)) = 0 then
          some (x2_7)
        else
          D_X8_among_62 P w0 N (D_X8_among_7 P w0 N n) (x2_7 + 1) (0 : Int64) x5_7
      else
        D_X8_among_62 P w0 N (D_X8_among_7 P w0 N n) x2_7 ((x3_7 <<< (Int32.toInt64 (5 : Int32) &&& 63)) ||| ((Int32.toInt64 (gCh w0 x5_7.toNatClampNeg)) - (96 : Int64))) x5_7
noncomputable def D_X8_among (P : Nat) (w0 : Nat) (N : zNt)  : Option (Int32) :=
  D_X8_among_7 P w0 N zFu (0 : Int32) (0 : Int64) (0 : Int32)
noncomputable def D_X8_next_320 (P : Nat) (M_320 : zMt) (N_320 : zNt) : Option (Int32 × zMt × zNt) :=
  some ((1 : Int32), M_320, N_320)
noncomputable def D_X8_next_317 (P : Nat) (y1_317 : Int32) (M_317 : zMt) (N_317 : zNt) : Option (Int32 × zMt × zNt) :=
  zLt (zu M_317 P 18 y1_317) fun M_317 =>
  D_X8_next_320 P M_317 N_317
noncomputable def D_X8_next_289 (P : Nat) (y1_289 : Int32) (M_289 : zMt) (N_289 : zNt) : Option (Int32 × zMt × zNt) :=
  zLt (zu M_289 P 18 y1_289) fun M_289 =>
  D_X8_next_320 P M_289 N_289
noncomputable def D_X8_next_257 (P : Nat) (k207 : zMt → zNt → Option (Int32 × zMt × zNt)) (M_257 : zMt) (N_257 : zNt) : Option (Int32 × zMt × zNt) :=
  zLt (zu M_257 P 17 ((M_257 P 17) + (1 : Int32))) fun M_264 =>
  k207 M_264 N_257
noncomputable def D_X8_next_207 (P : Nat) : Nat → zMt → zNt → Option (Int32 × zMt × zNt)
  | 0, _, _ => none
  | n + 1, M_207, N_207 =>
    zB (D_X8_byteAt P M_207 (M_207 P 17)) fun e_212 =>
    zB (D_X8_isDigit e_212) fun e_215 =>
    if e_215 = 0 then
      if ((M_207 P 17) - (M_207 P 16)) ≤ (3 : Int32) then
        D_X8_next_289 P (3 : Int32) M_207 N_207
      else
        D_X8_next_289 P (1 : Int32) M_207 N_207
    else
      if (3 : Int32) ≤ ((M_207 P 17) - (M_207 P 16)) then
        D_X8_next_257 P (D_X8_next_207 P n) M_207 N_207
      else
        zB (D_X8_byteAt P M_207 (M_207 P 17)) fun e_247 =>
        zLt (zu M_207 P 20 ((((10 : Int32) * (M_207 P 20)) + e_247) - (48 : Int32))) fun M_254 =>
        D_X8_next_257 P (D_X8_next_207 P n) M_254 N_207
noncomputable def D_X8_next_171 (P : Nat) (y1_171 : Int32) (M_171 : zMt) (N_171 : zNt) : Option (Int32 × zMt × zNt) :=
  zLt (zu M_171 P 18 y1_171) fun M_171 =>
  if (M_171 P 18) = (2 : Int32) then
    zB (D_X8_among P 11 N_171) fun e_186 =>
    zLt (zu M_171 P 19 e_186) fun M_189 =>
    D_X8_next_320 P M_189 N_171
  else
    D_X8_next_320 P M_171 N_171
noncomputable def D_X8_next_138 (P : Nat) (k86 : zMt → zNt → Option (Int32 × zMt × zNt)) (M_138 : zMt) (N_138 : zNt) : Option (Int32 × zMt × zNt) :=
  zLt (zu M_138 P 17 ((M_138 P 17) + (1 : Int32))) fun M_145 =>
  k86 M_145 N_138
noncomputable def D_X8_next_86 (P : Nat) : Nat → zMt → zNt → Option (Int32 × zMt × zNt)
  | 0, _, _ => none
  | n + 1, M_86, N_86 =>
    zB (D_X8_byteAt P M_86 (M_86 P 17)) fun e_91 =>
    zB (D_X8_isLetter e_91) fun e_94 =>
    if e_94 = 0 then
      if ((M_86 P 17) - (M_86 P 16)) ≤ (8 : Int32) then
        D_X8_next_171 P (2 : Int32) M_86 N_86
      else
        D_X8_next_171 P (1 : Int32) M_86 N_86
    else
      if (8 : Int32) ≤ ((M_86 P 17) - (M_86 P 16)) then
        D_X8_next_138 P (D_X8_next_86 P n) M_86 N_86
      else
        zB (D_X8_byteAt P M_86 (M_86 P 17)) fun e_126 =>
        zLt (zu N_86 P 24 (((N_86 P 24) <<< (Int32.toInt64 (5 : Int32) &&& 63)) ||| ((Int32.toInt64 e_126) - (96 : Int64)))) fun N_135 =>
        D_X8_next_138 P (D_X8_next_86 P n) M_86 N_135
noncomputable def D_X8_next_26 (P : Nat) (k0 : zMt → zNt → Option (Int32 × zMt × zNt)) (M_26 : zMt) (N_26 : zNt) : Option (Int32 × zMt × zNt) :=
  zLt (zu M_26 P 17 ((M_26 P 17) + (1 : Int32))) fun M_33 =>
  k0 M_33 N_26
noncomputable def D_X8_next_0 (P : Nat) : Nat → zMt → zNt → Option (Int32 × zMt × zNt)
  | 0, _, _ => none
  | n + 1, M_0, N_0 =>
    zB (D_X8_byteAt P M_0 (M_0 P 17)) fun e_5 =>
    if e_5 = (32 : Int32) then
      D_X8_next_26 P (D_X8_next_0 P n) M_0 N_0
    else
      zB (D_X8_byteAt P M_0 (M_0 P 17)) fun e_18 =>
      if e_18 = (10 : Int32) then
        D_X8_next_26 P (D_X8_next_0 P n) M_0 N_0
      else
        zLt (zu M_0 P 16 (M_0 P 17)) fun M_44 =>
        zLt (zu M_44 P 19 (-1 : Int32)) fun M_49 =>
        zB (D_X8_byteAt P M_49 (M_49 P 17)) fun e_57 =>
        if e_57 = (-1 : Int32) then
          zLt (zu M_49 P 18 (0 : Int32)) fun M_68 =>
          D_X8_next_320 P M_68 N_0
        else
          zB (D_X8_isLetter e_57) fun e_75 =>
          if e_75 = 0 then
            zB (D_X8_isDigit e_57) fun e_196 =>
            if e_196 = 0 then
              zLt (zu M_49 P 17 ((M_49 P 17) + (1 : Int32))) fun M_302 =>
              if e_57 = (59 : Int32) then
                D_X8_next_317 P (4 : Int32) M_302 N_0
              else
                D_X8_next_317 P (1 : Int32) M_302 N_0
            else
              zLt (zu M_49 P 20 (0 : Int32)) fun M_204 =>
              D_X8_next_207 P zFu M_204 N_0
          else
            zLt (zu N_0 P 24 (0 : Int64)) fun N_83 =>
            D_X8_next_86 P zFu M_49 N_83
noncomputable def D_X8_next (P : Nat) (M : zMt) (N : zNt) : Option (Int32 × zMt × zNt) :=
  D_X8_next_0 P zFu M N
noncomputable def D_X8_bad_14 (P : Nat) (y1_14 : Int32) (M_14 : zMt) : Option (Int32 × zMt) :=
  zLt (zu M_14 P 21 y1_14) fun M_14 =>
  zLt (zu M_14 P 22 (M_14 P 16)) fun M_22 =>
  some ((0 : Int32), M_22)
noncomputable def D_X8_bad (P : Nat) (v0 : Int32) (M : zMt) : Option (Int32 × zMt) :=
  if (M P 18) = (1 : Int32) then
    D_X8_bad_14 P (1 : Int32) M
  else
    D_X8_bad_14 P v0 M
noncomputable def D_X8_isName_21 (P : Nat) (M : zMt) (y0_21 : Int32) : Option (Int32) :=
  some (y0_21)
noncomputable def D_X8_isName_20 (P : Nat) (M : zMt)  : Option (Int32) :=
  D_X8_isName_21 P M (0 : Int32)
noncomputable def D_X8_isName (P : Nat) (M : zMt)  : Option (Int32) :=
  if (M P 18) = (2 : Int32) then
    if (M P 19) = (-1 : Int32) then
      D_X8_isName_21 P M (1 : Int32)
    else
      D_X8_isName_20 P M
  else
    D_X8_isName_20 P M
noncomputable def D_X8_found_3 (Q : Nat) (nQ : Nat) (N : zNt) : Nat → Int32 → Int64 → Int32 → Option (Int32)
  | 0, _, _, _ => none
  | n + 1, x1_3, x2_3, x4_3 =>
    if x1_3 ≤ x4_3 then
      some ((-1 : Int32))
    else
      zI x4_3 nQ <|
      if (lg_cmp (N Q x4_3.toNatClampNeg) x2_3) = 0 then
        some (x4_3)
      else
        (D_X8_found_3 Q nQ N n) x1_3 x2_3 (x4_3 + 1)
noncomputable def D_X8_found (Q : Nat) (nQ : Nat) (N : zNt) (v0 : Int32) (v1 : Int64) : Option (Int32) :=
  D_X8_found_3 Q nQ N zFu v0 v1 (0 : Int32)
noncomputable def D_X8_isTaken_62 (P : Nat) (M : zMt) (N : zNt) (y0_62 : Int32) : Option (Int32) :=
  some (y0_62)
noncomputable def D_X8_isTaken_57 (P : Nat) (M : zMt) (N : zNt)  : Option (Int32) :=
  D_X8_isTaken_62 P M N (1 : Int32)
noncomputable def D_X8_isTaken (P : Nat) (M : zMt) (N : zNt)  : Option (Int32) :=
  zB (D_X8_found (P + 8) 5 N (M P 28) (N P 24)) fun e_12 =>
  if e_12 = (-1 : Int32) then
    zB (D_X8_found (P + 9) 10 N (M P 29) (N P 24)) fun e_31 =>
    if e_31 = (-1 : Int32) then
      zB (D_X8_found (P + 10) 4 N (M P 30) (N P 24)) fun e_50 =>
      if e_50 = (-1 : Int32) then
        D_X8_isTaken_62 P M N (0 : Int32)
      else
        D_X8_isTaken_57 P M N
    else
      D_X8_isTaken_57 P M N
  else
    D_X8_isTaken_57 P M N
noncomputable def D_X8_number (P : Nat) (v0 : Int32) (v1 : Int32) (M : zMt) (N : zNt) : Option (Int32 × zMt × zNt) :=
  if (M P 18) = (3 : Int32) then
    zB (D_X8_isFrom (Int32.toInt64 (M P 20)) (Int32.toInt64 v0) (Int32.toInt64 v1)) fun e_23 =>
    if e_23 = 0 then
      zB (D_X8_bad P (3 : Int32) M) fun e_31 =>
      some (e_31.1, e_31.2, N)
    else
      zLt (zu M P 31 (M P 20)) fun M_40 =>
      zB (D_X8_next P M_40 N) fun e_44 =>
      some (e_44.1, e_44.2.1, e_44.2.2)
  else
    zB (D_X8_bad P (2 : Int32) M) fun e_10 =>
    some (e_10.1, e_10.2, N)
noncomputable def D_X8_newName (P : Nat) (M : zMt) (N : zNt) : Option (Int32 × zMt × zNt) :=
  zB (D_X8_isName P M) fun e_1 =>
  if e_1 = 0 then
    zB (D_X8_bad P (2 : Int32) M) fun e_9 =>
    some (e_9.1, e_9.2, N)
  else
    zB (D_X8_isTaken P M N) fun e_14 =>
    if e_14 = 0 then
      zLt (zu N P 32 (N P 24)) fun N_31 =>
      zB (D_X8_next P M N_31) fun e_35 =>
      some (e_35.1, e_35.2.1, e_35.2.2)
    else
      zB (D_X8_bad P (4 : Int32) M) fun e_22 =>
      some (e_22.1, e_22.2, N)
noncomputable def D_X8_readUnit_38 (P : Nat) (M_38 : zMt) (N_38 : zNt) : Option (Int32 × zMt × zNt) :=
  some ((0 : Int32), M_38, N_38)
noncomputable def D_X8_readUnit (P : Nat) (M : zMt) (N : zNt) : Option (Int32 × zMt × zNt) :=
  if (M P 28) = (5 : Int32) then
    zB (D_X8_bad P (2 : Int32) M) fun e_10 =>
    some (e_10.1, e_10.2, N)
  else
    zB (D_X8_next P M N) fun e_15 =>
    if e_15.1 = 0 then
      D_X8_readUnit_38 P e_15.2.1 e_15.2.2
    else
      zB (D_X8_newName P e_15.2.1 e_15.2.2) fun e_22 =>
      if e_22.1 = 0 then
        D_X8_readUnit_38 P e_22.2.1 e_22.2.2
      else
        zB (D_X8_number P (0 : Int32) (20 : Int32) e_22.2.1 e_22.2.2) fun e_32 =>
        if e_32.1 = 0 then
          D_X8_readUnit_38 P e_32.2.1 e_32.2.2
        else
          zI (e_32.2.1 P 28) 5 <|
          zLt (zu e_32.2.2 (P + 8) (e_32.2.1 P 28).toNatClampNeg (e_32.2.2 P 32)) fun N_52 =>
          zI ((62 : Int32) + (e_32.2.1 P 28)) 82 <|
          zLt (zu e_32.2.1 (P + 2) ((62 : Int32) + (e_32.2.1 P 28)).toNatClampNeg (e_32.2.1 P 31)) fun M_68 =>
          zLt (zu M_68 P 28 ((M_68 P 28) + (1 : Int32))) fun M_76 =>
          some ((1 : Int32), M_76, N_52)
noncomputable def D_X8_readHunter_116 (P : Nat) (M_116 : zMt) (N_116 : zNt) : Option (Int32 × zMt × zNt) :=
  zLt (zu M_116 P 29 ((M_116 P 29) + (1 : Int32))) fun M_123 =>
  some ((1 : Int32), M_123, N_116)
noncomputable def D_X8_readHunter_98 (P : Nat) (y1_98 : Int32) (y2_98 : Int32) (M_98 : zMt) (N_98 : zNt) : Option (Int32 × zMt × zNt) :=
  zI y1_98 10 <|
  zLt (zu M_98 (P + 6) y1_98.toNatClampNeg y2_98) fun M_98 =>
  zI (M_98 P 29) 10 <|
  if (M_98 (P + 6) (M_98 P 29).toNatClampNeg) = 0 then
    D_X8_readHunter_116 P M_98 N_98
  else
    zB (D_X8_next P M_98 N_98) fun e_112 =>
    D_X8_readHunter_116 P e_112.2.1 e_112.2.2
noncomputable def D_X8_readHunter_97 (P : Nat) (y1_97 : Int32) (M_97 : zMt) (N_97 : zNt) : Option (Int32 × zMt × zNt) :=
  D_X8_readHunter_98 P y1_97 (0 : Int32) M_97 N_97
noncomputable def D_X8_readHunter_39 (P : Nat) (M_39 : zMt) (N_39 : zNt) : Option (Int32 × zMt × zNt) :=
  some ((0 : Int32), M_39, N_39)
noncomputable def D_X8_readHunter (P : Nat) (M : zMt) (N : zNt) : Option (Int32 × zMt × zNt) :=
  if (M P 29) = (10 : Int32) then
    zB (D_X8_bad P (2 : Int32) M) fun e_11 =>
    some (e_11.1, e_11.2, N)
  else
    zB (D_X8_next P M N) fun e_16 =>
    if e_16.1 = 0 then
      D_X8_readHunter_39 P e_16.2.1 e_16.2.2
    else
      zB (D_X8_newName P e_16.2.1 e_16.2.2) fun e_23 =>
      if e_23.1 = 0 then
        D_X8_readHunter_39 P e_23.2.1 e_23.2.2
      else
        zB (D_X8_number P (0 : Int32) (20 : Int32) e_23.2.1 e_23.2.2) fun e_33 =>
        if e_33.1 = 0 then
          D_X8_readHunter_39 P e_33.2.1 e_33.2.2
        else
          zI (e_33.2.1 P 29) 10 <|
          zLt (zu e_33.2.2 (P + 9) (e_33.2.1 P 29).toNatClampNeg (e_33.2.2 P 32)) fun N_53 =>
          zI ((0 : Int32) + (e_33.2.1 P 29)) 82 <|
          zLt (zu e_33.2.1 (P + 2) ((0 : Int32) + (e_33.2.1 P 29)).toNatClampNeg (e_33.2.1 P 31)) fun M_68 =>
          if (M_68 P 18) = (2 : Int32) then
            if (M_68 P 19) = (2 : Int32) then
              D_X8_readHunter_98 P (M_68 P 29) (1 : Int32) M_68 N_53
            else
              D_X8_readHunter_97 P (M_68 P 29) M_68 N_53
          else
            D_X8_readHunter_97 P (M_68 P 29) M_68 N_53
noncomputable def D_X8_readParty_193 (P : Nat) (k161 : Int64 → Int32 → Int32 → zMt → zNt → Option (Int32 × zMt × zNt)) (x1_193 : Int64) (x3_193 : Int32) (x5_193 : Int32) (M_193 : zMt) (N_193 : zNt) : Option (Int32 × zMt × zNt) :=
  k161 x1_193 x3_193 (x5_193 + 1) M_193 N_193
noncomputable def D_X8_readParty_161 (P : Nat) : Nat → Int64 → Int32 → Int32 → zMt → zNt → Option (Int32 × zMt × zNt)
  | 0, _, _, _, _, _ => none
  | n + 1, x1_161, x3_161, x5_161, M_161, N_161 =>
    if (M_161 P 29) ≤ x5_161 then
      zI (M_161 P 30) 4 <|
      zLt (zu N_161 (P + 10) (M_161 P 30).toNatClampNeg x1_161) fun N_208 =>
      zLt (zu M_161 P 30 ((M_161 P 30) + (1 : Int32))) fun M_216 =>
      some ((1 : Int32), M_216, N_208)
    else
      zB (D_X8_has x3_161 x5_161) fun e_173 =>
      if e_173 = 0 then
        D_X8_readParty_193 P (D_X8_readParty_161 P n) x1_161 x3_161 x5_161 M_161 N_161
      else
        zI ((10 : Int32) + x5_161) 82 <|
        zLt (zu M_161 (P + 2) ((10 : Int32) + x5_161).toNatClampNeg (M_161 P 30)) fun M_192 =>
        D_X8_readParty_193 P (D_X8_readParty_161 P n) x1_161 x3_161 x5_161 M_192 N_161
noncomputable def D_X8_readParty_134 (P : Nat) (M_134 : zMt) (N_134 : zNt) : Option (Int32 × zMt × zNt) :=
  zB (D_X8_bad P (4 : Int32) M_134) fun e_136 =>
  some (e_136.1, e_136.2, N_134)
noncomputable def D_X8_readParty_66 (P : Nat) (M_66 : zMt) (N_66 : zNt) : Option (Int32 × zMt × zNt) :=
  zB (D_X8_bad P (2 : Int32) M_66) fun e_68 =>
  some (e_68.1, e_68.2, N_66)
noncomputable def D_X8_readParty_53 (P : Nat) (k40 : Int64 → Int32 → Int32 → zMt → zNt → Option (Int32 × zMt × zNt)) (x1_53 : Int64) (x3_53 : Int32) (x4_53 : Int32) (M_53 : zMt) (N_53 : zNt) : Option (Int32 × zMt × zNt) :=
  zB (D_X8_isName P M_53) fun e_54 =>
  if e_54 = 0 then
    D_X8_readParty_66 P M_53 N_53
  else
    if x4_53 = (4 : Int32) then
      D_X8_readParty_66 P M_53 N_53
    else
      zB (D_X8_found (P + 9) 10 N_53 (M_53 P 29) (N_53 P 24)) fun e_84 =>
      if e_84 = (-1 : Int32) then
        D_X8_readParty_134 P M_53 N_53
      else
        zI ((10 : Int32) + e_84) 82 <|
        if (M_53 (P + 2) ((10 : Int32) + e_84).toNatClampNeg) = (-1 : Int32) then
          zI ((20 : Int32) + ((3 : Int32) * e_84)) 82 <|
          if (M_53 (P + 2) ((20 : Int32) + ((3 : Int32) * e_84)).toNatClampNeg) = (-1 : Int32) then
            zB (D_X8_has x3_53 e_84) fun e_128 =>
            if e_128 = 0 then
              zB (D_X8_next P M_53 N_53) fun e_151 =>
              k40 x1_53 (x3_53 ||| ((1 : Int32) <<< (e_84 &&& 31))) (x4_53 + 1) e_151.2.1 e_151.2.2
            else
              D_X8_readParty_134 P M_53 N_53
          else
            D_X8_readParty_134 P M_53 N_53
        else
          D_X8_readParty_134 P M_53 N_53
noncomputable def D_X8_readParty_40 (P : Nat) : Nat → Int64 → Int32 → Int32 → zMt → zNt → Option (Int32 × zMt × zNt)
  | 0, _, _, _, _, _ => none
  | n + 1, x1_40, x3_40, x4_40, M_40, N_40 =>
    if x4_40 < (2 : Int32) then
      D_X8_readParty_53 P (D_X8_readParty_40 P n) x1_40 x3_40 x4_40 M_40 N_40
    else
      zB (D_X8_isName P M_40) fun e_47 =>
      if e_47 = 0 then
        D_X8_readParty_161 P zFu x1_40 x3_40 (0 : Int32) M_40 N_40
      else
        D_X8_readParty_53 P (D_X8_readParty_40 P n) x1_40 x3_40 x4_40 M_40 N_40
noncomputable def D_X8_readParty_28 (P : Nat) (M_28 : zMt) (N_28 : zNt) : Option (Int32 × zMt × zNt) :=
  some ((0 : Int32), M_28, N_28)
noncomputable def D_X8_readParty (P : Nat) (M : zMt) (N : zNt) : Option (Int32 × zMt × zNt) :=
  if (M P 30) = (4 : Int32) then
    zB (D_X8_bad P (2 : Int32) M) fun e_10 =>
    some (e_10.1, e_10.2, N)
  else
    zB (D_X8_next P M N) fun e_15 =>
    if e_15.1 = 0 then
      D_X8_readParty_28 P e_15.2.1 e_15.2.2
    else
      zB (D_X8_newName P e_15.2.1 e_15.2.2) fun e_22 =>
      if e_22.1 = 0 then
        D_X8_readParty_28 P e_22.2.1 e_22.2.2
      else
        D_X8_readParty_40 P zFu (e_22.2.2 P 32) (0 : Int32) (0 : Int32) e_22.2.1 e_22.2.2
noncomputable def D_X8_readAsks_149 (P : Nat) (M_149 : zMt) (N_149 : zNt) : Option (Int32 × zMt × zNt) :=
  zB (D_X8_bad P (2 : Int32) M_149) fun e_151 =>
  some (e_151.1, e_151.2, N_149)
noncomputable def D_X8_readAsks_187 (P : Nat) (k124 : Int32 → Int32 → zMt → zNt → Option (Int32 × zMt × zNt)) : Nat → Int32 → Int32 → Int32 → Int32 → zMt → zNt → Option (Int32 × zMt × zNt)
  | 0, _, _, _, _, _, _ => none
  | n + 1, x3_187, x4_187, x5_187, x6_187, M_187, N_187 =>
    if x4_187 ≤ x6_187 then
      zI (x3_187 + x4_187) 82 <|
      zLt (zu M_187 (P + 2) (x3_187 + x4_187).toNatClampNeg x5_187) fun M_230 =>
      zB (D_X8_next P M_230 N_187) fun e_235 =>
      k124 x3_187 (x4_187 + 1) e_235.2.1 e_235.2.2
    else
      zI (x3_187 + x6_187) 82 <|
      if (M_187 (P + 2) (x3_187 + x6_187).toNatClampNeg) = x5_187 then
        zB (D_X8_bad P (4 : Int32) M_187) fun e_210 =>
        some (e_210.1, e_210.2, N_187)
      else
        (D_X8_readAsks_187 P k124 n) x3_187 x4_187 x5_187 (x6_187 + 1) M_187 N_187
noncomputable def D_X8_readAsks_136 (P : Nat) (k124 : Int32 → Int32 → zMt → zNt → Option (Int32 × zMt × zNt)) (x3_136 : Int32) (x4_136 : Int32) (M_136 : zMt) (N_136 : zNt) : Option (Int32 × zMt × zNt) :=
  zB (D_X8_isName P M_136) fun e_137 =>
  if e_137 = 0 then
    D_X8_readAsks_149 P M_136 N_136
  else
    if x4_136 = (3 : Int32) then
      D_X8_readAsks_149 P M_136 N_136
    else
      zB (D_X8_found (P + 8) 5 N_136 (M_136 P 28) (N_136 P 24)) fun e_167 =>
      if e_167 = (-1 : Int32) then
        zB (D_X8_bad P (4 : Int32) M_136) fun e_180 =>
        some (e_180.1, e_180.2, N_136)
      else
        D_X8_readAsks_187 P k124 zFu x3_136 x4_136 e_167 (0 : Int32) M_136 N_136
noncomputable def D_X8_readAsks_124 (P : Nat) : Nat → Int32 → Int32 → zMt → zNt → Option (Int32 × zMt × zNt)
  | 0, _, _, _, _ => none
  | n + 1, x3_124, x4_124, M_124, N_124 =>
    if x4_124 = 0 then
      D_X8_readAsks_136 P (D_X8_readAsks_124 P n) x3_124 x4_124 M_124 N_124
    else
      zB (D_X8_isName P M_124) fun e_130 =>
      if e_130 = 0 then
        some ((1 : Int32), M_124, N_124)
      else
        D_X8_readAsks_136 P (D_X8_readAsks_124 P n) x3_124 x4_124 M_124 N_124
noncomputable def D_X8_readAsks_99 (P : Nat) (y0_99 : Int32) (M_99 : zMt) (N_99 : zNt) : Option (Int32 × zMt × zNt) :=
  zI y0_99 82 <|
  if (M_99 (P + 2) y0_99.toNatClampNeg) = (-1 : Int32) then
    zB (D_X8_next P M_99 N_99) fun e_117 =>
    D_X8_readAsks_124 P zFu y0_99 (0 : Int32) e_117.2.1 e_117.2.2
  else
    zB (D_X8_bad P (4 : Int32) M_99) fun e_112 =>
    some (e_112.1, e_112.2, N_99)
noncomputable def D_X8_readAsks_79 (P : Nat) (x1_79 : Int32) (x2_79 : Int32) (M_79 : zMt) (N_79 : zNt) : Option (Int32 × zMt × zNt) :=
  if x2_79 = (-1 : Int32) then
    D_X8_readAsks_99 P ((20 : Int32) + ((3 : Int32) * x1_79)) M_79 N_79
  else
    D_X8_readAsks_99 P ((50 : Int32) + ((3 : Int32) * x2_79)) M_79 N_79
noncomputable def D_X8_readAsks_73 (P : Nat) (M_73 : zMt) (N_73 : zNt) : Option (Int32 × zMt × zNt) :=
  zB (D_X8_bad P (4 : Int32) M_73) fun e_75 =>
  some (e_75.1, e_75.2, N_73)
noncomputable def D_X8_readAsks (P : Nat) (M : zMt) (N : zNt) : Option (Int32 × zMt × zNt) :=
  zB (D_X8_next P M N) fun e_1 =>
  zB (D_X8_isName P e_1.2.1) fun e_6 =>
  if e_6 = 0 then
    zB (D_X8_bad P (2 : Int32) e_1.2.1) fun e_14 =>
    some (e_14.1, e_14.2, e_1.2.2)
  else
    zB (D_X8_found (P + 9) 10 e_1.2.2 (e_1.2.1 P 29) (e_1.2.2 P 24)) fun e_30 =>
    zB (D_X8_found (P + 10) 4 e_1.2.2 (e_1.2.1 P 30) (e_1.2.2 P 24)) fun e_46 =>
    if e_46 = (-1 : Int32) then
      if e_30 = (-1 : Int32) then
        D_X8_readAsks_73 P e_1.2.1 e_1.2.2
      else
        zI ((10 : Int32) + e_30) 82 <|
        if (e_1.2.1 (P + 2) ((10 : Int32) + e_30).toNatClampNeg) = (-1 : Int32) then
          D_X8_readAsks_79 P e_30 e_46 e_1.2.1 e_1.2.2
        else
          D_X8_readAsks_73 P e_1.2.1 e_1.2.2
    else
      D_X8_readAsks_79 P e_30 e_46 e_1.2.1 e_1.2.2
noncomputable def D_X8_readOnce_111 (P : Nat) (y1_111 : Int32) (M_111 : zMt) (N_111 : zNt) : Option (Int32 × zMt × zNt) :=
  zI y1_111 82 <|
  zLt (zu M_111 (P + 2) y1_111.toNatClampNeg (M_111 P 31)) fun M_115 =>
  some ((1 : Int32), M_115, N_111)
noncomputable def D_X8_readOnce_57 (P : Nat) (y0_57 : Int32) (M_57 : zMt) (N_57 : zNt) : Option (Int32 × zMt × zNt) :=
  if y0_57 = (-1 : Int32) then
    zB (D_X8_bad P (2 : Int32) M_57) fun e_65 =>
    some (e_65.1, e_65.2, N_57)
  else
    zI (67 : Int32) 82 <|
    zLt (zu M_57 (P + 2) (67 : Int32).toNatClampNeg y0_57) fun M_76 =>
    zB (D_X8_next P M_76 N_57) fun e_78 =>
    some (e_78.1, e_78.2.1, e_78.2.2)
noncomputable def D_X8_readOnce (P : Nat) (v0 : Int32) (M : zMt) (N : zNt) : Option (Int32 × zMt × zNt) :=
  zB (D_X8_has (M P 23) v0) fun e_5 =>
  if e_5 = 0 then
    zLt (zu M P 23 ((M P 23) ||| ((1 : Int32) <<< (v0 &&& 31)))) fun M_26 =>
    zB (D_X8_next P M_26 N) fun e_30 =>
    if v0 = (5 : Int32) then
      if (e_30.2.1 P 18) = (2 : Int32) then
        zB (D_X8_among P 12 e_30.2.2) fun e_50 =>
        D_X8_readOnce_57 P e_50 e_30.2.1 e_30.2.2
      else
        D_X8_readOnce_57 P (-1 : Int32) e_30.2.1 e_30.2.2
    else
      zB (D_X8_number P (0 : Int32) (100 : Int32) e_30.2.1 e_30.2.2) fun e_86 =>
      if e_86.1 = 0 then
        some ((0 : Int32), e_86.2.1, e_86.2.2)
      else
        if v0 = (6 : Int32) then
          D_X8_readOnce_111 P (68 : Int32) e_86.2.1 e_86.2.2
        else
          D_X8_readOnce_111 P (69 : Int32) e_86.2.1 e_86.2.2
  else
    zB (D_X8_bad P (2 : Int32) M) fun e_13 =>
    some (e_13.1, e_13.2, N)
noncomputable def D_X8_readLine_140 (P : Nat) (y0_140 : Int32) (M_140 : zMt) (N_140 : zNt) : Option (Int32 × zMt × zNt) :=
  some (y0_140, M_140, N_140)
noncomputable def D_X8_readLine_114 (P : Nat) (x1_114 : Int32) (M_114 : zMt) (N_114 : zNt) : Option (Int32 × zMt × zNt) :=
  if x1_114 = 0 then
    some ((0 : Int32), M_114, N_114)
  else
    if (M_114 P 18) = (4 : Int32) then
      zB (D_X8_next P M_114 N_114) fun e_129 =>
      D_X8_readLine_140 P e_129.1 e_129.2.1 e_129.2.2
    else
      zB (D_X8_bad P (2 : Int32) M_114) fun e_137 =>
      D_X8_readLine_140 P e_137.1 e_137.2 N_114
noncomputable def D_X8_readLine_108 (P : Nat) (M_108 : zMt) (N_108 : zNt) : Option (Int32 × zMt × zNt) :=
  zB (D_X8_bad P (2 : Int32) M_108) fun e_110 =>
  some (e_110.1, e_110.2, N_108)
noncomputable def D_X8_readLine_96 (P : Nat) (M_96 : zMt) (N_96 : zNt) : Option (Int32 × zMt × zNt) :=
  zB (D_X8_readOnce P (M_96 P 19) M_96 N_96) fun e_101 =>
  D_X8_readLine_114 P e_101.1 e_101.2.1 e_101.2.2
noncomputable def D_X8_readLine_16 (P : Nat) (y0_16 : Int32) (M_16 : zMt) (N_16 : zNt) : Option (Int32 × zMt × zNt) :=
  if Int32.toInt y0_16 = 0 then
    zB (D_X8_readUnit P M_16 N_16) fun e_65 =>
    D_X8_readLine_114 P e_65.1 e_65.2.1 e_65.2.2
  else
  if Int32.toInt y0_16 = 1 then
    zB (D_X8_readHunter P M_16 N_16) fun e_73 =>
    D_X8_readLine_114 P e_73.1 e_73.2.1 e_73.2.2
  else
  if Int32.toInt y0_16 = 2 then
    D_X8_readLine_108 P M_16 N_16
  else
  if Int32.toInt y0_16 = 3 then
    zB (D_X8_readParty P M_16 N_16) fun e_81 =>
    D_X8_readLine_114 P e_81.1 e_81.2.1 e_81.2.2
  else
  if Int32.toInt y0_16 = 4 then
    zB (D_X8_readAsks P M_16 N_16) fun e_89 =>
    D_X8_readLine_114 P e_89.1 e_89.2.1 e_89.2.2
  else
  if Int32.toInt y0_16 = 5 then
    D_X8_readLine_96 P M_16 N_16
  else
  if Int32.toInt y0_16 = 6 then
    D_X8_readLine_96 P M_16 N_16
  else
  if Int32.toInt y0_16 = 7 then
    D_X8_readLine_96 P M_16 N_16
  else
    D_X8_readLine_108 P M_16 N_16
noncomputable def D_X8_readLine (P : Nat) (M : zMt) (N : zNt) : Option (Int32 × zMt × zNt) :=
  if (M P 18) = (2 : Int32) then
    D_X8_readLine_16 P (M P 19) M N
  else
    D_X8_readLine_16 P (-1 : Int32) M N
noncomputable def D_X8_load_197 (P : Nat) (k164 : Int32 → zMt → zNt → Option (Int32 × zMt × zNt)) (x3_197 : Int32) (y1_197 : Int32) (y2_197 : Int32) (M_197 : zMt) (N_197 : zNt) : Option (Int32 × zMt × zNt) :=
  zI y1_197 10 <|
  zLt (zu M_197 (P + 5) y1_197.toNatClampNeg y2_197) fun M_197 =>
  k164 (x3_197 + 1) M_197 N_197
noncomputable def D_X8_load_196 (P : Nat) (k164 : Int32 → zMt → zNt → Option (Int32 × zMt × zNt)) (x3_196 : Int32) (y1_196 : Int32) (M_196 : zMt) (N_196 : zNt) : Option (Int32 × zMt × zNt) :=
  D_X8_load_197 P k164 x3_196 y1_196 (0 : Int32) M_196 N_196
noncomputable def D_X8_load_164 (P : Nat) : Nat → Int32 → zMt → zNt → Option (Int32 × zMt × zNt)
  | 0, _, _, _ => none
  | n + 1, x3_164, M_164, N_164 =>
    if (10 : Int32) ≤ x3_164 then
      zLt (zu M_164 P 7 (M_164 P 28)) fun M_209 =>
      zLt (zu M_209 P 8 (M_209 P 29)) fun M_217 =>
      zLt (zu M_217 P 9 (0 : Int32)) fun M_222 =>
      zB (D_X8_gives P (M_222 P 8) M_222) fun e_230 =>
      some (e_230.1, e_230.2, N_164)
    else
      if (M_164 P 29) ≤ x3_164 then
        D_X8_load_196 P (D_X8_load_164 P n) x3_164 x3_164 M_164 N_164
      else
        zI x3_164 10 <|
        if (M_164 (P + 6) x3_164.toNatClampNeg) = 0 then
          D_X8_load_196 P (D_X8_load_164 P n) x3_164 x3_164 M_164 N_164
        else
          D_X8_load_197 P (D_X8_load_164 P n) x3_164 x3_164 (1 : Int32) M_164 N_164
noncomputable def D_X8_load_138 (P : Nat) : Nat → Int32 → zMt → zNt → Option (Int32 × zMt × zNt)
  | 0, _, _, _ => none
  | n + 1, x3_138, M_138, N_138 =>
    if (82 : Int32) ≤ x3_138 then
      D_X8_load_164 P zFu (0 : Int32) M_138 N_138
    else
      zI x3_138 82 <|
      zI x3_138 82 <|
      zLt (zu M_138 (P + 1) x3_138.toNatClampNeg (M_138 (P + 2) x3_138.toNatClampNeg)) fun M_155 =>
      (D_X8_load_138 P n) (x3_138 + 1) M_155 N_138
noncomputable def D_X8_load_98 (P : Nat) (x2_98 : Int32) (M_98 : zMt) (N_98 : zNt) : Option (Int32 × zMt × zNt) :=
  zLt (zu M_98 P 13 (M_98 P 21)) fun M_103 =>
  zLt (zu M_103 P 14 (M_103 P 22)) fun M_111 =>
  if x2_98 = 0 then
    zB (D_X8_refuse P (9 : Int32) M_111) fun e_121 =>
    some (e_121.1, e_121.2, N_98)
  else
    zI (70 : Int32) 82 <|
    zLt (zu M_111 (P + 2) (70 : Int32).toNatClampNeg (M_111 P 30)) fun M_135 =>
    D_X8_load_138 P zFu (0 : Int32) M_135 N_98
noncomputable def D_X8_load_79 (P : Nat) : Nat → Int32 → zMt → zNt → Option (Int32 × zMt × zNt)
  | 0, _, _, _ => none
  | n + 1, x2_79, M_79, N_79 =>
    if x2_79 = 0 then
      D_X8_load_98 P x2_79 M_79 N_79
    else
      if (M_79 P 18) = 0 then
        D_X8_load_98 P x2_79 M_79 N_79
      else
        zB (D_X8_readLine P M_79 N_79) fun e_91 =>
        (D_X8_load_79 P n) e_91.1 e_91.2.1 e_91.2.2
noncomputable def D_X8_load (P : Nat) (v0 : Int32) (M : zMt) (N : zNt) : Option (Int32 × zMt × zNt) :=
  zB (D_X8_isFrom (Int32.toInt64 v0) (0 : Int64) (Int32.toInt64 (M P 11))) fun e_8 =>
  if e_8 = 0 then
    zB (D_X8_refuse P (1 : Int32) M) fun e_16 =>
    some (e_16.1, e_16.2, N)
  else
    zLt (zu M P 15 v0) fun M_22 =>
    zLt (zu M_22 P 11 (0 : Int32)) fun M_27 =>
    zLt (zu M_27 P 17 (0 : Int32)) fun M_32 =>
    zLt (zu M_32 P 21 (0 : Int32)) fun M_37 =>
    zLt (zu M_37 P 22 (-1 : Int32)) fun M_42 =>
    zLt (zu M_42 P 23 (0 : Int32)) fun M_47 =>
    zLt (zu M_47 P 28 (0 : Int32)) fun M_52 =>
    zLt (zu M_52 P 29 (0 : Int32)) fun M_57 =>
    zLt (zu M_57 P 30 (0 : Int32)) fun M_62 =>
    zB (D_X8_begins (P + 2) 82 M_62) fun e_69 =>
    zB (D_X8_next P e_69 N) fun e_73 =>
    D_X8_load_79 P zFu (1 : Int32) e_73.2.1 e_73.2.2
