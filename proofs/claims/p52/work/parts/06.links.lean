def R_law : String := "TagDrawLaw"
theorem zins {ws : List Cond} (ps : List Nat) (h : (decide (ws = ps.filterMap (fun i => lw_tbl[i]?)) && ws.all goodWord) = true) : ∀ w ∈ ws, w ∈ zT := by
  rw [Bool.and_eq_true, decide_eq_true_eq] at h
  intro w hw
  have h2 := List.all_eq_true.mp h.2 w hw
  rw [h.1] at hw
  obtain ⟨i, -, hi⟩ := List.mem_filterMap.mp hw
  exact List.mem_filter.mpr ⟨List.mem_of_getElem? hi, h2⟩
theorem zinj {L : List Cond} {w : Cond} (hL : ∀ w ∈ L, w ∈ lw_tbl) (i : Nat) (h : (decide (L[i]? = some w) && goodWord w) = true) : w ∈ zT := by
  rw [Bool.and_eq_true, decide_eq_true_eq] at h
  exact List.mem_filter.mpr ⟨hL _ (List.mem_of_getElem? h.1), h.2⟩
theorem zinjR {L : List Cond} {w : Cond} (hL : ∀ w ∈ L, w ∈ lw_tbl) (i : Nat) (h : L[i]? = some w) (g : goodWord w = true) : w ∈ zT := List.mem_filter.mpr ⟨hL _ (List.mem_of_getElem? h), g⟩
theorem znest {own : String} {idx : Nat} {y : MethodName} {h : String} {L : List Cond} (hL : ∀ w ∈ L, w ∈ lw_tbl) (i : Nat) (hi : L[i]? = some (Cond.methodLinkNest own idx y h)) : Cond.methodLinkNest own idx y h ∈ zNest := List.mem_filter.mpr ⟨hL _ (List.mem_of_getElem? hi), rfl⟩
theorem zk5 {w : Cond} (i : Nat) (h : (decide (k5_sels[i]? = some w) && goodWord w) = true) : w ∈ zT := by
  rw [Bool.and_eq_true, decide_eq_true_eq] at h
  exact List.mem_filter.mpr ⟨List.mem_append_right _ (List.mem_of_getElem? h.1), h.2⟩
theorem zsub1 : ∀ w ∈ tables_1_1, w ∈ lw_tbl := fun w h => List.mem_append_left _ (List.mem_append_right _ (List.mem_append_left _ h))
theorem zsub2 : ∀ w ∈ tables_1_2, w ∈ lw_tbl := fun w h => List.mem_append_left _ (List.mem_append_right _ (List.mem_append_right _ (List.mem_append_left _ h)))
theorem zsub3 : ∀ w ∈ tables_1_3, w ∈ lw_tbl := fun w h => List.mem_append_left _ (List.mem_append_right _ (List.mem_append_right _ (List.mem_append_right _ (List.mem_append_left _ h))))
theorem zsub4 : ∀ w ∈ tables_1_4, w ∈ lw_tbl := fun w h => List.mem_append_left _ (List.mem_append_right _ (List.mem_append_right _ (List.mem_append_right _ (List.mem_append_right _ (List.mem_append_left _ h)))))
theorem zsub5 : ∀ w ∈ tables_1_5, w ∈ lw_tbl := fun w h => List.mem_append_left _ (List.mem_append_right _ (List.mem_append_right _ (List.mem_append_right _ (List.mem_append_right _ (List.mem_append_right _ (h))))))
theorem zc0 : zCl 0 RX0 TX0 5 tyX0 := ⟨rfl, zins [358, 360, 362, 364, 366] (by decide +kernel), tyX0_ok, nmX0⟩
theorem zc1 : zCl 1 RX1 TX1 3 tyX1 := ⟨rfl, zins [227, 229, 231] (by decide +kernel), tyX1_ok, nmX1⟩
theorem zc2 : zCl 2 RX2 TX2 16 tyX2 := ⟨rfl, zins [279, 281, 283, 285, 287, 289, 291, 293, 295, 297, 299, 301, 303, 305, 307, 309] (by decide +kernel), tyX2_ok, nmX2⟩
theorem zc3 : zCl 3 RX3 TX3 18 tyX3 := ⟨rfl, zins [175, 177, 179, 181, 183, 185, 187, 189, 191, 193, 195, 197, 199, 201, 203, 205, 207, 209] (by decide +kernel), tyX3_ok, nmX3⟩
theorem zc4 : zCl 4 RX4 TX4 14 tyX4 := ⟨rfl, zins [126, 128, 130, 132, 134, 136, 138, 140, 142, 144, 146, 148, 150, 152] (by decide +kernel), tyX4_ok, nmX4⟩
theorem zc5 : zCl 5 RX5 TX5 7 tyX5 := ⟨rfl, zins [330, 332, 334, 336, 338, 340, 342] (by decide +kernel), tyX5_ok, nmX5⟩
theorem zc6 : zCl 6 RX6 TX6 8 tyX6 := ⟨rfl, zins [387, 389, 391, 393, 395, 397, 399, 401] (by decide +kernel), tyX6_ok, nmX6⟩
theorem zc7 : zCl 7 RX7 TX7 17 tyX7 := ⟨rfl, zins [457, 459, 461, 463, 465, 467, 469, 471, 473, 475, 477, 479, 481, 483, 485, 487, 489] (by decide +kernel), tyX7_ok, nmX7⟩
theorem zc8 : zCl 8 RX8 TX8 7 tyX8 := ⟨rfl, zins [592, 594, 596, 598, 600, 602, 604] (by decide +kernel), tyX8_ok, nmX8⟩
set_option maxRecDepth 100000 in
theorem miJ0_charAt_5068e : zMi yJ0_charAt_5068e cJ0_charAt_5068e 2 (some .char) 1 := ⟨zinjR zsub3 106 rfl rfl, zinjR zsub1 11 rfl rfl, by decide +kernel, by decide +kernel, by decide +kernel⟩
set_option maxRecDepth 100000 in
theorem miJ0_checkBoundsBeginEnd_23922 : zMi yJ0_checkBoundsBeginEnd_23922 cJ0_checkBoundsBeginEnd_23922 3 none 3 := ⟨zinjR zsub4 173 rfl rfl, zinjR zsub1 11 rfl rfl, by decide +kernel, by decide +kernel, by decide +kernel⟩
set_option maxRecDepth 100000 in
theorem miJ0_checkBoundsOffCount_cabcc : zMi yJ0_checkBoundsOffCount_cabcc cJ0_checkBoundsOffCount_cabcc 3 (some .int) 3 := ⟨zinjR zsub4 205 rfl rfl, zinjR zsub1 11 rfl rfl, by decide +kernel, by decide +kernel, by decide +kernel⟩
set_option maxRecDepth 100000 in
theorem miJ0_checkIndex_df160 : zMi yJ0_checkIndex_df160 cJ0_checkIndex_df160 2 none 2 := ⟨zinjR zsub3 116 rfl rfl, zinjR zsub1 11 rfl rfl, by decide +kernel, by decide +kernel, by decide +kernel⟩
set_option maxRecDepth 100000 in
theorem miJ0_coder_7d493 : zMi yJ0_coder_7d493 cJ0_coder_7d493 1 (some .byte) 0 := ⟨zinjR zsub3 97 rfl rfl, zinjR zsub1 11 rfl rfl, by decide +kernel, by decide +kernel, by decide +kernel⟩
set_option maxRecDepth 100000 in
theorem miJ0_getBytes_840e7 : zMi yJ0_getBytes_840e7 cJ0_getBytes_840e7 4 none 3 := ⟨zinjR zsub4 212 rfl rfl, zinjR zsub1 11 rfl rfl, by decide +kernel, by decide +kernel, by decide +kernel⟩
set_option maxRecDepth 100000 in
theorem miJ0_init_81219 : zMi yJ0_init_81219 cJ0_init_81219 2 none 1 := ⟨zinjR zsub5 24 rfl rfl, zinjR zsub1 11 rfl rfl, by decide +kernel, by decide +kernel, by decide +kernel⟩
set_option maxRecDepth 100000 in
theorem miJ0_init_db425 : zMi yJ0_init_db425 cJ0_init_db425 5 none 2 := ⟨zinjR zsub5 27 rfl rfl, zinjR zsub1 11 rfl rfl, by decide +kernel, by decide +kernel, by decide +kernel⟩
set_option maxRecDepth 100000 in
theorem miJ0_isLatin1_aae02 : zMi yJ0_isLatin1_aae02 cJ0_isLatin1_aae02 1 (some .boolean) 0 := ⟨zinjR zsub3 110 rfl rfl, zinjR zsub1 11 rfl rfl, by decide +kernel, by decide +kernel, by decide +kernel⟩
set_option maxRecDepth 100000 in
theorem miJ0_length_8abf5 : zMi yJ0_length_8abf5 cJ0_length_8abf5 1 (some .int) 0 := ⟨zinjR zsub3 93 rfl rfl, zinjR zsub1 11 rfl rfl, by decide +kernel, by decide +kernel, by decide +kernel⟩
set_option maxRecDepth 100000 in
theorem miJ1_canEncode_fc78d : zMi yJ1_canEncode_fc78d cJ1_canEncode_fc78d 1 (some .boolean) 1 := ⟨zinjR zsub4 225 rfl rfl, zinjR zsub1 18 rfl rfl, by decide +kernel, by decide +kernel, by decide +kernel⟩
set_option maxRecDepth 100000 in
theorem miJ1_charAt_3b067 : zMi yJ1_charAt_3b067 cJ1_charAt_3b067 2 (some .char) 2 := ⟨zinjR zsub3 113 rfl rfl, zinjR zsub1 18 rfl rfl, by decide +kernel, by decide +kernel, by decide +kernel⟩
set_option maxRecDepth 100000 in
theorem miJ1_inflate_0e8fd : zMi yJ1_inflate_0e8fd cJ1_inflate_0e8fd 5 none 5 := ⟨zinjR zsub4 196 rfl rfl, zinjR zsub1 18 rfl rfl, by decide +kernel, by decide +kernel, by decide +kernel⟩
set_option maxRecDepth 100000 in
theorem miJ3_checkFromIndexSize_8c36e : zMi yJ3_checkFromIndexSize_8c36e cJ3_checkFromIndexSize_8c36e 4 (some .int) 4 := ⟨zinjR zsub4 208 rfl rfl, zinjR zsub1 17 rfl rfl, by decide +kernel, by decide +kernel, by decide +kernel⟩
set_option maxRecDepth 100000 in
theorem miJ3_checkFromToIndex_8c36e : zMi yJ3_checkFromToIndex_8c36e cJ3_checkFromToIndex_8c36e 4 (some .int) 4 := ⟨zinjR zsub4 176 rfl rfl, zinjR zsub1 17 rfl rfl, by decide +kernel, by decide +kernel, by decide +kernel⟩
set_option maxRecDepth 100000 in
theorem miJ3_checkIndex_8e157 : zMi yJ3_checkIndex_8e157 cJ3_checkIndex_8e157 3 (some .int) 3 := ⟨zinjR zsub3 121 rfl rfl, zinjR zsub1 17 rfl rfl, by decide +kernel, by decide +kernel, by decide +kernel⟩
set_option maxRecDepth 100000 in
theorem miJ4_append_15ec4 : zMi yJ4_append_15ec4 cJ4_append_15ec4 2 (some (.object "java/lang/StringBuilder")) 1 := ⟨zinjR zsub4 119 rfl rfl, zinjR zsub1 10 rfl rfl, by decide +kernel, by decide +kernel, by decide +kernel⟩
set_option maxRecDepth 100000 in
theorem miJ4_append_bf812 : zMi yJ4_append_bf812 cJ4_append_bf812 2 (some (.object "java/lang/StringBuilder")) 1 := ⟨zinjR zsub4 233 rfl rfl, zinjR zsub1 10 rfl rfl, by decide +kernel, by decide +kernel, by decide +kernel⟩
set_option maxRecDepth 100000 in
theorem miJ4_append_cf468 : zMi yJ4_append_cf468 cJ4_append_cf468 2 (some (.object "java/lang/StringBuilder")) 1 := ⟨zinjR zsub4 219 rfl rfl, zinjR zsub1 10 rfl rfl, by decide +kernel, by decide +kernel, by decide +kernel⟩
set_option maxRecDepth 100000 in
theorem miJ4_init_da8c8 : zMi yJ4_init_da8c8 cJ4_init_da8c8 1 none 0 := ⟨zinjR zsub4 90 rfl rfl, zinjR zsub1 10 rfl rfl, by decide +kernel, by decide +kernel, by decide +kernel⟩
set_option maxRecDepth 100000 in
theorem miJ4_length_8abf5 : zMi yJ4_length_8abf5 cJ4_length_8abf5 1 (some .int) 0 := ⟨zinjR zsub5 39 rfl rfl, zinjR zsub1 10 rfl rfl, by decide +kernel, by decide +kernel, by decide +kernel⟩
set_option maxRecDepth 100000 in
theorem miJ4_toString_0e30d : zMi yJ4_toString_0e30d cJ4_toString_0e30d 1 (some (.object "java/lang/String")) 0 := ⟨zinjR zsub5 19 rfl rfl, zinjR zsub1 10 rfl rfl, by decide +kernel, by decide +kernel, by decide +kernel⟩
set_option maxRecDepth 100000 in
theorem miJ5_appendNull_278bc : zMi yJ5_appendNull_278bc cJ5_appendNull_278bc 3 (some (.object "java/lang/AbstractStringBuilder")) 0 := ⟨zinjR zsub4 126 rfl rfl, zinjR zsub1 9 rfl rfl, by decide +kernel, by decide +kernel, by decide +kernel⟩
set_option maxRecDepth 100000 in
theorem miJ5_append_3fe6f : zMi yJ5_append_3fe6f cJ5_append_3fe6f 2 (some (.object "java/lang/AbstractStringBuilder")) 1 := ⟨zinjR zsub4 222 rfl rfl, zinjR zsub1 9 rfl rfl, by decide +kernel, by decide +kernel, by decide +kernel⟩
set_option maxRecDepth 100000 in
theorem miJ5_append_c97b9 : zMi yJ5_append_c97b9 cJ5_append_c97b9 4 (some (.object "java/lang/AbstractStringBuilder")) 1 := ⟨zinjR zsub4 236 rfl rfl, zinjR zsub1 9 rfl rfl, by decide +kernel, by decide +kernel, by decide +kernel⟩
set_option maxRecDepth 100000 in
theorem miJ5_append_cf1ce : zMi yJ5_append_cf1ce cJ5_append_cf1ce 3 (some (.object "java/lang/AbstractStringBuilder")) 1 := ⟨zinjR zsub4 122 rfl rfl, zinjR zsub1 9 rfl rfl, by decide +kernel, by decide +kernel, by decide +kernel⟩
set_option maxRecDepth 100000 in
theorem miJ5_ensureCapacityInternal_d00df : zMi yJ5_ensureCapacityInternal_d00df cJ5_ensureCapacityInternal_d00df 3 none 1 := ⟨zinjR zsub4 130 rfl rfl, zinjR zsub1 9 rfl rfl, by decide +kernel, by decide +kernel, by decide +kernel⟩
set_option maxRecDepth 100000 in
theorem miJ5_getValue_6d5f1 : zMi yJ5_getValue_6d5f1 cJ5_getValue_6d5f1 1 (some (.array .byte)) 0 := ⟨zinjR zsub5 33 rfl rfl, zinjR zsub1 9 rfl rfl, by decide +kernel, by decide +kernel, by decide +kernel⟩
set_option maxRecDepth 100000 in
theorem miJ5_inflateIfNeededFor_a7421 : zMi yJ5_inflateIfNeededFor_a7421 cJ5_inflateIfNeededFor_a7421 2 none 1 := ⟨zinjR zsub4 188 rfl rfl, zinjR zsub1 9 rfl rfl, by decide +kernel, by decide +kernel, by decide +kernel⟩
set_option maxRecDepth 100000 in
theorem miJ5_inflate_da8c8 : zMi yJ5_inflate_da8c8 cJ5_inflate_da8c8 2 none 0 := ⟨zinjR zsub4 193 rfl rfl, zinjR zsub1 9 rfl rfl, by decide +kernel, by decide +kernel, by decide +kernel⟩
set_option maxRecDepth 100000 in
theorem miJ5_init_d00df : zMi yJ5_init_d00df cJ5_init_d00df 2 none 1 := ⟨zinjR zsub4 93 rfl rfl, zinjR zsub1 9 rfl rfl, by decide +kernel, by decide +kernel, by decide +kernel⟩
set_option maxRecDepth 100000 in
theorem miJ5_isLatin1_aae02 : zMi yJ5_isLatin1_aae02 cJ5_isLatin1_aae02 1 (some .boolean) 0 := ⟨zinjR zsub4 164 rfl rfl, zinjR zsub1 9 rfl rfl, by decide +kernel, by decide +kernel, by decide +kernel⟩
set_option maxRecDepth 100000 in
theorem miJ5_length_8abf5 : zMi yJ5_length_8abf5 cJ5_length_8abf5 1 (some .int) 0 := ⟨zinjR zsub5 41 rfl rfl, zinjR zsub1 9 rfl rfl, by decide +kernel, by decide +kernel, by decide +kernel⟩
set_option maxRecDepth 100000 in
theorem miJ5_newCapacity_0f7a4 : zMi yJ5_newCapacity_0f7a4 cJ5_newCapacity_0f7a4 6 (some .int) 1 := ⟨zinjR zsub4 134 rfl rfl, zinjR zsub1 9 rfl rfl, by decide +kernel, by decide +kernel, by decide +kernel⟩
set_option maxRecDepth 100000 in
theorem miJ5_putStringAt_47b60 : zMi yJ5_putStringAt_47b60 cJ5_putStringAt_47b60 3 none 2 := ⟨zinjR zsub4 184 rfl rfl, zinjR zsub1 9 rfl rfl, by decide +kernel, by decide +kernel, by decide +kernel⟩
set_option maxRecDepth 100000 in
theorem miJ6_getChars_ba4f3 : zMi yJ6_getChars_ba4f3 cJ6_getChars_ba4f3 7 (some .int) 3 := ⟨zinjR zsub5 2 rfl rfl, zinjR zsub1 19 rfl rfl, by decide +kernel, by decide +kernel, by decide +kernel⟩
set_option maxRecDepth 100000 in
theorem miJ6_stringSize_0f7a4 : zMi yJ6_stringSize_0f7a4 cJ6_stringSize_0f7a4 4 (some .int) 1 := ⟨zinjR zsub4 239 rfl rfl, zinjR zsub1 19 rfl rfl, by decide +kernel, by decide +kernel, by decide +kernel⟩
set_option maxRecDepth 100000 in
theorem miJ7_checkLength_df160 : zMi yJ7_checkLength_df160 cJ7_checkLength_df160 2 none 2 := ⟨zinjR zsub5 51 rfl rfl, zinjR zsub1 15 rfl rfl, by decide +kernel, by decide +kernel, by decide +kernel⟩
set_option maxRecDepth 100000 in
theorem miJ7_copyOfRangeByte_39247 : zMi yJ7_copyOfRangeByte_39247 cJ7_copyOfRangeByte_39247 5 (some (.array .byte)) 3 := ⟨zinjR zsub5 48 rfl rfl, zinjR zsub1 15 rfl rfl, by decide +kernel, by decide +kernel, by decide +kernel⟩
set_option maxRecDepth 100000 in
theorem miJ7_copyOfRange_39247 : zMi yJ7_copyOfRange_39247 cJ7_copyOfRange_39247 3 (some (.array .byte)) 3 := ⟨zinjR zsub5 45 rfl rfl, zinjR zsub1 15 rfl rfl, by decide +kernel, by decide +kernel, by decide +kernel⟩
set_option maxRecDepth 100000 in
theorem miJ7_copyOf_9075b : zMi yJ7_copyOf_9075b cJ7_copyOf_9075b 3 (some (.array .byte)) 2 := ⟨zinjR zsub4 148 rfl rfl, zinjR zsub1 15 rfl rfl, by decide +kernel, by decide +kernel, by decide +kernel⟩
set_option maxRecDepth 100000 in
theorem miJ8_hugeLength_7cf53 : zMi yJ8_hugeLength_7cf53 cJ8_hugeLength_7cf53 3 (some .int) 2 := ⟨zinjR zsub4 144 rfl rfl, zinjR zsub1 13 rfl rfl, by decide +kernel, by decide +kernel, by decide +kernel⟩
set_option maxRecDepth 100000 in
theorem miJ8_newLength_cabcc : zMi yJ8_newLength_cabcc cJ8_newLength_cabcc 4 (some .int) 3 := ⟨zinjR zsub4 137 rfl rfl, zinjR zsub1 13 rfl rfl, by decide +kernel, by decide +kernel, by decide +kernel⟩
set_option maxRecDepth 100000 in
theorem miL_among : zMi yL_among cL_among 3 (some .int) 2 := ⟨zinjR zsub4 80 rfl rfl, zinjR zsub1 0 rfl rfl, by decide +kernel, by decide +kernel, by decide +kernel⟩
set_option maxRecDepth 100000 in
theorem miL_cell : zMi yL_cell cL_cell 2 (some .int) 2 := ⟨zinjR zsub4 77 rfl rfl, zinjR zsub1 0 rfl rfl, by decide +kernel, by decide +kernel, by decide +kernel⟩
set_option maxRecDepth 100000 in
theorem miL_chosen : zMi yL_chosen cL_chosen 3 (some .int) 1 := ⟨zinjR zsub4 74 rfl rfl, zinjR zsub1 0 rfl rfl, by decide +kernel, by decide +kernel, by decide +kernel⟩
set_option maxRecDepth 100000 in
theorem miL_four : zMi yL_four cL_four 4 (some .int) 2 := ⟨zinjR zsub3 102 rfl rfl, zinjR zsub1 0 rfl rfl, by decide +kernel, by decide +kernel, by decide +kernel⟩
set_option maxRecDepth 100000 in
theorem miL_init : zMi yL_init cL_init 1 none 0 := ⟨zinjR zsub3 63 rfl rfl, zinjR zsub1 0 rfl rfl, by decide +kernel, by decide +kernel, by decide +kernel⟩
set_option maxRecDepth 100000 in
theorem miL_isAs : zMi yL_isAs cL_isAs 11 (some .boolean) 3 := ⟨zinjR zsub5 86 rfl rfl, zinjR zsub1 0 rfl rfl, by decide +kernel, by decide +kernel, by decide +kernel⟩
set_option maxRecDepth 100000 in
theorem miL_list : zMi yL_list cL_list 9 (some (.object "java/lang/String")) 1 := ⟨zinjR zsub4 84 rfl rfl, zinjR zsub1 0 rfl rfl, by decide +kernel, by decide +kernel, by decide +kernel⟩
set_option maxRecDepth 100000 in
theorem miL_load : zMi yL_load cL_load 3 (some .int) 2 := ⟨zinjR zsub3 89 rfl rfl, zinjR zsub1 0 rfl rfl, by decide +kernel, by decide +kernel, by decide +kernel⟩
set_option maxRecDepth 100000 in
theorem miL_orders : zMi yL_orders cL_orders 11 none 2 := ⟨zinjR zsub5 90 rfl rfl, zinjR zsub1 0 rfl rfl, by decide +kernel, by decide +kernel, by decide +kernel⟩
set_option maxRecDepth 100000 in
theorem miL_results : zMi yL_results cL_results 10 none 1 := ⟨zinjR zsub5 102 rfl rfl, zinjR zsub1 0 rfl rfl, by decide +kernel, by decide +kernel, by decide +kernel⟩
set_option maxRecDepth 100000 in
theorem miX0_init : zMi yX0_init cX0_init 1 none 0 := ⟨zinjR zsub2 69 rfl rfl, zinjR zsub1 7 rfl rfl, by decide +kernel, by decide +kernel, by decide +kernel⟩
set_option maxRecDepth 100000 in
theorem miX1_forget : zMi yX1_forget cX1_forget 1 none 0 := ⟨zinjR zsub4 65 rfl rfl, zinjR zsub1 4 rfl rfl, by decide +kernel, by decide +kernel, by decide +kernel⟩
set_option maxRecDepth 100000 in
theorem miX1_init : zMi yX1_init cX1_init 2 none 0 := ⟨zinjR zsub1 179 rfl rfl, zinjR zsub1 4 rfl rfl, by decide +kernel, by decide +kernel, by decide +kernel⟩
set_option maxRecDepth 100000 in
theorem miX2_askers : zMi yX2_askers cX2_askers 4 (some .int) 1 := ⟨zinjR zsub5 127 rfl rfl, zinjR zsub1 5 rfl rfl, by decide +kernel, by decide +kernel, by decide +kernel⟩
set_option maxRecDepth 100000 in
theorem miX2_close : zMi yX2_close cX2_close 5 none 2 := ⟨zinjR zsub2 159 rfl rfl, zinjR zsub1 5 rfl rfl, by decide +kernel, by decide +kernel, by decide +kernel⟩
set_option maxRecDepth 100000 in
theorem miX2_firstApplicants : zMi yX2_firstApplicants cX2_firstApplicants 4 (some .int) 1 := ⟨zinjR zsub5 114 rfl rfl, zinjR zsub1 5 rfl rfl, by decide +kernel, by decide +kernel, by decide +kernel⟩
set_option maxRecDepth 100000 in
theorem miX2_firstHunters : zMi yX2_firstHunters cX2_firstHunters 4 (some .int) 1 := ⟨zinjR zsub5 123 rfl rfl, zinjR zsub1 5 rfl rfl, by decide +kernel, by decide +kernel, by decide +kernel⟩
set_option maxRecDepth 100000 in
theorem miX2_fits : zMi yX2_fits cX2_fits 4 (some .boolean) 3 := ⟨zinjR zsub3 45 rfl rfl, zinjR zsub1 5 rfl rfl, by decide +kernel, by decide +kernel, by decide +kernel⟩
set_option maxRecDepth 100000 in
theorem miX2_gather : zMi yX2_gather cX2_gather 4 none 1 := ⟨zinjR zsub2 134 rfl rfl, zinjR zsub1 5 rfl rfl, by decide +kernel, by decide +kernel, by decide +kernel⟩
set_option maxRecDepth 100000 in
theorem miX2_gatherUnits : zMi yX2_gatherUnits cX2_gatherUnits 4 none 1 := ⟨zinjR zsub2 138 rfl rfl, zinjR zsub1 5 rfl rfl, by decide +kernel, by decide +kernel, by decide +kernel⟩
set_option maxRecDepth 100000 in
theorem miX2_init : zMi yX2_init cX2_init 1 none 0 := ⟨zinjR zsub1 198 rfl rfl, zinjR zsub1 5 rfl rfl, by decide +kernel, by decide +kernel, by decide +kernel⟩
set_option maxRecDepth 100000 in
theorem miX2_join : zMi yX2_join cX2_join 5 none 2 := ⟨zinjR zsub2 152 rfl rfl, zinjR zsub1 5 rfl rfl, by decide +kernel, by decide +kernel, by decide +kernel⟩
set_option maxRecDepth 100000 in
theorem miX2_open : zMi yX2_open cX2_open 2 none 1 := ⟨zinjR zsub2 148 rfl rfl, zinjR zsub1 5 rfl rfl, by decide +kernel, by decide +kernel, by decide +kernel⟩
set_option maxRecDepth 100000 in
theorem miX2_rankOf : zMi yX2_rankOf cX2_rankOf 4 (some .int) 2 := ⟨zinjR zsub5 118 rfl rfl, zinjR zsub1 5 rfl rfl, by decide +kernel, by decide +kernel, by decide +kernel⟩
set_option maxRecDepth 100000 in
theorem miX2_wish : zMi yX2_wish cX2_wish 3 (some .int) 2 := ⟨zinjR zsub3 41 rfl rfl, zinjR zsub1 5 rfl rfl, by decide +kernel, by decide +kernel, by decide +kernel⟩
set_option maxRecDepth 100000 in
theorem miX3_asker : zMi yX3_asker cX3_asker 5 (some .int) 0 := ⟨zinjR zsub4 35 rfl rfl, zinjR zsub1 2 rfl rfl, by decide +kernel, by decide +kernel, by decide +kernel⟩
set_option maxRecDepth 100000 in
theorem miX3_endOfLine : zMi yX3_endOfLine cX3_endOfLine 1 (some .boolean) 0 := ⟨zinjR zsub3 239 rfl rfl, zinjR zsub1 2 rfl rfl, by decide +kernel, by decide +kernel, by decide +kernel⟩
set_option maxRecDepth 100000 in
theorem miX3_fail : zMi yX3_fail cX3_fail 2 (some .boolean) 1 := ⟨zinjR zsub3 221 rfl rfl, zinjR zsub1 2 rfl rfl, by decide +kernel, by decide +kernel, by decide +kernel⟩
set_option maxRecDepth 100000 in
theorem miX3_find : zMi yX3_find cX3_find 5 (some .int) 3 := ⟨zinjR zsub3 228 rfl rfl, zinjR zsub1 2 rfl rfl, by decide +kernel, by decide +kernel, by decide +kernel⟩
set_option maxRecDepth 100000 in
theorem miX3_init : zMi yX3_init cX3_init 1 none 0 := ⟨zinjR zsub1 32 rfl rfl, zinjR zsub1 2 rfl rfl, by decide +kernel, by decide +kernel, by decide +kernel⟩
set_option maxRecDepth 100000 in
theorem miX3_isBlank : zMi yX3_isBlank cX3_isBlank 1 (some .boolean) 1 := ⟨zinjR zsub3 172 rfl rfl, zinjR zsub1 2 rfl rfl, by decide +kernel, by decide +kernel, by decide +kernel⟩
set_option maxRecDepth 100000 in
theorem miX3_isDigit : zMi yX3_isDigit cX3_isDigit 1 (some .boolean) 1 := ⟨zinjR zsub3 183 rfl rfl, zinjR zsub1 2 rfl rfl, by decide +kernel, by decide +kernel, by decide +kernel⟩
set_option maxRecDepth 100000 in
theorem miX3_isFree : zMi yX3_isFree cX3_isFree 2 (some .boolean) 1 := ⟨zinjR zsub4 23 rfl rfl, zinjR zsub1 2 rfl rfl, by decide +kernel, by decide +kernel, by decide +kernel⟩
set_option maxRecDepth 100000 in
theorem miX3_isLetter : zMi yX3_isLetter cX3_isLetter 1 (some .boolean) 1 := ⟨zinjR zsub3 175 rfl rfl, zinjR zsub1 2 rfl rfl, by decide +kernel, by decide +kernel, by decide +kernel⟩
set_option maxRecDepth 100000 in
theorem miX3_isName : zMi yX3_isName cX3_isName 1 (some .boolean) 0 := ⟨zinjR zsub3 210 rfl rfl, zinjR zsub1 2 rfl rfl, by decide +kernel, by decide +kernel, by decide +kernel⟩
set_option maxRecDepth 100000 in
theorem miX3_isTaken : zMi yX3_isTaken cX3_isTaken 3 (some .boolean) 1 := ⟨zinjR zsub3 225 rfl rfl, zinjR zsub1 2 rfl rfl, by decide +kernel, by decide +kernel, by decide +kernel⟩
set_option maxRecDepth 100000 in
theorem miX3_numberUpTo : zMi yX3_numberUpTo cX3_numberUpTo 2 (some .boolean) 1 := ⟨zinjR zsub3 235 rfl rfl, zinjR zsub1 2 rfl rfl, by decide +kernel, by decide +kernel, by decide +kernel⟩
set_option maxRecDepth 100000 in
theorem miX3_read : zMi yX3_read cX3_read 4 (some .boolean) 2 := ⟨zinjR zsub3 157 rfl rfl, zinjR zsub1 2 rfl rfl, by decide +kernel, by decide +kernel, by decide +kernel⟩
set_option maxRecDepth 100000 in
theorem miX3_readAsks : zMi yX3_readAsks cX3_readAsks 4 (some .boolean) 0 := ⟨zinjR zsub4 31 rfl rfl, zinjR zsub1 2 rfl rfl, by decide +kernel, by decide +kernel, by decide +kernel⟩
set_option maxRecDepth 100000 in
theorem miX3_readGuests : zMi yX3_readGuests cX3_readGuests 1 (some .boolean) 0 := ⟨zinjR zsub4 56 rfl rfl, zinjR zsub1 2 rfl rfl, by decide +kernel, by decide +kernel, by decide +kernel⟩
set_option maxRecDepth 100000 in
theorem miX3_readHunter : zMi yX3_readHunter cX3_readHunter 2 (some .boolean) 0 := ⟨zinjR zsub4 11 rfl rfl, zinjR zsub1 2 rfl rfl, by decide +kernel, by decide +kernel, by decide +kernel⟩
set_option maxRecDepth 100000 in
theorem miX3_readLaw : zMi yX3_readLaw cX3_readLaw 1 (some .boolean) 0 := ⟨zinjR zsub4 45 rfl rfl, zinjR zsub1 2 rfl rfl, by decide +kernel, by decide +kernel, by decide +kernel⟩
set_option maxRecDepth 100000 in
theorem miX3_readLine : zMi yX3_readLine cX3_readLine 1 (some .boolean) 0 := ⟨zinjR zsub3 191 rfl rfl, zinjR zsub1 2 rfl rfl, by decide +kernel, by decide +kernel, by decide +kernel⟩
set_option maxRecDepth 100000 in
theorem miX3_readNewName : zMi yX3_readNewName cX3_readNewName 1 (some .boolean) 0 := ⟨zinjR zsub3 206 rfl rfl, zinjR zsub1 2 rfl rfl, by decide +kernel, by decide +kernel, by decide +kernel⟩
set_option maxRecDepth 100000 in
theorem miX3_readParty : zMi yX3_readParty cX3_readParty 4 (some .boolean) 0 := ⟨zinjR zsub4 19 rfl rfl, zinjR zsub1 2 rfl rfl, by decide +kernel, by decide +kernel, by decide +kernel⟩
set_option maxRecDepth 100000 in
theorem miX3_readPrefer : zMi yX3_readPrefer cX3_readPrefer 1 (some .boolean) 0 := ⟨zinjR zsub4 52 rfl rfl, zinjR zsub1 2 rfl rfl, by decide +kernel, by decide +kernel, by decide +kernel⟩
set_option maxRecDepth 100000 in
theorem miX3_readUnit : zMi yX3_readUnit cX3_readUnit 1 (some .boolean) 0 := ⟨zinjR zsub3 202 rfl rfl, zinjR zsub1 2 rfl rfl, by decide +kernel, by decide +kernel, by decide +kernel⟩
set_option maxRecDepth 100000 in
theorem miX3_says : zMi yX3_says cX3_says 3 (some .boolean) 1 := ⟨zinjR zsub3 196 rfl rfl, zinjR zsub1 2 rfl rfl, by decide +kernel, by decide +kernel, by decide +kernel⟩
set_option maxRecDepth 100000 in
theorem miX3_step : zMi yX3_step cX3_step 2 none 0 := ⟨zinjR zsub3 168 rfl rfl, zinjR zsub1 2 rfl rfl, by decide +kernel, by decide +kernel, by decide +kernel⟩
set_option maxRecDepth 100000 in
theorem miX3_stepNumber : zMi yX3_stepNumber cX3_stepNumber 1 none 0 := ⟨zinjR zsub3 187 rfl rfl, zinjR zsub1 2 rfl rfl, by decide +kernel, by decide +kernel, by decide +kernel⟩
set_option maxRecDepth 100000 in
theorem miX3_stepWord : zMi yX3_stepWord cX3_stepWord 1 none 0 := ⟨zinjR zsub3 179 rfl rfl, zinjR zsub1 2 rfl rfl, by decide +kernel, by decide +kernel, by decide +kernel⟩
set_option maxRecDepth 100000 in
theorem miX4_addHunter : zMi yX4_addHunter cX4_addHunter 3 none 2 := ⟨zinjR zsub4 15 rfl rfl, zinjR zsub1 3 rfl rfl, by decide +kernel, by decide +kernel, by decide +kernel⟩
set_option maxRecDepth 100000 in
theorem miX4_addParty : zMi yX4_addParty cX4_addParty 3 none 1 := ⟨zinjR zsub4 27 rfl rfl, zinjR zsub1 3 rfl rfl, by decide +kernel, by decide +kernel, by decide +kernel⟩
set_option maxRecDepth 100000 in
theorem miX4_addUnit : zMi yX4_addUnit cX4_addUnit 2 none 1 := ⟨zinjR zsub4 6 rfl rfl, zinjR zsub1 3 rfl rfl, by decide +kernel, by decide +kernel, by decide +kernel⟩
set_option maxRecDepth 100000 in
theorem miX4_clear : zMi yX4_clear cX4_clear 1 none 0 := ⟨zinjR zsub2 127 rfl rfl, zinjR zsub1 3 rfl rfl, by decide +kernel, by decide +kernel, by decide +kernel⟩
set_option maxRecDepth 100000 in
theorem miX4_init : zMi yX4_init cX4_init 1 none 0 := ⟨zinjR zsub1 38 rfl rfl, zinjR zsub1 3 rfl rfl, by decide +kernel, by decide +kernel, by decide +kernel⟩
set_option maxRecDepth 100000 in
theorem miX4_take : zMi yX4_take cX4_take 2 none 1 := ⟨zinjR zsub4 60 rfl rfl, zinjR zsub1 3 rfl rfl, by decide +kernel, by decide +kernel, by decide +kernel⟩
set_option maxRecDepth 100000 in
theorem miX4_wishFor : zMi yX4_wishFor cX4_wishFor 7 none 4 := ⟨zinjR zsub4 41 rfl rfl, zinjR zsub1 3 rfl rfl, by decide +kernel, by decide +kernel, by decide +kernel⟩
set_option maxRecDepth 100000 in
theorem miX5_bySeed : zMi yX5_bySeed cX5_bySeed 3 none 2 := ⟨zinjR zsub3 24 rfl rfl, zinjR zsub1 6 rfl rfl, by decide +kernel, by decide +kernel, by decide +kernel⟩
set_option maxRecDepth 100000 in
theorem miX5_fewestPoints : zMi yX5_fewestPoints cX5_fewestPoints 5 (some .int) 2 := ⟨zinjR zsub5 148 rfl rfl, zinjR zsub1 6 rfl rfl, by decide +kernel, by decide +kernel, by decide +kernel⟩
set_option maxRecDepth 100000 in
theorem miX5_firstRound : zMi yX5_firstRound cX5_firstRound 5 none 1 := ⟨zinjR zsub3 33 rfl rfl, zinjR zsub1 6 rfl rfl, by decide +kernel, by decide +kernel, by decide +kernel⟩
set_option maxRecDepth 100000 in
theorem miX5_hasFirst : zMi yX5_hasFirst cX5_hasFirst 3 (some .boolean) 2 := ⟨zinjR zsub5 169 rfl rfl, zinjR zsub1 6 rfl rfl, by decide +kernel, by decide +kernel, by decide +kernel⟩
set_option maxRecDepth 100000 in
theorem miX5_hold : zMi yX5_hold cX5_hold 5 none 4 := ⟨zinjR zsub3 50 rfl rfl, zinjR zsub1 6 rfl rfl, by decide +kernel, by decide +kernel, by decide +kernel⟩
set_option maxRecDepth 100000 in
theorem miX5_holderOf : zMi yX5_holderOf cX5_holderOf 5 (some .int) 3 := ⟨zinjR zsub3 9 rfl rfl, zinjR zsub1 6 rfl rfl, by decide +kernel, by decide +kernel, by decide +kernel⟩
set_option maxRecDepth 100000 in
theorem miX5_holders : zMi yX5_holders cX5_holders 5 (some .int) 2 := ⟨zinjR zsub5 144 rfl rfl, zinjR zsub1 6 rfl rfl, by decide +kernel, by decide +kernel, by decide +kernel⟩
set_option maxRecDepth 100000 in
theorem miX5_init : zMi yX5_init cX5_init 1 none 0 := ⟨zinjR zsub2 36 rfl rfl, zinjR zsub1 6 rfl rfl, by decide +kernel, by decide +kernel, by decide +kernel⟩
set_option maxRecDepth 100000 in
theorem miX5_lineUp : zMi yX5_lineUp cX5_lineUp 9 none 2 := ⟨zinjR zsub3 2 rfl rfl, zinjR zsub1 6 rfl rfl, by decide +kernel, by decide +kernel, by decide +kernel⟩
set_option maxRecDepth 100000 in
theorem miX5_rank : zMi yX5_rank cX5_rank 6 none 1 := ⟨zinjR zsub3 37 rfl rfl, zinjR zsub1 6 rfl rfl, by decide +kernel, by decide +kernel, by decide +kernel⟩
set_option maxRecDepth 100000 in
theorem miX5_scoreBehind : zMi yX5_scoreBehind cX5_scoreBehind 4 (some .int) 3 := ⟨zinjR zsub5 164 rfl rfl, zinjR zsub1 6 rfl rfl, by decide +kernel, by decide +kernel, by decide +kernel⟩
set_option maxRecDepth 100000 in
theorem miX5_secondRound : zMi yX5_secondRound cX5_secondRound 7 none 1 := ⟨zinjR zsub3 54 rfl rfl, zinjR zsub1 6 rfl rfl, by decide +kernel, by decide +kernel, by decide +kernel⟩
set_option maxRecDepth 100000 in
theorem miX5_settle : zMi yX5_settle cX5_settle 3 none 1 := ⟨zinjR zsub3 29 rfl rfl, zinjR zsub1 6 rfl rfl, by decide +kernel, by decide +kernel, by decide +kernel⟩
set_option maxRecDepth 100000 in
theorem miX6_init : zMi yX6_init cX6_init 1 none 0 := ⟨zinjR zsub2 93 rfl rfl, zinjR zsub1 8 rfl rfl, by decide +kernel, by decide +kernel, by decide +kernel⟩
set_option maxRecDepth 100000 in
theorem miX7_add : zMi yX7_add cX7_add 3 none 3 := ⟨zinjR zsub2 155 rfl rfl, zinjR zsub1 1 rfl rfl, by decide +kernel, by decide +kernel, by decide +kernel⟩
set_option maxRecDepth 100000 in
theorem miX7_answer : zMi yX7_answer cX7_answer 2 (some .int) 1 := ⟨zinjR zsub2 223 rfl rfl, zinjR zsub1 1 rfl rfl, by decide +kernel, by decide +kernel, by decide +kernel⟩
set_option maxRecDepth 100000 in
theorem miX7_append : zMi yX7_append cX7_append 3 none 1 := ⟨zinjR zsub3 148 rfl rfl, zinjR zsub1 1 rfl rfl, by decide +kernel, by decide +kernel, by decide +kernel⟩
set_option maxRecDepth 100000 in
theorem miX7_applicant : zMi yX7_applicant cX7_applicant 3 (some .int) 2 := ⟨zinjR zsub5 94 rfl rfl, zinjR zsub1 1 rfl rfl, by decide +kernel, by decide +kernel, by decide +kernel⟩
set_option maxRecDepth 100000 in
theorem miX7_behind : zMi yX7_behind cX7_behind 3 (some .int) 2 := ⟨zinjR zsub5 160 rfl rfl, zinjR zsub1 1 rfl rfl, by decide +kernel, by decide +kernel, by decide +kernel⟩
set_option maxRecDepth 100000 in
theorem miX7_bigCell : zMi yX7_bigCell cX7_bigCell 2 (some .long) 2 := ⟨zinjR zsub3 231 rfl rfl, zinjR zsub1 1 rfl rfl, by decide +kernel, by decide +kernel, by decide +kernel⟩
set_option maxRecDepth 100000 in
theorem miX7_bigPut : zMi yX7_bigPut cX7_bigPut 4 none 3 := ⟨zinjR zsub4 2 rfl rfl, zinjR zsub1 1 rfl rfl, by decide +kernel, by decide +kernel, by decide +kernel⟩
set_option maxRecDepth 100000 in
theorem miX7_cell : zMi yX7_cell cX7_cell 2 (some .int) 2 := ⟨zinjR zsub2 141 rfl rfl, zinjR zsub1 1 rfl rfl, by decide +kernel, by decide +kernel, by decide +kernel⟩
set_option maxRecDepth 100000 in
theorem miX7_changed : zMi yX7_changed cX7_changed 2 (some .int) 1 := ⟨zinjR zsub4 69 rfl rfl, zinjR zsub1 1 rfl rfl, by decide +kernel, by decide +kernel, by decide +kernel⟩
set_option maxRecDepth 100000 in
theorem miX7_choice : zMi yX7_choice cX7_choice 3 (some .int) 2 := ⟨zinjR zsub5 131 rfl rfl, zinjR zsub1 1 rfl rfl, by decide +kernel, by decide +kernel, by decide +kernel⟩
set_option maxRecDepth 100000 in
theorem miX7_copy : zMi yX7_copy cX7_copy 3 none 2 := ⟨zinjR zsub3 160 rfl rfl, zinjR zsub1 1 rfl rfl, by decide +kernel, by decide +kernel, by decide +kernel⟩
set_option maxRecDepth 100000 in
theorem miX7_drawn : zMi yX7_drawn cX7_drawn 4 (some .int) 2 := ⟨zinjR zsub3 16 rfl rfl, zinjR zsub1 1 rfl rfl, by decide +kernel, by decide +kernel, by decide +kernel⟩
set_option maxRecDepth 100000 in
theorem miX7_feed : zMi yX7_feed cX7_feed 6 (some .int) 5 := ⟨zinjR zsub3 144 rfl rfl, zinjR zsub1 1 rfl rfl, by decide +kernel, by decide +kernel, by decide +kernel⟩
set_option maxRecDepth 100000 in
theorem miX7_fill : zMi yX7_fill cX7_fill 3 none 2 := ⟨zinjR zsub2 130 rfl rfl, zinjR zsub1 1 rfl rfl, by decide +kernel, by decide +kernel, by decide +kernel⟩
set_option maxRecDepth 100000 in
theorem miX7_hunter : zMi yX7_hunter cX7_hunter 3 (some .int) 2 := ⟨zinjR zsub5 152 rfl rfl, zinjR zsub1 1 rfl rfl, by decide +kernel, by decide +kernel, by decide +kernel⟩
set_option maxRecDepth 100000 in
theorem miX7_init : zMi yX7_init cX7_init 1 none 0 := ⟨zinjR zsub1 24 rfl rfl, zinjR zsub1 1 rfl rfl, by decide +kernel, by decide +kernel, by decide +kernel⟩
set_option maxRecDepth 100000 in
theorem miX7_isApplicant : zMi yX7_isApplicant cX7_isApplicant 2 (some .boolean) 1 := ⟨zinjR zsub3 20 rfl rfl, zinjR zsub1 1 rfl rfl, by decide +kernel, by decide +kernel, by decide +kernel⟩
set_option maxRecDepth 100000 in
theorem miX7_isHunter : zMi yX7_isHunter cX7_isHunter 2 (some .boolean) 1 := ⟨zinjR zsub5 156 rfl rfl, zinjR zsub1 1 rfl rfl, by decide +kernel, by decide +kernel, by decide +kernel⟩
set_option maxRecDepth 100000 in
theorem miX7_isSeed : zMi yX7_isSeed cX7_isSeed 1 (some .boolean) 1 := ⟨zinjR zsub2 237 rfl rfl, zinjR zsub1 1 rfl rfl, by decide +kernel, by decide +kernel, by decide +kernel⟩
set_option maxRecDepth 100000 in
theorem miX7_isUnit : zMi yX7_isUnit cX7_isUnit 2 (some .boolean) 1 := ⟨zinjR zsub5 110 rfl rfl, zinjR zsub1 1 rfl rfl, by decide +kernel, by decide +kernel, by decide +kernel⟩
set_option maxRecDepth 100000 in
theorem miX7_left : zMi yX7_left cX7_left 5 (some .int) 3 := ⟨zinjR zsub5 140 rfl rfl, zinjR zsub1 1 rfl rfl, by decide +kernel, by decide +kernel, by decide +kernel⟩
set_option maxRecDepth 100000 in
theorem miX7_load : zMi yX7_load cX7_load 3 (some .int) 1 := ⟨zinjR zsub3 153 rfl rfl, zinjR zsub1 1 rfl rfl, by decide +kernel, by decide +kernel, by decide +kernel⟩
set_option maxRecDepth 100000 in
theorem miX7_many : zMi yX7_many cX7_many 2 (some .int) 1 := ⟨zinjR zsub2 219 rfl rfl, zinjR zsub1 1 rfl rfl, by decide +kernel, by decide +kernel, by decide +kernel⟩
set_option maxRecDepth 100000 in
theorem miX7_order : zMi yX7_order cX7_order 3 (some .int) 2 := ⟨zinjR zsub2 234 rfl rfl, zinjR zsub1 1 rfl rfl, by decide +kernel, by decide +kernel, by decide +kernel⟩
set_option maxRecDepth 100000 in
theorem miX7_put : zMi yX7_put cX7_put 3 none 3 := ⟨zinjR zsub2 144 rfl rfl, zinjR zsub1 1 rfl rfl, by decide +kernel, by decide +kernel, by decide +kernel⟩
set_option maxRecDepth 100000 in
theorem miX7_refuse : zMi yX7_refuse cX7_refuse 2 (some .int) 1 := ⟨zinjR zsub2 230 rfl rfl, zinjR zsub1 1 rfl rfl, by decide +kernel, by decide +kernel, by decide +kernel⟩
set_option maxRecDepth 100000 in
theorem miX7_round : zMi yX7_round cX7_round 3 (some .int) 2 := ⟨zinjR zsub5 136 rfl rfl, zinjR zsub1 1 rfl rfl, by decide +kernel, by decide +kernel, by decide +kernel⟩
set_option maxRecDepth 100000 in
theorem miX7_status : zMi yX7_status cX7_status 1 (some .int) 0 := ⟨zinjR zsub2 215 rfl rfl, zinjR zsub1 1 rfl rfl, by decide +kernel, by decide +kernel, by decide +kernel⟩
set_option maxRecDepth 100000 in
theorem miX7_sum : zMi yX7_sum cX7_sum 3 (some .int) 1 := ⟨zinjR zsub2 226 rfl rfl, zinjR zsub1 1 rfl rfl, by decide +kernel, by decide +kernel, by decide +kernel⟩
set_option maxRecDepth 100000 in
theorem miX7_unit : zMi yX7_unit cX7_unit 3 (some .int) 2 := ⟨zinjR zsub5 106 rfl rfl, zinjR zsub1 1 rfl rfl, by decide +kernel, by decide +kernel, by decide +kernel⟩
set_option maxRecDepth 100000 in
theorem miX7_winners : zMi yX7_winners cX7_winners 4 (some .int) 1 := ⟨zinjR zsub3 58 rfl rfl, zinjR zsub1 1 rfl rfl, by decide +kernel, by decide +kernel, by decide +kernel⟩
theorem lm0_3 : Cond.methodLink RX0 3 Lib.objectInit ∈ zT := zinjR zsub2 70 rfl rfl
theorem lff0_9 : zFf RX0 9 0 0 (.array .long) := ⟨TX0, 5, tyX0, zc0, by decide, zinjR zsub2 73 rfl rfl, rfl, rfl, rfl⟩
theorem lff0_15 : zFf RX0 15 0 1 (.array .int) := ⟨TX0, 5, tyX0, zc0, by decide, zinjR zsub2 74 rfl rfl, rfl, rfl, rfl⟩
theorem lff0_19 : zFf RX0 19 0 2 (.array .long) := ⟨TX0, 5, tyX0, zc0, by decide, zinjR zsub2 75 rfl rfl, rfl, rfl, rfl⟩
theorem lff0_22 : zFf RX0 22 0 3 (.array .long) := ⟨TX0, 5, tyX0, zc0, by decide, zinjR zsub2 76 rfl rfl, rfl, rfl, rfl⟩
theorem ln0_25 : Cond.classLink RX0 25 RX5 ∈ zT := zinjR zsub2 71 rfl rfl
theorem lm0_27 : zLin RX0 27 yX5_init := ⟨⟨_, znest (h := "TagDraw") zsub2 72 (by decide +kernel)⟩, zinjR zsub2 35 rfl rfl, rfl⟩
theorem lff0_28 : zFf RX0 28 0 4 (.object "TagDraw$Result") := ⟨TX0, 5, tyX0, zc0, by decide, zinjR zsub2 77 rfl rfl, rfl, rfl, rfl⟩
theorem lf1_18 : zFl RX1 18 1 0 (.int) false := ⟨RX1, TX1, 3, tyX1, zc1, by decide, zinjR zsub1 184 rfl rfl, rfl, rfl, rfl⟩
theorem lm1_3 : Cond.methodLink RX1 3 Lib.objectInit ∈ zT := zinjR zsub1 180 rfl rfl
theorem ln1_9 : Cond.classLink RX1 9 RX4 ∈ zT := zinjR zsub1 181 rfl rfl
theorem lff1_11 : zFf RX1 11 1 2 (.array (.object "TagDraw$Register")) := ⟨TX1, 3, tyX1, zc1, by decide, zinjR zsub1 186 rfl rfl, rfl, rfl, rfl⟩
theorem lf1_11 : zFl RX1 11 1 2 (.array (.object "TagDraw$Register")) true := ⟨RX1, TX1, 3, tyX1, zc1, by decide, zinjR zsub1 186 rfl rfl, rfl, rfl, rfl⟩
theorem lm1_17 : zLin RX1 17 yX4_init := ⟨⟨_, znest (h := "TagDraw") zsub1 183 (by decide +kernel)⟩, zinjR zsub1 37 rfl rfl, rfl⟩
theorem lf2_52 : zFl RX2 52 2 1 (.int) false := ⟨RX2, TX2, 16, tyX2, zc2, by decide, zinjR zsub1 202 rfl rfl, rfl, rfl, rfl⟩
theorem lm2_119 : zLv RX2 119 yX2_rankOf := ⟨zinjR zsub5 115 rfl rfl, zinjR zsub5 116 rfl rfl, zinjR zsub5 117 rfl rfl⟩
theorem lf2_24 : zFl RX2 24 2 8 (.array .int) true := ⟨RX2, TX2, 16, tyX2, zc2, by decide, zinjR zsub1 219 rfl rfl, rfl, rfl, rfl⟩
theorem lm2_62 : zLsn RX2 62 yX7_cell := ⟨⟨_, znest (h := "TagDraw") zsub2 139 (by decide +kernel)⟩, zinjR zsub2 140 rfl rfl⟩
theorem lf2_30 : zFl RX2 30 2 10 (.array .int) true := ⟨RX2, TX2, 16, tyX2, zc2, by decide, zinjR zsub1 225 rfl rfl, rfl, rfl, rfl⟩
theorem lm2_96 : zLsn RX2 96 yX7_put := ⟨⟨_, znest (h := "TagDraw") zsub2 142 (by decide +kernel)⟩, zinjR zsub2 143 rfl rfl⟩
theorem lf2_33 : zFl RX2 33 2 11 (.array .int) true := ⟨RX2, TX2, 16, tyX2, zc2, by decide, zinjR zsub1 228 rfl rfl, rfl, rfl, rfl⟩
theorem lf2_27 : zFl RX2 27 2 9 (.array .int) true := ⟨RX2, TX2, 16, tyX2, zc2, by decide, zinjR zsub1 222 rfl rfl, rfl, rfl, rfl⟩
theorem lm2_48 : zLv RX2 48 yX2_gatherUnits := ⟨zinjR zsub2 135 rfl rfl, zinjR zsub2 137 rfl rfl, zin 0 (by decide +kernel)⟩
theorem lf2_56 : zFl RX2 56 4 1 (.int) false := ⟨RX4, TX4, 14, tyX4, zc4, by decide, zinjR zsub1 45 rfl rfl, rfl, rfl, rfl⟩
theorem lf2_61 : zFl RX2 61 4 10 (.array .int) true := ⟨RX4, TX4, 14, tyX4, zc4, by decide, zinjR zsub1 76 rfl rfl, rfl, rfl, rfl⟩
theorem lm2_66 : zLv RX2 66 yX2_open := ⟨zinjR zsub2 145 rfl rfl, zinjR zsub2 147 rfl rfl, zin 1 (by decide +kernel)⟩
theorem lm2_70 : zLv RX2 70 yX2_join := ⟨zinjR zsub2 149 rfl rfl, zinjR zsub2 151 rfl rfl, zin 2 (by decide +kernel)⟩
theorem lf2_74 : zFl RX2 74 4 2 (.int) false := ⟨RX4, TX4, 14, tyX4, zc4, by decide, zinjR zsub1 49 rfl rfl, rfl, rfl, rfl⟩
theorem lf2_77 : zFl RX2 77 2 2 (.int) false := ⟨RX2, TX2, 16, tyX2, zc2, by decide, zinjR zsub1 205 rfl rfl, rfl, rfl, rfl⟩
theorem lf2_80 : zFl RX2 80 4 3 (.int) false := ⟨RX4, TX4, 14, tyX4, zc4, by decide, zinjR zsub1 53 rfl rfl, rfl, rfl, rfl⟩
theorem lm2_83 : zLv RX2 83 yX2_close := ⟨zinjR zsub2 156 rfl rfl, zinjR zsub2 158 rfl rfl, zin 3 (by decide +kernel)⟩
theorem lf2_87 : zFl RX2 87 4 0 (.int) false := ⟨RX4, TX4, 14, tyX4, zc4, by decide, zinjR zsub1 41 rfl rfl, rfl, rfl, rfl⟩
theorem lf2_90 : zFl RX2 90 2 0 (.int) false := ⟨RX2, TX2, 16, tyX2, zc2, by decide, zinjR zsub1 200 rfl rfl, rfl, rfl, rfl⟩
theorem lf2_91 : zFl RX2 91 2 3 (.boolean) false := ⟨RX2, TX2, 16, tyX2, zc2, by decide, zinjR zsub1 207 rfl rfl, rfl, rfl, rfl⟩
theorem lf2_95 : zFl RX2 95 4 7 (.array .int) true := ⟨RX4, TX4, 14, tyX4, zc4, by decide, zinjR zsub1 67 rfl rfl, rfl, rfl, rfl⟩
theorem lf2_9 : zFl RX2 9 2 4 (.array .int) true := ⟨RX2, TX2, 16, tyX2, zc2, by decide, zinjR zsub1 209 rfl rfl, rfl, rfl, rfl⟩
theorem lf2_15 : zFl RX2 15 2 5 (.array .int) true := ⟨RX2, TX2, 16, tyX2, zc2, by decide, zinjR zsub1 211 rfl rfl, rfl, rfl, rfl⟩
theorem lf2_100 : zFl RX2 100 4 4 (.int) false := ⟨RX4, TX4, 14, tyX4, zc4, by decide, zinjR zsub1 57 rfl rfl, rfl, rfl, rfl⟩
theorem lf2_18 : zFl RX2 18 2 6 (.array .int) true := ⟨RX2, TX2, 16, tyX2, zc2, by decide, zinjR zsub1 214 rfl rfl, rfl, rfl, rfl⟩
theorem lf2_103 : zFl RX2 103 4 5 (.int) false := ⟨RX4, TX4, 14, tyX4, zc4, by decide, zinjR zsub1 61 rfl rfl, rfl, rfl, rfl⟩
theorem lm2_3 : Cond.methodLink RX2 3 Lib.objectInit ∈ zT := zinjR zsub1 199 rfl rfl
theorem lff2_9 : zFf RX2 9 2 4 (.array .int) := ⟨TX2, 16, tyX2, zc2, by decide, zinjR zsub1 209 rfl rfl, rfl, rfl, rfl⟩
theorem lff2_15 : zFf RX2 15 2 5 (.array .int) := ⟨TX2, 16, tyX2, zc2, by decide, zinjR zsub1 211 rfl rfl, rfl, rfl, rfl⟩
theorem lff2_18 : zFf RX2 18 2 6 (.array .int) := ⟨TX2, 16, tyX2, zc2, by decide, zinjR zsub1 214 rfl rfl, rfl, rfl, rfl⟩
theorem lff2_21 : zFf RX2 21 2 7 (.array .int) := ⟨TX2, 16, tyX2, zc2, by decide, zinjR zsub1 217 rfl rfl, rfl, rfl, rfl⟩
theorem lff2_24 : zFf RX2 24 2 8 (.array .int) := ⟨TX2, 16, tyX2, zc2, by decide, zinjR zsub1 219 rfl rfl, rfl, rfl, rfl⟩
theorem lff2_27 : zFf RX2 27 2 9 (.array .int) := ⟨TX2, 16, tyX2, zc2, by decide, zinjR zsub1 222 rfl rfl, rfl, rfl, rfl⟩
theorem lff2_30 : zFf RX2 30 2 10 (.array .int) := ⟨TX2, 16, tyX2, zc2, by decide, zinjR zsub1 225 rfl rfl, rfl, rfl, rfl⟩
theorem lff2_33 : zFf RX2 33 2 11 (.array .int) := ⟨TX2, 16, tyX2, zc2, by decide, zinjR zsub1 228 rfl rfl, rfl, rfl, rfl⟩
theorem lff2_36 : zFf RX2 36 2 12 (.array .int) := ⟨TX2, 16, tyX2, zc2, by decide, zinjR zsub1 231 rfl rfl, rfl, rfl, rfl⟩
theorem lff2_39 : zFf RX2 39 2 13 (.array .int) := ⟨TX2, 16, tyX2, zc2, by decide, zinjR zsub1 233 rfl rfl, rfl, rfl, rfl⟩
theorem lff2_42 : zFf RX2 42 2 14 (.array .int) := ⟨TX2, 16, tyX2, zc2, by decide, zinjR zsub1 235 rfl rfl, rfl, rfl, rfl⟩
theorem lff2_45 : zFf RX2 45 2 15 (.array .int) := ⟨TX2, 16, tyX2, zc2, by decide, zinjR zsub1 238 rfl rfl, rfl, rfl, rfl⟩
theorem lf2_21 : zFl RX2 21 2 7 (.array .int) true := ⟨RX2, TX2, 16, tyX2, zc2, by decide, zinjR zsub1 217 rfl rfl, rfl, rfl, rfl⟩
theorem lm2_106 : zLsn RX2 106 yX7_add := ⟨⟨_, znest (h := "TagDraw") zsub2 153 (by decide +kernel)⟩, zinjR zsub2 154 rfl rfl⟩
theorem lf2_109 : zFl RX2 109 4 9 (.array .int) true := ⟨RX4, TX4, 14, tyX4, zc4, by decide, zinjR zsub1 73 rfl rfl, rfl, rfl, rfl⟩
theorem lf2_112 : zFl RX2 112 4 8 (.array .int) true := ⟨RX4, TX4, 14, tyX4, zc4, by decide, zinjR zsub1 70 rfl rfl, rfl, rfl, rfl⟩
theorem lf2_36 : zFl RX2 36 2 12 (.array .int) true := ⟨RX2, TX2, 16, tyX2, zc2, by decide, zinjR zsub1 231 rfl rfl, rfl, rfl, rfl⟩
theorem lf2_42 : zFl RX2 42 2 14 (.array .int) true := ⟨RX2, TX2, 16, tyX2, zc2, by decide, zinjR zsub1 235 rfl rfl, rfl, rfl, rfl⟩
theorem lf2_113 : zFl RX2 113 4 11 (.array .int) true := ⟨RX4, TX4, 14, tyX4, zc4, by decide, zinjR zsub1 80 rfl rfl, rfl, rfl, rfl⟩
theorem lf2_45 : zFl RX2 45 2 15 (.array .int) true := ⟨RX2, TX2, 16, tyX2, zc2, by decide, zinjR zsub1 238 rfl rfl, rfl, rfl, rfl⟩
theorem lf2_114 : zFl RX2 114 4 12 (.array .int) true := ⟨RX4, TX4, 14, tyX4, zc4, by decide, zinjR zsub1 83 rfl rfl, rfl, rfl, rfl⟩
theorem lf2_39 : zFl RX2 39 2 13 (.array .int) true := ⟨RX2, TX2, 16, tyX2, zc2, by decide, zinjR zsub1 233 rfl rfl, rfl, rfl, rfl⟩
theorem lm2_115 : zLv RX2 115 yX2_wish := ⟨zinjR zsub5 119 rfl rfl, zinjR zsub3 39 rfl rfl, zinjR zsub3 40 rfl rfl⟩
theorem lf3_33 : zFl RX3 33 3 15 (.array .long) true := ⟨RX3, TX3, 18, tyX3, zc3, by decide, zinjR zsub1 132 rfl rfl, rfl, rfl, rfl⟩
theorem lf3_12 : zFl RX3 12 3 0 (.object "TagDraw$Register") true := ⟨RX3, TX3, 18, tyX3, zc3, by decide, zinjR zsub1 116 rfl rfl, rfl, rfl, rfl⟩
theorem lf3_151 : zFl RX3 151 4 1 (.int) false := ⟨RX4, TX4, 14, tyX4, zc4, by decide, zinjR zsub1 47 rfl rfl, rfl, rfl, rfl⟩
theorem lf3_104 : zFl RX3 104 3 8 (.long) false := ⟨RX3, TX3, 18, tyX3, zc3, by decide, zinjR zsub1 125 rfl rfl, rfl, rfl, rfl⟩
theorem lm3_202 : zLs RX3 202 yX3_find := ⟨zinjR zsub3 226 rfl rfl, zinjR zsub3 227 rfl rfl⟩
theorem lm3_206 : zLv RX3 206 yX3_isFree := ⟨zinjR zsub4 20 rfl rfl, zinjR zsub4 22 rfl rfl, zin 26 (by decide +kernel)⟩
theorem lf3_36 : zFl RX3 36 3 16 (.array .long) true := ⟨RX3, TX3, 18, tyX3, zc3, by decide, zinjR zsub1 133 rfl rfl, rfl, rfl, rfl⟩
theorem lf3_157 : zFl RX3 157 4 2 (.int) false := ⟨RX4, TX4, 14, tyX4, zc4, by decide, zinjR zsub1 51 rfl rfl, rfl, rfl, rfl⟩
theorem lf3_250 : zFl RX3 250 4 10 (.array .int) true := ⟨RX4, TX4, 14, tyX4, zc4, by decide, zinjR zsub1 78 rfl rfl, rfl, rfl, rfl⟩
theorem lm3_81 : zLsn RX3 81 yX7_cell := ⟨⟨_, znest (h := "TagDraw") zsub3 169 (by decide +kernel)⟩, zinjR zsub2 140 rfl rfl⟩
theorem lf3_252 : zFl RX3 252 4 11 (.array .int) true := ⟨RX4, TX4, 14, tyX4, zc4, by decide, zinjR zsub1 81 rfl rfl, rfl, rfl, rfl⟩
theorem lf3_74 : zFl RX3 74 3 6 (.int) false := ⟨RX3, TX3, 18, tyX3, zc3, by decide, zinjR zsub1 123 rfl rfl, rfl, rfl, rfl⟩
theorem lm3_148 : zLv RX3 148 yX3_fail := ⟨zinjR zsub3 218 rfl rfl, zinjR zsub3 220 rfl rfl, zin 20 (by decide +kernel)⟩
theorem lm3_71 : zLv RX3 71 yX3_step := ⟨zinjR zsub3 165 rfl rfl, zinjR zsub3 167 rfl rfl, zin 12 (by decide +kernel)⟩
theorem lf3_18 : zFl RX3 18 3 1 (.int) false := ⟨RX3, TX3, 18, tyX3, zc3, by decide, zinjR zsub1 118 rfl rfl, rfl, rfl, rfl⟩
theorem lf3_89 : zFl RX3 89 3 7 (.int) false := ⟨RX3, TX3, 18, tyX3, zc3, by decide, zinjR zsub1 124 rfl rfl, rfl, rfl, rfl⟩
theorem lf3_22 : zFl RX3 22 3 2 (.int) false := ⟨RX3, TX3, 18, tyX3, zc3, by decide, zinjR zsub1 119 rfl rfl, rfl, rfl, rfl⟩
theorem lm3_246 : zLsn RX3 246 yX7_bigCell := ⟨⟨_, znest (h := "TagDraw") zsub3 229 (by decide +kernel)⟩, zinjR zsub3 230 rfl rfl⟩
theorem lm3_3 : Cond.methodLink RX3 3 Lib.objectInit ∈ zT := zinjR zsub1 33 rfl rfl
theorem ln3_9 : Cond.classLink RX3 9 RX4 ∈ zT := zinjR zsub1 34 rfl rfl
theorem lm3_11 : zLin RX3 11 yX4_init := ⟨⟨_, znest (h := "TagDraw") zsub1 36 (by decide +kernel)⟩, zinjR zsub1 37 rfl rfl, rfl⟩
theorem lff3_12 : zFf RX3 12 3 0 (.object "TagDraw$Register") := ⟨TX3, 18, tyX3, zc3, by decide, zinjR zsub1 116 rfl rfl, rfl, rfl, rfl⟩
theorem lff3_25 : zFf RX3 25 3 3 (.array .int) := ⟨TX3, 18, tyX3, zc3, by decide, zinjR zsub1 120 rfl rfl, rfl, rfl, rfl⟩
theorem lff3_29 : zFf RX3 29 3 14 (.array .long) := ⟨TX3, 18, tyX3, zc3, by decide, zinjR zsub1 131 rfl rfl, rfl, rfl, rfl⟩
theorem lff3_33 : zFf RX3 33 3 15 (.array .long) := ⟨TX3, 18, tyX3, zc3, by decide, zinjR zsub1 132 rfl rfl, rfl, rfl, rfl⟩
theorem lff3_36 : zFf RX3 36 3 16 (.array .long) := ⟨TX3, 18, tyX3, zc3, by decide, zinjR zsub1 133 rfl rfl, rfl, rfl, rfl⟩
theorem lff3_39 : zFf RX3 39 3 17 (.array .int) := ⟨TX3, 18, tyX3, zc3, by decide, zinjR zsub1 134 rfl rfl, rfl, rfl, rfl⟩
theorem lm3_124 : zLv RX3 124 yX3_says := ⟨zinjR zsub3 193 rfl rfl, zinjR zsub3 195 rfl rfl, zin 16 (by decide +kernel)⟩
theorem lf3_29 : zFl RX3 29 3 14 (.array .long) true := ⟨RX3, TX3, 18, tyX3, zc3, by decide, zinjR zsub1 131 rfl rfl, rfl, rfl, rfl⟩
theorem lf3_142 : zFl RX3 142 4 0 (.int) false := ⟨RX4, TX4, 14, tyX4, zc4, by decide, zinjR zsub1 43 rfl rfl, rfl, rfl, rfl⟩
theorem lf3_110 : zFl RX3 110 3 9 (.int) false := ⟨RX3, TX3, 18, tyX3, zc3, by decide, zinjR zsub1 126 rfl rfl, rfl, rfl, rfl⟩
theorem lf3_25 : zFl RX3 25 3 3 (.array .int) true := ⟨RX3, TX3, 18, tyX3, zc3, by decide, zinjR zsub1 120 rfl rfl, rfl, rfl, rfl⟩
theorem lm3_42 : zLsn RX3 42 yX7_copy := ⟨⟨_, znest (h := "TagDraw") zsub3 158 (by decide +kernel)⟩, zinjR zsub3 159 rfl rfl⟩
theorem lm3_46 : Cond.methodLink RX3 46 Lib.Math.min.name ∈ zT := zinjR zsub3 161 rfl rfl
theorem lf3_52 : zFl RX3 52 3 4 (.int) false := ⟨RX3, TX3, 18, tyX3, zc3, by decide, zinjR zsub1 121 rfl rfl, rfl, rfl, rfl⟩
theorem lf3_55 : zFl RX3 55 3 5 (.int) false := ⟨RX3, TX3, 18, tyX3, zc3, by decide, zinjR zsub1 122 rfl rfl, rfl, rfl, rfl⟩
theorem lf3_58 : zFl RX3 58 3 11 (.boolean) false := ⟨RX3, TX3, 18, tyX3, zc3, by decide, zinjR zsub1 128 rfl rfl, rfl, rfl, rfl⟩
theorem lf3_62 : zFl RX3 62 3 12 (.boolean) false := ⟨RX3, TX3, 18, tyX3, zc3, by decide, zinjR zsub1 129 rfl rfl, rfl, rfl, rfl⟩
theorem lf3_65 : zFl RX3 65 3 13 (.boolean) false := ⟨RX3, TX3, 18, tyX3, zc3, by decide, zinjR zsub1 130 rfl rfl, rfl, rfl, rfl⟩
theorem lm3_68 : zLv RX3 68 yX4_clear := ⟨zinjR zsub3 164 rfl rfl, zinjR zsub2 125 rfl rfl, zinjR zsub2 126 rfl rfl⟩
theorem lm3_77 : zLv RX3 77 yX3_readLine := ⟨zinjR zsub3 188 rfl rfl, zinjR zsub3 190 rfl rfl, zin 15 (by decide +kernel)⟩
theorem lm3_199 : zLv RX3 199 yX3_isName := ⟨zinjR zsub3 207 rfl rfl, zinjR zsub3 209 rfl rfl, zin 19 (by decide +kernel)⟩
theorem lm3_212 : zLv RX3 212 yX3_asker := ⟨zinjR zsub4 32 rfl rfl, zinjR zsub4 34 rfl rfl, zin 28 (by decide +kernel)⟩
theorem lf3_39 : zFl RX3 39 3 17 (.array .int) true := ⟨RX3, TX3, 18, tyX3, zc3, by decide, zinjR zsub1 134 rfl rfl, rfl, rfl, rfl⟩
theorem lm3_215 : zLsn RX3 215 yX7_fill := ⟨⟨_, znest (h := "TagDraw") zsub4 36 (by decide +kernel)⟩, zinjR zsub2 129 rfl rfl⟩
theorem lm3_219 : zLsn RX3 219 yX7_put := ⟨⟨_, znest (h := "TagDraw") zsub4 37 (by decide +kernel)⟩, zinjR zsub2 143 rfl rfl⟩
theorem lm3_181 : zLv RX3 181 yX3_endOfLine := ⟨zinjR zsub3 236 rfl rfl, zinjR zsub3 238 rfl rfl, zin 23 (by decide +kernel)⟩
theorem lm3_223 : zLv RX3 223 yX4_wishFor := ⟨zinjR zsub4 38 rfl rfl, zinjR zsub4 39 rfl rfl, zinjR zsub4 40 rfl rfl⟩
theorem lm3_178 : zLv RX3 178 yX3_numberUpTo := ⟨zinjR zsub3 232 rfl rfl, zinjR zsub3 234 rfl rfl, zin 22 (by decide +kernel)⟩
theorem lf3_239 : zFl RX3 239 4 5 (.int) false := ⟨RX4, TX4, 14, tyX4, zc4, by decide, zinjR zsub1 63 rfl rfl, rfl, rfl, rfl⟩
theorem lm3_175 : zLv RX3 175 yX3_readNewName := ⟨zinjR zsub3 203 rfl rfl, zinjR zsub3 205 rfl rfl, zin 18 (by decide +kernel)⟩
theorem lf3_184 : zFl RX3 184 3 10 (.long) false := ⟨RX3, TX3, 18, tyX3, zc3, by decide, zinjR zsub1 127 rfl rfl, rfl, rfl, rfl⟩
theorem lm3_187 : zLsn RX3 187 yX7_bigPut := ⟨⟨_, znest (h := "TagDraw") zsub4 0 (by decide +kernel)⟩, zinjR zsub4 1 rfl rfl⟩
theorem lm3_195 : zLv RX3 195 yX4_addHunter := ⟨zinjR zsub4 12 rfl rfl, zinjR zsub4 13 rfl rfl, zinjR zsub4 14 rfl rfl⟩
theorem lf3_229 : zFl RX3 229 4 3 (.int) false := ⟨RX4, TX4, 14, tyX4, zc4, by decide, zinjR zsub1 55 rfl rfl, rfl, rfl, rfl⟩
theorem lm3_145 : zLv RX3 145 yX3_readUnit := ⟨zinjR zsub3 199 rfl rfl, zinjR zsub3 201 rfl rfl, zin 17 (by decide +kernel)⟩
theorem lm3_154 : zLv RX3 154 yX3_readHunter := ⟨zinjR zsub4 8 rfl rfl, zinjR zsub4 10 rfl rfl, zin 24 (by decide +kernel)⟩
theorem lm3_160 : zLv RX3 160 yX3_readParty := ⟨zinjR zsub4 16 rfl rfl, zinjR zsub4 18 rfl rfl, zin 25 (by decide +kernel)⟩
theorem lm3_163 : zLv RX3 163 yX3_readAsks := ⟨zinjR zsub4 28 rfl rfl, zinjR zsub4 30 rfl rfl, zin 27 (by decide +kernel)⟩
theorem lm3_166 : zLv RX3 166 yX3_readLaw := ⟨zinjR zsub4 42 rfl rfl, zinjR zsub4 44 rfl rfl, zin 29 (by decide +kernel)⟩
theorem lm3_169 : zLv RX3 169 yX3_readPrefer := ⟨zinjR zsub4 49 rfl rfl, zinjR zsub4 51 rfl rfl, zin 30 (by decide +kernel)⟩
theorem lm3_172 : zLv RX3 172 yX3_readGuests := ⟨zinjR zsub4 53 rfl rfl, zinjR zsub4 55 rfl rfl, zin 31 (by decide +kernel)⟩
theorem lm3_242 : zLv RX3 242 yX3_isTaken := ⟨zinjR zsub3 222 rfl rfl, zinjR zsub3 224 rfl rfl, zin 21 (by decide +kernel)⟩
theorem lm3_209 : zLv RX3 209 yX4_addParty := ⟨zinjR zsub4 24 rfl rfl, zinjR zsub4 25 rfl rfl, zinjR zsub4 26 rfl rfl⟩
theorem lf3_236 : zFl RX3 236 4 4 (.int) false := ⟨RX4, TX4, 14, tyX4, zc4, by decide, zinjR zsub1 59 rfl rfl, rfl, rfl, rfl⟩
theorem lm3_191 : zLv RX3 191 yX4_addUnit := ⟨zinjR zsub4 3 rfl rfl, zinjR zsub4 4 rfl rfl, zinjR zsub4 5 rfl rfl⟩
theorem lm3_113 : zLv RX3 113 yJ0_length_8abf5 := ⟨zinjR zsub3 197 rfl rfl, zinjR zsub3 91 rfl rfl, zinjR zsub3 92 rfl rfl⟩
theorem lm3_118 : zLv RX3 118 yJ0_charAt_5068e := ⟨zinjR zsub3 198 rfl rfl, zinjR zsub3 104 rfl rfl, zinjR zsub3 105 rfl rfl⟩
theorem lm3_85 : zLs RX3 85 yX3_isBlank := ⟨zinjR zsub3 170 rfl rfl, zinjR zsub3 171 rfl rfl⟩
theorem lm3_92 : zLs RX3 92 yX3_isLetter := ⟨zinjR zsub3 173 rfl rfl, zinjR zsub3 174 rfl rfl⟩
theorem lm3_95 : zLv RX3 95 yX3_stepWord := ⟨zinjR zsub3 176 rfl rfl, zinjR zsub3 178 rfl rfl, zin 13 (by decide +kernel)⟩
theorem lm3_98 : zLs RX3 98 yX3_isDigit := ⟨zinjR zsub3 181 rfl rfl, zinjR zsub3 182 rfl rfl⟩
theorem lm3_101 : zLv RX3 101 yX3_stepNumber := ⟨zinjR zsub3 184 rfl rfl, zinjR zsub3 186 rfl rfl, zin 14 (by decide +kernel)⟩
theorem lk3_108 : Cond.constantLong RX3 108 (27) ∈ zT := zinjR zsub3 180 rfl rfl
theorem lf4_15 : zFl RX4 15 4 8 (.array .int) true := ⟨RX4, TX4, 14, tyX4, zc4, by decide, zinjR zsub1 69 rfl rfl, rfl, rfl, rfl⟩
theorem lf4_37 : zFl RX4 37 4 1 (.int) false := ⟨RX4, TX4, 14, tyX4, zc4, by decide, zinjR zsub1 44 rfl rfl, rfl, rfl, rfl⟩
theorem lm4_63 : zLsn RX4 63 yX7_put := ⟨⟨_, znest (h := "TagDraw") zsub4 7 (by decide +kernel)⟩, zinjR zsub2 143 rfl rfl⟩
theorem lf4_18 : zFl RX4 18 4 9 (.array .int) true := ⟨RX4, TX4, 14, tyX4, zc4, by decide, zinjR zsub1 72 rfl rfl, rfl, rfl, rfl⟩
theorem lf4_21 : zFl RX4 21 4 10 (.array .int) true := ⟨RX4, TX4, 14, tyX4, zc4, by decide, zinjR zsub1 75 rfl rfl, rfl, rfl, rfl⟩
theorem lf4_40 : zFl RX4 40 4 2 (.int) false := ⟨RX4, TX4, 14, tyX4, zc4, by decide, zinjR zsub1 48 rfl rfl, rfl, rfl, rfl⟩
theorem lf4_9 : zFl RX4 9 4 7 (.array .int) true := ⟨RX4, TX4, 14, tyX4, zc4, by decide, zinjR zsub1 66 rfl rfl, rfl, rfl, rfl⟩
theorem lf4_33 : zFl RX4 33 4 0 (.int) false := ⟨RX4, TX4, 14, tyX4, zc4, by decide, zinjR zsub1 40 rfl rfl, rfl, rfl, rfl⟩
theorem lf4_43 : zFl RX4 43 4 3 (.int) false := ⟨RX4, TX4, 14, tyX4, zc4, by decide, zinjR zsub1 52 rfl rfl, rfl, rfl, rfl⟩
theorem lf4_46 : zFl RX4 46 4 4 (.int) false := ⟨RX4, TX4, 14, tyX4, zc4, by decide, zinjR zsub1 56 rfl rfl, rfl, rfl, rfl⟩
theorem lf4_49 : zFl RX4 49 4 5 (.int) false := ⟨RX4, TX4, 14, tyX4, zc4, by decide, zinjR zsub1 60 rfl rfl, rfl, rfl, rfl⟩
theorem lf4_52 : zFl RX4 52 4 6 (.int) false := ⟨RX4, TX4, 14, tyX4, zc4, by decide, zinjR zsub1 64 rfl rfl, rfl, rfl, rfl⟩
theorem lm4_55 : zLsn RX4 55 yX7_fill := ⟨⟨_, znest (h := "TagDraw") zsub2 128 (by decide +kernel)⟩, zinjR zsub2 129 rfl rfl⟩
theorem lf4_24 : zFl RX4 24 4 11 (.array .int) true := ⟨RX4, TX4, 14, tyX4, zc4, by decide, zinjR zsub1 79 rfl rfl, rfl, rfl, rfl⟩
theorem lf4_27 : zFl RX4 27 4 12 (.array .int) true := ⟨RX4, TX4, 14, tyX4, zc4, by decide, zinjR zsub1 82 rfl rfl, rfl, rfl, rfl⟩
theorem lf4_30 : zFl RX4 30 4 13 (.array .int) true := ⟨RX4, TX4, 14, tyX4, zc4, by decide, zinjR zsub1 84 rfl rfl, rfl, rfl, rfl⟩
theorem lm4_3 : Cond.methodLink RX4 3 Lib.objectInit ∈ zT := zinjR zsub1 39 rfl rfl
theorem lff4_9 : zFf RX4 9 4 7 (.array .int) := ⟨TX4, 14, tyX4, zc4, by decide, zinjR zsub1 66 rfl rfl, rfl, rfl, rfl⟩
theorem lff4_15 : zFf RX4 15 4 8 (.array .int) := ⟨TX4, 14, tyX4, zc4, by decide, zinjR zsub1 69 rfl rfl, rfl, rfl, rfl⟩
theorem lff4_18 : zFf RX4 18 4 9 (.array .int) := ⟨TX4, 14, tyX4, zc4, by decide, zinjR zsub1 72 rfl rfl, rfl, rfl, rfl⟩
theorem lff4_21 : zFf RX4 21 4 10 (.array .int) := ⟨TX4, 14, tyX4, zc4, by decide, zinjR zsub1 75 rfl rfl, rfl, rfl, rfl⟩
theorem lff4_24 : zFf RX4 24 4 11 (.array .int) := ⟨TX4, 14, tyX4, zc4, by decide, zinjR zsub1 79 rfl rfl, rfl, rfl, rfl⟩
theorem lff4_27 : zFf RX4 27 4 12 (.array .int) := ⟨TX4, 14, tyX4, zc4, by decide, zinjR zsub1 82 rfl rfl, rfl, rfl, rfl⟩
theorem lff4_30 : zFf RX4 30 4 13 (.array .int) := ⟨TX4, 14, tyX4, zc4, by decide, zinjR zsub1 84 rfl rfl, rfl, rfl, rfl⟩
theorem lm4_59 : zLsn RX4 59 yX7_copy := ⟨⟨_, znest (h := "TagDraw") zsub4 61 (by decide +kernel)⟩, zinjR zsub3 159 rfl rfl⟩
theorem lm5_33 : zLv RX5 33 yX5_lineUp := ⟨zinjR zsub3 25 rfl rfl, zinjR zsub3 0 rfl rfl, zinjR zsub3 1 rfl rfl⟩
theorem lm5_37 : zLv RX5 37 yX5_settle := ⟨zinjR zsub3 26 rfl rfl, zinjR zsub3 27 rfl rfl, zinjR zsub3 28 rfl rfl⟩
theorem lf5_47 : zFl RX5 47 2 1 (.int) false := ⟨RX2, TX2, 16, tyX2, zc2, by decide, zinjR zsub1 203 rfl rfl, rfl, rfl, rfl⟩
theorem lf5_15 : zFl RX5 15 5 1 (.array .int) true := ⟨RX5, TX5, 7, tyX5, zc5, by decide, zinjR zsub2 40 rfl rfl, rfl, rfl, rfl⟩
theorem lm5_69 : zLsn RX5 69 yX7_cell := ⟨⟨_, znest (h := "TagDraw") zsub3 10 (by decide +kernel)⟩, zinjR zsub2 140 rfl rfl⟩
theorem lf5_116 : zFl RX5 116 2 10 (.array .int) true := ⟨RX2, TX2, 16, tyX2, zc2, by decide, zinjR zsub1 226 rfl rfl, rfl, rfl, rfl⟩
theorem lm5_95 : zLv RX5 95 yX5_rank := ⟨zinjR zsub3 34 rfl rfl, zinjR zsub3 36 rfl rfl, zin 8 (by decide +kernel)⟩
theorem lf5_30 : zFl RX5 30 5 6 (.array .int) true := ⟨RX5, TX5, 7, tyX5, zc5, by decide, zinjR zsub2 49 rfl rfl, rfl, rfl, rfl⟩
theorem lm5_98 : zLv RX5 98 yX2_wish := ⟨zinjR zsub3 38 rfl rfl, zinjR zsub3 39 rfl rfl, zinjR zsub3 40 rfl rfl⟩
theorem lf5_27 : zFl RX5 27 5 5 (.array .int) true := ⟨RX5, TX5, 7, tyX5, zc5, by decide, zinjR zsub2 48 rfl rfl, rfl, rfl, rfl⟩
theorem lf5_24 : zFl RX5 24 5 4 (.array .int) true := ⟨RX5, TX5, 7, tyX5, zc5, by decide, zinjR zsub2 46 rfl rfl, rfl, rfl, rfl⟩
theorem lm5_102 : zLv RX5 102 yX2_fits := ⟨zinjR zsub3 42 rfl rfl, zinjR zsub3 43 rfl rfl, zinjR zsub3 44 rfl rfl⟩
theorem lf5_106 : zFl RX5 106 2 8 (.array .int) true := ⟨RX2, TX2, 16, tyX2, zc2, by decide, zinjR zsub1 220 rfl rfl, rfl, rfl, rfl⟩
theorem lm5_109 : zLsn RX5 109 yX7_add := ⟨⟨_, znest (h := "TagDraw") zsub3 46 (by decide +kernel)⟩, zinjR zsub2 154 rfl rfl⟩
theorem lm5_112 : zLv RX5 112 yX5_hold := ⟨zinjR zsub3 47 rfl rfl, zinjR zsub3 49 rfl rfl, zin 9 (by decide +kernel)⟩
theorem lm5_62 : zLsn RX5 62 yX7_put := ⟨⟨_, znest (h := "TagDraw") zsub3 11 (by decide +kernel)⟩, zinjR zsub2 143 rfl rfl⟩
theorem lf5_18 : zFl RX5 18 5 2 (.array .int) true := ⟨RX5, TX5, 7, tyX5, zc5, by decide, zinjR zsub2 42 rfl rfl, rfl, rfl, rfl⟩
theorem lf5_21 : zFl RX5 21 5 3 (.array .int) true := ⟨RX5, TX5, 7, tyX5, zc5, by decide, zinjR zsub2 44 rfl rfl, rfl, rfl, rfl⟩
theorem lf5_122 : zFl RX5 122 2 9 (.array .int) true := ⟨RX2, TX2, 16, tyX2, zc2, by decide, zinjR zsub1 223 rfl rfl, rfl, rfl, rfl⟩
theorem lf5_66 : zFl RX5 66 2 11 (.array .int) true := ⟨RX2, TX2, 16, tyX2, zc2, by decide, zinjR zsub1 229 rfl rfl, rfl, rfl, rfl⟩
theorem lm5_3 : Cond.methodLink RX5 3 Lib.objectInit ∈ zT := zinjR zsub2 37 rfl rfl
theorem lff5_9 : zFf RX5 9 5 0 (.array .int) := ⟨TX5, 7, tyX5, zc5, by decide, zinjR zsub2 38 rfl rfl, rfl, rfl, rfl⟩
theorem lff5_15 : zFf RX5 15 5 1 (.array .int) := ⟨TX5, 7, tyX5, zc5, by decide, zinjR zsub2 40 rfl rfl, rfl, rfl, rfl⟩
theorem lff5_18 : zFf RX5 18 5 2 (.array .int) := ⟨TX5, 7, tyX5, zc5, by decide, zinjR zsub2 42 rfl rfl, rfl, rfl, rfl⟩
theorem lff5_21 : zFf RX5 21 5 3 (.array .int) := ⟨TX5, 7, tyX5, zc5, by decide, zinjR zsub2 44 rfl rfl, rfl, rfl, rfl⟩
theorem lff5_24 : zFf RX5 24 5 4 (.array .int) := ⟨TX5, 7, tyX5, zc5, by decide, zinjR zsub2 46 rfl rfl, rfl, rfl, rfl⟩
theorem lff5_27 : zFf RX5 27 5 5 (.array .int) := ⟨TX5, 7, tyX5, zc5, by decide, zinjR zsub2 48 rfl rfl, rfl, rfl, rfl⟩
theorem lff5_30 : zFf RX5 30 5 6 (.array .int) := ⟨TX5, 7, tyX5, zc5, by decide, zinjR zsub2 49 rfl rfl, rfl, rfl, rfl⟩
theorem lf5_41 : zFl RX5 41 2 2 (.int) false := ⟨RX2, TX2, 16, tyX2, zc2, by decide, zinjR zsub1 206 rfl rfl, rfl, rfl, rfl⟩
theorem lk5_50 : Cond.constantLong RX5 50 (1103515245) ∈ zT := zinjR zsub3 3 rfl rfl
theorem lk5_52 : Cond.constantLong RX5 52 (12345) ∈ zT := zinjR zsub3 4 rfl rfl
theorem lk5_54 : Cond.constantLong RX5 54 (2147483648) ∈ zT := zinjR zsub3 5 rfl rfl
theorem lk5_56 : Cond.constantLong RX5 56 (65536) ∈ zT := zinjR zsub3 6 rfl rfl
theorem lm5_58 : zLs RX5 58 yX5_holderOf := ⟨zinjR zsub3 7 rfl rfl, zinjR zsub3 8 rfl rfl⟩
theorem lf5_9 : zFl RX5 9 5 0 (.array .int) true := ⟨RX5, TX5, 7, tyX5, zc5, by decide, zinjR zsub2 38 rfl rfl, rfl, rfl, rfl⟩
theorem lf5_119 : zFl RX5 119 2 14 (.array .int) true := ⟨RX2, TX2, 16, tyX2, zc2, by decide, zinjR zsub1 236 rfl rfl, rfl, rfl, rfl⟩
theorem lm5_128 : Cond.methodLink RX5 128 Lib.Math.min.name ∈ zT := zinjR zsub5 165 rfl rfl
theorem lm5_133 : zLv RX5 133 yX5_hasFirst := ⟨zinjR zsub5 166 rfl rfl, zinjR zsub5 167 rfl rfl, zinjR zsub5 168 rfl rfl⟩
theorem lf5_73 : zFl RX5 73 2 0 (.int) false := ⟨RX2, TX2, 16, tyX2, zc2, by decide, zinjR zsub1 201 rfl rfl, rfl, rfl, rfl⟩
theorem lf5_76 : zFl RX5 76 2 4 (.array .int) true := ⟨RX2, TX2, 16, tyX2, zc2, by decide, zinjR zsub1 210 rfl rfl, rfl, rfl, rfl⟩
theorem lf5_79 : zFl RX5 79 2 5 (.array .int) true := ⟨RX2, TX2, 16, tyX2, zc2, by decide, zinjR zsub1 212 rfl rfl, rfl, rfl, rfl⟩
theorem lf5_82 : zFl RX5 82 2 6 (.array .int) true := ⟨RX2, TX2, 16, tyX2, zc2, by decide, zinjR zsub1 215 rfl rfl, rfl, rfl, rfl⟩
theorem lf5_85 : zFl RX5 85 2 3 (.boolean) false := ⟨RX2, TX2, 16, tyX2, zc2, by decide, zinjR zsub1 208 rfl rfl, rfl, rfl, rfl⟩
theorem lm5_89 : zLv RX5 89 yX5_firstRound := ⟨zinjR zsub3 30 rfl rfl, zinjR zsub3 32 rfl rfl, zin 7 (by decide +kernel)⟩
theorem lm5_92 : zLv RX5 92 yX5_secondRound := ⟨zinjR zsub3 51 rfl rfl, zinjR zsub3 53 rfl rfl, zin 10 (by decide +kernel)⟩
theorem lm6_3 : Cond.methodLink RX6 3 Lib.objectInit ∈ zT := zinjR zsub2 94 rfl rfl
theorem lff6_9 : zFf RX6 9 6 2 (.array .int) := ⟨TX6, 8, tyX6, zc6, by decide, zinjR zsub2 101 rfl rfl, rfl, rfl, rfl⟩
theorem lff6_15 : zFf RX6 15 6 3 (.array .int) := ⟨TX6, 8, tyX6, zc6, by decide, zinjR zsub2 102 rfl rfl, rfl, rfl, rfl⟩
theorem lff6_18 : zFf RX6 18 6 4 (.array .int) := ⟨TX6, 8, tyX6, zc6, by decide, zinjR zsub2 103 rfl rfl, rfl, rfl, rfl⟩
theorem ln6_21 : Cond.classLink RX6 21 RX4 ∈ zT := zinjR zsub2 95 rfl rfl
theorem lm6_23 : zLin RX6 23 yX4_init := ⟨⟨_, znest (h := "TagDraw") zsub2 96 (by decide +kernel)⟩, zinjR zsub1 37 rfl rfl, rfl⟩
theorem lff6_24 : zFf RX6 24 6 5 (.object "TagDraw$Register") := ⟨TX6, 8, tyX6, zc6, by decide, zinjR zsub2 104 rfl rfl, rfl, rfl, rfl⟩
theorem ln6_28 : Cond.classLink RX6 28 RX2 ∈ zT := zinjR zsub2 97 rfl rfl
theorem lm6_30 : zLin RX6 30 yX2_init := ⟨⟨_, znest (h := "TagDraw") zsub2 98 (by decide +kernel)⟩, zinjR zsub1 197 rfl rfl, rfl⟩
theorem lff6_31 : zFf RX6 31 6 6 (.object "TagDraw$Pool") := ⟨TX6, 8, tyX6, zc6, by decide, zinjR zsub2 105 rfl rfl, rfl, rfl, rfl⟩
theorem ln6_35 : Cond.classLink RX6 35 RX5 ∈ zT := zinjR zsub2 99 rfl rfl
theorem lm6_37 : zLin RX6 37 yX5_init := ⟨⟨_, znest (h := "TagDraw") zsub2 100 (by decide +kernel)⟩, zinjR zsub2 35 rfl rfl, rfl⟩
theorem lff6_38 : zFf RX6 38 6 7 (.object "TagDraw$Result") := ⟨TX6, 8, tyX6, zc6, by decide, zinjR zsub2 106 rfl rfl, rfl, rfl, rfl⟩
theorem lf7_88 : zFl RX7 88 7 0 (.int) false := ⟨RX7, TX7, 17, tyX7, zc7, by decide, zinjR zsub2 160 rfl rfl, rfl, rfl, rfl⟩
theorem lf7_9 : zFl RX7 9 7 4 (.array .int) true := ⟨RX7, TX7, 17, tyX7, zc7, by decide, zinjR zsub2 164 rfl rfl, rfl, rfl, rfl⟩
theorem lf7_91 : zFl RX7 91 7 1 (.int) false := ⟨RX7, TX7, 17, tyX7, zc7, by decide, zinjR zsub2 161 rfl rfl, rfl, rfl, rfl⟩
theorem lm7_98 : zLs RX7 98 yX7_put := ⟨zinjR zsub3 149 rfl rfl, zinjR zsub2 143 rfl rfl⟩
theorem lm7_102 : zLv RX7 102 yX7_refuse := ⟨zinjR zsub2 227 rfl rfl, zinjR zsub2 229 rfl rfl, zin 5 (by decide +kernel)⟩
theorem lm7_206 : zLv RX7 206 yX7_isApplicant := ⟨zinjR zsub3 17 rfl rfl, zinjR zsub3 19 rfl rfl, zin 6 (by decide +kernel)⟩
theorem lf7_40 : zFl RX7 40 7 9 (.object "TagDraw$Pool") true := ⟨RX7, TX7, 17, tyX7, zc7, by decide, zinjR zsub2 169 rfl rfl, rfl, rfl, rfl⟩
theorem lf7_209 : zFl RX7 209 2 8 (.array .int) true := ⟨RX2, TX2, 16, tyX2, zc2, by decide, zinjR zsub1 221 rfl rfl, rfl, rfl, rfl⟩
theorem lm7_175 : zLs RX7 175 yX7_cell := ⟨zinjR zsub3 12 rfl rfl, zinjR zsub2 140 rfl rfl⟩
theorem lm7_134 : zLv RX7 134 yX7_answer := ⟨zinjR zsub2 220 rfl rfl, zinjR zsub2 222 rfl rfl, zin 4 (by decide +kernel)⟩
theorem lf7_212 : zFl RX7 212 2 9 (.array .int) true := ⟨RX2, TX2, 16, tyX2, zc2, by decide, zinjR zsub1 224 rfl rfl, rfl, rfl, rfl⟩
theorem lf7_215 : zFl RX7 215 2 10 (.array .int) true := ⟨RX2, TX2, 16, tyX2, zc2, by decide, zinjR zsub1 227 rfl rfl, rfl, rfl, rfl⟩
theorem lf7_216 : zFl RX7 216 2 11 (.array .int) true := ⟨RX2, TX2, 16, tyX2, zc2, by decide, zinjR zsub1 230 rfl rfl, rfl, rfl, rfl⟩
theorem lf7_219 : zFl RX7 219 2 14 (.array .int) true := ⟨RX2, TX2, 16, tyX2, zc2, by decide, zinjR zsub1 237 rfl rfl, rfl, rfl, rfl⟩
theorem lf7_222 : zFl RX7 222 2 12 (.array .int) true := ⟨RX2, TX2, 16, tyX2, zc2, by decide, zinjR zsub1 232 rfl rfl, rfl, rfl, rfl⟩
theorem lf7_225 : zFl RX7 225 2 13 (.array .int) true := ⟨RX2, TX2, 16, tyX2, zc2, by decide, zinjR zsub1 234 rfl rfl, rfl, rfl, rfl⟩
theorem lm7_237 : zLs RX7 237 yX7_isSeed := ⟨zinjR zsub2 235 rfl rfl, zinjR zsub2 236 rfl rfl⟩
theorem lm7_168 : zLv RX7 168 yX7_isHunter := ⟨zinjR zsub5 153 rfl rfl, zinjR zsub5 155 rfl rfl, zin 39 (by decide +kernel)⟩
theorem lf7_47 : zFl RX7 47 7 10 (.object "TagDraw$Result") true := ⟨RX7, TX7, 17, tyX7, zc7, by decide, zinjR zsub2 170 rfl rfl, rfl, rfl, rfl⟩
theorem lm7_247 : zLv RX7 247 yX5_bySeed := ⟨zinjR zsub3 21 rfl rfl, zinjR zsub3 22 rfl rfl, zinjR zsub3 23 rfl rfl⟩
theorem lf7_182 : zFl RX7 182 2 7 (.array .int) true := ⟨RX2, TX2, 16, tyX2, zc2, by decide, zinjR zsub1 218 rfl rfl, rfl, rfl, rfl⟩
theorem lf7_26 : zFl RX7 26 7 7 (.object "TagDraw$Register") true := ⟨RX7, TX7, 17, tyX7, zc7, by decide, zinjR zsub2 167 rfl rfl, rfl, rfl, rfl⟩
theorem lf7_172 : zFl RX7 172 4 8 (.array .int) true := ⟨RX4, TX4, 14, tyX4, zc4, by decide, zinjR zsub1 71 rfl rfl, rfl, rfl, rfl⟩
theorem lm7_287 : zLv RX7 287 yX5_scoreBehind := ⟨zinjR zsub5 161 rfl rfl, zinjR zsub5 162 rfl rfl, zinjR zsub5 163 rfl rfl⟩
theorem lm7_80 : zLv RX7 80 yX2_gather := ⟨zinjR zsub2 131 rfl rfl, zinjR zsub2 132 rfl rfl, zinjR zsub2 133 rfl rfl⟩
theorem lf7_368 : zFl RX7 368 7 3 (.boolean) false := ⟨RX7, TX7, 17, tyX7, zc7, by decide, zinjR zsub2 163 rfl rfl, rfl, rfl, rfl⟩
theorem lm7_226 : zLv RX7 226 yX2_wish := ⟨zinjR zsub5 132 rfl rfl, zinjR zsub3 39 rfl rfl, zinjR zsub3 40 rfl rfl⟩
theorem lf7_250 : zFl RX7 250 5 1 (.array .int) true := ⟨RX5, TX5, 7, tyX5, zc5, by decide, zinjR zsub2 41 rfl rfl, rfl, rfl, rfl⟩
theorem lm7_94 : zLv RX7 94 yX7_append := ⟨zinjR zsub3 145 rfl rfl, zinjR zsub3 147 rfl rfl, zin 11 (by decide +kernel)⟩
theorem lf7_165 : zFl RX7 165 4 9 (.array .int) true := ⟨RX4, TX4, 14, tyX4, zc4, by decide, zinjR zsub1 74 rfl rfl, rfl, rfl, rfl⟩
theorem lf7_179 : zFl RX7 179 4 10 (.array .int) true := ⟨RX4, TX4, 14, tyX4, zc4, by decide, zinjR zsub1 77 rfl rfl, rfl, rfl, rfl⟩
theorem lf7_185 : zFl RX7 185 4 13 (.array .int) true := ⟨RX4, TX4, 14, tyX4, zc4, by decide, zinjR zsub1 85 rfl rfl, rfl, rfl, rfl⟩
theorem lm7_1 : Cond.methodLink RX7 1 Lib.objectInit ∈ zT := zinjR zsub1 25 rfl rfl
theorem lff7_9 : zFf RX7 9 7 4 (.array .int) := ⟨TX7, 17, tyX7, zc7, by decide, zinjR zsub2 164 rfl rfl, rfl, rfl, rfl⟩
theorem lff7_13 : zFf RX7 13 7 5 (.array .int) := ⟨TX7, 17, tyX7, zc7, by decide, zinjR zsub2 165 rfl rfl, rfl, rfl, rfl⟩
theorem ln7_16 : Cond.classLink RX7 16 RX3 ∈ zT := zinjR zsub1 28 rfl rfl
theorem lm7_18 : zLin RX7 18 yX3_init := ⟨⟨_, znest (h := "TagDraw") zsub1 30 (by decide +kernel)⟩, zinjR zsub1 31 rfl rfl, rfl⟩
theorem lff7_19 : zFf RX7 19 7 6 (.object "TagDraw$Reader") := ⟨TX7, 17, tyX7, zc7, by decide, zinjR zsub2 166 rfl rfl, rfl, rfl, rfl⟩
theorem ln7_23 : Cond.classLink RX7 23 RX4 ∈ zT := zinjR zsub1 173 rfl rfl
theorem lm7_25 : zLin RX7 25 yX4_init := ⟨⟨_, znest (h := "TagDraw") zsub1 174 (by decide +kernel)⟩, zinjR zsub1 37 rfl rfl, rfl⟩
theorem lff7_26 : zFf RX7 26 7 7 (.object "TagDraw$Register") := ⟨TX7, 17, tyX7, zc7, by decide, zinjR zsub2 167 rfl rfl, rfl, rfl, rfl⟩
theorem ln7_30 : Cond.classLink RX7 30 RX1 ∈ zT := zinjR zsub1 175 rfl rfl
theorem lm7_32 : zLi RX7 32 yX1_init := ⟨zinjR zsub1 177 rfl rfl, zinjR zsub1 178 rfl rfl, rfl⟩
theorem lff7_33 : zFf RX7 33 7 8 (.object "TagDraw$Past") := ⟨TX7, 17, tyX7, zc7, by decide, zinjR zsub2 168 rfl rfl, rfl, rfl, rfl⟩
theorem ln7_37 : Cond.classLink RX7 37 RX2 ∈ zT := zinjR zsub1 194 rfl rfl
theorem lm7_39 : zLin RX7 39 yX2_init := ⟨⟨_, znest (h := "TagDraw") zsub1 196 (by decide +kernel)⟩, zinjR zsub1 197 rfl rfl, rfl⟩
theorem lff7_40 : zFf RX7 40 7 9 (.object "TagDraw$Pool") := ⟨TX7, 17, tyX7, zc7, by decide, zinjR zsub2 169 rfl rfl, rfl, rfl, rfl⟩
theorem ln7_44 : Cond.classLink RX7 44 RX5 ∈ zT := zinjR zsub2 32 rfl rfl
theorem lm7_46 : zLin RX7 46 yX5_init := ⟨⟨_, znest (h := "TagDraw") zsub2 34 (by decide +kernel)⟩, zinjR zsub2 35 rfl rfl, rfl⟩
theorem lff7_47 : zFf RX7 47 7 10 (.object "TagDraw$Result") := ⟨TX7, 17, tyX7, zc7, by decide, zinjR zsub2 170 rfl rfl, rfl, rfl, rfl⟩
theorem ln7_51 : Cond.classLink RX7 51 RX0 ∈ zT := zinjR zsub2 65 rfl rfl
theorem lm7_53 : zLin RX7 53 yX0_init := ⟨⟨_, znest (h := "TagDraw") zsub2 67 (by decide +kernel)⟩, zinjR zsub2 68 rfl rfl, rfl⟩
theorem lff7_54 : zFf RX7 54 7 11 (.object "TagDraw$Odds") := ⟨TX7, 17, tyX7, zc7, by decide, zinjR zsub2 171 rfl rfl, rfl, rfl, rfl⟩
theorem ln7_58 : Cond.classLink RX7 58 RX6 ∈ zT := zinjR zsub2 89 rfl rfl
theorem lm7_60 : zLin RX7 60 yX6_init := ⟨⟨_, znest (h := "TagDraw") zsub2 91 (by decide +kernel)⟩, zinjR zsub2 92 rfl rfl, rfl⟩
theorem lff7_61 : zFf RX7 61 7 12 (.object "TagDraw$Years") := ⟨TX7, 17, tyX7, zc7, by decide, zinjR zsub2 172 rfl rfl, rfl, rfl, rfl⟩
theorem lff7_65 : zFf RX7 65 7 13 (.object "TagDraw$Register") := ⟨TX7, 17, tyX7, zc7, by decide, zinjR zsub2 173 rfl rfl, rfl, rfl, rfl⟩
theorem lff7_68 : zFf RX7 68 7 14 (.object "TagDraw$Pool") := ⟨TX7, 17, tyX7, zc7, by decide, zinjR zsub2 174 rfl rfl, rfl, rfl, rfl⟩
theorem lff7_71 : zFf RX7 71 7 15 (.object "TagDraw$Result") := ⟨TX7, 17, tyX7, zc7, by decide, zinjR zsub2 175 rfl rfl, rfl, rfl, rfl⟩
theorem lff7_74 : zFf RX7 74 7 16 (.object "TagDraw$Odds") := ⟨TX7, 17, tyX7, zc7, by decide, zinjR zsub2 176 rfl rfl, rfl, rfl, rfl⟩
theorem lm7_77 : zLv RX7 77 yX4_clear := ⟨zinjR zsub2 124 rfl rfl, zinjR zsub2 125 rfl rfl, zinjR zsub2 126 rfl rfl⟩
theorem lf7_84 : zFl RX7 84 7 2 (.int) false := ⟨RX7, TX7, 17, tyX7, zc7, by decide, zinjR zsub2 162 rfl rfl, rfl, rfl, rfl⟩
theorem lf7_140 : zFl RX7 140 2 1 (.int) false := ⟨RX2, TX2, 16, tyX2, zc2, by decide, zinjR zsub1 204 rfl rfl, rfl, rfl, rfl⟩
theorem lf7_119 : zFl RX7 119 4 1 (.int) false := ⟨RX4, TX4, 14, tyX4, zc4, by decide, zinjR zsub1 46 rfl rfl, rfl, rfl, rfl⟩
theorem lk7_395 : Cond.constant RX7 395 (999999999) ∈ zT := zinjR zsub2 238 rfl rfl
theorem lf7_131 : zFl RX7 131 4 0 (.int) false := ⟨RX4, TX4, 14, tyX4, zc4, by decide, zinjR zsub1 42 rfl rfl, rfl, rfl, rfl⟩
theorem lm7_188 : zLv RX7 188 yX7_isUnit := ⟨zinjR zsub5 107 rfl rfl, zinjR zsub5 109 rfl rfl, zin 38 (by decide +kernel)⟩
theorem lf7_256 : zFl RX7 256 5 3 (.array .int) true := ⟨RX5, TX5, 7, tyX5, zc5, by decide, zinjR zsub2 45 rfl rfl, rfl, rfl, rfl⟩
theorem lf7_259 : zFl RX7 259 5 4 (.array .int) true := ⟨RX5, TX5, 7, tyX5, zc5, by decide, zinjR zsub2 47 rfl rfl, rfl, rfl, rfl⟩
theorem lm7_262 : zLv RX7 262 yX5_holders := ⟨zinjR zsub5 141 rfl rfl, zinjR zsub5 142 rfl rfl, zinjR zsub5 143 rfl rfl⟩
theorem lm7_266 : zLv RX7 266 yX5_fewestPoints := ⟨zinjR zsub5 145 rfl rfl, zinjR zsub5 146 rfl rfl, zinjR zsub5 147 rfl rfl⟩
theorem lf7_19 : zFl RX7 19 7 6 (.object "TagDraw$Reader") true := ⟨RX7, TX7, 17, tyX7, zc7, by decide, zinjR zsub2 166 rfl rfl, rfl, rfl, rfl⟩
theorem lm7_106 : zLv RX7 106 yX3_read := ⟨zinjR zsub3 154 rfl rfl, zinjR zsub3 155 rfl rfl, zinjR zsub3 156 rfl rfl⟩
theorem lf7_110 : zFl RX7 110 3 0 (.object "TagDraw$Register") true := ⟨RX3, TX3, 18, tyX3, zc3, by decide, zinjR zsub1 117 rfl rfl, rfl, rfl, rfl⟩
theorem lm7_113 : zLv RX7 113 yX4_take := ⟨zinjR zsub4 57 rfl rfl, zinjR zsub4 58 rfl rfl, zinjR zsub4 59 rfl rfl⟩
theorem lf7_33 : zFl RX7 33 7 8 (.object "TagDraw$Past") true := ⟨RX7, TX7, 17, tyX7, zc7, by decide, zinjR zsub2 168 rfl rfl, rfl, rfl, rfl⟩
theorem lm7_116 : zLv RX7 116 yX1_forget := ⟨zinjR zsub4 62 rfl rfl, zinjR zsub4 63 rfl rfl, zinjR zsub4 64 rfl rfl⟩
theorem lm7_122 : zLv RX7 122 yX7_changed := ⟨zinjR zsub4 66 rfl rfl, zinjR zsub4 68 rfl rfl, zin 32 (by decide +kernel)⟩
theorem lf7_137 : zFl RX7 137 4 2 (.int) false := ⟨RX4, TX4, 14, tyX4, zc4, by decide, zinjR zsub1 50 rfl rfl, rfl, rfl, rfl⟩
theorem lf7_143 : zFl RX7 143 4 3 (.int) false := ⟨RX4, TX4, 14, tyX4, zc4, by decide, zinjR zsub1 54 rfl rfl, rfl, rfl, rfl⟩
theorem lf7_146 : zFl RX7 146 4 4 (.int) false := ⟨RX4, TX4, 14, tyX4, zc4, by decide, zinjR zsub1 58 rfl rfl, rfl, rfl, rfl⟩
theorem lf7_149 : zFl RX7 149 4 5 (.int) false := ⟨RX4, TX4, 14, tyX4, zc4, by decide, zinjR zsub1 62 rfl rfl, rfl, rfl, rfl⟩
theorem lf7_152 : zFl RX7 152 4 6 (.int) false := ⟨RX4, TX4, 14, tyX4, zc4, by decide, zinjR zsub1 65 rfl rfl, rfl, rfl, rfl⟩
theorem lf7_155 : zFl RX7 155 1 0 (.int) false := ⟨RX1, TX1, 3, tyX1, zc1, by decide, zinjR zsub1 185 rfl rfl, rfl, rfl, rfl⟩
theorem lf7_158 : zFl RX7 158 4 7 (.array .int) true := ⟨RX4, TX4, 14, tyX4, zc4, by decide, zinjR zsub1 68 rfl rfl, rfl, rfl, rfl⟩
theorem lm7_161 : zLs RX7 161 yX7_sum := ⟨zinjR zsub2 224 rfl rfl, zinjR zsub2 225 rfl rfl⟩
theorem lm7_240 : zLv RX7 240 yX5_lineUp := ⟨zinjR zsub2 239 rfl rfl, zinjR zsub3 0 rfl rfl, zinjR zsub3 1 rfl rfl⟩
theorem lf7_244 : zFl RX7 244 5 0 (.array .int) true := ⟨RX5, TX5, 7, tyX5, zc5, by decide, zinjR zsub2 39 rfl rfl, rfl, rfl, rfl⟩
theorem lf7_253 : zFl RX7 253 5 2 (.array .int) true := ⟨RX5, TX5, 7, tyX5, zc5, by decide, zinjR zsub2 43 rfl rfl, rfl, rfl, rfl⟩
theorem lf7_191 : zFl RX7 191 2 5 (.array .int) true := ⟨RX2, TX2, 16, tyX2, zc2, by decide, zinjR zsub1 213 rfl rfl, rfl, rfl, rfl⟩
theorem lf7_194 : zFl RX7 194 2 6 (.array .int) true := ⟨RX2, TX2, 16, tyX2, zc2, by decide, zinjR zsub1 216 rfl rfl, rfl, rfl, rfl⟩
theorem lm7_197 : zLv RX7 197 yX2_firstApplicants := ⟨zinjR zsub5 111 rfl rfl, zinjR zsub5 112 rfl rfl, zinjR zsub5 113 rfl rfl⟩
theorem lm7_200 : zLv RX7 200 yX2_firstHunters := ⟨zinjR zsub5 120 rfl rfl, zinjR zsub5 121 rfl rfl, zinjR zsub5 122 rfl rfl⟩
theorem lm7_203 : zLv RX7 203 yX2_askers := ⟨zinjR zsub5 124 rfl rfl, zinjR zsub5 125 rfl rfl, zinjR zsub5 126 rfl rfl⟩
theorem lf8_7 : zFl RX8 7 8 0 (.array .int) false := ⟨RX8, TX8, 7, tyX8, zc8, by decide, zinjR zsub3 65 rfl rfl, rfl, rfl, rfl⟩
theorem lf8_46 : zFl RX8 46 8 1 (.int) false := ⟨RX8, TX8, 7, tyX8, zc8, by decide, zinjR zsub3 66 rfl rfl, rfl, rfl, rfl⟩
theorem lm8_50 : zLs RX8 50 yL_cell := ⟨zinjR zsub4 75 rfl rfl, zinjR zsub4 76 rfl rfl⟩
theorem lm8_54 : zLs RX8 54 yL_among := ⟨zinjR zsub4 78 rfl rfl, zinjR zsub4 79 rfl rfl⟩
theorem lm8_22 : zLv RX8 22 yJ0_length_8abf5 := ⟨zinjR zsub3 90 rfl rfl, zinjR zsub3 91 rfl rfl, zinjR zsub3 92 rfl rfl⟩
theorem lm8_28 : zLv RX8 28 yJ0_charAt_5068e := ⟨zinjR zsub3 103 rfl rfl, zinjR zsub3 104 rfl rfl, zinjR zsub3 105 rfl rfl⟩
theorem lm8_1 : Cond.methodLink RX8 1 Lib.objectInit ∈ zT := zinjR zsub3 64 rfl rfl
theorem lff8_13 : zFf RX8 13 8 4 (.array .int) := ⟨TX8, 7, tyX8, zc8, by decide, zinjR zsub3 69 rfl rfl, rfl, rfl, rfl⟩
theorem lff8_16 : zFf RX8 16 8 5 (.array .int) := ⟨TX8, 7, tyX8, zc8, by decide, zinjR zsub3 70 rfl rfl, rfl, rfl, rfl⟩
theorem lff8_19 : zFf RX8 19 8 6 (.array .int) := ⟨TX8, 7, tyX8, zc8, by decide, zinjR zsub3 71 rfl rfl, rfl, rfl, rfl⟩
theorem lm8_157 : zLv RX8 157 yL_orders := ⟨zinjR zsub5 87 rfl rfl, zinjR zsub5 89 rfl rfl, zin 36 (by decide +kernel)⟩
theorem lm8_161 : zLv RX8 161 yL_results := ⟨zinjR zsub5 99 rfl rfl, zinjR zsub5 101 rfl rfl, zin 37 (by decide +kernel)⟩
theorem lf8_120 : zFl RX8 120 8 3 (.int) false := ⟨RX8, TX8, 7, tyX8, zc8, by decide, zinjR zsub3 68 rfl rfl, rfl, rfl, rfl⟩
theorem lm8_123 : zLv RX8 123 yX7_unit := ⟨zinjR zsub5 103 rfl rfl, zinjR zsub5 104 rfl rfl, zinjR zsub5 105 rfl rfl⟩
theorem lf8_106 : zFl RX8 106 8 2 (.int) false := ⟨RX8, TX8, 7, tyX8, zc8, by decide, zinjR zsub3 67 rfl rfl, rfl, rfl, rfl⟩
theorem lf8_13 : zFl RX8 13 8 4 (.array .int) true := ⟨RX8, TX8, 7, tyX8, zc8, by decide, zinjR zsub3 69 rfl rfl, rfl, rfl, rfl⟩
theorem lm8_148 : zLv RX8 148 yX7_order := ⟨zinjR zsub2 231 rfl rfl, zinjR zsub2 232 rfl rfl, zinjR zsub2 233 rfl rfl⟩
theorem lm8_151 : zLv RX8 151 yX7_drawn := ⟨zinjR zsub3 13 rfl rfl, zinjR zsub3 14 rfl rfl, zinjR zsub3 15 rfl rfl⟩
theorem lf8_16 : zFl RX8 16 8 5 (.array .int) true := ⟨RX8, TX8, 7, tyX8, zc8, by decide, zinjR zsub3 70 rfl rfl, rfl, rfl, rfl⟩
theorem lm8_138 : zLv RX8 138 yX7_status := ⟨zinjR zsub2 212 rfl rfl, zinjR zsub2 213 rfl rfl, zinjR zsub2 214 rfl rfl⟩
theorem lm8_165 : zLv RX8 165 yX7_round := ⟨zinjR zsub5 133 rfl rfl, zinjR zsub5 134 rfl rfl, zinjR zsub5 135 rfl rfl⟩
theorem lf8_19 : zFl RX8 19 8 6 (.array .int) true := ⟨RX8, TX8, 7, tyX8, zc8, by decide, zinjR zsub3 71 rfl rfl, rfl, rfl, rfl⟩
theorem lm8_109 : zLv RX8 109 yX7_applicant := ⟨zinjR zsub5 91 rfl rfl, zinjR zsub5 92 rfl rfl, zinjR zsub5 93 rfl rfl⟩
theorem lm8_154 : zLv RX8 154 yX7_winners := ⟨zinjR zsub3 55 rfl rfl, zinjR zsub3 56 rfl rfl, zinjR zsub3 57 rfl rfl⟩
theorem lm8_167 : zLv RX8 167 yX7_left := ⟨zinjR zsub5 137 rfl rfl, zinjR zsub5 138 rfl rfl, zinjR zsub5 139 rfl rfl⟩
theorem lm8_171 : zLv RX8 171 yX7_hunter := ⟨zinjR zsub5 149 rfl rfl, zinjR zsub5 150 rfl rfl, zinjR zsub5 151 rfl rfl⟩
theorem lm8_126 : zLv RX8 126 yX7_choice := ⟨zinjR zsub5 128 rfl rfl, zinjR zsub5 129 rfl rfl, zinjR zsub5 130 rfl rfl⟩
theorem lm8_174 : zLv RX8 174 yX7_behind := ⟨zinjR zsub5 157 rfl rfl, zinjR zsub5 158 rfl rfl, zinjR zsub5 159 rfl rfl⟩
theorem lm8_60 : zLv RX8 60 yL_chosen := ⟨zinjR zsub4 71 rfl rfl, zinjR zsub4 73 rfl rfl, zin 33 (by decide +kernel)⟩
theorem ln8_63 : Cond.classLink RX8 63 RJ4 ∈ zT := zinjR zsub4 86 rfl rfl
theorem lm8_65 : zLi RX8 65 yJ4_init_da8c8 := ⟨zinjR zsub4 88 rfl rfl, zinjR zsub4 89 rfl rfl, rfl⟩
theorem lm8_66 : zLv RX8 66 yJ4_append_15ec4 := ⟨zinjR zsub4 116 rfl rfl, zinjR zsub4 117 rfl rfl, zinjR zsub4 118 rfl rfl⟩
theorem lm8_72 : zLv RX8 72 yJ4_append_cf468 := ⟨zinjR zsub4 216 rfl rfl, zinjR zsub4 217 rfl rfl, zinjR zsub4 218 rfl rfl⟩
theorem lm8_77 : zLv RX8 77 yJ4_append_bf812 := ⟨zinjR zsub4 230 rfl rfl, zinjR zsub4 231 rfl rfl, zinjR zsub4 232 rfl rfl⟩
theorem lm8_82 : zLv RX8 82 yJ4_toString_0e30d := ⟨zinjR zsub5 16 rfl rfl, zinjR zsub5 17 rfl rfl, zinjR zsub5 18 rfl rfl⟩
theorem lm8_32 : zLs RX8 32 yL_four := ⟨zinjR zsub3 100 rfl rfl, zinjR zsub3 101 rfl rfl⟩
theorem lm8_36 : zLv RX8 36 yX7_feed := ⟨zinjR zsub3 141 rfl rfl, zinjR zsub3 142 rfl rfl, zinjR zsub3 143 rfl rfl⟩
theorem lm8_42 : zLv RX8 42 yX7_load := ⟨zinjR zsub3 150 rfl rfl, zinjR zsub3 151 rfl rfl, zinjR zsub3 152 rfl rfl⟩
theorem lk8_112 : Cond.constantLong RX8 112 (1103515245) ∈ zT := zinjR zsub5 95 rfl rfl
theorem lk8_114 : Cond.constantLong RX8 114 (12345) ∈ zT := zinjR zsub5 96 rfl rfl
theorem lk8_116 : Cond.constantLong RX8 116 (2147483648) ∈ zT := zinjR zsub5 97 rfl rfl
theorem lk8_118 : Cond.constantLong RX8 118 (65536) ∈ zT := zinjR zsub5 98 rfl rfl
theorem lmJ0_335 : zLv RJ0 335 yJ0_coder_7d493 := ⟨zinjR zsub3 94 rfl rfl, zinjR zsub3 95 rfl rfl, zinjR zsub3 96 rfl rfl⟩
theorem lmJ0_492 : zLv RJ0 492 yJ0_isLatin1_aae02 := ⟨zinjR zsub3 107 rfl rfl, zinjR zsub3 108 rfl rfl, zinjR zsub3 109 rfl rfl⟩
theorem lmJ0_495 : zLs RJ0 495 yJ1_charAt_3b067 := ⟨zinjR zsub3 111 rfl rfl, zinjR zsub3 112 rfl rfl⟩
theorem lmJ1_9 : zLs RJ1 9 yJ0_checkIndex_df160 := ⟨zinjR zsub3 114 rfl rfl, zinjR zsub3 115 rfl rfl⟩
theorem lmJ0_1059 : zLs RJ0 1059 yJ3_checkIndex_8e157 := ⟨zinjR zsub3 119 rfl rfl, zinjR zsub3 120 rfl rfl⟩
theorem lfJ0_9 : Cond.fieldLink RJ0 9 "java/lang/String" "value" "[B" ∈ zT := zinjR zsub5 62 rfl rfl
theorem lfJ0_15 : Cond.fieldLink RJ0 15 "java/lang/String" "coder" "B" ∈ zT := zinjR zsub5 63 rfl rfl
theorem lfJ0_38 : Cond.fieldLink RJ0 38 "java/lang/String" "COMPACT_STRINGS" "Z" ∈ zT := zinjR zsub3 98 rfl rfl
theorem lfJ0_1053 : Cond.fieldLink RJ0 1053 "jdk/internal/util/Preconditions" "SIOOBE_FORMATTER" "Ljava/util/function/BiFunction;" ∈ zT := zinjR zsub3 117 rfl rfl
theorem zinst0 : Cond.instantiable RX0 5 ∈ zT := zinjR zsub2 66 rfl rfl
theorem zini0 : Cond.initialized RX0 ∈ zT := zinjR zsub1 7 rfl rfl
theorem zinst1 : Cond.instantiable RX1 3 ∈ zT := zinjR zsub1 176 rfl rfl
theorem zini1 : Cond.initialized RX1 ∈ zT := zinjR zsub1 4 rfl rfl
theorem zinst2 : Cond.instantiable RX2 16 ∈ zT := zinjR zsub1 195 rfl rfl
theorem zini2 : Cond.initialized RX2 ∈ zT := zinjR zsub1 5 rfl rfl
theorem zinst3 : Cond.instantiable RX3 18 ∈ zT := zinjR zsub1 29 rfl rfl
theorem zini3 : Cond.initialized RX3 ∈ zT := zinjR zsub1 2 rfl rfl
theorem zinst4 : Cond.instantiable RX4 14 ∈ zT := zinjR zsub1 35 rfl rfl
theorem zini4 : Cond.initialized RX4 ∈ zT := zinjR zsub1 3 rfl rfl
theorem zinst5 : Cond.instantiable RX5 7 ∈ zT := zinjR zsub2 33 rfl rfl
theorem zini5 : Cond.initialized RX5 ∈ zT := zinjR zsub1 6 rfl rfl
theorem zinst6 : Cond.instantiable RX6 8 ∈ zT := zinjR zsub2 90 rfl rfl
theorem zini6 : Cond.initialized RX6 ∈ zT := zinjR zsub1 8 rfl rfl
theorem zinst7 : Cond.instantiable RX7 17 ∈ zT := zinjR zsub1 21 rfl rfl
theorem zini7 : Cond.initialized RX7 ∈ zT := zinjR zsub1 1 rfl rfl
theorem zinst8 : Cond.instantiable RX8 7 ∈ zT := zinjR zsub3 60 rfl rfl
theorem zini8 : Cond.initialized RX8 ∈ zT := zinjR zsub1 0 rfl rfl
theorem zarrI : Cond.arrayClass .int ∈ zT := zinjR zsub1 115 rfl rfl
theorem zarrB : Cond.arrayClass .byte ∈ zT := zinjR zsub4 70 rfl rfl
theorem zarrJ : Cond.arrayClass .long ∈ zT := zinjR zsub1 172 rfl rfl
theorem zobj1 : Cond.instanceMethod Lib.objectInit ∈ zT := zinjR zsub1 26 rfl rfl
theorem zobj2 : Cond.code Lib.objectInit ⟨#[0xb1]⟩ 1 none ∈ zT := zinjR zsub1 27 rfl rfl
theorem zmath1 : Cond.static Lib.Math.max.name ∈ zT := zinjR zsub4 139 rfl rfl
theorem zmath2 : Cond.static Lib.Math.min.name ∈ zT := zinjR zsub3 162 rfl rfl
theorem zmath0 : Cond.initialized "java/lang/Math" ∈ zT := zinjR zsub1 14 rfl rfl
theorem zmathc1 : Cond.code Lib.Math.max.name Lib.Math.max.code 2 (some .int) ∈ zT := zinjR zsub4 140 rfl rfl
theorem zmathc2 : Cond.code Lib.Math.min.name Lib.Math.min.code 2 (some .int) ∈ zT := zinjR zsub3 163 rfl rfl
theorem zcJ9 : zCl 9 RJ0 TJ0 4 tyJ0 := ⟨rfl, zins [1064, 1066, 1068, 1070] (by decide +kernel), tyJ0_ok, nmJ0⟩
theorem zcJ10 : zCl 10 RJ4 TJ4 4 tyJ4 := ⟨rfl, zins [867, 869, 871, 873] (by decide +kernel), tyJ4_ok, nmJ4⟩
def zLu (own : String) (idx : Nat) (x y : MethodName) : Prop := Cond.methodLink own idx x ∈ zT ∧ Cond.sameMethod x.cls x.cls x.name x.desc ∈ zT ∧ Cond.instanceMethod x ∈ zT ∧ Cond.instanceMethod y ∈ zT ∧ Cond.initialized y.cls ∈ zT ∧ (x.cls ≠ "java/lang/invoke/MethodHandle" ∧ x.cls ≠ "java/lang/invoke/VarHandle") ∧ (parseMethodDescriptor x.desc).map (fun d => d.parameters.length) = (parseMethodDescriptor y.desc).map (fun d => d.parameters.length) ∧ (∃ (b0 : ByteArray) (m0 : Nat) (r0 : Option FieldType), Cond.code x b0 m0 r0 ∈ zT) ∧ Cond.selects RJ4 x y ∈ zT
def zLsu (own : String) (idx : Nat) (y : MethodName) : Prop := Cond.methodLink own idx y ∈ zT ∧ Cond.sameMethod y.cls y.cls y.name y.desc ∈ zT ∧ Cond.superclass own y.cls ∈ zT ∧ Cond.instanceMethod y ∈ zT ∧ Cond.initialized y.cls ∈ zT ∧ y.name ≠ "<init>"
theorem lmJ5_3 : Cond.methodLink RJ5 3 Lib.objectInit ∈ zT := zinjR zsub4 94 rfl rfl
theorem lfJ5_18 : Cond.fieldLink RJ5 18 "java/lang/String" "COMPACT_STRINGS" "Z" ∈ zT := zinjR zsub4 95 rfl rfl
theorem lgJ5_15 : zFl RJ5 15 10 0 (.array .byte) false := ⟨RJ4, TJ4, 4, tyJ4, zcJ10, by decide, zinjR zsub4 103 rfl rfl, rfl, rfl, rfl⟩
theorem lgJ5_22 : zFl RJ5 22 10 1 (.byte) false := ⟨RJ4, TJ4, 4, tyJ4, zcJ10, by decide, zinjR zsub4 104 rfl rfl, rfl, rfl, rfl⟩
theorem lgJ5_79 : zFl RJ5 79 10 3 (.int) false := ⟨RJ4, TJ4, 4, tyJ4, zcJ10, by decide, zinjR zsub4 106 rfl rfl, rfl, rfl, rfl⟩
theorem lmJ5_104 : zLu RJ5 104 yJ5_newCapacity_0f7a4 yJ5_newCapacity_0f7a4 := ⟨zinjR zsub4 131 rfl rfl, zinjR zsub5 174 rfl rfl, zinjR zsub4 133 rfl rfl, zinjR zsub4 133 rfl rfl, zinjR zsub1 9 rfl rfl, by decide +kernel, by decide +kernel, ⟨_, _, _, zinjR zsub4 134 rfl rfl⟩, zk5 1 (by decide +kernel)⟩
theorem lmJ5_108 : zLs RJ5 108 yJ7_copyOf_9075b := ⟨zinjR zsub4 146 rfl rfl, zinjR zsub4 147 rfl rfl⟩
theorem lmJ5_114 : zLs RJ5 114 yJ8_newLength_cabcc := ⟨zinjR zsub4 135 rfl rfl, zinjR zsub4 136 rfl rfl⟩
theorem lkJ5_39 : Cond.constant RJ5 39 (2147483647) ∈ zT := zinjR zsub4 145 rfl rfl
theorem lmJ5_40 : zLv RJ5 40 yJ0_coder_7d493 := ⟨zinjR zsub4 189 rfl rfl, zinjR zsub3 95 rfl rfl, zinjR zsub3 96 rfl rfl⟩
theorem lmJ5_397 : zLu RJ5 397 yJ5_inflateIfNeededFor_a7421 yJ5_inflateIfNeededFor_a7421 := ⟨zinjR zsub4 185 rfl rfl, zinjR zsub5 176 rfl rfl, zinjR zsub4 187 rfl rfl, zinjR zsub4 187 rfl rfl, zinjR zsub1 9 rfl rfl, by decide +kernel, by decide +kernel, ⟨_, _, _, zinjR zsub4 188 rfl rfl⟩, zk5 3 (by decide +kernel)⟩
theorem lmJ5_399 : zLv RJ5 399 yJ0_getBytes_840e7 := ⟨zinjR zsub4 209 rfl rfl, zinjR zsub4 210 rfl rfl, zinjR zsub4 211 rfl rfl⟩
theorem lmJ5_32 : zLv RJ5 32 yJ0_length_8abf5 := ⟨zinjR zsub4 180 rfl rfl, zinjR zsub3 91 rfl rfl, zinjR zsub3 92 rfl rfl⟩
theorem lmJ5_100 : zLu RJ5 100 yJ5_ensureCapacityInternal_d00df yJ5_ensureCapacityInternal_d00df := ⟨zinjR zsub4 127 rfl rfl, zinjR zsub5 173 rfl rfl, zinjR zsub4 129 rfl rfl, zinjR zsub4 129 rfl rfl, zinjR zsub1 9 rfl rfl, by decide +kernel, by decide +kernel, ⟨_, _, _, zinjR zsub4 130 rfl rfl⟩, zk5 0 (by decide +kernel)⟩
theorem lmJ5_208 : zLu RJ5 208 yJ5_putStringAt_47b60 yJ5_putStringAt_47b60 := ⟨zinjR zsub4 181 rfl rfl, zinjR zsub5 175 rfl rfl, zinjR zsub4 183 rfl rfl, zinjR zsub4 183 rfl rfl, zinjR zsub1 9 rfl rfl, by decide +kernel, by decide +kernel, ⟨_, _, _, zinjR zsub4 184 rfl rfl⟩, zk5 2 (by decide +kernel)⟩
theorem lmJ5_83 : zLu RJ5 83 yJ5_isLatin1_aae02 yJ5_isLatin1_aae02 := ⟨zinjR zsub4 160 rfl rfl, zinjR zsub4 162 rfl rfl, zinjR zsub4 161 rfl rfl, zinjR zsub4 161 rfl rfl, zinjR zsub1 9 rfl rfl, by decide +kernel, by decide +kernel, ⟨_, _, _, zinjR zsub4 164 rfl rfl⟩, zinjR zsub4 163 rfl rfl⟩
theorem lmJ5_191 : zLs RJ5 191 yJ1_canEncode_fc78d := ⟨zinjR zsub4 223 rfl rfl, zinjR zsub4 224 rfl rfl⟩
theorem lmJ5_245 : zLs RJ5 245 yJ6_stringSize_0f7a4 := ⟨zinjR zsub4 237 rfl rfl, zinjR zsub4 238 rfl rfl⟩
theorem lmJ5_248 : zLs RJ5 248 yJ6_getChars_ba4f3 := ⟨zinjR zsub5 0 rfl rfl, zinjR zsub5 1 rfl rfl⟩
theorem lfJ6_83 : Cond.fieldLink RJ6 83 "java/lang/Integer" "DigitOnes" "[B" ∈ zT := zinjR zsub5 3 rfl rfl
theorem lfJ6_87 : Cond.fieldLink RJ6 87 "java/lang/Integer" "DigitTens" "[B" ∈ zT := zinjR zsub5 5 rfl rfl
theorem lmJ0_489 : zLi RJ0 489 yJ0_init_db425 := ⟨zinjR zsub5 25 rfl rfl, zinjR zsub5 26 rfl rfl, rfl⟩
theorem lmJ0_1 : Cond.methodLink RJ0 1 Lib.objectInit ∈ zT := zinjR zsub5 28 rfl rfl
theorem lmJ0_552 : zLu RJ0 552 yJ5_getValue_6d5f1 yJ5_getValue_6d5f1 := ⟨zinjR zsub5 29 rfl rfl, zinjR zsub5 31 rfl rfl, zinjR zsub5 30 rfl rfl, zinjR zsub5 30 rfl rfl, zinjR zsub1 9 rfl rfl, by decide +kernel, by decide +kernel, ⟨_, _, _, zinjR zsub5 33 rfl rfl⟩, zinjR zsub5 32 rfl rfl⟩
theorem lmJ0_549 : zLu RJ0 549 yJ5_length_8abf5 yJ4_length_8abf5 := ⟨zinjR zsub5 34 rfl rfl, zinjR zsub5 36 rfl rfl, zinjR zsub5 35 rfl rfl, zinjR zsub5 38 rfl rfl, zinjR zsub1 10 rfl rfl, by decide +kernel, by decide +kernel, ⟨_, _, _, zinjR zsub5 41 rfl rfl⟩, zinjR zsub5 37 rfl rfl⟩
theorem lmJ0_1047 : zLu RJ0 1047 yJ5_isLatin1_aae02 yJ5_isLatin1_aae02 := ⟨zinjR zsub5 42 rfl rfl, zinjR zsub4 162 rfl rfl, zinjR zsub4 161 rfl rfl, zinjR zsub4 161 rfl rfl, zinjR zsub1 9 rfl rfl, by decide +kernel, by decide +kernel, ⟨_, _, _, zinjR zsub4 164 rfl rfl⟩, zinjR zsub4 163 rfl rfl⟩
theorem lgJ0_15 : zFl RJ0 15 9 1 (.byte) true := ⟨RJ0, TJ0, 4, tyJ0, zcJ9, by decide, zinjR zsub5 63 rfl rfl, rfl, rfl, rfl⟩
theorem lgfJ0_15 : zFf RJ0 15 9 1 (.byte) := ⟨TJ0, 4, tyJ0, zcJ9, by decide, zinjR zsub5 63 rfl rfl, rfl, rfl, rfl⟩
theorem lmJ0_54 : zLs RJ0 54 yJ7_copyOfRange_39247 := ⟨zinjR zsub5 43 rfl rfl, zinjR zsub5 44 rfl rfl⟩
theorem lgJ0_9 : zFl RJ0 9 9 0 (.array .byte) true := ⟨RJ0, TJ0, 4, tyJ0, zcJ9, by decide, zinjR zsub5 62 rfl rfl, rfl, rfl, rfl⟩
theorem lgfJ0_9 : zFf RJ0 9 9 0 (.array .byte) := ⟨TJ0, 4, tyJ0, zcJ9, by decide, zinjR zsub5 62 rfl rfl, rfl, rfl, rfl⟩
theorem lgJ0_1048 : zFl RJ0 1048 10 2 (.boolean) false := ⟨RJ4, TJ4, 4, tyJ4, zcJ10, by decide, zinjR zsub4 105 rfl rfl, rfl, rfl, rfl⟩
theorem lmJ0_212 : Cond.methodLink RJ0 212 arraycopyName ∈ zT := zinjR zsub4 213 rfl rfl
theorem lmJ0_106 : zLs RJ0 106 yJ1_inflate_0e8fd := ⟨zinjR zsub4 214 rfl rfl, zinjR zsub4 195 rfl rfl⟩
theorem lmJ4_1 : zLi RJ4 1 yJ5_init_d00df := ⟨zinjR zsub4 91 rfl rfl, zinjR zsub4 92 rfl rfl, rfl⟩
theorem lmJ4_29 : zLsu RJ4 29 yJ5_append_cf1ce := ⟨zinjR zsub4 120 rfl rfl, zinjR zsub5 171 rfl rfl, zinjR zsub4 115 rfl rfl, zinjR zsub4 121 rfl rfl, zinjR zsub1 9 rfl rfl, by decide +kernel⟩
theorem lmJ4_50 : zLsu RJ4 50 yJ5_append_3fe6f := ⟨zinjR zsub4 220 rfl rfl, zinjR zsub5 178 rfl rfl, zinjR zsub4 115 rfl rfl, zinjR zsub4 221 rfl rfl, zinjR zsub1 9 rfl rfl, by decide +kernel⟩
theorem lmJ4_53 : zLsu RJ4 53 yJ5_append_c97b9 := ⟨zinjR zsub4 234 rfl rfl, zinjR zsub5 179 rfl rfl, zinjR zsub4 115 rfl rfl, zinjR zsub4 235 rfl rfl, zinjR zsub1 9 rfl rfl, by decide +kernel⟩
theorem lnJ4_18 : Cond.classLink RJ4 18 RJ0 ∈ zT := zinjR zsub5 20 rfl rfl
theorem lmJ4_137 : zLi RJ4 137 yJ0_init_81219 := ⟨zinjR zsub5 22 rfl rfl, zinjR zsub5 23 rfl rfl, rfl⟩
theorem lmJ4_343 : zLsu RJ4 343 yJ5_length_8abf5 := ⟨zinjR zsub5 40 rfl rfl, zinjR zsub5 36 rfl rfl, zinjR zsub4 115 rfl rfl, zinjR zsub5 35 rfl rfl, zinjR zsub1 9 rfl rfl, by decide +kernel⟩
theorem lnJ7_311 : Cond.classLink RJ7 311 "[B" ∈ zT := zinjR zsub4 155 rfl rfl
theorem lmJ7_304 : Cond.methodLink RJ7 304 Lib.Math.min.name ∈ zT := zinjR zsub4 156 rfl rfl
theorem lmJ7_150 : Cond.methodLink RJ7 150 arraycopyName ∈ zT := zinjR zsub4 157 rfl rfl
theorem lmJ7_339 : zLs RJ7 339 yJ7_copyOfRangeByte_39247 := ⟨zinjR zsub5 46 rfl rfl, zinjR zsub5 47 rfl rfl⟩
theorem lmJ7_343 : zLs RJ7 343 yJ7_checkLength_df160 := ⟨zinjR zsub5 49 rfl rfl, zinjR zsub5 50 rfl rfl⟩
theorem lmJ8_194 : Cond.methodLink RJ8 194 Lib.Math.max.name ∈ zT := zinjR zsub4 138 rfl rfl
theorem lkJ8_200 : Cond.constant RJ8 200 (2147483639) ∈ zT := zinjR zsub4 141 rfl rfl
theorem lmJ8_201 : zLs RJ8 201 yJ8_hugeLength_7cf53 := ⟨zinjR zsub4 142 rfl rfl, zinjR zsub4 143 rfl rfl⟩
theorem zinst9 : Cond.instantiable RJ0 4 ∈ zT := zinjR zsub5 21 rfl rfl
theorem zini9 : Cond.initialized RJ0 ∈ zT := zinjR zsub1 11 rfl rfl
theorem zinst10 : Cond.instantiable RJ4 4 ∈ zT := zinjR zsub4 87 rfl rfl
theorem zini10 : Cond.initialized RJ4 ∈ zT := zinjR zsub1 10 rfl rfl
theorem zcopy1 : Cond.native arraycopyName ∈ zT := zinjR zsub4 159 rfl rfl
theorem zcopy2 : Cond.static arraycopyName ∈ zT := zinjR zsub4 158 rfl rfl
theorem zcopy3 : Cond.initialized "java/lang/System" ∈ zT := zinjR zsub1 16 rfl rfl
theorem zclone1 : Cond.methodLink RJ7 310 ⟨"[B", "clone", "()Ljava/lang/Object;"⟩ ∈ zT := zinjR zsub4 149 rfl rfl
theorem zclone2 : Cond.sameMethod "[B" "java/lang/Object" "clone" "()Ljava/lang/Object;" ∈ zT := zinjR zsub4 150 rfl rfl
theorem zclone3 : Cond.native ⟨"java/lang/Object", "clone", "()Ljava/lang/Object;"⟩ ∈ zT := zinjR zsub4 151 rfl rfl
theorem zclone4 : Cond.instanceMethod ⟨"java/lang/Object", "clone", "()Ljava/lang/Object;"⟩ ∈ zT := zinjR zsub4 152 rfl rfl
theorem zclone5 : Cond.selects "[B" ⟨"[B", "clone", "()Ljava/lang/Object;"⟩ ⟨"java/lang/Object", "clone", "()Ljava/lang/Object;"⟩ ∈ zT := zinjR zsub4 153 rfl rfl
