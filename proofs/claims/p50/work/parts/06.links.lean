def R_law : String := "TagDrawLaw"
theorem zins {ws : List Cond} (ps : List Nat) (h : (decide (ws = ps.filterMap (fun i => lw_tbl[i]?)) && ws.all goodWord) = true) : ∀ w ∈ ws, w ∈ zT := by
  rw [Bool.and_eq_true, decide_eq_true_eq] at h
  intro w hw
  have h2 := List.all_eq_true.mp h.2 w hw
  rw [h.1] at hw
  obtain ⟨i, -, hi⟩ := List.mem_filterMap.mp hw
  exact List.mem_filter.mpr ⟨List.mem_of_getElem? hi, h2⟩
theorem zinj {L : List Cond} {w : Cond} (hL : ∀ w ∈ L, w ∈ lw_tbl) (i : Nat) (h : (decide (L[i]? = some w) && goodWord w) = true) : w ∈ zT := by
  rw [Bool.and_eq_true, decide_eq_true_eq] at h
  exact List.mem_filter.mpr ⟨hL _ (List.mem_of_getElem? h.1), h.2⟩
theorem zinjR {L : List Cond} {w : Cond} (hL : ∀ w ∈ L, w ∈ lw_tbl) (i : Nat) (h : L[i]? = some w) (g : goodWord w = true) : w ∈ zT := List.mem_filter.mpr ⟨hL _ (List.mem_of_getElem? h), g⟩
theorem znest {own : String} {idx : Nat} {y : MethodName} {h : String} {L : List Cond} (hL : ∀ w ∈ L, w ∈ lw_tbl) (i : Nat) (hi : L[i]? = some (Cond.methodLinkNest own idx y h)) : Cond.methodLinkNest own idx y h ∈ zNest := List.mem_filter.mpr ⟨hL _ (List.mem_of_getElem? hi), rfl⟩
theorem zsub1 : ∀ w ∈ tables_1_1, w ∈ lw_tbl := fun w h => List.mem_append_right _ (List.mem_append_left _ h)
theorem zsub2 : ∀ w ∈ tables_1_2, w ∈ lw_tbl := fun w h => List.mem_append_right _ (List.mem_append_right _ (List.mem_append_left _ h))
theorem zsub3 : ∀ w ∈ tables_1_3, w ∈ lw_tbl := fun w h => List.mem_append_right _ (List.mem_append_right _ (List.mem_append_right _ (List.mem_append_left _ h)))
theorem zsub4 : ∀ w ∈ tables_1_4, w ∈ lw_tbl := fun w h => List.mem_append_right _ (List.mem_append_right _ (List.mem_append_right _ (List.mem_append_right _ (List.mem_append_left _ h))))
theorem zsub5 : ∀ w ∈ tables_1_5, w ∈ lw_tbl := fun w h => List.mem_append_right _ (List.mem_append_right _ (List.mem_append_right _ (List.mem_append_right _ (List.mem_append_right _ (List.mem_append_left _ h)))))
theorem zsub6 : ∀ w ∈ tables_1_6, w ∈ lw_tbl := fun w h => List.mem_append_right _ (List.mem_append_right _ (List.mem_append_right _ (List.mem_append_right _ (List.mem_append_right _ (List.mem_append_right _ (List.mem_append_left _ h))))))
theorem zsub7 : ∀ w ∈ tables_1_7, w ∈ lw_tbl := fun w h => List.mem_append_right _ (List.mem_append_right _ (List.mem_append_right _ (List.mem_append_right _ (List.mem_append_right _ (List.mem_append_right _ (List.mem_append_right _ (List.mem_append_left _ h)))))))
theorem zsub8 : ∀ w ∈ tables_1_8, w ∈ lw_tbl := fun w h => List.mem_append_right _ (List.mem_append_right _ (List.mem_append_right _ (List.mem_append_right _ (List.mem_append_right _ (List.mem_append_right _ (List.mem_append_right _ (List.mem_append_right _ (h))))))))
theorem zc0 : zCl 0 RX0 TX0 5 tyX0 := ⟨rfl, zins [436, 438, 440, 442, 444] (by decide +kernel), tyX0_ok, nmX0⟩
theorem zc1 : zCl 1 RX1 TX1 3 tyX1 := ⟨rfl, zins [291, 293, 295] (by decide +kernel), tyX1_ok, nmX1⟩
theorem zc2 : zCl 2 RX2 TX2 16 tyX2 := ⟨rfl, zins [350, 352, 354, 356, 358, 360, 362, 364, 366, 368, 370, 372, 374, 376, 378, 380] (by decide +kernel), tyX2_ok, nmX2⟩
theorem zc3 : zCl 3 RX3 TX3 18 tyX3 := ⟨rfl, zins [238, 240, 242, 244, 246, 248, 250, 252, 254, 256, 258, 260, 262, 264, 266, 268, 270, 272] (by decide +kernel), tyX3_ok, nmX3⟩
theorem zc4 : zCl 4 RX4 TX4 14 tyX4 := ⟨rfl, zins [187, 189, 191, 193, 195, 197, 199, 201, 203, 205, 207, 209, 211, 213] (by decide +kernel), tyX4_ok, nmX4⟩
theorem zc5 : zCl 5 RX5 TX5 7 tyX5 := ⟨rfl, zins [406, 408, 410, 412, 414, 416, 418] (by decide +kernel), tyX5_ok, nmX5⟩
theorem zc6 : zCl 6 RX6 TX6 8 tyX6 := ⟨rfl, zins [471, 473, 475, 477, 479, 481, 483, 485] (by decide +kernel), tyX6_ok, nmX6⟩
theorem zc7 : zCl 7 RX7 TX7 17 tyX7 := ⟨rfl, zins [541, 543, 545, 547, 549, 551, 553, 555, 557, 559, 561, 563, 565, 567, 569, 571, 573] (by decide +kernel), tyX7_ok, nmX7⟩
theorem zc8 : zCl 8 RX8 TX8 65 tyX8 := ⟨rfl, zins [1337, 1339, 1341, 1343, 1345, 1347, 1349, 1351, 1353, 1355, 1357, 1359, 1361, 1363, 1365, 1367, 1369, 1371, 1373, 1375, 1377, 1379, 1381, 1383, 1385, 1387, 1389, 1391, 1393, 1395, 1397, 1399, 1401, 1403, 1405, 1407, 1409, 1411, 1413, 1415, 1417, 1419, 1421, 1423, 1425, 1427, 1429, 1431, 1433, 1435, 1437, 1439, 1441, 1443, 1445, 1447, 1449, 1451, 1453, 1455, 1457, 1459, 1461, 1463, 1465] (by decide +kernel), tyX8_ok, nmX8⟩
set_option maxRecDepth 100000 in
theorem miJ0_charAt_5068e : zMi yJ0_charAt_5068e cJ0_charAt_5068e 2 (some .char) 1 := ⟨zinjR zsub3 69 rfl rfl, zinjR zsub1 11 rfl rfl, by decide +kernel, by decide +kernel, by decide +kernel⟩
set_option maxRecDepth 100000 in
theorem miJ0_checkIndex_df160 : zMi yJ0_checkIndex_df160 cJ0_checkIndex_df160 2 none 2 := ⟨zinjR zsub3 79 rfl rfl, zinjR zsub1 11 rfl rfl, by decide +kernel, by decide +kernel, by decide +kernel⟩
set_option maxRecDepth 100000 in
theorem miJ0_coder_7d493 : zMi yJ0_coder_7d493 cJ0_coder_7d493 1 (some .byte) 0 := ⟨zinjR zsub3 63 rfl rfl, zinjR zsub1 11 rfl rfl, by decide +kernel, by decide +kernel, by decide +kernel⟩
set_option maxRecDepth 100000 in
theorem miJ0_isLatin1_aae02 : zMi yJ0_isLatin1_aae02 cJ0_isLatin1_aae02 1 (some .boolean) 0 := ⟨zinjR zsub3 73 rfl rfl, zinjR zsub1 11 rfl rfl, by decide +kernel, by decide +kernel, by decide +kernel⟩
set_option maxRecDepth 100000 in
theorem miJ0_length_8abf5 : zMi yJ0_length_8abf5 cJ0_length_8abf5 1 (some .int) 0 := ⟨zinjR zsub3 59 rfl rfl, zinjR zsub1 11 rfl rfl, by decide +kernel, by decide +kernel, by decide +kernel⟩
set_option maxRecDepth 100000 in
theorem miJ1_charAt_3b067 : zMi yJ1_charAt_3b067 cJ1_charAt_3b067 2 (some .char) 2 := ⟨zinjR zsub3 76 rfl rfl, zinjR zsub1 12 rfl rfl, by decide +kernel, by decide +kernel, by decide +kernel⟩
set_option maxRecDepth 100000 in
theorem miJ3_checkIndex_8e157 : zMi yJ3_checkIndex_8e157 cJ3_checkIndex_8e157 3 (some .int) 3 := ⟨zinjR zsub3 84 rfl rfl, zinjR zsub1 13 rfl rfl, by decide +kernel, by decide +kernel, by decide +kernel⟩
set_option maxRecDepth 100000 in
theorem miX0_allOf : zMi yX0_allOf cX0_allOf 5 (some .long) 1 := ⟨zinjR zsub4 214 rfl rfl, zinjR zsub1 7 rfl rfl, by decide +kernel, by decide +kernel, by decide +kernel⟩
set_option maxRecDepth 100000 in
theorem miX0_always : zMi yX0_always cX0_always 3 (some .int) 0 := ⟨zinjR zsub5 1 rfl rfl, zinjR zsub1 7 rfl rfl, by decide +kernel, by decide +kernel, by decide +kernel⟩
set_option maxRecDepth 100000 in
theorem miX0_anyUnit : zMi yX0_anyUnit cX0_anyUnit 2 (some .long) 1 := ⟨zinjR zsub4 210 rfl rfl, zinjR zsub1 7 rfl rfl, by decide +kernel, by decide +kernel, by decide +kernel⟩
set_option maxRecDepth 100000 in
theorem miX0_certainUnit : zMi yX0_certainUnit cX0_certainUnit 3 (some .long) 2 := ⟨zinjR zsub4 223 rfl rfl, zinjR zsub1 7 rfl rfl, by decide +kernel, by decide +kernel, by decide +kernel⟩
set_option maxRecDepth 100000 in
theorem miX0_ever : zMi yX0_ever cX0_ever 3 (some .int) 0 := ⟨zinjR zsub5 5 rfl rfl, zinjR zsub1 7 rfl rfl, by decide +kernel, by decide +kernel, by decide +kernel⟩
set_option maxRecDepth 100000 in
theorem miX0_fewestTags : zMi yX0_fewestTags cX0_fewestTags 4 (some .int) 1 := ⟨zinjR zsub5 17 rfl rfl, zinjR zsub1 7 rfl rfl, by decide +kernel, by decide +kernel, by decide +kernel⟩
set_option maxRecDepth 100000 in
theorem miX0_init : zMi yX0_init cX0_init 1 none 0 := ⟨zinjR zsub2 80 rfl rfl, zinjR zsub1 7 rfl rfl, by decide +kernel, by decide +kernel, by decide +kernel⟩
set_option maxRecDepth 100000 in
theorem miX0_mostTags : zMi yX0_mostTags cX0_mostTags 4 (some .int) 1 := ⟨zinjR zsub5 25 rfl rfl, zinjR zsub1 7 rfl rfl, by decide +kernel, by decide +kernel, by decide +kernel⟩
set_option maxRecDepth 100000 in
theorem miX0_reckon : zMi yX0_reckon cX0_reckon 2 none 1 := ⟨zinjR zsub4 188 rfl rfl, zinjR zsub1 7 rfl rfl, by decide +kernel, by decide +kernel, by decide +kernel⟩
set_option maxRecDepth 100000 in
theorem miX0_record : zMi yX0_record cX0_record 7 none 2 := ⟨zinjR zsub4 201 rfl rfl, zinjR zsub1 7 rfl rfl, by decide +kernel, by decide +kernel, by decide +kernel⟩
set_option maxRecDepth 100000 in
theorem miX0_tagsOf : zMi yX0_tagsOf cX0_tagsOf 4 (some .int) 2 := ⟨zinjR zsub5 20 rfl rfl, zinjR zsub1 7 rfl rfl, by decide +kernel, by decide +kernel, by decide +kernel⟩
set_option maxRecDepth 100000 in
theorem miX0_walk : zMi yX0_walk cX0_walk 9 none 6 := ⟨zinjR zsub4 196 rfl rfl, zinjR zsub1 7 rfl rfl, by decide +kernel, by decide +kernel, by decide +kernel⟩
set_option maxRecDepth 100000 in
theorem miX1_forget : zMi yX1_forget cX1_forget 1 none 0 := ⟨zinjR zsub3 210 rfl rfl, zinjR zsub1 4 rfl rfl, by decide +kernel, by decide +kernel, by decide +kernel⟩
set_option maxRecDepth 100000 in
theorem miX1_giveBack : zMi yX1_giveBack cX1_giveBack 3 (some .boolean) 1 := ⟨zinjR zsub5 185 rfl rfl, zinjR zsub1 4 rfl rfl, by decide +kernel, by decide +kernel, by decide +kernel⟩
set_option maxRecDepth 100000 in
theorem miX1_init : zMi yX1_init cX1_init 2 none 0 := ⟨zinjR zsub1 177 rfl rfl, zinjR zsub1 4 rfl rfl, by decide +kernel, by decide +kernel, by decide +kernel⟩
set_option maxRecDepth 100000 in
theorem miX1_keep : zMi yX1_keep cX1_keep 3 none 1 := ⟨zinjR zsub5 137 rfl rfl, zinjR zsub1 4 rfl rfl, by decide +kernel, by decide +kernel, by decide +kernel⟩
set_option maxRecDepth 100000 in
theorem miX1_newestStood : zMi yX1_newestStood cX1_newestStood 1 (some (.object "TagDraw$Register")) 0 := ⟨zinjR zsub5 141 rfl rfl, zinjR zsub1 4 rfl rfl, by decide +kernel, by decide +kernel, by decide +kernel⟩
set_option maxRecDepth 100000 in
theorem miX2_askers : zMi yX2_askers cX2_askers 4 (some .int) 1 := ⟨zinjR zsub4 26 rfl rfl, zinjR zsub1 5 rfl rfl, by decide +kernel, by decide +kernel, by decide +kernel⟩
set_option maxRecDepth 100000 in
theorem miX2_close : zMi yX2_close cX2_close 5 none 2 := ⟨zinjR zsub2 178 rfl rfl, zinjR zsub1 5 rfl rfl, by decide +kernel, by decide +kernel, by decide +kernel⟩
set_option maxRecDepth 100000 in
theorem miX2_firstApplicants : zMi yX2_firstApplicants cX2_firstApplicants 4 (some .int) 1 := ⟨zinjR zsub4 10 rfl rfl, zinjR zsub1 5 rfl rfl, by decide +kernel, by decide +kernel, by decide +kernel⟩
set_option maxRecDepth 100000 in
theorem miX2_firstHunters : zMi yX2_firstHunters cX2_firstHunters 4 (some .int) 1 := ⟨zinjR zsub4 22 rfl rfl, zinjR zsub1 5 rfl rfl, by decide +kernel, by decide +kernel, by decide +kernel⟩
set_option maxRecDepth 100000 in
theorem miX2_fits : zMi yX2_fits cX2_fits 4 (some .boolean) 3 := ⟨zinjR zsub4 100 rfl rfl, zinjR zsub1 5 rfl rfl, by decide +kernel, by decide +kernel, by decide +kernel⟩
set_option maxRecDepth 100000 in
theorem miX2_gather : zMi yX2_gather cX2_gather 4 none 1 := ⟨zinjR zsub2 153 rfl rfl, zinjR zsub1 5 rfl rfl, by decide +kernel, by decide +kernel, by decide +kernel⟩
set_option maxRecDepth 100000 in
theorem miX2_gatherUnits : zMi yX2_gatherUnits cX2_gatherUnits 4 none 1 := ⟨zinjR zsub2 157 rfl rfl, zinjR zsub1 5 rfl rfl, by decide +kernel, by decide +kernel, by decide +kernel⟩
set_option maxRecDepth 100000 in
theorem miX2_init : zMi yX2_init cX2_init 1 none 0 := ⟨zinjR zsub1 197 rfl rfl, zinjR zsub1 5 rfl rfl, by decide +kernel, by decide +kernel, by decide +kernel⟩
set_option maxRecDepth 100000 in
theorem miX2_join : zMi yX2_join cX2_join 5 none 2 := ⟨zinjR zsub2 171 rfl rfl, zinjR zsub1 5 rfl rfl, by decide +kernel, by decide +kernel, by decide +kernel⟩
set_option maxRecDepth 100000 in
theorem miX2_open : zMi yX2_open cX2_open 2 none 1 := ⟨zinjR zsub2 167 rfl rfl, zinjR zsub1 5 rfl rfl, by decide +kernel, by decide +kernel, by decide +kernel⟩
set_option maxRecDepth 100000 in
theorem miX2_rankOf : zMi yX2_rankOf cX2_rankOf 4 (some .int) 2 := ⟨zinjR zsub4 14 rfl rfl, zinjR zsub1 5 rfl rfl, by decide +kernel, by decide +kernel, by decide +kernel⟩
set_option maxRecDepth 100000 in
theorem miX2_wish : zMi yX2_wish cX2_wish 3 (some .int) 2 := ⟨zinjR zsub4 18 rfl rfl, zinjR zsub1 5 rfl rfl, by decide +kernel, by decide +kernel, by decide +kernel⟩
set_option maxRecDepth 100000 in
theorem miX3_asker : zMi yX3_asker cX3_asker 5 (some .int) 0 := ⟨zinjR zsub3 180 rfl rfl, zinjR zsub1 2 rfl rfl, by decide +kernel, by decide +kernel, by decide +kernel⟩
set_option maxRecDepth 100000 in
theorem miX3_endOfLine : zMi yX3_endOfLine cX3_endOfLine 1 (some .boolean) 0 := ⟨zinjR zsub3 144 rfl rfl, zinjR zsub1 2 rfl rfl, by decide +kernel, by decide +kernel, by decide +kernel⟩
set_option maxRecDepth 100000 in
theorem miX3_fail : zMi yX3_fail cX3_fail 2 (some .boolean) 1 := ⟨zinjR zsub3 126 rfl rfl, zinjR zsub1 2 rfl rfl, by decide +kernel, by decide +kernel, by decide +kernel⟩
set_option maxRecDepth 100000 in
theorem miX3_find : zMi yX3_find cX3_find 5 (some .int) 3 := ⟨zinjR zsub3 133 rfl rfl, zinjR zsub1 2 rfl rfl, by decide +kernel, by decide +kernel, by decide +kernel⟩
set_option maxRecDepth 100000 in
theorem miX3_init : zMi yX3_init cX3_init 1 none 0 := ⟨zinjR zsub1 27 rfl rfl, zinjR zsub1 2 rfl rfl, by decide +kernel, by decide +kernel, by decide +kernel⟩
set_option maxRecDepth 100000 in
theorem miX3_isBlank : zMi yX3_isBlank cX3_isBlank 1 (some .boolean) 1 := ⟨zinjR zsub3 31 rfl rfl, zinjR zsub1 2 rfl rfl, by decide +kernel, by decide +kernel, by decide +kernel⟩
set_option maxRecDepth 100000 in
theorem miX3_isDigit : zMi yX3_isDigit cX3_isDigit 1 (some .boolean) 1 := ⟨zinjR zsub3 42 rfl rfl, zinjR zsub1 2 rfl rfl, by decide +kernel, by decide +kernel, by decide +kernel⟩
set_option maxRecDepth 100000 in
theorem miX3_isFree : zMi yX3_isFree cX3_isFree 2 (some .boolean) 1 := ⟨zinjR zsub3 168 rfl rfl, zinjR zsub1 2 rfl rfl, by decide +kernel, by decide +kernel, by decide +kernel⟩
set_option maxRecDepth 100000 in
theorem miX3_isLetter : zMi yX3_isLetter cX3_isLetter 1 (some .boolean) 1 := ⟨zinjR zsub3 34 rfl rfl, zinjR zsub1 2 rfl rfl, by decide +kernel, by decide +kernel, by decide +kernel⟩
set_option maxRecDepth 100000 in
theorem miX3_isName : zMi yX3_isName cX3_isName 1 (some .boolean) 0 := ⟨zinjR zsub3 115 rfl rfl, zinjR zsub1 2 rfl rfl, by decide +kernel, by decide +kernel, by decide +kernel⟩
set_option maxRecDepth 100000 in
theorem miX3_isTaken : zMi yX3_isTaken cX3_isTaken 3 (some .boolean) 1 := ⟨zinjR zsub3 130 rfl rfl, zinjR zsub1 2 rfl rfl, by decide +kernel, by decide +kernel, by decide +kernel⟩
set_option maxRecDepth 100000 in
theorem miX3_numberUpTo : zMi yX3_numberUpTo cX3_numberUpTo 2 (some .boolean) 1 := ⟨zinjR zsub3 140 rfl rfl, zinjR zsub1 2 rfl rfl, by decide +kernel, by decide +kernel, by decide +kernel⟩
set_option maxRecDepth 100000 in
theorem miX3_read : zMi yX3_read cX3_read 4 (some .boolean) 2 := ⟨zinjR zsub3 15 rfl rfl, zinjR zsub1 2 rfl rfl, by decide +kernel, by decide +kernel, by decide +kernel⟩
set_option maxRecDepth 100000 in
theorem miX3_readAsks : zMi yX3_readAsks cX3_readAsks 4 (some .boolean) 0 := ⟨zinjR zsub3 176 rfl rfl, zinjR zsub1 2 rfl rfl, by decide +kernel, by decide +kernel, by decide +kernel⟩
set_option maxRecDepth 100000 in
theorem miX3_readGuests : zMi yX3_readGuests cX3_readGuests 1 (some .boolean) 0 := ⟨zinjR zsub3 201 rfl rfl, zinjR zsub1 2 rfl rfl, by decide +kernel, by decide +kernel, by decide +kernel⟩
set_option maxRecDepth 100000 in
theorem miX3_readHunter : zMi yX3_readHunter cX3_readHunter 2 (some .boolean) 0 := ⟨zinjR zsub3 156 rfl rfl, zinjR zsub1 2 rfl rfl, by decide +kernel, by decide +kernel, by decide +kernel⟩
set_option maxRecDepth 100000 in
theorem miX3_readLaw : zMi yX3_readLaw cX3_readLaw 1 (some .boolean) 0 := ⟨zinjR zsub3 190 rfl rfl, zinjR zsub1 2 rfl rfl, by decide +kernel, by decide +kernel, by decide +kernel⟩
set_option maxRecDepth 100000 in
theorem miX3_readLine : zMi yX3_readLine cX3_readLine 1 (some .boolean) 0 := ⟨zinjR zsub3 50 rfl rfl, zinjR zsub1 2 rfl rfl, by decide +kernel, by decide +kernel, by decide +kernel⟩
set_option maxRecDepth 100000 in
theorem miX3_readNewName : zMi yX3_readNewName cX3_readNewName 1 (some .boolean) 0 := ⟨zinjR zsub3 111 rfl rfl, zinjR zsub1 2 rfl rfl, by decide +kernel, by decide +kernel, by decide +kernel⟩
set_option maxRecDepth 100000 in
theorem miX3_readParty : zMi yX3_readParty cX3_readParty 4 (some .boolean) 0 := ⟨zinjR zsub3 164 rfl rfl, zinjR zsub1 2 rfl rfl, by decide +kernel, by decide +kernel, by decide +kernel⟩
set_option maxRecDepth 100000 in
theorem miX3_readPrefer : zMi yX3_readPrefer cX3_readPrefer 1 (some .boolean) 0 := ⟨zinjR zsub3 197 rfl rfl, zinjR zsub1 2 rfl rfl, by decide +kernel, by decide +kernel, by decide +kernel⟩
set_option maxRecDepth 100000 in
theorem miX3_readUnit : zMi yX3_readUnit cX3_readUnit 1 (some .boolean) 0 := ⟨zinjR zsub3 107 rfl rfl, zinjR zsub1 2 rfl rfl, by decide +kernel, by decide +kernel, by decide +kernel⟩
set_option maxRecDepth 100000 in
theorem miX3_says : zMi yX3_says cX3_says 3 (some .boolean) 1 := ⟨zinjR zsub3 55 rfl rfl, zinjR zsub1 2 rfl rfl, by decide +kernel, by decide +kernel, by decide +kernel⟩
set_option maxRecDepth 100000 in
theorem miX3_step : zMi yX3_step cX3_step 2 none 0 := ⟨zinjR zsub3 27 rfl rfl, zinjR zsub1 2 rfl rfl, by decide +kernel, by decide +kernel, by decide +kernel⟩
set_option maxRecDepth 100000 in
theorem miX3_stepNumber : zMi yX3_stepNumber cX3_stepNumber 1 none 0 := ⟨zinjR zsub3 46 rfl rfl, zinjR zsub1 2 rfl rfl, by decide +kernel, by decide +kernel, by decide +kernel⟩
set_option maxRecDepth 100000 in
theorem miX3_stepWord : zMi yX3_stepWord cX3_stepWord 1 none 0 := ⟨zinjR zsub3 38 rfl rfl, zinjR zsub1 2 rfl rfl, by decide +kernel, by decide +kernel, by decide +kernel⟩
set_option maxRecDepth 100000 in
theorem miX4_addHunter : zMi yX4_addHunter cX4_addHunter 3 none 2 := ⟨zinjR zsub3 160 rfl rfl, zinjR zsub1 3 rfl rfl, by decide +kernel, by decide +kernel, by decide +kernel⟩
set_option maxRecDepth 100000 in
theorem miX4_addParty : zMi yX4_addParty cX4_addParty 3 none 1 := ⟨zinjR zsub3 172 rfl rfl, zinjR zsub1 3 rfl rfl, by decide +kernel, by decide +kernel, by decide +kernel⟩
set_option maxRecDepth 100000 in
theorem miX4_addUnit : zMi yX4_addUnit cX4_addUnit 2 none 1 := ⟨zinjR zsub3 151 rfl rfl, zinjR zsub1 3 rfl rfl, by decide +kernel, by decide +kernel, by decide +kernel⟩
set_option maxRecDepth 100000 in
theorem miX4_clear : zMi yX4_clear cX4_clear 1 none 0 := ⟨zinjR zsub2 146 rfl rfl, zinjR zsub1 3 rfl rfl, by decide +kernel, by decide +kernel, by decide +kernel⟩
set_option maxRecDepth 100000 in
theorem miX4_dissolve : zMi yX4_dissolve cX4_dissolve 4 none 1 := ⟨zinjR zsub5 80 rfl rfl, zinjR zsub1 3 rfl rfl, by decide +kernel, by decide +kernel, by decide +kernel⟩
set_option maxRecDepth 100000 in
theorem miX4_init : zMi yX4_init cX4_init 1 none 0 := ⟨zinjR zsub1 33 rfl rfl, zinjR zsub1 3 rfl rfl, by decide +kernel, by decide +kernel, by decide +kernel⟩
set_option maxRecDepth 100000 in
theorem miX4_join : zMi yX4_join cX4_join 4 none 2 := ⟨zinjR zsub5 65 rfl rfl, zinjR zsub1 3 rfl rfl, by decide +kernel, by decide +kernel, by decide +kernel⟩
set_option maxRecDepth 100000 in
theorem miX4_live : zMi yX4_live cX4_live 5 none 2 := ⟨zinjR zsub5 116 rfl rfl, zinjR zsub1 3 rfl rfl, by decide +kernel, by decide +kernel, by decide +kernel⟩
set_option maxRecDepth 100000 in
theorem miX4_take : zMi yX4_take cX4_take 2 none 1 := ⟨zinjR zsub3 205 rfl rfl, zinjR zsub1 3 rfl rfl, by decide +kernel, by decide +kernel, by decide +kernel⟩
set_option maxRecDepth 100000 in
theorem miX4_wishFor : zMi yX4_wishFor cX4_wishFor 7 none 4 := ⟨zinjR zsub3 186 rfl rfl, zinjR zsub1 3 rfl rfl, by decide +kernel, by decide +kernel, by decide +kernel⟩
set_option maxRecDepth 100000 in
theorem miX5_bySeed : zMi yX5_bySeed cX5_bySeed 3 none 2 := ⟨zinjR zsub4 82 rfl rfl, zinjR zsub1 6 rfl rfl, by decide +kernel, by decide +kernel, by decide +kernel⟩
set_option maxRecDepth 100000 in
theorem miX5_fewestPoints : zMi yX5_fewestPoints cX5_fewestPoints 5 (some .int) 2 := ⟨zinjR zsub4 125 rfl rfl, zinjR zsub1 6 rfl rfl, by decide +kernel, by decide +kernel, by decide +kernel⟩
set_option maxRecDepth 100000 in
theorem miX5_firstRound : zMi yX5_firstRound cX5_firstRound 5 none 1 := ⟨zinjR zsub4 91 rfl rfl, zinjR zsub1 6 rfl rfl, by decide +kernel, by decide +kernel, by decide +kernel⟩
set_option maxRecDepth 100000 in
theorem miX5_hasFirst : zMi yX5_hasFirst cX5_hasFirst 3 (some .boolean) 2 := ⟨zinjR zsub4 170 rfl rfl, zinjR zsub1 6 rfl rfl, by decide +kernel, by decide +kernel, by decide +kernel⟩
set_option maxRecDepth 100000 in
theorem miX5_hold : zMi yX5_hold cX5_hold 5 none 4 := ⟨zinjR zsub4 105 rfl rfl, zinjR zsub1 6 rfl rfl, by decide +kernel, by decide +kernel, by decide +kernel⟩
set_option maxRecDepth 100000 in
theorem miX5_holderOf : zMi yX5_holderOf cX5_holderOf 5 (some .int) 3 := ⟨zinjR zsub4 72 rfl rfl, zinjR zsub1 6 rfl rfl, by decide +kernel, by decide +kernel, by decide +kernel⟩
set_option maxRecDepth 100000 in
theorem miX5_holders : zMi yX5_holders cX5_holders 5 (some .int) 2 := ⟨zinjR zsub4 121 rfl rfl, zinjR zsub1 6 rfl rfl, by decide +kernel, by decide +kernel, by decide +kernel⟩
set_option maxRecDepth 100000 in
theorem miX5_init : zMi yX5_init cX5_init 1 none 0 := ⟨zinjR zsub2 42 rfl rfl, zinjR zsub1 6 rfl rfl, by decide +kernel, by decide +kernel, by decide +kernel⟩
set_option maxRecDepth 100000 in
theorem miX5_isWaiting : zMi yX5_isWaiting cX5_isWaiting 4 (some .boolean) 3 := ⟨zinjR zsub4 137 rfl rfl, zinjR zsub1 6 rfl rfl, by decide +kernel, by decide +kernel, by decide +kernel⟩
set_option maxRecDepth 100000 in
theorem miX5_lineUp : zMi yX5_lineUp cX5_lineUp 9 none 2 := ⟨zinjR zsub4 65 rfl rfl, zinjR zsub1 6 rfl rfl, by decide +kernel, by decide +kernel, by decide +kernel⟩
set_option maxRecDepth 100000 in
theorem miX5_rank : zMi yX5_rank cX5_rank 6 none 1 := ⟨zinjR zsub4 95 rfl rfl, zinjR zsub1 6 rfl rfl, by decide +kernel, by decide +kernel, by decide +kernel⟩
set_option maxRecDepth 100000 in
theorem miX5_rankHeld : zMi yX5_rankHeld cX5_rankHeld 4 (some .int) 2 := ⟨zinjR zsub4 152 rfl rfl, zinjR zsub1 6 rfl rfl, by decide +kernel, by decide +kernel, by decide +kernel⟩
set_option maxRecDepth 100000 in
theorem miX5_scoreBehind : zMi yX5_scoreBehind cX5_scoreBehind 4 (some .int) 3 := ⟨zinjR zsub4 165 rfl rfl, zinjR zsub1 6 rfl rfl, by decide +kernel, by decide +kernel, by decide +kernel⟩
set_option maxRecDepth 100000 in
theorem miX5_secondRound : zMi yX5_secondRound cX5_secondRound 7 none 1 := ⟨zinjR zsub4 109 rfl rfl, zinjR zsub1 6 rfl rfl, by decide +kernel, by decide +kernel, by decide +kernel⟩
set_option maxRecDepth 100000 in
theorem miX5_settle : zMi yX5_settle cX5_settle 3 none 1 := ⟨zinjR zsub4 87 rfl rfl, zinjR zsub1 6 rfl rfl, by decide +kernel, by decide +kernel, by decide +kernel⟩
set_option maxRecDepth 100000 in
theorem miX5_tagsGiven : zMi yX5_tagsGiven cX5_tagsGiven 4 (some .int) 1 := ⟨zinjR zsub5 103 rfl rfl, zinjR zsub1 6 rfl rfl, by decide +kernel, by decide +kernel, by decide +kernel⟩
set_option maxRecDepth 100000 in
theorem miX6_init : zMi yX6_init cX6_init 1 none 0 := ⟨zinjR zsub2 106 rfl rfl, zinjR zsub1 8 rfl rfl, by decide +kernel, by decide +kernel, by decide +kernel⟩
set_option maxRecDepth 100000 in
theorem miX6_note : zMi yX6_note cX6_note 4 none 2 := ⟨zinjR zsub5 107 rfl rfl, zinjR zsub1 8 rfl rfl, by decide +kernel, by decide +kernel, by decide +kernel⟩
set_option maxRecDepth 100000 in
theorem miX6_pass : zMi yX6_pass cX6_pass 6 none 3 := ⟨zinjR zsub5 95 rfl rfl, zinjR zsub1 8 rfl rfl, by decide +kernel, by decide +kernel, by decide +kernel⟩
set_option maxRecDepth 100000 in
theorem miX6_unserved : zMi yX6_unserved cX6_unserved 4 (some .int) 1 := ⟨zinjR zsub5 121 rfl rfl, zinjR zsub1 8 rfl rfl, by decide +kernel, by decide +kernel, by decide +kernel⟩
set_option maxRecDepth 100000 in
theorem miX7_add : zMi yX7_add cX7_add 3 none 3 := ⟨zinjR zsub2 174 rfl rfl, zinjR zsub1 1 rfl rfl, by decide +kernel, by decide +kernel, by decide +kernel⟩
set_option maxRecDepth 100000 in
theorem miX7_answer : zMi yX7_answer cX7_answer 2 (some .int) 1 := ⟨zinjR zsub3 218 rfl rfl, zinjR zsub1 1 rfl rfl, by decide +kernel, by decide +kernel, by decide +kernel⟩
set_option maxRecDepth 100000 in
theorem miX7_answerParts : zMi yX7_answerParts cX7_answerParts 3 (some .long) 1 := ⟨zinjR zsub4 219 rfl rfl, zinjR zsub1 1 rfl rfl, by decide +kernel, by decide +kernel, by decide +kernel⟩
set_option maxRecDepth 100000 in
theorem miX7_apart : zMi yX7_apart cX7_apart 4 (some .long) 1 := ⟨zinjR zsub5 72 rfl rfl, zinjR zsub1 1 rfl rfl, by decide +kernel, by decide +kernel, by decide +kernel⟩
set_option maxRecDepth 100000 in
theorem miX7_append : zMi yX7_append cX7_append 3 none 1 := ⟨zinjR zsub3 2 rfl rfl, zinjR zsub1 1 rfl rfl, by decide +kernel, by decide +kernel, by decide +kernel⟩
set_option maxRecDepth 100000 in
theorem miX7_applicant : zMi yX7_applicant cX7_applicant 3 (some .int) 2 := ⟨zinjR zsub4 30 rfl rfl, zinjR zsub1 1 rfl rfl, by decide +kernel, by decide +kernel, by decide +kernel⟩
set_option maxRecDepth 100000 in
theorem miX7_areYears : zMi yX7_areYears cX7_areYears 2 (some .boolean) 2 := ⟨zinjR zsub5 91 rfl rfl, zinjR zsub1 1 rfl rfl, by decide +kernel, by decide +kernel, by decide +kernel⟩
set_option maxRecDepth 100000 in
theorem miX7_at : zMi yX7_at cX7_at 3 (some .long) 2 := ⟨zinjR zsub4 228 rfl rfl, zinjR zsub1 1 rfl rfl, by decide +kernel, by decide +kernel, by decide +kernel⟩
set_option maxRecDepth 100000 in
theorem miX7_behind : zMi yX7_behind cX7_behind 3 (some .int) 2 := ⟨zinjR zsub4 161 rfl rfl, zinjR zsub1 1 rfl rfl, by decide +kernel, by decide +kernel, by decide +kernel⟩
set_option maxRecDepth 100000 in
theorem miX7_bigAdd : zMi yX7_bigAdd cX7_bigAdd 4 none 3 := ⟨zinjR zsub4 205 rfl rfl, zinjR zsub1 1 rfl rfl, by decide +kernel, by decide +kernel, by decide +kernel⟩
set_option maxRecDepth 100000 in
theorem miX7_bigCell : zMi yX7_bigCell cX7_bigCell 2 (some .long) 2 := ⟨zinjR zsub3 136 rfl rfl, zinjR zsub1 1 rfl rfl, by decide +kernel, by decide +kernel, by decide +kernel⟩
set_option maxRecDepth 100000 in
theorem miX7_bigFill : zMi yX7_bigFill cX7_bigFill 4 none 2 := ⟨zinjR zsub4 191 rfl rfl, zinjR zsub1 1 rfl rfl, by decide +kernel, by decide +kernel, by decide +kernel⟩
set_option maxRecDepth 100000 in
theorem miX7_bigPut : zMi yX7_bigPut cX7_bigPut 4 none 3 := ⟨zinjR zsub3 147 rfl rfl, zinjR zsub1 1 rfl rfl, by decide +kernel, by decide +kernel, by decide +kernel⟩
set_option maxRecDepth 100000 in
theorem miX7_both : zMi yX7_both cX7_both 3 (some .long) 2 := ⟨zinjR zsub4 232 rfl rfl, zinjR zsub1 1 rfl rfl, by decide +kernel, by decide +kernel, by decide +kernel⟩
set_option maxRecDepth 100000 in
theorem miX7_cell : zMi yX7_cell cX7_cell 2 (some .int) 2 := ⟨zinjR zsub2 160 rfl rfl, zinjR zsub1 1 rfl rfl, by decide +kernel, by decide +kernel, by decide +kernel⟩
set_option maxRecDepth 100000 in
theorem miX7_chance : zMi yX7_chance cX7_chance 3 (some .long) 2 := ⟨zinjR zsub4 180 rfl rfl, zinjR zsub1 1 rfl rfl, by decide +kernel, by decide +kernel, by decide +kernel⟩
set_option maxRecDepth 100000 in
theorem miX7_changed : zMi yX7_changed cX7_changed 2 (some .int) 1 := ⟨zinjR zsub3 214 rfl rfl, zinjR zsub1 1 rfl rfl, by decide +kernel, by decide +kernel, by decide +kernel⟩
set_option maxRecDepth 100000 in
theorem miX7_choice : zMi yX7_choice cX7_choice 3 (some .int) 2 := ⟨zinjR zsub4 38 rfl rfl, zinjR zsub1 1 rfl rfl, by decide +kernel, by decide +kernel, by decide +kernel⟩
set_option maxRecDepth 100000 in
theorem miX7_choose : zMi yX7_choose cX7_choose 6 (some .int) 4 := ⟨zinjR zsub5 157 rfl rfl, zinjR zsub1 1 rfl rfl, by decide +kernel, by decide +kernel, by decide +kernel⟩
set_option maxRecDepth 100000 in
theorem miX7_commonDivisor : zMi yX7_commonDivisor cX7_commonDivisor 6 (some .int) 2 := ⟨zinjR zsub4 49 rfl rfl, zinjR zsub1 1 rfl rfl, by decide +kernel, by decide +kernel, by decide +kernel⟩
set_option maxRecDepth 100000 in
theorem miX7_copy : zMi yX7_copy cX7_copy 3 none 2 := ⟨zinjR zsub3 18 rfl rfl, zinjR zsub1 1 rfl rfl, by decide +kernel, by decide +kernel, by decide +kernel⟩
set_option maxRecDepth 100000 in
theorem miX7_demand : zMi yX7_demand cX7_demand 3 (some .int) 2 := ⟨zinjR zsub4 43 rfl rfl, zinjR zsub1 1 rfl rfl, by decide +kernel, by decide +kernel, by decide +kernel⟩
set_option maxRecDepth 100000 in
theorem miX7_draw : zMi yX7_draw cX7_draw 2 (some .int) 1 := ⟨zinjR zsub5 133 rfl rfl, zinjR zsub1 1 rfl rfl, by decide +kernel, by decide +kernel, by decide +kernel⟩
set_option maxRecDepth 100000 in
theorem miX7_drawn : zMi yX7_drawn cX7_drawn 4 (some .int) 2 := ⟨zinjR zsub4 78 rfl rfl, zinjR zsub1 1 rfl rfl, by decide +kernel, by decide +kernel, by decide +kernel⟩
set_option maxRecDepth 100000 in
theorem miX7_ends : zMi yX7_ends cX7_ends 1 (some .int) 0 := ⟨zinjR zsub5 32 rfl rfl, zinjR zsub1 1 rfl rfl, by decide +kernel, by decide +kernel, by decide +kernel⟩
set_option maxRecDepth 100000 in
theorem miX7_envies : zMi yX7_envies cX7_envies 7 (some .int) 2 := ⟨zinjR zsub4 147 rfl rfl, zinjR zsub1 1 rfl rfl, by decide +kernel, by decide +kernel, by decide +kernel⟩
set_option maxRecDepth 100000 in
theorem miX7_fault : zMi yX7_fault cX7_fault 2 (some .int) 1 := ⟨zinjR zsub3 223 rfl rfl, zinjR zsub1 1 rfl rfl, by decide +kernel, by decide +kernel, by decide +kernel⟩
set_option maxRecDepth 100000 in
theorem miX7_feed : zMi yX7_feed cX7_feed 6 (some .int) 5 := ⟨zinjR zsub2 238 rfl rfl, zinjR zsub1 1 rfl rfl, by decide +kernel, by decide +kernel, by decide +kernel⟩
set_option maxRecDepth 100000 in
theorem miX7_fill : zMi yX7_fill cX7_fill 3 none 2 := ⟨zinjR zsub2 149 rfl rfl, zinjR zsub1 1 rfl rfl, by decide +kernel, by decide +kernel, by decide +kernel⟩
set_option maxRecDepth 100000 in
theorem miX7_given : zMi yX7_given cX7_given 2 (some .int) 1 := ⟨zinjR zsub5 13 rfl rfl, zinjR zsub1 1 rfl rfl, by decide +kernel, by decide +kernel, by decide +kernel⟩
set_option maxRecDepth 100000 in
theorem miX7_guests : zMi yX7_guests cX7_guests 3 (some .int) 1 := ⟨zinjR zsub5 173 rfl rfl, zinjR zsub1 1 rfl rfl, by decide +kernel, by decide +kernel, by decide +kernel⟩
set_option maxRecDepth 100000 in
theorem miX7_hunter : zMi yX7_hunter cX7_hunter 3 (some .int) 2 := ⟨zinjR zsub3 234 rfl rfl, zinjR zsub1 1 rfl rfl, by decide +kernel, by decide +kernel, by decide +kernel⟩
set_option maxRecDepth 100000 in
theorem miX7_init : zMi yX7_init cX7_init 1 none 0 := ⟨zinjR zsub1 19 rfl rfl, zinjR zsub1 1 rfl rfl, by decide +kernel, by decide +kernel, by decide +kernel⟩
set_option maxRecDepth 100000 in
theorem miX7_isApplicant : zMi yX7_isApplicant cX7_isApplicant 2 (some .boolean) 1 := ⟨zinjR zsub4 34 rfl rfl, zinjR zsub1 1 rfl rfl, by decide +kernel, by decide +kernel, by decide +kernel⟩
set_option maxRecDepth 100000 in
theorem miX7_isHunter : zMi yX7_isHunter cX7_isHunter 2 (some .boolean) 1 := ⟨zinjR zsub3 238 rfl rfl, zinjR zsub1 1 rfl rfl, by decide +kernel, by decide +kernel, by decide +kernel⟩
set_option maxRecDepth 100000 in
theorem miX7_isParty : zMi yX7_isParty cX7_isParty 2 (some .boolean) 1 := ⟨zinjR zsub5 76 rfl rfl, zinjR zsub1 1 rfl rfl, by decide +kernel, by decide +kernel, by decide +kernel⟩
set_option maxRecDepth 100000 in
theorem miX7_isSeed : zMi yX7_isSeed cX7_isSeed 1 (some .boolean) 1 := ⟨zinjR zsub4 60 rfl rfl, zinjR zsub1 1 rfl rfl, by decide +kernel, by decide +kernel, by decide +kernel⟩
set_option maxRecDepth 100000 in
theorem miX7_isUnit : zMi yX7_isUnit cX7_isUnit 2 (some .boolean) 1 := ⟨zinjR zsub4 6 rfl rfl, zinjR zsub1 1 rfl rfl, by decide +kernel, by decide +kernel, by decide +kernel⟩
set_option maxRecDepth 100000 in
theorem miX7_isUnitOrNone : zMi yX7_isUnitOrNone cX7_isUnitOrNone 2 (some .boolean) 1 := ⟨zinjR zsub5 161 rfl rfl, zinjR zsub1 1 rfl rfl, by decide +kernel, by decide +kernel, by decide +kernel⟩
set_option maxRecDepth 100000 in
theorem miX7_law : zMi yX7_law cX7_law 3 (some .int) 1 := ⟨zinjR zsub5 165 rfl rfl, zinjR zsub1 1 rfl rfl, by decide +kernel, by decide +kernel, by decide +kernel⟩
set_option maxRecDepth 100000 in
theorem miX7_left : zMi yX7_left cX7_left 5 (some .int) 3 := ⟨zinjR zsub4 117 rfl rfl, zinjR zsub1 1 rfl rfl, by decide +kernel, by decide +kernel, by decide +kernel⟩
set_option maxRecDepth 100000 in
theorem miX7_likes : zMi yX7_likes cX7_likes 8 (some .int) 1 := ⟨zinjR zsub5 84 rfl rfl, zinjR zsub1 1 rfl rfl, by decide +kernel, by decide +kernel, by decide +kernel⟩
set_option maxRecDepth 100000 in
theorem miX7_load : zMi yX7_load cX7_load 3 (some .int) 1 := ⟨zinjR zsub3 7 rfl rfl, zinjR zsub1 1 rfl rfl, by decide +kernel, by decide +kernel, by decide +kernel⟩
set_option maxRecDepth 100000 in
theorem miX7_lowest : zMi yX7_lowest cX7_lowest 5 (some .int) 3 := ⟨zinjR zsub4 46 rfl rfl, zinjR zsub1 1 rfl rfl, by decide +kernel, by decide +kernel, by decide +kernel⟩
set_option maxRecDepth 100000 in
theorem miX7_lucky : zMi yX7_lucky cX7_lucky 4 (some .int) 2 := ⟨zinjR zsub4 174 rfl rfl, zinjR zsub1 1 rfl rfl, by decide +kernel, by decide +kernel, by decide +kernel⟩
set_option maxRecDepth 100000 in
theorem miX7_many : zMi yX7_many cX7_many 2 (some .int) 1 := ⟨zinjR zsub3 227 rfl rfl, zinjR zsub1 1 rfl rfl, by decide +kernel, by decide +kernel, by decide +kernel⟩
set_option maxRecDepth 100000 in
theorem miX7_mean : zMi yX7_mean cX7_mean 5 (some .long) 1 := ⟨zinjR zsub5 9 rfl rfl, zinjR zsub1 1 rfl rfl, by decide +kernel, by decide +kernel, by decide +kernel⟩
set_option maxRecDepth 100000 in
theorem miX7_need : zMi yX7_need cX7_need 5 (some .int) 2 := ⟨zinjR zsub5 36 rfl rfl, zinjR zsub1 1 rfl rfl, by decide +kernel, by decide +kernel, by decide +kernel⟩
set_option maxRecDepth 100000 in
theorem miX7_next : zMi yX7_next cX7_next 8 (some .int) 3 := ⟨zinjR zsub4 142 rfl rfl, zinjR zsub1 1 rfl rfl, by decide +kernel, by decide +kernel, by decide +kernel⟩
set_option maxRecDepth 100000 in
theorem miX7_often : zMi yX7_often cX7_often 4 (some .int) 3 := ⟨zinjR zsub5 125 rfl rfl, zinjR zsub1 1 rfl rfl, by decide +kernel, by decide +kernel, by decide +kernel⟩
set_option maxRecDepth 100000 in
theorem miX7_order : zMi yX7_order cX7_order 3 (some .int) 2 := ⟨zinjR zsub4 57 rfl rfl, zinjR zsub1 1 rfl rfl, by decide +kernel, by decide +kernel, by decide +kernel⟩
set_option maxRecDepth 100000 in
theorem miX7_out : zMi yX7_out cX7_out 2 (some .int) 1 := ⟨zinjR zsub5 197 rfl rfl, zinjR zsub1 1 rfl rfl, by decide +kernel, by decide +kernel, by decide +kernel⟩
set_option maxRecDepth 100000 in
theorem miX7_partsOfOnly : zMi yX7_partsOfOnly cX7_partsOfOnly 3 (some .long) 2 := ⟨zinjR zsub5 50 rfl rfl, zinjR zsub1 1 rfl rfl, by decide +kernel, by decide +kernel, by decide +kernel⟩
set_option maxRecDepth 100000 in
theorem miX7_points : zMi yX7_points cX7_points 4 (some .int) 2 := ⟨zinjR zsub5 149 rfl rfl, zinjR zsub1 1 rfl rfl, by decide +kernel, by decide +kernel, by decide +kernel⟩
set_option maxRecDepth 100000 in
theorem miX7_prefer : zMi yX7_prefer cX7_prefer 3 (some .int) 1 := ⟨zinjR zsub5 169 rfl rfl, zinjR zsub1 1 rfl rfl, by decide +kernel, by decide +kernel, by decide +kernel⟩
set_option maxRecDepth 100000 in
theorem miX7_print : zMi yX7_print cX7_print 5 (some .int) 1 := ⟨zinjR zsub5 189 rfl rfl, zinjR zsub1 1 rfl rfl, by decide +kernel, by decide +kernel, by decide +kernel⟩
set_option maxRecDepth 100000 in
theorem miX7_put : zMi yX7_put cX7_put 3 none 3 := ⟨zinjR zsub2 163 rfl rfl, zinjR zsub1 1 rfl rfl, by decide +kernel, by decide +kernel, by decide +kernel⟩
set_option maxRecDepth 100000 in
theorem miX7_quota : zMi yX7_quota cX7_quota 4 (some .int) 2 := ⟨zinjR zsub5 153 rfl rfl, zinjR zsub1 1 rfl rfl, by decide +kernel, by decide +kernel, by decide +kernel⟩
set_option maxRecDepth 100000 in
theorem miX7_reckon : zMi yX7_reckon cX7_reckon 1 none 0 := ⟨zinjR zsub4 184 rfl rfl, zinjR zsub1 1 rfl rfl, by decide +kernel, by decide +kernel, by decide +kernel⟩
set_option maxRecDepth 100000 in
theorem miX7_refuse : zMi yX7_refuse cX7_refuse 2 (some .int) 1 := ⟨zinjR zsub3 11 rfl rfl, zinjR zsub1 1 rfl rfl, by decide +kernel, by decide +kernel, by decide +kernel⟩
set_option maxRecDepth 100000 in
theorem miX7_round : zMi yX7_round cX7_round 3 (some .int) 2 := ⟨zinjR zsub4 113 rfl rfl, zinjR zsub1 1 rfl rfl, by decide +kernel, by decide +kernel, by decide +kernel⟩
set_option maxRecDepth 100000 in
theorem miX7_share : zMi yX7_share cX7_share 3 (some .int) 2 := ⟨zinjR zsub4 53 rfl rfl, zinjR zsub1 1 rfl rfl, by decide +kernel, by decide +kernel, by decide +kernel⟩
set_option maxRecDepth 100000 in
theorem miX7_soonest : zMi yX7_soonest cX7_soonest 5 (some .int) 3 := ⟨zinjR zsub5 129 rfl rfl, zinjR zsub1 1 rfl rfl, by decide +kernel, by decide +kernel, by decide +kernel⟩
set_option maxRecDepth 100000 in
theorem miX7_split : zMi yX7_split cX7_split 2 (some .int) 1 := ⟨zinjR zsub5 177 rfl rfl, zinjR zsub1 1 rfl rfl, by decide +kernel, by decide +kernel, by decide +kernel⟩
set_option maxRecDepth 100000 in
theorem miX7_spoils : zMi yX7_spoils cX7_spoils 5 (some .int) 2 := ⟨zinjR zsub4 156 rfl rfl, zinjR zsub1 1 rfl rfl, by decide +kernel, by decide +kernel, by decide +kernel⟩
set_option maxRecDepth 100000 in
theorem miX7_status : zMi yX7_status cX7_status 1 (some .int) 0 := ⟨zinjR zsub2 234 rfl rfl, zinjR zsub1 1 rfl rfl, by decide +kernel, by decide +kernel, by decide +kernel⟩
set_option maxRecDepth 100000 in
theorem miX7_sum : zMi yX7_sum cX7_sum 3 (some .int) 1 := ⟨zinjR zsub3 230 rfl rfl, zinjR zsub1 1 rfl rfl, by decide +kernel, by decide +kernel, by decide +kernel⟩
set_option maxRecDepth 100000 in
theorem miX7_sure : zMi yX7_sure cX7_sure 3 (some .int) 1 := ⟨zinjR zsub4 237 rfl rfl, zinjR zsub1 1 rfl rfl, by decide +kernel, by decide +kernel, by decide +kernel⟩
set_option maxRecDepth 100000 in
theorem miX7_together : zMi yX7_together cX7_together 3 (some .long) 2 := ⟨zinjR zsub5 61 rfl rfl, zinjR zsub1 1 rfl rfl, by decide +kernel, by decide +kernel, by decide +kernel⟩
set_option maxRecDepth 100000 in
theorem miX7_undo : zMi yX7_undo cX7_undo 1 (some .int) 0 := ⟨zinjR zsub5 181 rfl rfl, zinjR zsub1 1 rfl rfl, by decide +kernel, by decide +kernel, by decide +kernel⟩
set_option maxRecDepth 100000 in
theorem miX7_unit : zMi yX7_unit cX7_unit 3 (some .int) 2 := ⟨zinjR zsub4 2 rfl rfl, zinjR zsub1 1 rfl rfl, by decide +kernel, by decide +kernel, by decide +kernel⟩
set_option maxRecDepth 100000 in
theorem miX7_waits : zMi yX7_waits cX7_waits 7 (some .int) 3 := ⟨zinjR zsub4 133 rfl rfl, zinjR zsub1 1 rfl rfl, by decide +kernel, by decide +kernel, by decide +kernel⟩
set_option maxRecDepth 100000 in
theorem miX7_whyNotWise : zMi yX7_whyNotWise cX7_whyNotWise 2 (some .int) 1 := ⟨zinjR zsub5 45 rfl rfl, zinjR zsub1 1 rfl rfl, by decide +kernel, by decide +kernel, by decide +kernel⟩
set_option maxRecDepth 100000 in
theorem miX7_winners : zMi yX7_winners cX7_winners 4 (some .int) 1 := ⟨zinjR zsub4 129 rfl rfl, zinjR zsub1 1 rfl rfl, by decide +kernel, by decide +kernel, by decide +kernel⟩
set_option maxRecDepth 100000 in
theorem miX7_wise : zMi yX7_wise cX7_wise 9 (some .int) 1 := ⟨zinjR zsub5 41 rfl rfl, zinjR zsub1 1 rfl rfl, by decide +kernel, by decide +kernel, by decide +kernel⟩
set_option maxRecDepth 100000 in
theorem miX7_wiseChance : zMi yX7_wiseChance cX7_wiseChance 6 (some .long) 1 := ⟨zinjR zsub5 54 rfl rfl, zinjR zsub1 1 rfl rfl, by decide +kernel, by decide +kernel, by decide +kernel⟩
set_option maxRecDepth 100000 in
theorem miX7_write : zMi yX7_write cX7_write 2 none 1 := ⟨zinjR zsub5 193 rfl rfl, zinjR zsub1 1 rfl rfl, by decide +kernel, by decide +kernel, by decide +kernel⟩
set_option maxRecDepth 100000 in
theorem miX7_years : zMi yX7_years cX7_years 4 (some .int) 3 := ⟨zinjR zsub5 88 rfl rfl, zinjR zsub1 1 rfl rfl, by decide +kernel, by decide +kernel, by decide +kernel⟩
set_option maxRecDepth 100000 in
theorem miX8_adds : zMi yX8_adds cX8_adds 6 none 1 := ⟨zinjR zsub7 239 rfl rfl, zinjR zsub1 9 rfl rfl, by decide +kernel, by decide +kernel, by decide +kernel⟩
set_option maxRecDepth 100000 in
theorem miX8_allOrders : zMi yX8_allOrders cX8_allOrders 2 none 0 := ⟨zinjR zsub7 230 rfl rfl, zinjR zsub1 9 rfl rfl, by decide +kernel, by decide +kernel, by decide +kernel⟩
set_option maxRecDepth 100000 in
theorem miX8_among : zMi yX8_among cX8_among 7 (some .int) 1 := ⟨zinjR zsub6 203 rfl rfl, zinjR zsub1 9 rfl rfl, by decide +kernel, by decide +kernel, by decide +kernel⟩
set_option maxRecDepth 100000 in
theorem miX8_apart : zMi yX8_apart cX8_apart 5 (some .long) 1 := ⟨zinjR zsub8 75 rfl rfl, zinjR zsub1 9 rfl rfl, by decide +kernel, by decide +kernel, by decide +kernel⟩
set_option maxRecDepth 100000 in
theorem miX8_applicant : zMi yX8_applicant cX8_applicant 3 (some .int) 2 := ⟨zinjR zsub7 85 rfl rfl, zinjR zsub1 9 rfl rfl, by decide +kernel, by decide +kernel, by decide +kernel⟩
set_option maxRecDepth 100000 in
theorem miX8_applicantOf : zMi yX8_applicantOf cX8_applicantOf 3 (some .int) 1 := ⟨zinjR zsub7 52 rfl rfl, zinjR zsub1 9 rfl rfl, by decide +kernel, by decide +kernel, by decide +kernel⟩
set_option maxRecDepth 100000 in
theorem miX8_areMany : zMi yX8_areMany cX8_areMany 1 (some .boolean) 0 := ⟨zinjR zsub7 222 rfl rfl, zinjR zsub1 9 rfl rfl, by decide +kernel, by decide +kernel, by decide +kernel⟩
set_option maxRecDepth 100000 in
theorem miX8_areYears : zMi yX8_areYears cX8_areYears 2 (some .boolean) 2 := ⟨zinjR zsub8 94 rfl rfl, zinjR zsub1 9 rfl rfl, by decide +kernel, by decide +kernel, by decide +kernel⟩
set_option maxRecDepth 100000 in
theorem miX8_at : zMi yX8_at cX8_at 3 (some .long) 2 := ⟨zinjR zsub8 16 rfl rfl, zinjR zsub1 9 rfl rfl, by decide +kernel, by decide +kernel, by decide +kernel⟩
set_option maxRecDepth 100000 in
theorem miX8_bad : zMi yX8_bad cX8_bad 2 (some .boolean) 1 := ⟨zinjR zsub6 220 rfl rfl, zinjR zsub1 9 rfl rfl, by decide +kernel, by decide +kernel, by decide +kernel⟩
set_option maxRecDepth 100000 in
theorem miX8_becomes : zMi yX8_becomes cX8_becomes 4 (some .int) 2 := ⟨zinjR zsub8 131 rfl rfl, zinjR zsub1 9 rfl rfl, by decide +kernel, by decide +kernel, by decide +kernel⟩
set_option maxRecDepth 100000 in
theorem miX8_begins : zMi yX8_begins cX8_begins 2 none 1 := ⟨zinjR zsub5 206 rfl rfl, zinjR zsub1 9 rfl rfl, by decide +kernel, by decide +kernel, by decide +kernel⟩
set_option maxRecDepth 100000 in
theorem miX8_behind : zMi yX8_behind cX8_behind 3 (some .int) 2 := ⟨zinjR zsub7 200 rfl rfl, zinjR zsub1 9 rfl rfl, by decide +kernel, by decide +kernel, by decide +kernel⟩
set_option maxRecDepth 100000 in
theorem miX8_behindNow : zMi yX8_behindNow cX8_behindNow 3 (some .int) 1 := ⟨zinjR zsub7 204 rfl rfl, zinjR zsub1 9 rfl rfl, by decide +kernel, by decide +kernel, by decide +kernel⟩
set_option maxRecDepth 100000 in
theorem miX8_both : zMi yX8_both cX8_both 3 (some .long) 2 := ⟨zinjR zsub8 20 rfl rfl, zinjR zsub1 9 rfl rfl, by decide +kernel, by decide +kernel, by decide +kernel⟩
set_option maxRecDepth 100000 in
theorem miX8_byteAt : zMi yX8_byteAt cX8_byteAt 2 (some .int) 1 := ⟨zinjR zsub6 194 rfl rfl, zinjR zsub1 9 rfl rfl, by decide +kernel, by decide +kernel, by decide +kernel⟩
set_option maxRecDepth 100000 in
theorem miX8_chance : zMi yX8_chance cX8_chance 3 (some .long) 2 := ⟨zinjR zsub7 217 rfl rfl, zinjR zsub1 9 rfl rfl, by decide +kernel, by decide +kernel, by decide +kernel⟩
set_option maxRecDepth 100000 in
theorem miX8_chanceOf : zMi yX8_chanceOf cX8_chanceOf 5 (some .long) 1 := ⟨zinjR zsub8 8 rfl rfl, zinjR zsub1 9 rfl rfl, by decide +kernel, by decide +kernel, by decide +kernel⟩
set_option maxRecDepth 100000 in
theorem miX8_choice : zMi yX8_choice cX8_choice 3 (some .int) 2 := ⟨zinjR zsub7 94 rfl rfl, zinjR zsub1 9 rfl rfl, by decide +kernel, by decide +kernel, by decide +kernel⟩
set_option maxRecDepth 100000 in
theorem miX8_choiceMany : zMi yX8_choiceMany cX8_choiceMany 3 (some .int) 1 := ⟨zinjR zsub7 77 rfl rfl, zinjR zsub1 9 rfl rfl, by decide +kernel, by decide +kernel, by decide +kernel⟩
set_option maxRecDepth 100000 in
theorem miX8_choiceOf : zMi yX8_choiceOf cX8_choiceOf 3 (some .int) 2 := ⟨zinjR zsub7 81 rfl rfl, zinjR zsub1 9 rfl rfl, by decide +kernel, by decide +kernel, by decide +kernel⟩
set_option maxRecDepth 100000 in
theorem miX8_choose : zMi yX8_choose cX8_choose 9 (some .int) 4 := ⟨zinjR zsub8 139 rfl rfl, zinjR zsub1 9 rfl rfl, by decide +kernel, by decide +kernel, by decide +kernel⟩
set_option maxRecDepth 100000 in
theorem miX8_come : zMi yX8_come cX8_come 3 none 1 := ⟨zinjR zsub6 175 rfl rfl, zinjR zsub1 9 rfl rfl, by decide +kernel, by decide +kernel, by decide +kernel⟩
set_option maxRecDepth 100000 in
theorem miX8_common : zMi yX8_common cX8_common 5 (some .int) 2 := ⟨zinjR zsub7 105 rfl rfl, zinjR zsub1 9 rfl rfl, by decide +kernel, by decide +kernel, by decide +kernel⟩
set_option maxRecDepth 100000 in
theorem miX8_demand : zMi yX8_demand cX8_demand 5 (some .int) 2 := ⟨zinjR zsub7 98 rfl rfl, zinjR zsub1 9 rfl rfl, by decide +kernel, by decide +kernel, by decide +kernel⟩
set_option maxRecDepth 100000 in
theorem miX8_draw : zMi yX8_draw cX8_draw 3 (some .int) 1 := ⟨zinjR zsub8 119 rfl rfl, zinjR zsub1 9 rfl rfl, by decide +kernel, by decide +kernel, by decide +kernel⟩
set_option maxRecDepth 100000 in
theorem miX8_drawn : zMi yX8_drawn cX8_drawn 3 (some .int) 2 := ⟨zinjR zsub7 133 rfl rfl, zinjR zsub1 9 rfl rfl, by decide +kernel, by decide +kernel, by decide +kernel⟩
set_option maxRecDepth 100000 in
theorem miX8_draws : zMi yX8_draws cX8_draws 2 (some .long) 1 := ⟨zinjR zsub7 125 rfl rfl, zinjR zsub1 9 rfl rfl, by decide +kernel, by decide +kernel, by decide +kernel⟩
set_option maxRecDepth 100000 in
theorem miX8_ends : zMi yX8_ends cX8_ends 3 (some .int) 0 := ⟨zinjR zsub8 36 rfl rfl, zinjR zsub1 9 rfl rfl, by decide +kernel, by decide +kernel, by decide +kernel⟩
set_option maxRecDepth 100000 in
theorem miX8_envies : zMi yX8_envies cX8_envies 6 (some .int) 2 := ⟨zinjR zsub7 188 rfl rfl, zinjR zsub1 9 rfl rfl, by decide +kernel, by decide +kernel, by decide +kernel⟩
set_option maxRecDepth 100000 in
theorem miX8_fault : zMi yX8_fault cX8_fault 2 (some .int) 1 := ⟨zinjR zsub7 27 rfl rfl, zinjR zsub1 9 rfl rfl, by decide +kernel, by decide +kernel, by decide +kernel⟩
set_option maxRecDepth 100000 in
theorem miX8_feed : zMi yX8_feed cX8_feed 6 (some .int) 5 := ⟨zinjR zsub6 171 rfl rfl, zinjR zsub1 9 rfl rfl, by decide +kernel, by decide +kernel, by decide +kernel⟩
set_option maxRecDepth 100000 in
theorem miX8_firstRound : zMi yX8_firstRound cX8_firstRound 7 none 2 := ⟨zinjR zsub7 145 rfl rfl, zinjR zsub1 9 rfl rfl, by decide +kernel, by decide +kernel, by decide +kernel⟩
set_option maxRecDepth 100000 in
theorem miX8_fits : zMi yX8_fits cX8_fits 4 (some .boolean) 3 := ⟨zinjR zsub7 149 rfl rfl, zinjR zsub1 9 rfl rfl, by decide +kernel, by decide +kernel, by decide +kernel⟩
set_option maxRecDepth 100000 in
theorem miX8_forGuests : zMi yX8_forGuests cX8_forGuests 2 (some .int) 1 := ⟨zinjR zsub7 69 rfl rfl, zinjR zsub1 9 rfl rfl, by decide +kernel, by decide +kernel, by decide +kernel⟩
set_option maxRecDepth 100000 in
theorem miX8_found : zMi yX8_found cX8_found 5 (some .int) 3 := ⟨zinjR zsub6 235 rfl rfl, zinjR zsub1 9 rfl rfl, by decide +kernel, by decide +kernel, by decide +kernel⟩
set_option maxRecDepth 100000 in
theorem miX8_gets : zMi yX8_gets cX8_gets 4 none 3 := ⟨zinjR zsub7 153 rfl rfl, zinjR zsub1 9 rfl rfl, by decide +kernel, by decide +kernel, by decide +kernel⟩
set_option maxRecDepth 100000 in
theorem miX8_given : zMi yX8_given cX8_given 2 (some .int) 1 := ⟨zinjR zsub8 32 rfl rfl, zinjR zsub1 9 rfl rfl, by decide +kernel, by decide +kernel, by decide +kernel⟩
set_option maxRecDepth 100000 in
theorem miX8_givenTags : zMi yX8_givenTags cX8_givenTags 3 (some .int) 0 := ⟨zinjR zsub8 3 rfl rfl, zinjR zsub1 9 rfl rfl, by decide +kernel, by decide +kernel, by decide +kernel⟩
set_option maxRecDepth 100000 in
theorem miX8_gives : zMi yX8_gives cX8_gives 2 (some .int) 1 := ⟨zinjR zsub7 23 rfl rfl, zinjR zsub1 9 rfl rfl, by decide +kernel, by decide +kernel, by decide +kernel⟩
set_option maxRecDepth 100000 in
theorem miX8_givesLong : zMi yX8_givesLong cX8_givesLong 3 (some .long) 1 := ⟨zinjR zsub8 12 rfl rfl, zinjR zsub1 9 rfl rfl, by decide +kernel, by decide +kernel, by decide +kernel⟩
set_option maxRecDepth 100000 in
theorem miX8_goesOn : zMi yX8_goesOn cX8_goesOn 8 none 3 := ⟨zinjR zsub7 235 rfl rfl, zinjR zsub1 9 rfl rfl, by decide +kernel, by decide +kernel, by decide +kernel⟩
set_option maxRecDepth 100000 in
theorem miX8_goesYear : zMi yX8_goesYear cX8_goesYear 3 none 1 := ⟨zinjR zsub8 99 rfl rfl, zinjR zsub1 9 rfl rfl, by decide +kernel, by decide +kernel, by decide +kernel⟩
set_option maxRecDepth 100000 in
theorem miX8_guests : zMi yX8_guests cX8_guests 2 (some .int) 1 := ⟨zinjR zsub8 152 rfl rfl, zinjR zsub1 9 rfl rfl, by decide +kernel, by decide +kernel, by decide +kernel⟩
set_option maxRecDepth 100000 in
theorem miX8_has : zMi yX8_has cX8_has 2 (some .boolean) 2 := ⟨zinjR zsub7 10 rfl rfl, zinjR zsub1 9 rfl rfl, by decide +kernel, by decide +kernel, by decide +kernel⟩
set_option maxRecDepth 100000 in
theorem miX8_hasFirst : zMi yX8_hasFirst cX8_hasFirst 2 (some .boolean) 1 := ⟨zinjR zsub7 213 rfl rfl, zinjR zsub1 9 rfl rfl, by decide +kernel, by decide +kernel, by decide +kernel⟩
set_option maxRecDepth 100000 in
theorem miX8_hunter : zMi yX8_hunter cX8_hunter 3 (some .int) 2 := ⟨zinjR zsub7 43 rfl rfl, zinjR zsub1 9 rfl rfl, by decide +kernel, by decide +kernel, by decide +kernel⟩
set_option maxRecDepth 100000 in
theorem miX8_init : zMi yX8_init cX8_init 1 none 0 := ⟨zinjR zsub5 202 rfl rfl, zinjR zsub1 9 rfl rfl, by decide +kernel, by decide +kernel, by decide +kernel⟩
set_option maxRecDepth 100000 in
theorem miX8_isApplicant : zMi yX8_isApplicant cX8_isApplicant 2 (some .boolean) 1 := ⟨zinjR zsub7 90 rfl rfl, zinjR zsub1 9 rfl rfl, by decide +kernel, by decide +kernel, by decide +kernel⟩
set_option maxRecDepth 100000 in
theorem miX8_isDigit : zMi yX8_isDigit cX8_isDigit 1 (some .boolean) 1 := ⟨zinjR zsub6 208 rfl rfl, zinjR zsub1 9 rfl rfl, by decide +kernel, by decide +kernel, by decide +kernel⟩
set_option maxRecDepth 100000 in
theorem miX8_isFrom : zMi yX8_isFrom cX8_isFrom 6 (some .boolean) 3 := ⟨zinjR zsub6 182 rfl rfl, zinjR zsub1 9 rfl rfl, by decide +kernel, by decide +kernel, by decide +kernel⟩
set_option maxRecDepth 100000 in
theorem miX8_isHunter : zMi yX8_isHunter cX8_isHunter 2 (some .boolean) 1 := ⟨zinjR zsub7 48 rfl rfl, zinjR zsub1 9 rfl rfl, by decide +kernel, by decide +kernel, by decide +kernel⟩
set_option maxRecDepth 100000 in
theorem miX8_isLetter : zMi yX8_isLetter cX8_isLetter 1 (some .boolean) 1 := ⟨zinjR zsub6 197 rfl rfl, zinjR zsub1 9 rfl rfl, by decide +kernel, by decide +kernel, by decide +kernel⟩
set_option maxRecDepth 100000 in
theorem miX8_isName : zMi yX8_isName cX8_isName 1 (some .boolean) 0 := ⟨zinjR zsub6 228 rfl rfl, zinjR zsub1 9 rfl rfl, by decide +kernel, by decide +kernel, by decide +kernel⟩
set_option maxRecDepth 100000 in
theorem miX8_isParty : zMi yX8_isParty cX8_isParty 2 (some .boolean) 1 := ⟨zinjR zsub8 79 rfl rfl, zinjR zsub1 9 rfl rfl, by decide +kernel, by decide +kernel, by decide +kernel⟩
set_option maxRecDepth 100000 in
theorem miX8_isSeed : zMi yX8_isSeed cX8_isSeed 1 (some .boolean) 1 := ⟨zinjR zsub7 116 rfl rfl, zinjR zsub1 9 rfl rfl, by decide +kernel, by decide +kernel, by decide +kernel⟩
set_option maxRecDepth 100000 in
theorem miX8_isTaken : zMi yX8_isTaken cX8_isTaken 1 (some .boolean) 0 := ⟨zinjR zsub6 232 rfl rfl, zinjR zsub1 9 rfl rfl, by decide +kernel, by decide +kernel, by decide +kernel⟩
set_option maxRecDepth 100000 in
theorem miX8_isUnit : zMi yX8_isUnit cX8_isUnit 2 (some .boolean) 1 := ⟨zinjR zsub7 61 rfl rfl, zinjR zsub1 9 rfl rfl, by decide +kernel, by decide +kernel, by decide +kernel⟩
set_option maxRecDepth 100000 in
theorem miX8_isWaiting : zMi yX8_isWaiting cX8_isWaiting 3 (some .boolean) 2 := ⟨zinjR zsub7 179 rfl rfl, zinjR zsub1 9 rfl rfl, by decide +kernel, by decide +kernel, by decide +kernel⟩
set_option maxRecDepth 100000 in
theorem miX8_keeps : zMi yX8_keeps cX8_keeps 2 none 0 := ⟨zinjR zsub8 123 rfl rfl, zinjR zsub1 9 rfl rfl, by decide +kernel, by decide +kernel, by decide +kernel⟩
set_option maxRecDepth 100000 in
theorem miX8_law : zMi yX8_law cX8_law 2 (some .int) 1 := ⟨zinjR zsub8 143 rfl rfl, zinjR zsub1 9 rfl rfl, by decide +kernel, by decide +kernel, by decide +kernel⟩
set_option maxRecDepth 100000 in
theorem miX8_laysAll : zMi yX8_laysAll cX8_laysAll 1 none 0 := ⟨zinjR zsub7 226 rfl rfl, zinjR zsub1 9 rfl rfl, by decide +kernel, by decide +kernel, by decide +kernel⟩
set_option maxRecDepth 100000 in
theorem miX8_laysApplicants : zMi yX8_laysApplicants cX8_laysApplicants 3 none 0 := ⟨zinjR zsub7 35 rfl rfl, zinjR zsub1 9 rfl rfl, by decide +kernel, by decide +kernel, by decide +kernel⟩
set_option maxRecDepth 100000 in
theorem miX8_laysJoined : zMi yX8_laysJoined cX8_laysJoined 5 (some .int) 2 := ⟨zinjR zsub8 71 rfl rfl, zinjR zsub1 9 rfl rfl, by decide +kernel, by decide +kernel, by decide +kernel⟩
set_option maxRecDepth 100000 in
theorem miX8_laysOne : zMi yX8_laysOne cX8_laysOne 4 none 1 := ⟨zinjR zsub7 39 rfl rfl, zinjR zsub1 9 rfl rfl, by decide +kernel, by decide +kernel, by decide +kernel⟩
set_option maxRecDepth 100000 in
theorem miX8_laysOrder : zMi yX8_laysOrder cX8_laysOrder 10 none 1 := ⟨zinjR zsub7 121 rfl rfl, zinjR zsub1 9 rfl rfl, by decide +kernel, by decide +kernel, by decide +kernel⟩
set_option maxRecDepth 100000 in
theorem miX8_laysResult : zMi yX8_laysResult cX8_laysResult 2 none 1 := ⟨zinjR zsub7 137 rfl rfl, zinjR zsub1 9 rfl rfl, by decide +kernel, by decide +kernel, by decide +kernel⟩
set_option maxRecDepth 100000 in
theorem miX8_left : zMi yX8_left cX8_left 7 (some .int) 3 := ⟨zinjR zsub7 161 rfl rfl, zinjR zsub1 9 rfl rfl, by decide +kernel, by decide +kernel, by decide +kernel⟩
set_option maxRecDepth 100000 in
theorem miX8_likes : zMi yX8_likes cX8_likes 6 (some .int) 1 := ⟨zinjR zsub8 87 rfl rfl, zinjR zsub1 9 rfl rfl, by decide +kernel, by decide +kernel, by decide +kernel⟩
set_option maxRecDepth 100000 in
theorem miX8_load : zMi yX8_load cX8_load 4 (some .int) 1 := ⟨zinjR zsub6 179 rfl rfl, zinjR zsub1 9 rfl rfl, by decide +kernel, by decide +kernel, by decide +kernel⟩
set_option maxRecDepth 100000 in
theorem miX8_lucky : zMi yX8_lucky cX8_lucky 4 (some .int) 2 := ⟨zinjR zsub7 208 rfl rfl, zinjR zsub1 9 rfl rfl, by decide +kernel, by decide +kernel, by decide +kernel⟩
set_option maxRecDepth 100000 in
theorem miX8_many : zMi yX8_many cX8_many 4 (some .int) 1 := ⟨zinjR zsub7 31 rfl rfl, zinjR zsub1 9 rfl rfl, by decide +kernel, by decide +kernel, by decide +kernel⟩
set_option maxRecDepth 100000 in
theorem miX8_mean : zMi yX8_mean cX8_mean 2 (some .long) 1 := ⟨zinjR zsub8 28 rfl rfl, zinjR zsub1 9 rfl rfl, by decide +kernel, by decide +kernel, by decide +kernel⟩
set_option maxRecDepth 100000 in
theorem miX8_need : zMi yX8_need cX8_need 6 (some .int) 2 := ⟨zinjR zsub8 40 rfl rfl, zinjR zsub1 9 rfl rfl, by decide +kernel, by decide +kernel, by decide +kernel⟩
set_option maxRecDepth 100000 in
theorem miX8_newName : zMi yX8_newName cX8_newName 1 (some .boolean) 0 := ⟨zinjR zsub6 224 rfl rfl, zinjR zsub1 9 rfl rfl, by decide +kernel, by decide +kernel, by decide +kernel⟩
set_option maxRecDepth 100000 in
theorem miX8_next : zMi yX8_next cX8_next 2 (some .boolean) 0 := ⟨zinjR zsub6 190 rfl rfl, zinjR zsub1 9 rfl rfl, by decide +kernel, by decide +kernel, by decide +kernel⟩
set_option maxRecDepth 100000 in
theorem miX8_next_ : zMi yX8_next_ cX8_next_ 5 (some .int) 3 := ⟨zinjR zsub7 183 rfl rfl, zinjR zsub1 9 rfl rfl, by decide +kernel, by decide +kernel, by decide +kernel⟩
set_option maxRecDepth 100000 in
theorem miX8_number : zMi yX8_number cX8_number 3 (some .boolean) 2 := ⟨zinjR zsub6 239 rfl rfl, zinjR zsub1 9 rfl rfl, by decide +kernel, by decide +kernel, by decide +kernel⟩
set_option maxRecDepth 100000 in
theorem miX8_often : zMi yX8_often cX8_often 6 (some .int) 3 := ⟨zinjR zsub8 107 rfl rfl, zinjR zsub1 9 rfl rfl, by decide +kernel, by decide +kernel, by decide +kernel⟩
set_option maxRecDepth 100000 in
theorem miX8_order : zMi yX8_order cX8_order 3 (some .int) 2 := ⟨zinjR zsub7 113 rfl rfl, zinjR zsub1 9 rfl rfl, by decide +kernel, by decide +kernel, by decide +kernel⟩
set_option maxRecDepth 100000 in
theorem miX8_out : zMi yX8_out cX8_out 2 (some .int) 1 := ⟨zinjR zsub8 168 rfl rfl, zinjR zsub1 9 rfl rfl, by decide +kernel, by decide +kernel, by decide +kernel⟩
set_option maxRecDepth 100000 in
theorem miX8_placeNow : zMi yX8_placeNow cX8_placeNow 2 (some .int) 1 := ⟨zinjR zsub7 192 rfl rfl, zinjR zsub1 9 rfl rfl, by decide +kernel, by decide +kernel, by decide +kernel⟩
set_option maxRecDepth 100000 in
theorem miX8_placeOf : zMi yX8_placeOf cX8_placeOf 4 (some .int) 2 := ⟨zinjR zsub7 73 rfl rfl, zinjR zsub1 9 rfl rfl, by decide +kernel, by decide +kernel, by decide +kernel⟩
set_option maxRecDepth 100000 in
theorem miX8_points : zMi yX8_points cX8_points 3 (some .int) 2 := ⟨zinjR zsub8 127 rfl rfl, zinjR zsub1 9 rfl rfl, by decide +kernel, by decide +kernel, by decide +kernel⟩
set_option maxRecDepth 100000 in
theorem miX8_prefer : zMi yX8_prefer cX8_prefer 2 (some .int) 1 := ⟨zinjR zsub8 147 rfl rfl, zinjR zsub1 9 rfl rfl, by decide +kernel, by decide +kernel, by decide +kernel⟩
set_option maxRecDepth 100000 in
theorem miX8_preferred : zMi yX8_preferred cX8_preferred 2 (some .int) 1 := ⟨zinjR zsub7 65 rfl rfl, zinjR zsub1 9 rfl rfl, by decide +kernel, by decide +kernel, by decide +kernel⟩
set_option maxRecDepth 100000 in
theorem miX8_print : zMi yX8_print cX8_print 4 (some .int) 1 := ⟨zinjR zsub8 160 rfl rfl, zinjR zsub1 9 rfl rfl, by decide +kernel, by decide +kernel, by decide +kernel⟩
set_option maxRecDepth 100000 in
theorem miX8_prints : zMi yX8_prints cX8_prints 2 none 1 := ⟨zinjR zsub8 164 rfl rfl, zinjR zsub1 9 rfl rfl, by decide +kernel, by decide +kernel, by decide +kernel⟩
set_option maxRecDepth 100000 in
theorem miX8_putsAside : zMi yX8_putsAside cX8_putsAside 2 none 0 := ⟨zinjR zsub8 45 rfl rfl, zinjR zsub1 9 rfl rfl, by decide +kernel, by decide +kernel, by decide +kernel⟩
set_option maxRecDepth 100000 in
theorem miX8_quota : zMi yX8_quota cX8_quota 3 (some .int) 2 := ⟨zinjR zsub8 135 rfl rfl, zinjR zsub1 9 rfl rfl, by decide +kernel, by decide +kernel, by decide +kernel⟩
set_option maxRecDepth 100000 in
theorem miX8_readAsks : zMi yX8_readAsks cX8_readAsks 7 (some .boolean) 0 := ⟨zinjR zsub7 14 rfl rfl, zinjR zsub1 9 rfl rfl, by decide +kernel, by decide +kernel, by decide +kernel⟩
set_option maxRecDepth 100000 in
theorem miX8_readHunter : zMi yX8_readHunter cX8_readHunter 1 (some .boolean) 0 := ⟨zinjR zsub7 3 rfl rfl, zinjR zsub1 9 rfl rfl, by decide +kernel, by decide +kernel, by decide +kernel⟩
set_option maxRecDepth 100000 in
theorem miX8_readLine : zMi yX8_readLine cX8_readLine 2 (some .boolean) 0 := ⟨zinjR zsub6 212 rfl rfl, zinjR zsub1 9 rfl rfl, by decide +kernel, by decide +kernel, by decide +kernel⟩
set_option maxRecDepth 100000 in
theorem miX8_readOnce : zMi yX8_readOnce cX8_readOnce 3 (some .boolean) 1 := ⟨zinjR zsub7 18 rfl rfl, zinjR zsub1 9 rfl rfl, by decide +kernel, by decide +kernel, by decide +kernel⟩
set_option maxRecDepth 100000 in
theorem miX8_readParty : zMi yX8_readParty cX8_readParty 6 (some .boolean) 0 := ⟨zinjR zsub7 7 rfl rfl, zinjR zsub1 9 rfl rfl, by decide +kernel, by decide +kernel, by decide +kernel⟩
set_option maxRecDepth 100000 in
theorem miX8_readUnit : zMi yX8_readUnit cX8_readUnit 1 (some .boolean) 0 := ⟨zinjR zsub6 216 rfl rfl, zinjR zsub1 9 rfl rfl, by decide +kernel, by decide +kernel, by decide +kernel⟩
set_option maxRecDepth 100000 in
theorem miX8_refuse : zMi yX8_refuse cX8_refuse 2 (some .int) 1 := ⟨zinjR zsub6 186 rfl rfl, zinjR zsub1 9 rfl rfl, by decide +kernel, by decide +kernel, by decide +kernel⟩
set_option maxRecDepth 100000 in
theorem miX8_results : zMi yX8_results cX8_results 5 none 1 := ⟨zinjR zsub7 141 rfl rfl, zinjR zsub1 9 rfl rfl, by decide +kernel, by decide +kernel, by decide +kernel⟩
set_option maxRecDepth 100000 in
theorem miX8_round : zMi yX8_round cX8_round 3 (some .int) 2 := ⟨zinjR zsub7 157 rfl rfl, zinjR zsub1 9 rfl rfl, by decide +kernel, by decide +kernel, by decide +kernel⟩
set_option maxRecDepth 100000 in
theorem miX8_share : zMi yX8_share cX8_share 5 (some .int) 2 := ⟨zinjR zsub7 109 rfl rfl, zinjR zsub1 9 rfl rfl, by decide +kernel, by decide +kernel, by decide +kernel⟩
set_option maxRecDepth 100000 in
theorem miX8_soonest : zMi yX8_soonest cX8_soonest 7 (some .int) 3 := ⟨zinjR zsub8 111 rfl rfl, zinjR zsub1 9 rfl rfl, by decide +kernel, by decide +kernel, by decide +kernel⟩
set_option maxRecDepth 100000 in
theorem miX8_split : zMi yX8_split cX8_split 2 (some .int) 1 := ⟨zinjR zsub8 156 rfl rfl, zinjR zsub1 9 rfl rfl, by decide +kernel, by decide +kernel, by decide +kernel⟩
set_option maxRecDepth 100000 in
theorem miX8_splits : zMi yX8_splits cX8_splits 4 none 1 := ⟨zinjR zsub8 83 rfl rfl, zinjR zsub1 9 rfl rfl, by decide +kernel, by decide +kernel, by decide +kernel⟩
set_option maxRecDepth 100000 in
theorem miX8_spoils : zMi yX8_spoils cX8_spoils 5 (some .int) 2 := ⟨zinjR zsub7 196 rfl rfl, zinjR zsub1 9 rfl rfl, by decide +kernel, by decide +kernel, by decide +kernel⟩
set_option maxRecDepth 100000 in
theorem miX8_status : zMi yX8_status cX8_status 1 (some .int) 0 := ⟨zinjR zsub6 167 rfl rfl, zinjR zsub1 9 rfl rfl, by decide +kernel, by decide +kernel, by decide +kernel⟩
set_option maxRecDepth 100000 in
theorem miX8_sure : zMi yX8_sure cX8_sure 2 (some .int) 1 := ⟨zinjR zsub8 24 rfl rfl, zinjR zsub1 9 rfl rfl, by decide +kernel, by decide +kernel, by decide +kernel⟩
set_option maxRecDepth 100000 in
theorem miX8_takesBack : zMi yX8_takesBack cX8_takesBack 2 none 0 := ⟨zinjR zsub8 50 rfl rfl, zinjR zsub1 9 rfl rfl, by decide +kernel, by decide +kernel, by decide +kernel⟩
set_option maxRecDepth 100000 in
theorem miX8_term : zMi yX8_term cX8_term 5 (some .int) 3 := ⟨zinjR zsub7 102 rfl rfl, zinjR zsub1 9 rfl rfl, by decide +kernel, by decide +kernel, by decide +kernel⟩
set_option maxRecDepth 100000 in
theorem miX8_together : zMi yX8_together cX8_together 4 (some .long) 2 := ⟨zinjR zsub8 67 rfl rfl, zinjR zsub1 9 rfl rfl, by decide +kernel, by decide +kernel, by decide +kernel⟩
set_option maxRecDepth 100000 in
theorem miX8_undo : zMi yX8_undo cX8_undo 2 (some .int) 0 := ⟨zinjR zsub8 115 rfl rfl, zinjR zsub1 9 rfl rfl, by decide +kernel, by decide +kernel, by decide +kernel⟩
set_option maxRecDepth 100000 in
theorem miX8_unit : zMi yX8_unit cX8_unit 6 (some .int) 2 := ⟨zinjR zsub7 56 rfl rfl, zinjR zsub1 9 rfl rfl, by decide +kernel, by decide +kernel, by decide +kernel⟩
set_option maxRecDepth 100000 in
theorem miX8_unitNow : zMi yX8_unitNow cX8_unitNow 3 (some .int) 1 := ⟨zinjR zsub8 103 rfl rfl, zinjR zsub1 9 rfl rfl, by decide +kernel, by decide +kernel, by decide +kernel⟩
set_option maxRecDepth 100000 in
theorem miX8_waits : zMi yX8_waits cX8_waits 6 (some .int) 3 := ⟨zinjR zsub7 175 rfl rfl, zinjR zsub1 9 rfl rfl, by decide +kernel, by decide +kernel, by decide +kernel⟩
set_option maxRecDepth 100000 in
theorem miX8_winners : zMi yX8_winners cX8_winners 2 (some .int) 1 := ⟨zinjR zsub7 167 rfl rfl, zinjR zsub1 9 rfl rfl, by decide +kernel, by decide +kernel, by decide +kernel⟩
set_option maxRecDepth 100000 in
theorem miX8_winnersNow : zMi yX8_winnersNow cX8_winnersNow 3 (some .int) 0 := ⟨zinjR zsub7 171 rfl rfl, zinjR zsub1 9 rfl rfl, by decide +kernel, by decide +kernel, by decide +kernel⟩
set_option maxRecDepth 100000 in
theorem miX8_wise : zMi yX8_wise cX8_wise 3 (some .int) 1 := ⟨zinjR zsub8 54 rfl rfl, zinjR zsub1 9 rfl rfl, by decide +kernel, by decide +kernel, by decide +kernel⟩
set_option maxRecDepth 100000 in
theorem miX8_wiseChance : zMi yX8_wiseChance cX8_wiseChance 2 (some .long) 1 := ⟨zinjR zsub8 63 rfl rfl, zinjR zsub1 9 rfl rfl, by decide +kernel, by decide +kernel, by decide +kernel⟩
set_option maxRecDepth 100000 in
theorem miX8_wisest : zMi yX8_wisest cX8_wisest 5 (some .int) 1 := ⟨zinjR zsub8 58 rfl rfl, zinjR zsub1 9 rfl rfl, by decide +kernel, by decide +kernel, by decide +kernel⟩
set_option maxRecDepth 100000 in
theorem miX8_years : zMi yX8_years cX8_years 9 (some .int) 3 := ⟨zinjR zsub8 91 rfl rfl, zinjR zsub1 9 rfl rfl, by decide +kernel, by decide +kernel, by decide +kernel⟩
theorem lf0_9 : zFl RX0 9 0 0 (.array .long) true := ⟨RX0, TX0, 5, tyX0, zc0, by decide, zinjR zsub2 84 rfl rfl, rfl, rfl, rfl⟩
theorem lm0_87 : zLsn RX0 87 yX7_bigCell := ⟨⟨_, znest (h := "TagDraw") zsub4 215 (by decide +kernel)⟩, zinjR zsub3 135 rfl rfl⟩
theorem lf0_15 : zFl RX0 15 0 1 (.array .int) true := ⟨RX0, TX0, 5, tyX0, zc0, by decide, zinjR zsub2 85 rfl rfl, rfl, rfl, rfl⟩
theorem lm0_66 : zLsn RX0 66 yX7_cell := ⟨⟨_, znest (h := "TagDraw") zsub4 202 (by decide +kernel)⟩, zinjR zsub2 159 rfl rfl⟩
theorem lm0_91 : zLv RX0 91 yX0_allOf := ⟨zinjR zsub4 211 rfl rfl, zinjR zsub4 212 rfl rfl, zinjR zsub4 213 rfl rfl⟩
theorem lf0_19 : zFl RX0 19 0 2 (.array .long) true := ⟨RX0, TX0, 5, tyX0, zc0, by decide, zinjR zsub2 87 rfl rfl, rfl, rfl, rfl⟩
theorem lm0_95 : zLs RX0 95 yX0_tagsOf := ⟨zinjR zsub5 18 rfl rfl, zinjR zsub5 19 rfl rfl⟩
theorem lm0_99 : Cond.methodLink RX0 99 Lib.Math.min.name ∈ zT := zinjR zsub5 21 rfl rfl
theorem lm0_3 : Cond.methodLink RX0 3 Lib.objectInit ∈ zT := zinjR zsub2 81 rfl rfl
theorem lff0_9 : zFf RX0 9 0 0 (.array .long) := ⟨TX0, 5, tyX0, zc0, by decide, zinjR zsub2 84 rfl rfl, rfl, rfl, rfl⟩
theorem lff0_15 : zFf RX0 15 0 1 (.array .int) := ⟨TX0, 5, tyX0, zc0, by decide, zinjR zsub2 85 rfl rfl, rfl, rfl, rfl⟩
theorem lff0_19 : zFf RX0 19 0 2 (.array .long) := ⟨TX0, 5, tyX0, zc0, by decide, zinjR zsub2 87 rfl rfl, rfl, rfl, rfl⟩
theorem lff0_22 : zFf RX0 22 0 3 (.array .long) := ⟨TX0, 5, tyX0, zc0, by decide, zinjR zsub2 88 rfl rfl, rfl, rfl, rfl⟩
theorem ln0_25 : Cond.classLink RX0 25 RX5 ∈ zT := zinjR zsub2 82 rfl rfl
theorem lm0_27 : zLin RX0 27 yX5_init := ⟨⟨_, znest (h := "TagDraw") zsub2 83 (by decide +kernel)⟩, zinjR zsub2 41 rfl rfl, rfl⟩
theorem lff0_28 : zFf RX0 28 0 4 (.object "TagDraw$Result") := ⟨TX0, 5, tyX0, zc0, by decide, zinjR zsub2 90 rfl rfl, rfl, rfl, rfl⟩
theorem lm0_105 : Cond.methodLink RX0 105 Lib.Math.max.name ∈ zT := zinjR zsub5 26 rfl rfl
theorem lm0_32 : zLsn RX0 32 yX7_bigFill := ⟨⟨_, znest (h := "TagDraw") zsub4 189 (by decide +kernel)⟩, zinjR zsub4 190 rfl rfl⟩
theorem lm0_36 : zLsn RX0 36 yX7_fill := ⟨⟨_, znest (h := "TagDraw") zsub4 192 (by decide +kernel)⟩, zinjR zsub2 148 rfl rfl⟩
theorem lf0_22 : zFl RX0 22 0 3 (.array .long) true := ⟨RX0, TX0, 5, tyX0, zc0, by decide, zinjR zsub2 88 rfl rfl, rfl, rfl, rfl⟩
theorem lf0_40 : zFl RX0 40 2 1 (.int) false := ⟨RX2, TX2, 16, tyX2, zc2, by decide, zinjR zsub1 202 rfl rfl, rfl, rfl, rfl⟩
theorem lf0_46 : zFl RX0 46 2 2 (.int) false := ⟨RX2, TX2, 16, tyX2, zc2, by decide, zinjR zsub1 205 rfl rfl, rfl, rfl, rfl⟩
theorem lk0_49 : Cond.constantLong RX0 49 (1000000000000) ∈ zT := zinjR zsub4 193 rfl rfl
theorem lm0_51 : zLs RX0 51 yX0_walk := ⟨zinjR zsub4 194 rfl rfl, zinjR zsub4 195 rfl rfl⟩
theorem lf0_28 : zFl RX0 28 0 4 (.object "TagDraw$Result") true := ⟨RX0, TX0, 5, tyX0, zc0, by decide, zinjR zsub2 90 rfl rfl, rfl, rfl, rfl⟩
theorem lf0_77 : zFl RX0 77 5 1 (.array .int) true := ⟨RX5, TX5, 7, tyX5, zc5, by decide, zinjR zsub2 49 rfl rfl, rfl, rfl, rfl⟩
theorem lm0_80 : zLsn RX0 80 yX7_bigAdd := ⟨⟨_, znest (h := "TagDraw") zsub4 203 (by decide +kernel)⟩, zinjR zsub4 204 rfl rfl⟩
theorem lf0_84 : zFl RX0 84 5 2 (.array .int) true := ⟨RX5, TX5, 7, tyX5, zc5, by decide, zinjR zsub2 53 rfl rfl, rfl, rfl, rfl⟩
theorem lm0_73 : zLsn RX0 73 yX7_put := ⟨⟨_, znest (h := "TagDraw") zsub4 206 (by decide +kernel)⟩, zinjR zsub2 162 rfl rfl⟩
theorem lf0_108 : zFl RX0 108 2 8 (.array .int) true := ⟨RX2, TX2, 16, tyX2, zc2, by decide, zinjR zsub1 226 rfl rfl, rfl, rfl, rfl⟩
theorem lm0_55 : zLv RX0 55 yX5_settle := ⟨zinjR zsub4 197 rfl rfl, zinjR zsub4 85 rfl rfl, zinjR zsub4 86 rfl rfl⟩
theorem lm0_59 : zLv RX0 59 yX0_record := ⟨zinjR zsub4 198 rfl rfl, zinjR zsub4 200 rfl rfl, zin 36 (by decide +kernel)⟩
theorem lf0_63 : zFl RX0 63 2 11 (.array .int) true := ⟨RX2, TX2, 16, tyX2, zc2, by decide, zinjR zsub1 234 rfl rfl, rfl, rfl, rfl⟩
theorem lf0_70 : zFl RX0 70 5 0 (.array .int) true := ⟨RX5, TX5, 7, tyX5, zc5, by decide, zinjR zsub2 45 rfl rfl, rfl, rfl, rfl⟩
theorem lf1_18 : zFl RX1 18 1 0 (.int) false := ⟨RX1, TX1, 3, tyX1, zc1, by decide, zinjR zsub1 182 rfl rfl, rfl, rfl, rfl⟩
theorem lm1_25 : zLv RX1 25 yX1_newestStood := ⟨zinjR zsub5 138 rfl rfl, zinjR zsub5 140 rfl rfl, zin 42 (by decide +kernel)⟩
theorem lm1_29 : zLv RX1 29 yX4_take := ⟨zinjR zsub5 142 rfl rfl, zinjR zsub3 203 rfl rfl, zinjR zsub3 204 rfl rfl⟩
theorem lf1_22 : zFl RX1 22 1 1 (.int) false := ⟨RX1, TX1, 3, tyX1, zc1, by decide, zinjR zsub1 184 rfl rfl, rfl, rfl, rfl⟩
theorem lm1_3 : Cond.methodLink RX1 3 Lib.objectInit ∈ zT := zinjR zsub1 178 rfl rfl
theorem ln1_9 : Cond.classLink RX1 9 RX4 ∈ zT := zinjR zsub1 179 rfl rfl
theorem lff1_11 : zFf RX1 11 1 2 (.array (.object "TagDraw$Register")) := ⟨TX1, 3, tyX1, zc1, by decide, zinjR zsub1 185 rfl rfl, rfl, rfl, rfl⟩
theorem lf1_11 : zFl RX1 11 1 2 (.array (.object "TagDraw$Register")) true := ⟨RX1, TX1, 3, tyX1, zc1, by decide, zinjR zsub1 185 rfl rfl, rfl, rfl, rfl⟩
theorem lm1_17 : zLin RX1 17 yX4_init := ⟨⟨_, znest (h := "TagDraw") zsub1 181 (by decide +kernel)⟩, zinjR zsub1 32 rfl rfl, rfl⟩
theorem lm1_33 : Cond.methodLink RX1 33 Lib.Math.min.name ∈ zT := zinjR zsub5 143 rfl rfl
theorem lf2_52 : zFl RX2 52 2 1 (.int) false := ⟨RX2, TX2, 16, tyX2, zc2, by decide, zinjR zsub1 201 rfl rfl, rfl, rfl, rfl⟩
theorem lm2_119 : zLv RX2 119 yX2_rankOf := ⟨zinjR zsub4 11 rfl rfl, zinjR zsub4 12 rfl rfl, zinjR zsub4 13 rfl rfl⟩
theorem lf2_24 : zFl RX2 24 2 8 (.array .int) true := ⟨RX2, TX2, 16, tyX2, zc2, by decide, zinjR zsub1 223 rfl rfl, rfl, rfl, rfl⟩
theorem lm2_62 : zLsn RX2 62 yX7_cell := ⟨⟨_, znest (h := "TagDraw") zsub2 158 (by decide +kernel)⟩, zinjR zsub2 159 rfl rfl⟩
theorem lf2_30 : zFl RX2 30 2 10 (.array .int) true := ⟨RX2, TX2, 16, tyX2, zc2, by decide, zinjR zsub1 230 rfl rfl, rfl, rfl, rfl⟩
theorem lm2_96 : zLsn RX2 96 yX7_put := ⟨⟨_, znest (h := "TagDraw") zsub2 161 (by decide +kernel)⟩, zinjR zsub2 162 rfl rfl⟩
theorem lf2_33 : zFl RX2 33 2 11 (.array .int) true := ⟨RX2, TX2, 16, tyX2, zc2, by decide, zinjR zsub1 233 rfl rfl, rfl, rfl, rfl⟩
theorem lf2_27 : zFl RX2 27 2 9 (.array .int) true := ⟨RX2, TX2, 16, tyX2, zc2, by decide, zinjR zsub1 227 rfl rfl, rfl, rfl, rfl⟩
theorem lm2_48 : zLv RX2 48 yX2_gatherUnits := ⟨zinjR zsub2 154 rfl rfl, zinjR zsub2 156 rfl rfl, zin 0 (by decide +kernel)⟩
theorem lf2_56 : zFl RX2 56 4 1 (.int) false := ⟨RX4, TX4, 14, tyX4, zc4, by decide, zinjR zsub1 40 rfl rfl, rfl, rfl, rfl⟩
theorem lf2_61 : zFl RX2 61 4 10 (.array .int) true := ⟨RX4, TX4, 14, tyX4, zc4, by decide, zinjR zsub1 72 rfl rfl, rfl, rfl, rfl⟩
theorem lm2_66 : zLv RX2 66 yX2_open := ⟨zinjR zsub2 164 rfl rfl, zinjR zsub2 166 rfl rfl, zin 1 (by decide +kernel)⟩
theorem lm2_70 : zLv RX2 70 yX2_join := ⟨zinjR zsub2 168 rfl rfl, zinjR zsub2 170 rfl rfl, zin 2 (by decide +kernel)⟩
theorem lf2_74 : zFl RX2 74 4 2 (.int) false := ⟨RX4, TX4, 14, tyX4, zc4, by decide, zinjR zsub1 45 rfl rfl, rfl, rfl, rfl⟩
theorem lf2_77 : zFl RX2 77 2 2 (.int) false := ⟨RX2, TX2, 16, tyX2, zc2, by decide, zinjR zsub1 206 rfl rfl, rfl, rfl, rfl⟩
theorem lf2_80 : zFl RX2 80 4 3 (.int) false := ⟨RX4, TX4, 14, tyX4, zc4, by decide, zinjR zsub1 49 rfl rfl, rfl, rfl, rfl⟩
theorem lm2_83 : zLv RX2 83 yX2_close := ⟨zinjR zsub2 175 rfl rfl, zinjR zsub2 177 rfl rfl, zin 3 (by decide +kernel)⟩
theorem lf2_87 : zFl RX2 87 4 0 (.int) false := ⟨RX4, TX4, 14, tyX4, zc4, by decide, zinjR zsub1 36 rfl rfl, rfl, rfl, rfl⟩
theorem lf2_90 : zFl RX2 90 2 0 (.int) false := ⟨RX2, TX2, 16, tyX2, zc2, by decide, zinjR zsub1 199 rfl rfl, rfl, rfl, rfl⟩
theorem lf2_91 : zFl RX2 91 2 3 (.boolean) false := ⟨RX2, TX2, 16, tyX2, zc2, by decide, zinjR zsub1 209 rfl rfl, rfl, rfl, rfl⟩
theorem lf2_95 : zFl RX2 95 4 7 (.array .int) true := ⟨RX4, TX4, 14, tyX4, zc4, by decide, zinjR zsub1 63 rfl rfl, rfl, rfl, rfl⟩
theorem lf2_9 : zFl RX2 9 2 4 (.array .int) true := ⟨RX2, TX2, 16, tyX2, zc2, by decide, zinjR zsub1 211 rfl rfl, rfl, rfl, rfl⟩
theorem lf2_15 : zFl RX2 15 2 5 (.array .int) true := ⟨RX2, TX2, 16, tyX2, zc2, by decide, zinjR zsub1 213 rfl rfl, rfl, rfl, rfl⟩
theorem lf2_100 : zFl RX2 100 4 4 (.int) false := ⟨RX4, TX4, 14, tyX4, zc4, by decide, zinjR zsub1 53 rfl rfl, rfl, rfl, rfl⟩
theorem lf2_18 : zFl RX2 18 2 6 (.array .int) true := ⟨RX2, TX2, 16, tyX2, zc2, by decide, zinjR zsub1 216 rfl rfl, rfl, rfl, rfl⟩
theorem lf2_103 : zFl RX2 103 4 5 (.int) false := ⟨RX4, TX4, 14, tyX4, zc4, by decide, zinjR zsub1 57 rfl rfl, rfl, rfl, rfl⟩
theorem lm2_3 : Cond.methodLink RX2 3 Lib.objectInit ∈ zT := zinjR zsub1 198 rfl rfl
theorem lff2_9 : zFf RX2 9 2 4 (.array .int) := ⟨TX2, 16, tyX2, zc2, by decide, zinjR zsub1 211 rfl rfl, rfl, rfl, rfl⟩
theorem lff2_15 : zFf RX2 15 2 5 (.array .int) := ⟨TX2, 16, tyX2, zc2, by decide, zinjR zsub1 213 rfl rfl, rfl, rfl, rfl⟩
theorem lff2_18 : zFf RX2 18 2 6 (.array .int) := ⟨TX2, 16, tyX2, zc2, by decide, zinjR zsub1 216 rfl rfl, rfl, rfl, rfl⟩
theorem lff2_21 : zFf RX2 21 2 7 (.array .int) := ⟨TX2, 16, tyX2, zc2, by decide, zinjR zsub1 219 rfl rfl, rfl, rfl, rfl⟩
theorem lff2_24 : zFf RX2 24 2 8 (.array .int) := ⟨TX2, 16, tyX2, zc2, by decide, zinjR zsub1 223 rfl rfl, rfl, rfl, rfl⟩
theorem lff2_27 : zFf RX2 27 2 9 (.array .int) := ⟨TX2, 16, tyX2, zc2, by decide, zinjR zsub1 227 rfl rfl, rfl, rfl, rfl⟩
theorem lff2_30 : zFf RX2 30 2 10 (.array .int) := ⟨TX2, 16, tyX2, zc2, by decide, zinjR zsub1 230 rfl rfl, rfl, rfl, rfl⟩
theorem lff2_33 : zFf RX2 33 2 11 (.array .int) := ⟨TX2, 16, tyX2, zc2, by decide, zinjR zsub1 233 rfl rfl, rfl, rfl, rfl⟩
theorem lff2_36 : zFf RX2 36 2 12 (.array .int) := ⟨TX2, 16, tyX2, zc2, by decide, zinjR zsub1 237 rfl rfl, rfl, rfl, rfl⟩
theorem lff2_39 : zFf RX2 39 2 13 (.array .int) := ⟨TX2, 16, tyX2, zc2, by decide, zinjR zsub1 239 rfl rfl, rfl, rfl, rfl⟩
theorem lff2_42 : zFf RX2 42 2 14 (.array .int) := ⟨TX2, 16, tyX2, zc2, by decide, zinjR zsub2 1 rfl rfl, rfl, rfl, rfl⟩
theorem lff2_45 : zFf RX2 45 2 15 (.array .int) := ⟨TX2, 16, tyX2, zc2, by decide, zinjR zsub2 4 rfl rfl, rfl, rfl, rfl⟩
theorem lf2_21 : zFl RX2 21 2 7 (.array .int) true := ⟨RX2, TX2, 16, tyX2, zc2, by decide, zinjR zsub1 219 rfl rfl, rfl, rfl, rfl⟩
theorem lm2_106 : zLsn RX2 106 yX7_add := ⟨⟨_, znest (h := "TagDraw") zsub2 172 (by decide +kernel)⟩, zinjR zsub2 173 rfl rfl⟩
theorem lf2_109 : zFl RX2 109 4 9 (.array .int) true := ⟨RX4, TX4, 14, tyX4, zc4, by decide, zinjR zsub1 69 rfl rfl, rfl, rfl, rfl⟩
theorem lf2_112 : zFl RX2 112 4 8 (.array .int) true := ⟨RX4, TX4, 14, tyX4, zc4, by decide, zinjR zsub1 66 rfl rfl, rfl, rfl, rfl⟩
theorem lf2_36 : zFl RX2 36 2 12 (.array .int) true := ⟨RX2, TX2, 16, tyX2, zc2, by decide, zinjR zsub1 237 rfl rfl, rfl, rfl, rfl⟩
theorem lf2_42 : zFl RX2 42 2 14 (.array .int) true := ⟨RX2, TX2, 16, tyX2, zc2, by decide, zinjR zsub2 1 rfl rfl, rfl, rfl, rfl⟩
theorem lf2_113 : zFl RX2 113 4 11 (.array .int) true := ⟨RX4, TX4, 14, tyX4, zc4, by decide, zinjR zsub1 76 rfl rfl, rfl, rfl, rfl⟩
theorem lf2_45 : zFl RX2 45 2 15 (.array .int) true := ⟨RX2, TX2, 16, tyX2, zc2, by decide, zinjR zsub2 4 rfl rfl, rfl, rfl, rfl⟩
theorem lf2_114 : zFl RX2 114 4 12 (.array .int) true := ⟨RX4, TX4, 14, tyX4, zc4, by decide, zinjR zsub1 79 rfl rfl, rfl, rfl, rfl⟩
theorem lf2_39 : zFl RX2 39 2 13 (.array .int) true := ⟨RX2, TX2, 16, tyX2, zc2, by decide, zinjR zsub1 239 rfl rfl, rfl, rfl, rfl⟩
theorem lm2_115 : zLv RX2 115 yX2_wish := ⟨zinjR zsub4 15 rfl rfl, zinjR zsub4 16 rfl rfl, zinjR zsub4 17 rfl rfl⟩
theorem lf3_33 : zFl RX3 33 3 15 (.array .long) true := ⟨RX3, TX3, 18, tyX3, zc3, by decide, zinjR zsub1 130 rfl rfl, rfl, rfl, rfl⟩
theorem lf3_12 : zFl RX3 12 3 0 (.object "TagDraw$Register") true := ⟨RX3, TX3, 18, tyX3, zc3, by decide, zinjR zsub1 112 rfl rfl, rfl, rfl, rfl⟩
theorem lf3_151 : zFl RX3 151 4 1 (.int) false := ⟨RX4, TX4, 14, tyX4, zc4, by decide, zinjR zsub1 43 rfl rfl, rfl, rfl, rfl⟩
theorem lf3_104 : zFl RX3 104 3 8 (.long) false := ⟨RX3, TX3, 18, tyX3, zc3, by decide, zinjR zsub1 123 rfl rfl, rfl, rfl, rfl⟩
theorem lm3_202 : zLs RX3 202 yX3_find := ⟨zinjR zsub3 131 rfl rfl, zinjR zsub3 132 rfl rfl⟩
theorem lm3_206 : zLv RX3 206 yX3_isFree := ⟨zinjR zsub3 165 rfl rfl, zinjR zsub3 167 rfl rfl, zin 20 (by decide +kernel)⟩
theorem lf3_36 : zFl RX3 36 3 16 (.array .long) true := ⟨RX3, TX3, 18, tyX3, zc3, by decide, zinjR zsub1 131 rfl rfl, rfl, rfl, rfl⟩
theorem lf3_157 : zFl RX3 157 4 2 (.int) false := ⟨RX4, TX4, 14, tyX4, zc4, by decide, zinjR zsub1 47 rfl rfl, rfl, rfl, rfl⟩
theorem lf3_250 : zFl RX3 250 4 10 (.array .int) true := ⟨RX4, TX4, 14, tyX4, zc4, by decide, zinjR zsub1 74 rfl rfl, rfl, rfl, rfl⟩
theorem lm3_81 : zLsn RX3 81 yX7_cell := ⟨⟨_, znest (h := "TagDraw") zsub3 28 (by decide +kernel)⟩, zinjR zsub2 159 rfl rfl⟩
theorem lf3_252 : zFl RX3 252 4 11 (.array .int) true := ⟨RX4, TX4, 14, tyX4, zc4, by decide, zinjR zsub1 77 rfl rfl, rfl, rfl, rfl⟩
theorem lf3_74 : zFl RX3 74 3 6 (.int) false := ⟨RX3, TX3, 18, tyX3, zc3, by decide, zinjR zsub1 121 rfl rfl, rfl, rfl, rfl⟩
theorem lm3_148 : zLv RX3 148 yX3_fail := ⟨zinjR zsub3 123 rfl rfl, zinjR zsub3 125 rfl rfl, zin 14 (by decide +kernel)⟩
theorem lm3_71 : zLv RX3 71 yX3_step := ⟨zinjR zsub3 24 rfl rfl, zinjR zsub3 26 rfl rfl, zin 6 (by decide +kernel)⟩
theorem lf3_18 : zFl RX3 18 3 1 (.int) false := ⟨RX3, TX3, 18, tyX3, zc3, by decide, zinjR zsub1 114 rfl rfl, rfl, rfl, rfl⟩
theorem lf3_89 : zFl RX3 89 3 7 (.int) false := ⟨RX3, TX3, 18, tyX3, zc3, by decide, zinjR zsub1 122 rfl rfl, rfl, rfl, rfl⟩
theorem lf3_22 : zFl RX3 22 3 2 (.int) false := ⟨RX3, TX3, 18, tyX3, zc3, by decide, zinjR zsub1 116 rfl rfl, rfl, rfl, rfl⟩
theorem lm3_246 : zLsn RX3 246 yX7_bigCell := ⟨⟨_, znest (h := "TagDraw") zsub3 134 (by decide +kernel)⟩, zinjR zsub3 135 rfl rfl⟩
theorem lm3_3 : Cond.methodLink RX3 3 Lib.objectInit ∈ zT := zinjR zsub1 28 rfl rfl
theorem ln3_9 : Cond.classLink RX3 9 RX4 ∈ zT := zinjR zsub1 29 rfl rfl
theorem lm3_11 : zLin RX3 11 yX4_init := ⟨⟨_, znest (h := "TagDraw") zsub1 31 (by decide +kernel)⟩, zinjR zsub1 32 rfl rfl, rfl⟩
theorem lff3_12 : zFf RX3 12 3 0 (.object "TagDraw$Register") := ⟨TX3, 18, tyX3, zc3, by decide, zinjR zsub1 112 rfl rfl, rfl, rfl, rfl⟩
theorem lff3_25 : zFf RX3 25 3 3 (.array .int) := ⟨TX3, 18, tyX3, zc3, by decide, zinjR zsub1 118 rfl rfl, rfl, rfl, rfl⟩
theorem lff3_29 : zFf RX3 29 3 14 (.array .long) := ⟨TX3, 18, tyX3, zc3, by decide, zinjR zsub1 129 rfl rfl, rfl, rfl, rfl⟩
theorem lff3_33 : zFf RX3 33 3 15 (.array .long) := ⟨TX3, 18, tyX3, zc3, by decide, zinjR zsub1 130 rfl rfl, rfl, rfl, rfl⟩
theorem lff3_36 : zFf RX3 36 3 16 (.array .long) := ⟨TX3, 18, tyX3, zc3, by decide, zinjR zsub1 131 rfl rfl, rfl, rfl, rfl⟩
theorem lff3_39 : zFf RX3 39 3 17 (.array .int) := ⟨TX3, 18, tyX3, zc3, by decide, zinjR zsub1 132 rfl rfl, rfl, rfl, rfl⟩
theorem lm3_124 : zLv RX3 124 yX3_says := ⟨zinjR zsub3 52 rfl rfl, zinjR zsub3 54 rfl rfl, zin 10 (by decide +kernel)⟩
theorem lf3_29 : zFl RX3 29 3 14 (.array .long) true := ⟨RX3, TX3, 18, tyX3, zc3, by decide, zinjR zsub1 129 rfl rfl, rfl, rfl, rfl⟩
theorem lf3_142 : zFl RX3 142 4 0 (.int) false := ⟨RX4, TX4, 14, tyX4, zc4, by decide, zinjR zsub1 38 rfl rfl, rfl, rfl, rfl⟩
theorem lf3_110 : zFl RX3 110 3 9 (.int) false := ⟨RX3, TX3, 18, tyX3, zc3, by decide, zinjR zsub1 124 rfl rfl, rfl, rfl, rfl⟩
theorem lf3_25 : zFl RX3 25 3 3 (.array .int) true := ⟨RX3, TX3, 18, tyX3, zc3, by decide, zinjR zsub1 118 rfl rfl, rfl, rfl, rfl⟩
theorem lm3_42 : zLsn RX3 42 yX7_copy := ⟨⟨_, znest (h := "TagDraw") zsub3 16 (by decide +kernel)⟩, zinjR zsub3 17 rfl rfl⟩
theorem lm3_46 : Cond.methodLink RX3 46 Lib.Math.min.name ∈ zT := zinjR zsub3 20 rfl rfl
theorem lf3_52 : zFl RX3 52 3 4 (.int) false := ⟨RX3, TX3, 18, tyX3, zc3, by decide, zinjR zsub1 119 rfl rfl, rfl, rfl, rfl⟩
theorem lf3_55 : zFl RX3 55 3 5 (.int) false := ⟨RX3, TX3, 18, tyX3, zc3, by decide, zinjR zsub1 120 rfl rfl, rfl, rfl, rfl⟩
theorem lf3_58 : zFl RX3 58 3 11 (.boolean) false := ⟨RX3, TX3, 18, tyX3, zc3, by decide, zinjR zsub1 126 rfl rfl, rfl, rfl, rfl⟩
theorem lf3_62 : zFl RX3 62 3 12 (.boolean) false := ⟨RX3, TX3, 18, tyX3, zc3, by decide, zinjR zsub1 127 rfl rfl, rfl, rfl, rfl⟩
theorem lf3_65 : zFl RX3 65 3 13 (.boolean) false := ⟨RX3, TX3, 18, tyX3, zc3, by decide, zinjR zsub1 128 rfl rfl, rfl, rfl, rfl⟩
theorem lm3_68 : zLv RX3 68 yX4_clear := ⟨zinjR zsub3 23 rfl rfl, zinjR zsub2 144 rfl rfl, zinjR zsub2 145 rfl rfl⟩
theorem lm3_77 : zLv RX3 77 yX3_readLine := ⟨zinjR zsub3 47 rfl rfl, zinjR zsub3 49 rfl rfl, zin 9 (by decide +kernel)⟩
theorem lm3_199 : zLv RX3 199 yX3_isName := ⟨zinjR zsub3 112 rfl rfl, zinjR zsub3 114 rfl rfl, zin 13 (by decide +kernel)⟩
theorem lm3_212 : zLv RX3 212 yX3_asker := ⟨zinjR zsub3 177 rfl rfl, zinjR zsub3 179 rfl rfl, zin 22 (by decide +kernel)⟩
theorem lf3_39 : zFl RX3 39 3 17 (.array .int) true := ⟨RX3, TX3, 18, tyX3, zc3, by decide, zinjR zsub1 132 rfl rfl, rfl, rfl, rfl⟩
theorem lm3_215 : zLsn RX3 215 yX7_fill := ⟨⟨_, znest (h := "TagDraw") zsub3 181 (by decide +kernel)⟩, zinjR zsub2 148 rfl rfl⟩
theorem lm3_219 : zLsn RX3 219 yX7_put := ⟨⟨_, znest (h := "TagDraw") zsub3 182 (by decide +kernel)⟩, zinjR zsub2 162 rfl rfl⟩
theorem lm3_181 : zLv RX3 181 yX3_endOfLine := ⟨zinjR zsub3 141 rfl rfl, zinjR zsub3 143 rfl rfl, zin 17 (by decide +kernel)⟩
theorem lm3_223 : zLv RX3 223 yX4_wishFor := ⟨zinjR zsub3 183 rfl rfl, zinjR zsub3 184 rfl rfl, zinjR zsub3 185 rfl rfl⟩
theorem lm3_178 : zLv RX3 178 yX3_numberUpTo := ⟨zinjR zsub3 137 rfl rfl, zinjR zsub3 139 rfl rfl, zin 16 (by decide +kernel)⟩
theorem lf3_239 : zFl RX3 239 4 5 (.int) false := ⟨RX4, TX4, 14, tyX4, zc4, by decide, zinjR zsub1 59 rfl rfl, rfl, rfl, rfl⟩
theorem lm3_175 : zLv RX3 175 yX3_readNewName := ⟨zinjR zsub3 108 rfl rfl, zinjR zsub3 110 rfl rfl, zin 12 (by decide +kernel)⟩
theorem lf3_184 : zFl RX3 184 3 10 (.long) false := ⟨RX3, TX3, 18, tyX3, zc3, by decide, zinjR zsub1 125 rfl rfl, rfl, rfl, rfl⟩
theorem lm3_187 : zLsn RX3 187 yX7_bigPut := ⟨⟨_, znest (h := "TagDraw") zsub3 145 (by decide +kernel)⟩, zinjR zsub3 146 rfl rfl⟩
theorem lm3_195 : zLv RX3 195 yX4_addHunter := ⟨zinjR zsub3 157 rfl rfl, zinjR zsub3 158 rfl rfl, zinjR zsub3 159 rfl rfl⟩
theorem lf3_229 : zFl RX3 229 4 3 (.int) false := ⟨RX4, TX4, 14, tyX4, zc4, by decide, zinjR zsub1 51 rfl rfl, rfl, rfl, rfl⟩
theorem lm3_145 : zLv RX3 145 yX3_readUnit := ⟨zinjR zsub3 104 rfl rfl, zinjR zsub3 106 rfl rfl, zin 11 (by decide +kernel)⟩
theorem lm3_154 : zLv RX3 154 yX3_readHunter := ⟨zinjR zsub3 153 rfl rfl, zinjR zsub3 155 rfl rfl, zin 18 (by decide +kernel)⟩
theorem lm3_160 : zLv RX3 160 yX3_readParty := ⟨zinjR zsub3 161 rfl rfl, zinjR zsub3 163 rfl rfl, zin 19 (by decide +kernel)⟩
theorem lm3_163 : zLv RX3 163 yX3_readAsks := ⟨zinjR zsub3 173 rfl rfl, zinjR zsub3 175 rfl rfl, zin 21 (by decide +kernel)⟩
theorem lm3_166 : zLv RX3 166 yX3_readLaw := ⟨zinjR zsub3 187 rfl rfl, zinjR zsub3 189 rfl rfl, zin 23 (by decide +kernel)⟩
theorem lm3_169 : zLv RX3 169 yX3_readPrefer := ⟨zinjR zsub3 194 rfl rfl, zinjR zsub3 196 rfl rfl, zin 24 (by decide +kernel)⟩
theorem lm3_172 : zLv RX3 172 yX3_readGuests := ⟨zinjR zsub3 198 rfl rfl, zinjR zsub3 200 rfl rfl, zin 25 (by decide +kernel)⟩
theorem lm3_242 : zLv RX3 242 yX3_isTaken := ⟨zinjR zsub3 127 rfl rfl, zinjR zsub3 129 rfl rfl, zin 15 (by decide +kernel)⟩
theorem lm3_209 : zLv RX3 209 yX4_addParty := ⟨zinjR zsub3 169 rfl rfl, zinjR zsub3 170 rfl rfl, zinjR zsub3 171 rfl rfl⟩
theorem lf3_236 : zFl RX3 236 4 4 (.int) false := ⟨RX4, TX4, 14, tyX4, zc4, by decide, zinjR zsub1 55 rfl rfl, rfl, rfl, rfl⟩
theorem lm3_191 : zLv RX3 191 yX4_addUnit := ⟨zinjR zsub3 148 rfl rfl, zinjR zsub3 149 rfl rfl, zinjR zsub3 150 rfl rfl⟩
theorem lm3_113 : zLv RX3 113 yJ0_length_8abf5 := ⟨zinjR zsub3 56 rfl rfl, zinjR zsub3 57 rfl rfl, zinjR zsub3 58 rfl rfl⟩
theorem lm3_118 : zLv RX3 118 yJ0_charAt_5068e := ⟨zinjR zsub3 66 rfl rfl, zinjR zsub3 67 rfl rfl, zinjR zsub3 68 rfl rfl⟩
theorem lm3_85 : zLs RX3 85 yX3_isBlank := ⟨zinjR zsub3 29 rfl rfl, zinjR zsub3 30 rfl rfl⟩
theorem lm3_92 : zLs RX3 92 yX3_isLetter := ⟨zinjR zsub3 32 rfl rfl, zinjR zsub3 33 rfl rfl⟩
theorem lm3_95 : zLv RX3 95 yX3_stepWord := ⟨zinjR zsub3 35 rfl rfl, zinjR zsub3 37 rfl rfl, zin 7 (by decide +kernel)⟩
theorem lm3_98 : zLs RX3 98 yX3_isDigit := ⟨zinjR zsub3 40 rfl rfl, zinjR zsub3 41 rfl rfl⟩
theorem lm3_101 : zLv RX3 101 yX3_stepNumber := ⟨zinjR zsub3 43 rfl rfl, zinjR zsub3 45 rfl rfl, zin 8 (by decide +kernel)⟩
theorem lk3_108 : Cond.constantLong RX3 108 (27) ∈ zT := zinjR zsub3 39 rfl rfl
theorem lf4_15 : zFl RX4 15 4 8 (.array .int) true := ⟨RX4, TX4, 14, tyX4, zc4, by decide, zinjR zsub1 65 rfl rfl, rfl, rfl, rfl⟩
theorem lf4_37 : zFl RX4 37 4 1 (.int) false := ⟨RX4, TX4, 14, tyX4, zc4, by decide, zinjR zsub1 39 rfl rfl, rfl, rfl, rfl⟩
theorem lm4_63 : zLsn RX4 63 yX7_put := ⟨⟨_, znest (h := "TagDraw") zsub3 152 (by decide +kernel)⟩, zinjR zsub2 162 rfl rfl⟩
theorem lf4_18 : zFl RX4 18 4 9 (.array .int) true := ⟨RX4, TX4, 14, tyX4, zc4, by decide, zinjR zsub1 68 rfl rfl, rfl, rfl, rfl⟩
theorem lf4_21 : zFl RX4 21 4 10 (.array .int) true := ⟨RX4, TX4, 14, tyX4, zc4, by decide, zinjR zsub1 71 rfl rfl, rfl, rfl, rfl⟩
theorem lf4_40 : zFl RX4 40 4 2 (.int) false := ⟨RX4, TX4, 14, tyX4, zc4, by decide, zinjR zsub1 44 rfl rfl, rfl, rfl, rfl⟩
theorem lf4_9 : zFl RX4 9 4 7 (.array .int) true := ⟨RX4, TX4, 14, tyX4, zc4, by decide, zinjR zsub1 62 rfl rfl, rfl, rfl, rfl⟩
theorem lf4_33 : zFl RX4 33 4 0 (.int) false := ⟨RX4, TX4, 14, tyX4, zc4, by decide, zinjR zsub1 35 rfl rfl, rfl, rfl, rfl⟩
theorem lf4_43 : zFl RX4 43 4 3 (.int) false := ⟨RX4, TX4, 14, tyX4, zc4, by decide, zinjR zsub1 48 rfl rfl, rfl, rfl, rfl⟩
theorem lf4_46 : zFl RX4 46 4 4 (.int) false := ⟨RX4, TX4, 14, tyX4, zc4, by decide, zinjR zsub1 52 rfl rfl, rfl, rfl, rfl⟩
theorem lf4_49 : zFl RX4 49 4 5 (.int) false := ⟨RX4, TX4, 14, tyX4, zc4, by decide, zinjR zsub1 56 rfl rfl, rfl, rfl, rfl⟩
theorem lf4_52 : zFl RX4 52 4 6 (.int) false := ⟨RX4, TX4, 14, tyX4, zc4, by decide, zinjR zsub1 60 rfl rfl, rfl, rfl, rfl⟩
theorem lm4_55 : zLsn RX4 55 yX7_fill := ⟨⟨_, znest (h := "TagDraw") zsub2 147 (by decide +kernel)⟩, zinjR zsub2 148 rfl rfl⟩
theorem lf4_24 : zFl RX4 24 4 11 (.array .int) true := ⟨RX4, TX4, 14, tyX4, zc4, by decide, zinjR zsub1 75 rfl rfl, rfl, rfl, rfl⟩
theorem lf4_27 : zFl RX4 27 4 12 (.array .int) true := ⟨RX4, TX4, 14, tyX4, zc4, by decide, zinjR zsub1 78 rfl rfl, rfl, rfl, rfl⟩
theorem lf4_30 : zFl RX4 30 4 13 (.array .int) true := ⟨RX4, TX4, 14, tyX4, zc4, by decide, zinjR zsub1 80 rfl rfl, rfl, rfl, rfl⟩
theorem lm4_67 : zLsn RX4 67 yX7_cell := ⟨⟨_, znest (h := "TagDraw") zsub5 66 (by decide +kernel)⟩, zinjR zsub2 159 rfl rfl⟩
theorem lm4_3 : Cond.methodLink RX4 3 Lib.objectInit ∈ zT := zinjR zsub1 34 rfl rfl
theorem lff4_9 : zFf RX4 9 4 7 (.array .int) := ⟨TX4, 14, tyX4, zc4, by decide, zinjR zsub1 62 rfl rfl, rfl, rfl, rfl⟩
theorem lff4_15 : zFf RX4 15 4 8 (.array .int) := ⟨TX4, 14, tyX4, zc4, by decide, zinjR zsub1 65 rfl rfl, rfl, rfl, rfl⟩
theorem lff4_18 : zFf RX4 18 4 9 (.array .int) := ⟨TX4, 14, tyX4, zc4, by decide, zinjR zsub1 68 rfl rfl, rfl, rfl, rfl⟩
theorem lff4_21 : zFf RX4 21 4 10 (.array .int) := ⟨TX4, 14, tyX4, zc4, by decide, zinjR zsub1 71 rfl rfl, rfl, rfl, rfl⟩
theorem lff4_24 : zFf RX4 24 4 11 (.array .int) := ⟨TX4, 14, tyX4, zc4, by decide, zinjR zsub1 75 rfl rfl, rfl, rfl, rfl⟩
theorem lff4_27 : zFf RX4 27 4 12 (.array .int) := ⟨TX4, 14, tyX4, zc4, by decide, zinjR zsub1 78 rfl rfl, rfl, rfl, rfl⟩
theorem lff4_30 : zFf RX4 30 4 13 (.array .int) := ⟨TX4, 14, tyX4, zc4, by decide, zinjR zsub1 80 rfl rfl, rfl, rfl, rfl⟩
theorem lm4_71 : zLv RX4 71 yX4_wishFor := ⟨zinjR zsub5 67 rfl rfl, zinjR zsub3 184 rfl rfl, zinjR zsub3 185 rfl rfl⟩
theorem lm4_75 : zLv RX4 75 yX4_addParty := ⟨zinjR zsub5 68 rfl rfl, zinjR zsub3 170 rfl rfl, zinjR zsub3 171 rfl rfl⟩
theorem lf4_79 : zFl RX4 79 2 7 (.array .int) true := ⟨RX2, TX2, 16, tyX2, zc2, by decide, zinjR zsub1 222 rfl rfl, rfl, rfl, rfl⟩
theorem lm4_84 : zLv RX4 84 yX5_scoreBehind := ⟨zinjR zsub5 117 rfl rfl, zinjR zsub4 163 rfl rfl, zinjR zsub4 164 rfl rfl⟩
theorem lf4_90 : zFl RX4 90 5 1 (.array .int) true := ⟨RX5, TX5, 7, tyX5, zc5, by decide, zinjR zsub2 50 rfl rfl, rfl, rfl, rfl⟩
theorem lm4_59 : zLsn RX4 59 yX7_copy := ⟨⟨_, znest (h := "TagDraw") zsub3 206 (by decide +kernel)⟩, zinjR zsub3 17 rfl rfl⟩
theorem lm5_33 : zLv RX5 33 yX5_lineUp := ⟨zinjR zsub4 83 rfl rfl, zinjR zsub4 63 rfl rfl, zinjR zsub4 64 rfl rfl⟩
theorem lm5_37 : zLv RX5 37 yX5_settle := ⟨zinjR zsub4 84 rfl rfl, zinjR zsub4 85 rfl rfl, zinjR zsub4 86 rfl rfl⟩
theorem lf5_47 : zFl RX5 47 2 1 (.int) false := ⟨RX2, TX2, 16, tyX2, zc2, by decide, zinjR zsub1 203 rfl rfl, rfl, rfl, rfl⟩
theorem lf5_15 : zFl RX5 15 5 1 (.array .int) true := ⟨RX5, TX5, 7, tyX5, zc5, by decide, zinjR zsub2 47 rfl rfl, rfl, rfl, rfl⟩
theorem lm5_69 : zLsn RX5 69 yX7_cell := ⟨⟨_, znest (h := "TagDraw") zsub4 73 (by decide +kernel)⟩, zinjR zsub2 159 rfl rfl⟩
theorem lf5_116 : zFl RX5 116 2 10 (.array .int) true := ⟨RX2, TX2, 16, tyX2, zc2, by decide, zinjR zsub1 231 rfl rfl, rfl, rfl, rfl⟩
theorem lm5_95 : zLv RX5 95 yX5_rank := ⟨zinjR zsub4 92 rfl rfl, zinjR zsub4 94 rfl rfl, zin 32 (by decide +kernel)⟩
theorem lf5_30 : zFl RX5 30 5 6 (.array .int) true := ⟨RX5, TX5, 7, tyX5, zc5, by decide, zinjR zsub2 60 rfl rfl, rfl, rfl, rfl⟩
theorem lm5_98 : zLv RX5 98 yX2_wish := ⟨zinjR zsub4 96 rfl rfl, zinjR zsub4 16 rfl rfl, zinjR zsub4 17 rfl rfl⟩
theorem lf5_27 : zFl RX5 27 5 5 (.array .int) true := ⟨RX5, TX5, 7, tyX5, zc5, by decide, zinjR zsub2 59 rfl rfl, rfl, rfl, rfl⟩
theorem lf5_24 : zFl RX5 24 5 4 (.array .int) true := ⟨RX5, TX5, 7, tyX5, zc5, by decide, zinjR zsub2 57 rfl rfl, rfl, rfl, rfl⟩
theorem lm5_102 : zLv RX5 102 yX2_fits := ⟨zinjR zsub4 97 rfl rfl, zinjR zsub4 98 rfl rfl, zinjR zsub4 99 rfl rfl⟩
theorem lf5_106 : zFl RX5 106 2 8 (.array .int) true := ⟨RX2, TX2, 16, tyX2, zc2, by decide, zinjR zsub1 224 rfl rfl, rfl, rfl, rfl⟩
theorem lm5_109 : zLsn RX5 109 yX7_add := ⟨⟨_, znest (h := "TagDraw") zsub4 101 (by decide +kernel)⟩, zinjR zsub2 173 rfl rfl⟩
theorem lm5_112 : zLv RX5 112 yX5_hold := ⟨zinjR zsub4 102 rfl rfl, zinjR zsub4 104 rfl rfl, zin 33 (by decide +kernel)⟩
theorem lm5_62 : zLsn RX5 62 yX7_put := ⟨⟨_, znest (h := "TagDraw") zsub4 74 (by decide +kernel)⟩, zinjR zsub2 162 rfl rfl⟩
theorem lf5_18 : zFl RX5 18 5 2 (.array .int) true := ⟨RX5, TX5, 7, tyX5, zc5, by decide, zinjR zsub2 52 rfl rfl, rfl, rfl, rfl⟩
theorem lf5_21 : zFl RX5 21 5 3 (.array .int) true := ⟨RX5, TX5, 7, tyX5, zc5, by decide, zinjR zsub2 55 rfl rfl, rfl, rfl, rfl⟩
theorem lf5_122 : zFl RX5 122 2 9 (.array .int) true := ⟨RX2, TX2, 16, tyX2, zc2, by decide, zinjR zsub1 228 rfl rfl, rfl, rfl, rfl⟩
theorem lf5_66 : zFl RX5 66 2 11 (.array .int) true := ⟨RX2, TX2, 16, tyX2, zc2, by decide, zinjR zsub1 235 rfl rfl, rfl, rfl, rfl⟩
theorem lm5_3 : Cond.methodLink RX5 3 Lib.objectInit ∈ zT := zinjR zsub2 43 rfl rfl
theorem lff5_9 : zFf RX5 9 5 0 (.array .int) := ⟨TX5, 7, tyX5, zc5, by decide, zinjR zsub2 44 rfl rfl, rfl, rfl, rfl⟩
theorem lff5_15 : zFf RX5 15 5 1 (.array .int) := ⟨TX5, 7, tyX5, zc5, by decide, zinjR zsub2 47 rfl rfl, rfl, rfl, rfl⟩
theorem lff5_18 : zFf RX5 18 5 2 (.array .int) := ⟨TX5, 7, tyX5, zc5, by decide, zinjR zsub2 52 rfl rfl, rfl, rfl, rfl⟩
theorem lff5_21 : zFf RX5 21 5 3 (.array .int) := ⟨TX5, 7, tyX5, zc5, by decide, zinjR zsub2 55 rfl rfl, rfl, rfl, rfl⟩
theorem lff5_24 : zFf RX5 24 5 4 (.array .int) := ⟨TX5, 7, tyX5, zc5, by decide, zinjR zsub2 57 rfl rfl, rfl, rfl, rfl⟩
theorem lff5_27 : zFf RX5 27 5 5 (.array .int) := ⟨TX5, 7, tyX5, zc5, by decide, zinjR zsub2 59 rfl rfl, rfl, rfl, rfl⟩
theorem lff5_30 : zFf RX5 30 5 6 (.array .int) := ⟨TX5, 7, tyX5, zc5, by decide, zinjR zsub2 60 rfl rfl, rfl, rfl, rfl⟩
theorem lm5_125 : zLv RX5 125 yX2_rankOf := ⟨zinjR zsub4 138 rfl rfl, zinjR zsub4 12 rfl rfl, zinjR zsub4 13 rfl rfl⟩
theorem lf5_41 : zFl RX5 41 2 2 (.int) false := ⟨RX2, TX2, 16, tyX2, zc2, by decide, zinjR zsub1 207 rfl rfl, rfl, rfl, rfl⟩
theorem lk5_50 : Cond.constantLong RX5 50 (1103515245) ∈ zT := zinjR zsub4 66 rfl rfl
theorem lk5_52 : Cond.constantLong RX5 52 (12345) ∈ zT := zinjR zsub4 67 rfl rfl
theorem lk5_54 : Cond.constantLong RX5 54 (2147483648) ∈ zT := zinjR zsub4 68 rfl rfl
theorem lk5_56 : Cond.constantLong RX5 56 (65536) ∈ zT := zinjR zsub4 69 rfl rfl
theorem lm5_58 : zLs RX5 58 yX5_holderOf := ⟨zinjR zsub4 70 rfl rfl, zinjR zsub4 71 rfl rfl⟩
theorem lf5_9 : zFl RX5 9 5 0 (.array .int) true := ⟨RX5, TX5, 7, tyX5, zc5, by decide, zinjR zsub2 44 rfl rfl, rfl, rfl, rfl⟩
theorem lf5_119 : zFl RX5 119 2 14 (.array .int) true := ⟨RX2, TX2, 16, tyX2, zc2, by decide, zinjR zsub2 2 rfl rfl, rfl, rfl, rfl⟩
theorem lm5_128 : Cond.methodLink RX5 128 Lib.Math.min.name ∈ zT := zinjR zsub4 166 rfl rfl
theorem lm5_133 : zLv RX5 133 yX5_hasFirst := ⟨zinjR zsub4 167 rfl rfl, zinjR zsub4 168 rfl rfl, zinjR zsub4 169 rfl rfl⟩
theorem lf5_73 : zFl RX5 73 2 0 (.int) false := ⟨RX2, TX2, 16, tyX2, zc2, by decide, zinjR zsub1 200 rfl rfl, rfl, rfl, rfl⟩
theorem lf5_76 : zFl RX5 76 2 4 (.array .int) true := ⟨RX2, TX2, 16, tyX2, zc2, by decide, zinjR zsub1 212 rfl rfl, rfl, rfl, rfl⟩
theorem lf5_79 : zFl RX5 79 2 5 (.array .int) true := ⟨RX2, TX2, 16, tyX2, zc2, by decide, zinjR zsub1 214 rfl rfl, rfl, rfl, rfl⟩
theorem lf5_82 : zFl RX5 82 2 6 (.array .int) true := ⟨RX2, TX2, 16, tyX2, zc2, by decide, zinjR zsub1 217 rfl rfl, rfl, rfl, rfl⟩
theorem lf5_85 : zFl RX5 85 2 3 (.boolean) false := ⟨RX2, TX2, 16, tyX2, zc2, by decide, zinjR zsub1 210 rfl rfl, rfl, rfl, rfl⟩
theorem lm5_89 : zLv RX5 89 yX5_firstRound := ⟨zinjR zsub4 88 rfl rfl, zinjR zsub4 90 rfl rfl, zin 31 (by decide +kernel)⟩
theorem lm5_92 : zLv RX5 92 yX5_secondRound := ⟨zinjR zsub4 106 rfl rfl, zinjR zsub4 108 rfl rfl, zin 34 (by decide +kernel)⟩
theorem lm6_3 : Cond.methodLink RX6 3 Lib.objectInit ∈ zT := zinjR zsub2 107 rfl rfl
theorem lff6_9 : zFf RX6 9 6 2 (.array .int) := ⟨TX6, 8, tyX6, zc6, by decide, zinjR zsub2 118 rfl rfl, rfl, rfl, rfl⟩
theorem lff6_15 : zFf RX6 15 6 3 (.array .int) := ⟨TX6, 8, tyX6, zc6, by decide, zinjR zsub2 120 rfl rfl, rfl, rfl, rfl⟩
theorem lff6_18 : zFf RX6 18 6 4 (.array .int) := ⟨TX6, 8, tyX6, zc6, by decide, zinjR zsub2 122 rfl rfl, rfl, rfl, rfl⟩
theorem ln6_21 : Cond.classLink RX6 21 RX4 ∈ zT := zinjR zsub2 108 rfl rfl
theorem lm6_23 : zLin RX6 23 yX4_init := ⟨⟨_, znest (h := "TagDraw") zsub2 109 (by decide +kernel)⟩, zinjR zsub1 32 rfl rfl, rfl⟩
theorem lff6_24 : zFf RX6 24 6 5 (.object "TagDraw$Register") := ⟨TX6, 8, tyX6, zc6, by decide, zinjR zsub2 123 rfl rfl, rfl, rfl, rfl⟩
theorem ln6_28 : Cond.classLink RX6 28 RX2 ∈ zT := zinjR zsub2 110 rfl rfl
theorem lm6_30 : zLin RX6 30 yX2_init := ⟨⟨_, znest (h := "TagDraw") zsub2 111 (by decide +kernel)⟩, zinjR zsub1 196 rfl rfl, rfl⟩
theorem lff6_31 : zFf RX6 31 6 6 (.object "TagDraw$Pool") := ⟨TX6, 8, tyX6, zc6, by decide, zinjR zsub2 124 rfl rfl, rfl, rfl, rfl⟩
theorem ln6_35 : Cond.classLink RX6 35 RX5 ∈ zT := zinjR zsub2 112 rfl rfl
theorem lm6_37 : zLin RX6 37 yX5_init := ⟨⟨_, znest (h := "TagDraw") zsub2 113 (by decide +kernel)⟩, zinjR zsub2 41 rfl rfl, rfl⟩
theorem lff6_38 : zFf RX6 38 6 7 (.object "TagDraw$Result") := ⟨TX6, 8, tyX6, zc6, by decide, zinjR zsub2 125 rfl rfl, rfl, rfl, rfl⟩
theorem lf6_31 : zFl RX6 31 6 6 (.object "TagDraw$Pool") true := ⟨RX6, TX6, 8, tyX6, zc6, by decide, zinjR zsub2 124 rfl rfl, rfl, rfl, rfl⟩
theorem lf6_79 : zFl RX6 79 2 7 (.array .int) true := ⟨RX2, TX2, 16, tyX2, zc2, by decide, zinjR zsub1 220 rfl rfl, rfl, rfl, rfl⟩
theorem lm6_82 : zLsn RX6 82 yX7_cell := ⟨⟨_, znest (h := "TagDraw") zsub5 108 (by decide +kernel)⟩, zinjR zsub2 159 rfl rfl⟩
theorem lf6_38 : zFl RX6 38 6 7 (.object "TagDraw$Result") true := ⟨RX6, TX6, 8, tyX6, zc6, by decide, zinjR zsub2 125 rfl rfl, rfl, rfl, rfl⟩
theorem lf6_86 : zFl RX6 86 5 1 (.array .int) true := ⟨RX5, TX5, 7, tyX5, zc5, by decide, zinjR zsub2 48 rfl rfl, rfl, rfl, rfl⟩
theorem lf6_18 : zFl RX6 18 6 4 (.array .int) true := ⟨RX6, TX6, 8, tyX6, zc6, by decide, zinjR zsub2 122 rfl rfl, rfl, rfl, rfl⟩
theorem lm6_89 : zLsn RX6 89 yX7_add := ⟨⟨_, znest (h := "TagDraw") zsub5 109 (by decide +kernel)⟩, zinjR zsub2 173 rfl rfl⟩
theorem lf6_46 : zFl RX6 46 6 1 (.int) false := ⟨RX6, TX6, 8, tyX6, zc6, by decide, zinjR zsub2 116 rfl rfl, rfl, rfl, rfl⟩
theorem lm6_93 : Cond.methodLink RX6 93 Lib.Math.max.name ∈ zT := zinjR zsub5 110 rfl rfl
theorem lm6_99 : zLsn RX6 99 yX7_put := ⟨⟨_, znest (h := "TagDraw") zsub5 111 (by decide +kernel)⟩, zinjR zsub2 162 rfl rfl⟩
theorem lf6_9 : zFl RX6 9 6 2 (.array .int) true := ⟨RX6, TX6, 8, tyX6, zc6, by decide, zinjR zsub2 118 rfl rfl, rfl, rfl, rfl⟩
theorem lm6_102 : zLv RX6 102 yX5_hasFirst := ⟨zinjR zsub5 112 rfl rfl, zinjR zsub4 168 rfl rfl, zinjR zsub4 169 rfl rfl⟩
theorem lf6_15 : zFl RX6 15 6 3 (.array .int) true := ⟨RX6, TX6, 8, tyX6, zc6, by decide, zinjR zsub2 120 rfl rfl, rfl, rfl, rfl⟩
theorem lf6_42 : zFl RX6 42 6 0 (.int) false := ⟨RX6, TX6, 8, tyX6, zc6, by decide, zinjR zsub2 114 rfl rfl, rfl, rfl, rfl⟩
theorem lm6_49 : zLsn RX6 49 yX7_fill := ⟨⟨_, znest (h := "TagDraw") zsub5 96 (by decide +kernel)⟩, zinjR zsub2 148 rfl rfl⟩
theorem lf6_24 : zFl RX6 24 6 5 (.object "TagDraw$Register") true := ⟨RX6, TX6, 8, tyX6, zc6, by decide, zinjR zsub2 123 rfl rfl, rfl, rfl, rfl⟩
theorem lm6_53 : zLv RX6 53 yX4_take := ⟨zinjR zsub5 97 rfl rfl, zinjR zsub3 203 rfl rfl, zinjR zsub3 204 rfl rfl⟩
theorem lm6_57 : zLv RX6 57 yX2_gather := ⟨zinjR zsub5 98 rfl rfl, zinjR zsub2 151 rfl rfl, zinjR zsub2 152 rfl rfl⟩
theorem lm6_60 : zLv RX6 60 yX5_bySeed := ⟨zinjR zsub5 99 rfl rfl, zinjR zsub4 80 rfl rfl, zinjR zsub4 81 rfl rfl⟩
theorem lm6_64 : zLv RX6 64 yX5_tagsGiven := ⟨zinjR zsub5 100 rfl rfl, zinjR zsub5 101 rfl rfl, zinjR zsub5 102 rfl rfl⟩
theorem lf6_68 : zFl RX6 68 4 1 (.int) false := ⟨RX4, TX4, 14, tyX4, zc4, by decide, zinjR zsub1 41 rfl rfl, rfl, rfl, rfl⟩
theorem lm6_71 : zLv RX6 71 yX6_note := ⟨zinjR zsub5 104 rfl rfl, zinjR zsub5 106 rfl rfl, zin 41 (by decide +kernel)⟩
theorem lm6_75 : zLv RX6 75 yX4_live := ⟨zinjR zsub5 113 rfl rfl, zinjR zsub5 114 rfl rfl, zinjR zsub5 115 rfl rfl⟩
theorem lf7_88 : zFl RX7 88 7 0 (.int) false := ⟨RX7, TX7, 17, tyX7, zc7, by decide, zinjR zsub2 179 rfl rfl, rfl, rfl, rfl⟩
theorem lm7_362 : zLv RX7 362 yX7_isParty := ⟨zinjR zsub5 73 rfl rfl, zinjR zsub5 75 rfl rfl, zin 40 (by decide +kernel)⟩
theorem lm7_102 : zLv RX7 102 yX7_refuse := ⟨zinjR zsub3 8 rfl rfl, zinjR zsub3 10 rfl rfl, zin 5 (by decide +kernel)⟩
theorem lf7_65 : zFl RX7 65 7 13 (.object "TagDraw$Register") true := ⟨RX7, TX7, 17, tyX7, zc7, by decide, zinjR zsub2 192 rfl rfl, rfl, rfl, rfl⟩
theorem lf7_26 : zFl RX7 26 7 7 (.object "TagDraw$Register") true := ⟨RX7, TX7, 17, tyX7, zc7, by decide, zinjR zsub2 186 rfl rfl, rfl, rfl, rfl⟩
theorem lm7_113 : zLv RX7 113 yX4_take := ⟨zinjR zsub3 202 rfl rfl, zinjR zsub3 203 rfl rfl, zinjR zsub3 204 rfl rfl⟩
theorem lm7_365 : zLv RX7 365 yX4_dissolve := ⟨zinjR zsub5 77 rfl rfl, zinjR zsub5 78 rfl rfl, zinjR zsub5 79 rfl rfl⟩
theorem lf7_68 : zFl RX7 68 7 14 (.object "TagDraw$Pool") true := ⟨RX7, TX7, 17, tyX7, zc7, by decide, zinjR zsub2 193 rfl rfl, rfl, rfl, rfl⟩
theorem lm7_80 : zLv RX7 80 yX2_gather := ⟨zinjR zsub2 150 rfl rfl, zinjR zsub2 151 rfl rfl, zinjR zsub2 152 rfl rfl⟩
theorem lf7_140 : zFl RX7 140 2 1 (.int) false := ⟨RX2, TX2, 16, tyX2, zc2, by decide, zinjR zsub1 204 rfl rfl, rfl, rfl, rfl⟩
theorem lf7_74 : zFl RX7 74 7 16 (.object "TagDraw$Odds") true := ⟨RX7, TX7, 17, tyX7, zc7, by decide, zinjR zsub2 195 rfl rfl, rfl, rfl, rfl⟩
theorem lm7_339 : zLv RX7 339 yX0_reckon := ⟨zinjR zsub4 185 rfl rfl, zinjR zsub4 186 rfl rfl, zinjR zsub4 187 rfl rfl⟩
theorem lf7_119 : zFl RX7 119 4 1 (.int) false := ⟨RX4, TX4, 14, tyX4, zc4, by decide, zinjR zsub1 42 rfl rfl, rfl, rfl, rfl⟩
theorem lf7_179 : zFl RX7 179 4 10 (.array .int) true := ⟨RX4, TX4, 14, tyX4, zc4, by decide, zinjR zsub1 73 rfl rfl, rfl, rfl, rfl⟩
theorem lm7_175 : zLs RX7 175 yX7_cell := ⟨zinjR zsub3 19 rfl rfl, zinjR zsub2 159 rfl rfl⟩
theorem lf7_182 : zFl RX7 182 2 7 (.array .int) true := ⟨RX2, TX2, 16, tyX2, zc2, by decide, zinjR zsub1 221 rfl rfl, rfl, rfl, rfl⟩
theorem lm7_319 : zLv RX7 319 yX0_allOf := ⟨zinjR zsub4 233 rfl rfl, zinjR zsub4 212 rfl rfl, zinjR zsub4 213 rfl rfl⟩
theorem lm7_303 : zLv RX7 303 yX7_answerParts := ⟨zinjR zsub4 216 rfl rfl, zinjR zsub4 218 rfl rfl, zin 37 (by decide +kernel)⟩
theorem lf7_9 : zFl RX7 9 7 4 (.array .int) true := ⟨RX7, TX7, 17, tyX7, zc7, by decide, zinjR zsub2 183 rfl rfl, rfl, rfl, rfl⟩
theorem lf7_91 : zFl RX7 91 7 1 (.int) false := ⟨RX7, TX7, 17, tyX7, zc7, by decide, zinjR zsub2 180 rfl rfl, rfl, rfl, rfl⟩
theorem lm7_98 : zLs RX7 98 yX7_put := ⟨zinjR zsub3 3 rfl rfl, zinjR zsub2 162 rfl rfl⟩
theorem lm7_206 : zLv RX7 206 yX7_isApplicant := ⟨zinjR zsub4 31 rfl rfl, zinjR zsub4 33 rfl rfl, zin 30 (by decide +kernel)⟩
theorem lf7_40 : zFl RX7 40 7 9 (.object "TagDraw$Pool") true := ⟨RX7, TX7, 17, tyX7, zc7, by decide, zinjR zsub2 188 rfl rfl, rfl, rfl, rfl⟩
theorem lf7_209 : zFl RX7 209 2 8 (.array .int) true := ⟨RX2, TX2, 16, tyX2, zc2, by decide, zinjR zsub1 225 rfl rfl, rfl, rfl, rfl⟩
theorem lm7_134 : zLv RX7 134 yX7_answer := ⟨zinjR zsub3 215 rfl rfl, zinjR zsub3 217 rfl rfl, zin 27 (by decide +kernel)⟩
theorem lf7_212 : zFl RX7 212 2 9 (.array .int) true := ⟨RX2, TX2, 16, tyX2, zc2, by decide, zinjR zsub1 229 rfl rfl, rfl, rfl, rfl⟩
theorem lf7_215 : zFl RX7 215 2 10 (.array .int) true := ⟨RX2, TX2, 16, tyX2, zc2, by decide, zinjR zsub1 232 rfl rfl, rfl, rfl, rfl⟩
theorem lf7_216 : zFl RX7 216 2 11 (.array .int) true := ⟨RX2, TX2, 16, tyX2, zc2, by decide, zinjR zsub1 236 rfl rfl, rfl, rfl, rfl⟩
theorem lf7_219 : zFl RX7 219 2 14 (.array .int) true := ⟨RX2, TX2, 16, tyX2, zc2, by decide, zinjR zsub2 3 rfl rfl, rfl, rfl, rfl⟩
theorem lf7_222 : zFl RX7 222 2 12 (.array .int) true := ⟨RX2, TX2, 16, tyX2, zc2, by decide, zinjR zsub1 238 rfl rfl, rfl, rfl, rfl⟩
theorem lf7_225 : zFl RX7 225 2 13 (.array .int) true := ⟨RX2, TX2, 16, tyX2, zc2, by decide, zinjR zsub2 0 rfl rfl, rfl, rfl, rfl⟩
theorem lm7_237 : zLs RX7 237 yX7_isSeed := ⟨zinjR zsub4 58 rfl rfl, zinjR zsub4 59 rfl rfl⟩
theorem lk7_395 : Cond.constant RX7 395 (999999999) ∈ zT := zinjR zsub4 61 rfl rfl
theorem lm7_188 : zLv RX7 188 yX7_isUnit := ⟨zinjR zsub4 3 rfl rfl, zinjR zsub4 5 rfl rfl, zin 29 (by decide +kernel)⟩
theorem lm7_296 : zLv RX7 296 yX7_reckon := ⟨zinjR zsub4 181 rfl rfl, zinjR zsub4 183 rfl rfl, zin 35 (by decide +kernel)⟩
theorem lf7_54 : zFl RX7 54 7 11 (.object "TagDraw$Odds") true := ⟨RX7, TX7, 17, tyX7, zc7, by decide, zinjR zsub2 190 rfl rfl, rfl, rfl, rfl⟩
theorem lm7_307 : zLv RX7 307 yX0_certainUnit := ⟨zinjR zsub4 220 rfl rfl, zinjR zsub4 221 rfl rfl, zinjR zsub4 222 rfl rfl⟩
theorem lm7_168 : zLv RX7 168 yX7_isHunter := ⟨zinjR zsub3 235 rfl rfl, zinjR zsub3 237 rfl rfl, zin 28 (by decide +kernel)⟩
theorem lf7_47 : zFl RX7 47 7 10 (.object "TagDraw$Result") true := ⟨RX7, TX7, 17, tyX7, zc7, by decide, zinjR zsub2 189 rfl rfl, rfl, rfl, rfl⟩
theorem lm7_247 : zLv RX7 247 yX5_bySeed := ⟨zinjR zsub4 79 rfl rfl, zinjR zsub4 80 rfl rfl, zinjR zsub4 81 rfl rfl⟩
theorem lf7_172 : zFl RX7 172 4 8 (.array .int) true := ⟨RX4, TX4, 14, tyX4, zc4, by decide, zinjR zsub1 67 rfl rfl, rfl, rfl, rfl⟩
theorem lm7_287 : zLv RX7 287 yX5_scoreBehind := ⟨zinjR zsub4 162 rfl rfl, zinjR zsub4 163 rfl rfl, zinjR zsub4 164 rfl rfl⟩
theorem lm7_299 : zLv RX7 299 yX0_anyUnit := ⟨zinjR zsub4 207 rfl rfl, zinjR zsub4 208 rfl rfl, zinjR zsub4 209 rfl rfl⟩
theorem lm7_226 : zLv RX7 226 yX2_wish := ⟨zinjR zsub4 39 rfl rfl, zinjR zsub4 16 rfl rfl, zinjR zsub4 17 rfl rfl⟩
theorem lf7_311 : zFl RX7 311 0 3 (.array .long) true := ⟨RX0, TX0, 5, tyX0, zc0, by decide, zinjR zsub2 89 rfl rfl, rfl, rfl, rfl⟩
theorem lm7_315 : zLs RX7 315 yX7_bigCell := ⟨zinjR zsub4 224 rfl rfl, zinjR zsub3 135 rfl rfl⟩
theorem lf7_368 : zFl RX7 368 7 3 (.boolean) false := ⟨RX7, TX7, 17, tyX7, zc7, by decide, zinjR zsub2 182 rfl rfl, rfl, rfl, rfl⟩
theorem lm7_406 : zLv RX7 406 yX7_isUnitOrNone := ⟨zinjR zsub5 158 rfl rfl, zinjR zsub5 160 rfl rfl, zin 43 (by decide +kernel)⟩
theorem lf7_33 : zFl RX7 33 7 8 (.object "TagDraw$Past") true := ⟨RX7, TX7, 17, tyX7, zc7, by decide, zinjR zsub2 187 rfl rfl, rfl, rfl, rfl⟩
theorem lm7_396 : zLv RX7 396 yX1_keep := ⟨zinjR zsub5 134 rfl rfl, zinjR zsub5 135 rfl rfl, zinjR zsub5 136 rfl rfl⟩
theorem lm7_283 : zLv RX7 283 yX4_wishFor := ⟨zinjR zsub4 157 rfl rfl, zinjR zsub3 184 rfl rfl, zinjR zsub3 185 rfl rfl⟩
theorem lm7_122 : zLv RX7 122 yX7_changed := ⟨zinjR zsub3 211 rfl rfl, zinjR zsub3 213 rfl rfl, zin 26 (by decide +kernel)⟩
theorem lf7_158 : zFl RX7 158 4 7 (.array .int) true := ⟨RX4, TX4, 14, tyX4, zc4, by decide, zinjR zsub1 64 rfl rfl, rfl, rfl, rfl⟩
theorem lm7_200 : zLv RX7 200 yX2_firstHunters := ⟨zinjR zsub4 19 rfl rfl, zinjR zsub4 20 rfl rfl, zinjR zsub4 21 rfl rfl⟩
theorem lm7_230 : zLs RX7 230 yX7_lowest := ⟨zinjR zsub4 44 rfl rfl, zinjR zsub4 45 rfl rfl⟩
theorem lm7_399 : zLv RX7 399 yX4_live := ⟨zinjR zsub5 144 rfl rfl, zinjR zsub5 114 rfl rfl, zinjR zsub5 115 rfl rfl⟩
theorem lf7_152 : zFl RX7 152 4 6 (.int) false := ⟨RX4, TX4, 14, tyX4, zc4, by decide, zinjR zsub1 61 rfl rfl, rfl, rfl, rfl⟩
theorem lm7_403 : zLv RX7 403 yX5_tagsGiven := ⟨zinjR zsub5 145 rfl rfl, zinjR zsub5 101 rfl rfl, zinjR zsub5 102 rfl rfl⟩
theorem lf7_250 : zFl RX7 250 5 1 (.array .int) true := ⟨RX5, TX5, 7, tyX5, zc5, by decide, zinjR zsub2 51 rfl rfl, rfl, rfl, rfl⟩
theorem lf7_336 : zFl RX7 336 0 1 (.array .int) true := ⟨RX0, TX0, 5, tyX0, zc0, by decide, zinjR zsub2 86 rfl rfl, rfl, rfl, rfl⟩
theorem lm7_161 : zLs RX7 161 yX7_sum := ⟨zinjR zsub3 228 rfl rfl, zinjR zsub3 229 rfl rfl⟩
theorem lm7_277 : zLv RX7 277 yX2_rankOf := ⟨zinjR zsub4 148 rfl rfl, zinjR zsub4 12 rfl rfl, zinjR zsub4 13 rfl rfl⟩
theorem lm7_280 : zLv RX7 280 yX5_rankHeld := ⟨zinjR zsub4 149 rfl rfl, zinjR zsub4 150 rfl rfl, zinjR zsub4 151 rfl rfl⟩
theorem lf7_19 : zFl RX7 19 7 6 (.object "TagDraw$Reader") true := ⟨RX7, TX7, 17, tyX7, zc7, by decide, zinjR zsub2 185 rfl rfl, rfl, rfl, rfl⟩
theorem lf7_125 : zFl RX7 125 3 1 (.int) false := ⟨RX3, TX3, 18, tyX3, zc3, by decide, zinjR zsub1 115 rfl rfl, rfl, rfl, rfl⟩
theorem lf7_128 : zFl RX7 128 3 2 (.int) false := ⟨RX3, TX3, 18, tyX3, zc3, by decide, zinjR zsub1 117 rfl rfl, rfl, rfl, rfl⟩
theorem lm7_94 : zLv RX7 94 yX7_append := ⟨zinjR zsub2 239 rfl rfl, zinjR zsub3 1 rfl rfl, zin 4 (by decide +kernel)⟩
theorem lm7_329 : zLv RX7 329 yX0_fewestTags := ⟨zinjR zsub5 14 rfl rfl, zinjR zsub5 15 rfl rfl, zinjR zsub5 16 rfl rfl⟩
theorem lm7_333 : zLv RX7 333 yX0_mostTags := ⟨zinjR zsub5 22 rfl rfl, zinjR zsub5 23 rfl rfl, zinjR zsub5 24 rfl rfl⟩
theorem lf7_149 : zFl RX7 149 4 5 (.int) false := ⟨RX4, TX4, 14, tyX4, zc4, by decide, zinjR zsub1 58 rfl rfl, rfl, rfl, rfl⟩
theorem lf7_165 : zFl RX7 165 4 9 (.array .int) true := ⟨RX4, TX4, 14, tyX4, zc4, by decide, zinjR zsub1 70 rfl rfl, rfl, rfl, rfl⟩
theorem lf7_185 : zFl RX7 185 4 13 (.array .int) true := ⟨RX4, TX4, 14, tyX4, zc4, by decide, zinjR zsub1 81 rfl rfl, rfl, rfl, rfl⟩
theorem lm7_1 : Cond.methodLink RX7 1 Lib.objectInit ∈ zT := zinjR zsub1 20 rfl rfl
theorem lff7_9 : zFf RX7 9 7 4 (.array .int) := ⟨TX7, 17, tyX7, zc7, by decide, zinjR zsub2 183 rfl rfl, rfl, rfl, rfl⟩
theorem lff7_13 : zFf RX7 13 7 5 (.array .int) := ⟨TX7, 17, tyX7, zc7, by decide, zinjR zsub2 184 rfl rfl, rfl, rfl, rfl⟩
theorem ln7_16 : Cond.classLink RX7 16 RX3 ∈ zT := zinjR zsub1 23 rfl rfl
theorem lm7_18 : zLin RX7 18 yX3_init := ⟨⟨_, znest (h := "TagDraw") zsub1 25 (by decide +kernel)⟩, zinjR zsub1 26 rfl rfl, rfl⟩
theorem lff7_19 : zFf RX7 19 7 6 (.object "TagDraw$Reader") := ⟨TX7, 17, tyX7, zc7, by decide, zinjR zsub2 185 rfl rfl, rfl, rfl, rfl⟩
theorem ln7_23 : Cond.classLink RX7 23 RX4 ∈ zT := zinjR zsub1 171 rfl rfl
theorem lm7_25 : zLin RX7 25 yX4_init := ⟨⟨_, znest (h := "TagDraw") zsub1 172 (by decide +kernel)⟩, zinjR zsub1 32 rfl rfl, rfl⟩
theorem lff7_26 : zFf RX7 26 7 7 (.object "TagDraw$Register") := ⟨TX7, 17, tyX7, zc7, by decide, zinjR zsub2 186 rfl rfl, rfl, rfl, rfl⟩
theorem ln7_30 : Cond.classLink RX7 30 RX1 ∈ zT := zinjR zsub1 173 rfl rfl
theorem lm7_32 : zLi RX7 32 yX1_init := ⟨zinjR zsub1 175 rfl rfl, zinjR zsub1 176 rfl rfl, rfl⟩
theorem lff7_33 : zFf RX7 33 7 8 (.object "TagDraw$Past") := ⟨TX7, 17, tyX7, zc7, by decide, zinjR zsub2 187 rfl rfl, rfl, rfl, rfl⟩
theorem ln7_37 : Cond.classLink RX7 37 RX2 ∈ zT := zinjR zsub1 193 rfl rfl
theorem lm7_39 : zLin RX7 39 yX2_init := ⟨⟨_, znest (h := "TagDraw") zsub1 195 (by decide +kernel)⟩, zinjR zsub1 196 rfl rfl, rfl⟩
theorem lff7_40 : zFf RX7 40 7 9 (.object "TagDraw$Pool") := ⟨TX7, 17, tyX7, zc7, by decide, zinjR zsub2 188 rfl rfl, rfl, rfl, rfl⟩
theorem ln7_44 : Cond.classLink RX7 44 RX5 ∈ zT := zinjR zsub2 38 rfl rfl
theorem lm7_46 : zLin RX7 46 yX5_init := ⟨⟨_, znest (h := "TagDraw") zsub2 40 (by decide +kernel)⟩, zinjR zsub2 41 rfl rfl, rfl⟩
theorem lff7_47 : zFf RX7 47 7 10 (.object "TagDraw$Result") := ⟨TX7, 17, tyX7, zc7, by decide, zinjR zsub2 189 rfl rfl, rfl, rfl, rfl⟩
theorem ln7_51 : Cond.classLink RX7 51 RX0 ∈ zT := zinjR zsub2 76 rfl rfl
theorem lm7_53 : zLin RX7 53 yX0_init := ⟨⟨_, znest (h := "TagDraw") zsub2 78 (by decide +kernel)⟩, zinjR zsub2 79 rfl rfl, rfl⟩
theorem lff7_54 : zFf RX7 54 7 11 (.object "TagDraw$Odds") := ⟨TX7, 17, tyX7, zc7, by decide, zinjR zsub2 190 rfl rfl, rfl, rfl, rfl⟩
theorem ln7_58 : Cond.classLink RX7 58 RX6 ∈ zT := zinjR zsub2 102 rfl rfl
theorem lm7_60 : zLin RX7 60 yX6_init := ⟨⟨_, znest (h := "TagDraw") zsub2 104 (by decide +kernel)⟩, zinjR zsub2 105 rfl rfl, rfl⟩
theorem lff7_61 : zFf RX7 61 7 12 (.object "TagDraw$Years") := ⟨TX7, 17, tyX7, zc7, by decide, zinjR zsub2 191 rfl rfl, rfl, rfl, rfl⟩
theorem lff7_65 : zFf RX7 65 7 13 (.object "TagDraw$Register") := ⟨TX7, 17, tyX7, zc7, by decide, zinjR zsub2 192 rfl rfl, rfl, rfl, rfl⟩
theorem lff7_68 : zFf RX7 68 7 14 (.object "TagDraw$Pool") := ⟨TX7, 17, tyX7, zc7, by decide, zinjR zsub2 193 rfl rfl, rfl, rfl, rfl⟩
theorem lff7_71 : zFf RX7 71 7 15 (.object "TagDraw$Result") := ⟨TX7, 17, tyX7, zc7, by decide, zinjR zsub2 194 rfl rfl, rfl, rfl, rfl⟩
theorem lff7_74 : zFf RX7 74 7 16 (.object "TagDraw$Odds") := ⟨TX7, 17, tyX7, zc7, by decide, zinjR zsub2 195 rfl rfl, rfl, rfl, rfl⟩
theorem lm7_77 : zLv RX7 77 yX4_clear := ⟨zinjR zsub2 143 rfl rfl, zinjR zsub2 144 rfl rfl, zinjR zsub2 145 rfl rfl⟩
theorem lf7_84 : zFl RX7 84 7 2 (.int) false := ⟨RX7, TX7, 17, tyX7, zc7, by decide, zinjR zsub2 181 rfl rfl, rfl, rfl, rfl⟩
theorem lf7_137 : zFl RX7 137 4 2 (.int) false := ⟨RX4, TX4, 14, tyX4, zc4, by decide, zinjR zsub1 46 rfl rfl, rfl, rfl, rfl⟩
theorem lf7_131 : zFl RX7 131 4 0 (.int) false := ⟨RX4, TX4, 14, tyX4, zc4, by decide, zinjR zsub1 37 rfl rfl, rfl, rfl, rfl⟩
theorem lf7_143 : zFl RX7 143 4 3 (.int) false := ⟨RX4, TX4, 14, tyX4, zc4, by decide, zinjR zsub1 50 rfl rfl, rfl, rfl, rfl⟩
theorem lf7_256 : zFl RX7 256 5 3 (.array .int) true := ⟨RX5, TX5, 7, tyX5, zc5, by decide, zinjR zsub2 56 rfl rfl, rfl, rfl, rfl⟩
theorem lf7_259 : zFl RX7 259 5 4 (.array .int) true := ⟨RX5, TX5, 7, tyX5, zc5, by decide, zinjR zsub2 58 rfl rfl, rfl, rfl, rfl⟩
theorem lm7_262 : zLv RX7 262 yX5_holders := ⟨zinjR zsub4 118 rfl rfl, zinjR zsub4 119 rfl rfl, zinjR zsub4 120 rfl rfl⟩
theorem lm7_266 : zLv RX7 266 yX5_fewestPoints := ⟨zinjR zsub4 122 rfl rfl, zinjR zsub4 123 rfl rfl, zinjR zsub4 124 rfl rfl⟩
theorem lk7_347 : Cond.constantLong RX7 347 (-1) ∈ zT := zinjR zsub5 46 rfl rfl
theorem lm7_106 : zLv RX7 106 yX3_read := ⟨zinjR zsub3 12 rfl rfl, zinjR zsub3 13 rfl rfl, zinjR zsub3 14 rfl rfl⟩
theorem lf7_110 : zFl RX7 110 3 0 (.object "TagDraw$Register") true := ⟨RX3, TX3, 18, tyX3, zc3, by decide, zinjR zsub1 113 rfl rfl, rfl, rfl, rfl⟩
theorem lm7_116 : zLv RX7 116 yX1_forget := ⟨zinjR zsub3 207 rfl rfl, zinjR zsub3 208 rfl rfl, zinjR zsub3 209 rfl rfl⟩
theorem lm7_416 : zLs RX7 416 yX7_commonDivisor := ⟨zinjR zsub4 47 rfl rfl, zinjR zsub4 48 rfl rfl⟩
theorem lk7_291 : Cond.constant RX7 291 (999999949) ∈ zT := zinjR zsub4 175 rfl rfl
theorem lm7_292 : zLv RX7 292 yX5_hasFirst := ⟨zinjR zsub4 176 rfl rfl, zinjR zsub4 168 rfl rfl, zinjR zsub4 169 rfl rfl⟩
theorem lf7_146 : zFl RX7 146 4 4 (.int) false := ⟨RX4, TX4, 14, tyX4, zc4, by decide, zinjR zsub1 54 rfl rfl, rfl, rfl, rfl⟩
theorem lf7_155 : zFl RX7 155 1 0 (.int) false := ⟨RX1, TX1, 3, tyX1, zc1, by decide, zinjR zsub1 183 rfl rfl, rfl, rfl, rfl⟩
theorem lk7_342 : Cond.constantLong RX7 342 (1000000000) ∈ zT := zinjR zsub5 37 rfl rfl
theorem lf7_244 : zFl RX7 244 5 0 (.array .int) true := ⟨RX5, TX5, 7, tyX5, zc5, by decide, zinjR zsub2 46 rfl rfl, rfl, rfl, rfl⟩
theorem lm7_269 : zLv RX7 269 yX5_isWaiting := ⟨zinjR zsub4 134 rfl rfl, zinjR zsub4 135 rfl rfl, zinjR zsub4 136 rfl rfl⟩
theorem lm7_273 : zLv RX7 273 yX2_fits := ⟨zinjR zsub4 143 rfl rfl, zinjR zsub4 98 rfl rfl, zinjR zsub4 99 rfl rfl⟩
theorem lm7_372 : zLs RX7 372 yX7_areYears := ⟨zinjR zsub5 89 rfl rfl, zinjR zsub5 90 rfl rfl⟩
theorem lf7_61 : zFl RX7 61 7 12 (.object "TagDraw$Years") true := ⟨RX7, TX7, 17, tyX7, zc7, by decide, zinjR zsub2 191 rfl rfl, rfl, rfl, rfl⟩
theorem lm7_376 : zLv RX7 376 yX6_pass := ⟨zinjR zsub5 92 rfl rfl, zinjR zsub5 93 rfl rfl, zinjR zsub5 94 rfl rfl⟩
theorem lf7_389 : zFl RX7 389 6 2 (.array .int) true := ⟨RX6, TX6, 8, tyX6, zc6, by decide, zinjR zsub2 119 rfl rfl, rfl, rfl, rfl⟩
theorem lm7_240 : zLv RX7 240 yX5_lineUp := ⟨zinjR zsub4 62 rfl rfl, zinjR zsub4 63 rfl rfl, zinjR zsub4 64 rfl rfl⟩
theorem lf7_13 : zFl RX7 13 7 5 (.array .int) true := ⟨RX7, TX7, 17, tyX7, zc7, by decide, zinjR zsub2 184 rfl rfl, rfl, rfl, rfl⟩
theorem lm7_413 : zLv RX7 413 yX7_write := ⟨zinjR zsub5 190 rfl rfl, zinjR zsub5 192 rfl rfl, zin 44 (by decide +kernel)⟩
theorem lf7_253 : zFl RX7 253 5 2 (.array .int) true := ⟨RX5, TX5, 7, tyX5, zc5, by decide, zinjR zsub2 54 rfl rfl, rfl, rfl, rfl⟩
theorem lf7_234 : zFl RX7 234 2 2 (.int) false := ⟨RX2, TX2, 16, tyX2, zc2, by decide, zinjR zsub1 208 rfl rfl, rfl, rfl, rfl⟩
theorem lf7_392 : zFl RX7 392 6 3 (.array .int) true := ⟨RX6, TX6, 8, tyX6, zc6, by decide, zinjR zsub2 121 rfl rfl, rfl, rfl, rfl⟩
theorem lf7_71 : zFl RX7 71 7 15 (.object "TagDraw$Result") true := ⟨RX7, TX7, 17, tyX7, zc7, by decide, zinjR zsub2 194 rfl rfl, rfl, rfl, rfl⟩
theorem lm7_322 : zLv RX7 322 yX0_always := ⟨zinjR zsub4 238 rfl rfl, zinjR zsub4 239 rfl rfl, zinjR zsub5 0 rfl rfl⟩
theorem lm7_326 : zLv RX7 326 yX0_ever := ⟨zinjR zsub5 2 rfl rfl, zinjR zsub5 3 rfl rfl, zinjR zsub5 4 rfl rfl⟩
theorem lm7_358 : zLv RX7 358 yX4_join := ⟨zinjR zsub5 62 rfl rfl, zinjR zsub5 63 rfl rfl, zinjR zsub5 64 rfl rfl⟩
theorem lm7_409 : zLv RX7 409 yX1_giveBack := ⟨zinjR zsub5 182 rfl rfl, zinjR zsub5 183 rfl rfl, zinjR zsub5 184 rfl rfl⟩
theorem lf7_191 : zFl RX7 191 2 5 (.array .int) true := ⟨RX2, TX2, 16, tyX2, zc2, by decide, zinjR zsub1 215 rfl rfl, rfl, rfl, rfl⟩
theorem lf7_194 : zFl RX7 194 2 6 (.array .int) true := ⟨RX2, TX2, 16, tyX2, zc2, by decide, zinjR zsub1 218 rfl rfl, rfl, rfl, rfl⟩
theorem lm7_197 : zLv RX7 197 yX2_firstApplicants := ⟨zinjR zsub4 7 rfl rfl, zinjR zsub4 8 rfl rfl, zinjR zsub4 9 rfl rfl⟩
theorem lm7_203 : zLv RX7 203 yX2_askers := ⟨zinjR zsub4 23 rfl rfl, zinjR zsub4 24 rfl rfl, zinjR zsub4 25 rfl rfl⟩
theorem lm7_344 : zLv RX7 344 yX7_whyNotWise := ⟨zinjR zsub5 42 rfl rfl, zinjR zsub5 44 rfl rfl, zin 38 (by decide +kernel)⟩
theorem lm7_349 : zLv RX7 349 yX7_partsOfOnly := ⟨zinjR zsub5 47 rfl rfl, zinjR zsub5 49 rfl rfl, zin 39 (by decide +kernel)⟩
theorem lm7_352 : Cond.methodLink RX7 352 Lib.MathLoose.max_long.x ∈ zT := zinjR zsub5 55 rfl rfl
theorem lf7_380 : zFl RX7 380 6 0 (.int) false := ⟨RX6, TX6, 8, tyX6, zc6, by decide, zinjR zsub2 115 rfl rfl, rfl, rfl, rfl⟩
theorem lm7_383 : zLv RX7 383 yX6_unserved := ⟨zinjR zsub5 118 rfl rfl, zinjR zsub5 119 rfl rfl, zinjR zsub5 120 rfl rfl⟩
theorem lf7_386 : zFl RX7 386 6 1 (.int) false := ⟨RX6, TX6, 8, tyX6, zc6, by decide, zinjR zsub2 117 rfl rfl, rfl, rfl, rfl⟩
theorem lf8_275 : zFl RX8 275 8 33 (.int) false := ⟨RX8, TX8, 65, tyX8, zc8, by decide, zinjR zsub6 0 rfl rfl, rfl, rfl, rfl⟩
theorem lf8_73 : zFl RX8 73 8 42 (.array .int) true := ⟨RX8, TX8, 65, tyX8, zc8, by decide, zinjR zsub6 9 rfl rfl, rfl, rfl, rfl⟩
theorem lf8_88 : zFl RX8 88 8 48 (.array .long) true := ⟨RX8, TX8, 65, tyX8, zc8, by decide, zinjR zsub6 15 rfl rfl, rfl, rfl, rfl⟩
theorem lf8_91 : zFl RX8 91 8 49 (.array .long) true := ⟨RX8, TX8, 65, tyX8, zc8, by decide, zinjR zsub6 16 rfl rfl, rfl, rfl, rfl⟩
theorem lm8_387 : zLv RX8 387 yX8_hasFirst := ⟨zinjR zsub7 210 rfl rfl, zinjR zsub7 212 rfl rfl, zin 85 (by decide +kernel)⟩
theorem lf8_94 : zFl RX8 94 8 50 (.array .long) true := ⟨RX8, TX8, 65, tyX8, zc8, by decide, zinjR zsub6 17 rfl rfl, rfl, rfl, rfl⟩
theorem lf8_76 : zFl RX8 76 8 43 (.array .int) true := ⟨RX8, TX8, 65, tyX8, zc8, by decide, zinjR zsub6 10 rfl rfl, rfl, rfl, rfl⟩
theorem lf8_100 : zFl RX8 100 8 52 (.array .long) true := ⟨RX8, TX8, 65, tyX8, zc8, by decide, zinjR zsub6 19 rfl rfl, rfl, rfl, rfl⟩
theorem lf8_58 : zFl RX8 58 8 37 (.array .int) true := ⟨RX8, TX8, 65, tyX8, zc8, by decide, zinjR zsub6 4 rfl rfl, rfl, rfl, rfl⟩
theorem lf8_97 : zFl RX8 97 8 51 (.array .long) true := ⟨RX8, TX8, 65, tyX8, zc8, by decide, zinjR zsub6 18 rfl rfl, rfl, rfl, rfl⟩
theorem lf8_393 : zFl RX8 393 8 59 (.long) false := ⟨RX8, TX8, 65, tyX8, zc8, by decide, zinjR zsub6 26 rfl rfl, rfl, rfl, rfl⟩
theorem lf8_418 : zFl RX8 418 8 58 (.int) false := ⟨RX8, TX8, 65, tyX8, zc8, by decide, zinjR zsub6 25 rfl rfl, rfl, rfl, rfl⟩
theorem lf8_396 : zFl RX8 396 8 54 (.int) false := ⟨RX8, TX8, 65, tyX8, zc8, by decide, zinjR zsub6 21 rfl rfl, rfl, rfl, rfl⟩
theorem lf8_399 : zFl RX8 399 8 55 (.int) false := ⟨RX8, TX8, 65, tyX8, zc8, by decide, zinjR zsub6 22 rfl rfl, rfl, rfl, rfl⟩
theorem lf8_103 : zFl RX8 103 8 53 (.array .boolean) true := ⟨RX8, TX8, 65, tyX8, zc8, by decide, zinjR zsub6 20 rfl rfl, rfl, rfl, rfl⟩
theorem lf8_402 : zFl RX8 402 8 56 (.int) false := ⟨RX8, TX8, 65, tyX8, zc8, by decide, zinjR zsub6 23 rfl rfl, rfl, rfl, rfl⟩
theorem lm8_421 : zLv RX8 421 yX8_givenTags := ⟨zinjR zsub8 0 rfl rfl, zinjR zsub8 2 rfl rfl, zin 91 (by decide +kernel)⟩
theorem lm8_366 : Cond.methodLink RX8 366 Lib.Math.min.name ∈ zT := zinjR zsub7 163 rfl rfl
theorem lf8_405 : zFl RX8 405 8 57 (.int) false := ⟨RX8, TX8, 65, tyX8, zc8, by decide, zinjR zsub6 24 rfl rfl, rfl, rfl, rfl⟩
theorem lm8_424 : Cond.methodLink RX8 424 Lib.Math.max.name ∈ zT := zinjR zsub8 4 rfl rfl
theorem lk8_408 : Cond.constantLong RX8 408 (1000000000000) ∈ zT := zinjR zsub7 231 rfl rfl
theorem lm8_410 : zLv RX8 410 yX8_goesOn := ⟨zinjR zsub7 232 rfl rfl, zinjR zsub7 234 rfl rfl, zin 89 (by decide +kernel)⟩
theorem lm8_185 : zLv RX8 185 yJ0_length_8abf5 := ⟨zinjR zsub6 204 rfl rfl, zinjR zsub3 57 rfl rfl, zinjR zsub3 58 rfl rfl⟩
theorem lm8_191 : zLv RX8 191 yJ0_charAt_5068e := ⟨zinjR zsub6 205 rfl rfl, zinjR zsub3 67 rfl rfl, zinjR zsub3 68 rfl rfl⟩
theorem lk8_171 : Cond.constantLong RX8 171 (96) ∈ zT := zinjR zsub6 198 rfl rfl
theorem lf8_167 : zFl RX8 167 8 24 (.long) false := ⟨RX8, TX8, 65, tyX8, zc8, by decide, zinjR zsub5 231 rfl rfl, rfl, rfl, rfl⟩
theorem lm8_463 : zLv RX8 463 yX8_isParty := ⟨zinjR zsub8 76 rfl rfl, zinjR zsub8 78 rfl rfl, zin 98 (by decide +kernel)⟩
theorem lm8_263 : zLv RX8 263 yX8_refuse := ⟨zinjR zsub6 183 rfl rfl, zinjR zsub6 185 rfl rfl, zin 46 (by decide +kernel)⟩
theorem lf8_132 : zFl RX8 132 8 8 (.int) false := ⟨RX8, TX8, 65, tyX8, zc8, by decide, zinjR zsub5 215 rfl rfl, rfl, rfl, rfl⟩
theorem lf8_7 : zFl RX8 7 8 0 (.array .int) true := ⟨RX8, TX8, 65, tyX8, zc8, by decide, zinjR zsub5 207 rfl rfl, rfl, rfl, rfl⟩
theorem lm8_444 : zLv RX8 444 yX8_putsAside := ⟨zinjR zsub8 42 rfl rfl, zinjR zsub8 44 rfl rfl, zin 94 (by decide +kernel)⟩
theorem lm8_466 : zLv RX8 466 yX8_splits := ⟨zinjR zsub8 80 rfl rfl, zinjR zsub8 82 rfl rfl, zin 99 (by decide +kernel)⟩
theorem lm8_429 : zLv RX8 429 yX8_areMany := ⟨zinjR zsub7 219 rfl rfl, zinjR zsub7 221 rfl rfl, zin 86 (by decide +kernel)⟩
theorem lf8_49 : zFl RX8 49 8 34 (.array .int) true := ⟨RX8, TX8, 65, tyX8, zc8, by decide, zinjR zsub6 1 rfl rfl, rfl, rfl, rfl⟩
theorem lm8_432 : zLv RX8 432 yX8_laysAll := ⟨zinjR zsub7 223 rfl rfl, zinjR zsub7 225 rfl rfl, zin 87 (by decide +kernel)⟩
theorem lm8_449 : zLv RX8 449 yX8_takesBack := ⟨zinjR zsub8 47 rfl rfl, zinjR zsub8 49 rfl rfl, zin 95 (by decide +kernel)⟩
theorem lm8_438 : zLv RX8 438 yX8_givesLong := ⟨zinjR zsub8 9 rfl rfl, zinjR zsub8 11 rfl rfl, zin 93 (by decide +kernel)⟩
theorem lk8_313 : Cond.constantLong RX8 313 (6) ∈ zT := zinjR zsub7 86 rfl rfl
theorem lm8_128 : zLs RX8 128 yX8_isFrom := ⟨zinjR zsub6 180 rfl rfl, zinjR zsub6 181 rfl rfl⟩
theorem lm8_315 : zLv RX8 315 yX8_isApplicant := ⟨zinjR zsub7 87 rfl rfl, zinjR zsub7 89 rfl rfl, zin 72 (by decide +kernel)⟩
theorem lm8_272 : zLv RX8 272 yX8_gives := ⟨zinjR zsub7 20 rfl rfl, zinjR zsub7 22 rfl rfl, zin 61 (by decide +kernel)⟩
theorem lf8_61 : zFl RX8 61 8 38 (.array .int) true := ⟨RX8, TX8, 65, tyX8, zc8, by decide, zinjR zsub6 5 rfl rfl, rfl, rfl, rfl⟩
theorem lf8_64 : zFl RX8 64 8 39 (.array .int) true := ⟨RX8, TX8, 65, tyX8, zc8, by decide, zinjR zsub6 6 rfl rfl, rfl, rfl, rfl⟩
theorem lf8_67 : zFl RX8 67 8 40 (.array .int) true := ⟨RX8, TX8, 65, tyX8, zc8, by decide, zinjR zsub6 7 rfl rfl, rfl, rfl, rfl⟩
theorem lm8_288 : zLv RX8 288 yX8_choiceMany := ⟨zinjR zsub7 74 rfl rfl, zinjR zsub7 76 rfl rfl, zin 70 (by decide +kernel)⟩
theorem lf8_52 : zFl RX8 52 8 35 (.array .int) true := ⟨RX8, TX8, 65, tyX8, zc8, by decide, zinjR zsub6 2 rfl rfl, rfl, rfl, rfl⟩
theorem lm8_281 : zLv RX8 281 yX8_laysApplicants := ⟨zinjR zsub7 32 rfl rfl, zinjR zsub7 34 rfl rfl, zin 62 (by decide +kernel)⟩
theorem lm8_240 : zLs RX8 240 yX8_has := ⟨zinjR zsub7 8 rfl rfl, zinjR zsub7 9 rfl rfl⟩
theorem lm8_358 : zLs RX8 358 yX8_isSeed := ⟨zinjR zsub7 114 rfl rfl, zinjR zsub7 115 rfl rfl⟩
theorem lk8_469 : Cond.constantLong RX8 469 (30) ∈ zT := zinjR zsub8 95 rfl rfl
theorem lk8_135 : Cond.constantLong RX8 135 (999999999) ∈ zT := zinjR zsub7 117 rfl rfl
theorem lm8_301 : zLv RX8 301 yX8_isUnit := ⟨zinjR zsub7 58 rfl rfl, zinjR zsub7 60 rfl rfl, zin 66 (by decide +kernel)⟩
theorem lf8_160 : zFl RX8 160 8 18 (.int) false := ⟨RX8, TX8, 65, tyX8, zc8, by decide, zinjR zsub5 225 rfl rfl, rfl, rfl, rfl⟩
theorem lf8_195 : zFl RX8 195 8 21 (.int) false := ⟨RX8, TX8, 65, tyX8, zc8, by decide, zinjR zsub5 228 rfl rfl, rfl, rfl, rfl⟩
theorem lf8_154 : zFl RX8 154 8 16 (.int) false := ⟨RX8, TX8, 65, tyX8, zc8, by decide, zinjR zsub5 223 rfl rfl, rfl, rfl, rfl⟩
theorem lf8_198 : zFl RX8 198 8 22 (.int) false := ⟨RX8, TX8, 65, tyX8, zc8, by decide, zinjR zsub5 229 rfl rfl, rfl, rfl, rfl⟩
theorem lm8_480 : zLv RX8 480 yX8_keeps := ⟨zinjR zsub8 120 rfl rfl, zinjR zsub8 122 rfl rfl, zin 102 (by decide +kernel)⟩
theorem lm8_293 : zLv RX8 293 yX8_isHunter := ⟨zinjR zsub7 45 rfl rfl, zinjR zsub7 47 rfl rfl, zin 64 (by decide +kernel)⟩
theorem lm8_361 : zLv RX8 361 yX8_laysResult := ⟨zinjR zsub7 134 rfl rfl, zinjR zsub7 136 rfl rfl, zin 76 (by decide +kernel)⟩
theorem lm8_382 : zLv RX8 382 yX8_behindNow := ⟨zinjR zsub7 201 rfl rfl, zinjR zsub7 203 rfl rfl, zin 84 (by decide +kernel)⟩
theorem lm8_284 : zLv RX8 284 yX8_choiceOf := ⟨zinjR zsub7 78 rfl rfl, zinjR zsub7 80 rfl rfl, zin 71 (by decide +kernel)⟩
theorem lf8_144 : zFl RX8 144 8 15 (.int) false := ⟨RX8, TX8, 65, tyX8, zc8, by decide, zinjR zsub5 222 rfl rfl, rfl, rfl, rfl⟩
theorem lf8_29 : zFl RX8 29 8 10 (.array .int) true := ⟨RX8, TX8, 65, tyX8, zc8, by decide, zinjR zsub5 217 rfl rfl, rfl, rfl, rfl⟩
theorem lk8_427 : Cond.constantLong RX8 427 (2) ∈ zT := zinjR zsub7 218 rfl rfl
theorem lm8_435 : zLv RX8 435 yX8_chanceOf := ⟨zinjR zsub8 5 rfl rfl, zinjR zsub8 7 rfl rfl, zin 92 (by decide +kernel)⟩
theorem lf8_125 : zFl RX8 125 8 7 (.int) false := ⟨RX8, TX8, 65, tyX8, zc8, by decide, zinjR zsub5 214 rfl rfl, rfl, rfl, rfl⟩
theorem lf8_55 : zFl RX8 55 8 36 (.array .int) true := ⟨RX8, TX8, 65, tyX8, zc8, by decide, zinjR zsub6 3 rfl rfl, rfl, rfl, rfl⟩
theorem lf8_137 : zFl RX8 137 8 11 (.int) false := ⟨RX8, TX8, 65, tyX8, zc8, by decide, zinjR zsub5 218 rfl rfl, rfl, rfl, rfl⟩
theorem lm8_321 : zLv RX8 321 yX8_term := ⟨zinjR zsub7 99 rfl rfl, zinjR zsub7 101 rfl rfl, zin 73 (by decide +kernel)⟩
theorem lm8_474 : zLv RX8 474 yX8_goesYear := ⟨zinjR zsub8 96 rfl rfl, zinjR zsub8 98 rfl rfl, zin 100 (by decide +kernel)⟩
theorem lm8_477 : zLv RX8 477 yX8_unitNow := ⟨zinjR zsub8 100 rfl rfl, zinjR zsub8 102 rfl rfl, zin 101 (by decide +kernel)⟩
theorem lk8_337 : Cond.constantLong RX8 337 (1103515245) ∈ zT := zinjR zsub7 126 rfl rfl
theorem lf8_339 : zFl RX8 339 8 46 (.long) false := ⟨RX8, TX8, 65, tyX8, zc8, by decide, zinjR zsub6 13 rfl rfl, rfl, rfl, rfl⟩
theorem lk8_342 : Cond.constantLong RX8 342 (12345) ∈ zT := zinjR zsub7 127 rfl rfl
theorem lk8_344 : Cond.constantLong RX8 344 (2147483648) ∈ zT := zinjR zsub7 128 rfl rfl
theorem lk8_346 : Cond.constantLong RX8 346 (65536) ∈ zT := zinjR zsub7 129 rfl rfl
theorem lm8_310 : zLv RX8 310 yX8_placeOf := ⟨zinjR zsub7 70 rfl rfl, zinjR zsub7 72 rfl rfl, zin 69 (by decide +kernel)⟩
theorem lm8_379 : zLv RX8 379 yX8_placeNow := ⟨zinjR zsub7 189 rfl rfl, zinjR zsub7 191 rfl rfl, zin 83 (by decide +kernel)⟩
theorem lf8_119 : zFl RX8 119 8 6 (.int) false := ⟨RX8, TX8, 65, tyX8, zc8, by decide, zinjR zsub5 213 rfl rfl, rfl, rfl, rfl⟩
theorem lf8_32 : zFl RX8 32 8 13 (.int) false := ⟨RX8, TX8, 65, tyX8, zc8, by decide, zinjR zsub5 220 rfl rfl, rfl, rfl, rfl⟩
theorem lf8_36 : zFl RX8 36 8 14 (.int) false := ⟨RX8, TX8, 65, tyX8, zc8, by decide, zinjR zsub5 221 rfl rfl, rfl, rfl, rfl⟩
theorem lm8_140 : zLv RX8 140 yX8_come := ⟨zinjR zsub6 172 rfl rfl, zinjR zsub6 174 rfl rfl, zin 45 (by decide +kernel)⟩
theorem lf8_70 : zFl RX8 70 8 41 (.array .int) true := ⟨RX8, TX8, 65, tyX8, zc8, by decide, zinjR zsub6 8 rfl rfl, rfl, rfl, rfl⟩
theorem lf8_79 : zFl RX8 79 8 44 (.array .int) true := ⟨RX8, TX8, 65, tyX8, zc8, by decide, zinjR zsub6 11 rfl rfl, rfl, rfl, rfl⟩
theorem lm8_304 : zLv RX8 304 yX8_preferred := ⟨zinjR zsub7 62 rfl rfl, zinjR zsub7 64 rfl rfl, zin 67 (by decide +kernel)⟩
theorem lm8_329 : zLv RX8 329 yX8_fits := ⟨zinjR zsub7 146 rfl rfl, zinjR zsub7 148 rfl rfl, zin 79 (by decide +kernel)⟩
theorem lm8_333 : zLv RX8 333 yX8_gets := ⟨zinjR zsub7 150 rfl rfl, zinjR zsub7 152 rfl rfl, zin 80 (by decide +kernel)⟩
theorem lf8_82 : zFl RX8 82 8 45 (.array .int) true := ⟨RX8, TX8, 65, tyX8, zc8, by decide, zinjR zsub6 12 rfl rfl, rfl, rfl, rfl⟩
theorem lf8_122 : zFl RX8 122 8 12 (.int) false := ⟨RX8, TX8, 65, tyX8, zc8, by decide, zinjR zsub5 219 rfl rfl, rfl, rfl, rfl⟩
theorem lm8_355 : zLv RX8 355 yX8_results := ⟨zinjR zsub7 138 rfl rfl, zinjR zsub7 140 rfl rfl, zin 77 (by decide +kernel)⟩
theorem lm8_414 : zLv RX8 414 yX8_adds := ⟨zinjR zsub7 236 rfl rfl, zinjR zsub7 238 rfl rfl, zin 90 (by decide +kernel)⟩
theorem lf8_106 : zFl RX8 106 8 61 (.array .int) true := ⟨RX8, TX8, 65, tyX8, zc8, by decide, zinjR zsub6 28 rfl rfl, rfl, rfl, rfl⟩
theorem lk8_486 : Cond.constantLong RX8 486 (100) ∈ zT := zinjR zsub8 148 rfl rfl
theorem lm8_483 : zLv RX8 483 yX8_becomes := ⟨zinjR zsub8 128 rfl rfl, zinjR zsub8 130 rfl rfl, zin 103 (by decide +kernel)⟩
theorem lk8_291 : Cond.constantLong RX8 291 (4) ∈ zT := zinjR zsub7 44 rfl rfl
theorem lf8_22 : zFl RX8 22 8 4 (.array .boolean) true := ⟨RX8, TX8, 65, tyX8, zc8, by decide, zinjR zsub5 211 rfl rfl, rfl, rfl, rfl⟩
theorem lm8_296 : zLv RX8 296 yX8_applicantOf := ⟨zinjR zsub7 49 rfl rfl, zinjR zsub7 51 rfl rfl, zin 65 (by decide +kernel)⟩
theorem lm8_1 : Cond.methodLink RX8 1 Lib.objectInit ∈ zT := zinjR zsub5 203 rfl rfl
theorem lff8_7 : zFf RX8 7 8 0 (.array .int) := ⟨TX8, 65, tyX8, zc8, by decide, zinjR zsub5 207 rfl rfl, rfl, rfl, rfl⟩
theorem lff8_13 : zFf RX8 13 8 1 (.array .int) := ⟨TX8, 65, tyX8, zc8, by decide, zinjR zsub5 208 rfl rfl, rfl, rfl, rfl⟩
theorem lff8_16 : zFf RX8 16 8 2 (.array .int) := ⟨TX8, 65, tyX8, zc8, by decide, zinjR zsub5 209 rfl rfl, rfl, rfl, rfl⟩
theorem lff8_19 : zFf RX8 19 8 3 (.array .int) := ⟨TX8, 65, tyX8, zc8, by decide, zinjR zsub5 210 rfl rfl, rfl, rfl, rfl⟩
theorem lff8_22 : zFf RX8 22 8 4 (.array .boolean) := ⟨TX8, 65, tyX8, zc8, by decide, zinjR zsub5 211 rfl rfl, rfl, rfl, rfl⟩
theorem lff8_26 : zFf RX8 26 8 5 (.array .boolean) := ⟨TX8, 65, tyX8, zc8, by decide, zinjR zsub5 212 rfl rfl, rfl, rfl, rfl⟩
theorem lff8_29 : zFf RX8 29 8 10 (.array .int) := ⟨TX8, 65, tyX8, zc8, by decide, zinjR zsub5 217 rfl rfl, rfl, rfl, rfl⟩
theorem lff8_39 : zFf RX8 39 8 25 (.array .long) := ⟨TX8, 65, tyX8, zc8, by decide, zinjR zsub5 232 rfl rfl, rfl, rfl, rfl⟩
theorem lff8_43 : zFf RX8 43 8 26 (.array .long) := ⟨TX8, 65, tyX8, zc8, by decide, zinjR zsub5 233 rfl rfl, rfl, rfl, rfl⟩
theorem lff8_46 : zFf RX8 46 8 27 (.array .long) := ⟨TX8, 65, tyX8, zc8, by decide, zinjR zsub5 234 rfl rfl, rfl, rfl, rfl⟩
theorem lff8_49 : zFf RX8 49 8 34 (.array .int) := ⟨TX8, 65, tyX8, zc8, by decide, zinjR zsub6 1 rfl rfl, rfl, rfl, rfl⟩
theorem lff8_52 : zFf RX8 52 8 35 (.array .int) := ⟨TX8, 65, tyX8, zc8, by decide, zinjR zsub6 2 rfl rfl, rfl, rfl, rfl⟩
theorem lff8_55 : zFf RX8 55 8 36 (.array .int) := ⟨TX8, 65, tyX8, zc8, by decide, zinjR zsub6 3 rfl rfl, rfl, rfl, rfl⟩
theorem lff8_58 : zFf RX8 58 8 37 (.array .int) := ⟨TX8, 65, tyX8, zc8, by decide, zinjR zsub6 4 rfl rfl, rfl, rfl, rfl⟩
theorem lff8_61 : zFf RX8 61 8 38 (.array .int) := ⟨TX8, 65, tyX8, zc8, by decide, zinjR zsub6 5 rfl rfl, rfl, rfl, rfl⟩
theorem lff8_64 : zFf RX8 64 8 39 (.array .int) := ⟨TX8, 65, tyX8, zc8, by decide, zinjR zsub6 6 rfl rfl, rfl, rfl, rfl⟩
theorem lff8_67 : zFf RX8 67 8 40 (.array .int) := ⟨TX8, 65, tyX8, zc8, by decide, zinjR zsub6 7 rfl rfl, rfl, rfl, rfl⟩
theorem lff8_70 : zFf RX8 70 8 41 (.array .int) := ⟨TX8, 65, tyX8, zc8, by decide, zinjR zsub6 8 rfl rfl, rfl, rfl, rfl⟩
theorem lff8_73 : zFf RX8 73 8 42 (.array .int) := ⟨TX8, 65, tyX8, zc8, by decide, zinjR zsub6 9 rfl rfl, rfl, rfl, rfl⟩
theorem lff8_76 : zFf RX8 76 8 43 (.array .int) := ⟨TX8, 65, tyX8, zc8, by decide, zinjR zsub6 10 rfl rfl, rfl, rfl, rfl⟩
theorem lff8_79 : zFf RX8 79 8 44 (.array .int) := ⟨TX8, 65, tyX8, zc8, by decide, zinjR zsub6 11 rfl rfl, rfl, rfl, rfl⟩
theorem lff8_82 : zFf RX8 82 8 45 (.array .int) := ⟨TX8, 65, tyX8, zc8, by decide, zinjR zsub6 12 rfl rfl, rfl, rfl, rfl⟩
theorem lff8_85 : zFf RX8 85 8 47 (.array .int) := ⟨TX8, 65, tyX8, zc8, by decide, zinjR zsub6 14 rfl rfl, rfl, rfl, rfl⟩
theorem lff8_88 : zFf RX8 88 8 48 (.array .long) := ⟨TX8, 65, tyX8, zc8, by decide, zinjR zsub6 15 rfl rfl, rfl, rfl, rfl⟩
theorem lff8_91 : zFf RX8 91 8 49 (.array .long) := ⟨TX8, 65, tyX8, zc8, by decide, zinjR zsub6 16 rfl rfl, rfl, rfl, rfl⟩
theorem lff8_94 : zFf RX8 94 8 50 (.array .long) := ⟨TX8, 65, tyX8, zc8, by decide, zinjR zsub6 17 rfl rfl, rfl, rfl, rfl⟩
theorem lff8_97 : zFf RX8 97 8 51 (.array .long) := ⟨TX8, 65, tyX8, zc8, by decide, zinjR zsub6 18 rfl rfl, rfl, rfl, rfl⟩
theorem lff8_100 : zFf RX8 100 8 52 (.array .long) := ⟨TX8, 65, tyX8, zc8, by decide, zinjR zsub6 19 rfl rfl, rfl, rfl, rfl⟩
theorem lff8_103 : zFf RX8 103 8 53 (.array .boolean) := ⟨TX8, 65, tyX8, zc8, by decide, zinjR zsub6 20 rfl rfl, rfl, rfl, rfl⟩
theorem lff8_106 : zFf RX8 106 8 61 (.array .int) := ⟨TX8, 65, tyX8, zc8, by decide, zinjR zsub6 28 rfl rfl, rfl, rfl, rfl⟩
theorem lff8_109 : zFf RX8 109 8 62 (.array .int) := ⟨TX8, 65, tyX8, zc8, by decide, zinjR zsub6 29 rfl rfl, rfl, rfl, rfl⟩
theorem lff8_112 : zFf RX8 112 8 63 (.array .int) := ⟨TX8, 65, tyX8, zc8, by decide, zinjR zsub6 30 rfl rfl, rfl, rfl, rfl⟩
theorem lm8_115 : zLs RX8 115 yX8_begins := ⟨zinjR zsub5 204 rfl rfl, zinjR zsub5 205 rfl rfl⟩
theorem lf8_157 : zFl RX8 157 8 19 (.int) false := ⟨RX8, TX8, 65, tyX8, zc8, by decide, zinjR zsub5 226 rfl rfl, rfl, rfl, rfl⟩
theorem lf8_39 : zFl RX8 39 8 25 (.array .long) true := ⟨RX8, TX8, 65, tyX8, zc8, by decide, zinjR zsub5 232 rfl rfl, rfl, rfl, rfl⟩
theorem lf8_201 : zFl RX8 201 8 28 (.int) false := ⟨RX8, TX8, 65, tyX8, zc8, by decide, zinjR zsub5 235 rfl rfl, rfl, rfl, rfl⟩
theorem lm8_204 : zLs RX8 204 yX8_found := ⟨zinjR zsub6 233 rfl rfl, zinjR zsub6 234 rfl rfl⟩
theorem lf8_43 : zFl RX8 43 8 26 (.array .long) true := ⟨RX8, TX8, 65, tyX8, zc8, by decide, zinjR zsub5 233 rfl rfl, rfl, rfl, rfl⟩
theorem lf8_208 : zFl RX8 208 8 29 (.int) false := ⟨RX8, TX8, 65, tyX8, zc8, by decide, zinjR zsub5 236 rfl rfl, rfl, rfl, rfl⟩
theorem lf8_46 : zFl RX8 46 8 27 (.array .long) true := ⟨RX8, TX8, 65, tyX8, zc8, by decide, zinjR zsub5 234 rfl rfl, rfl, rfl, rfl⟩
theorem lf8_211 : zFl RX8 211 8 30 (.int) false := ⟨RX8, TX8, 65, tyX8, zc8, by decide, zinjR zsub5 237 rfl rfl, rfl, rfl, rfl⟩
theorem lf8_269 : zFl RX8 269 8 9 (.int) false := ⟨RX8, TX8, 65, tyX8, zc8, by decide, zinjR zsub5 216 rfl rfl, rfl, rfl, rfl⟩
theorem lf8_19 : zFl RX8 19 8 3 (.array .int) true := ⟨RX8, TX8, 65, tyX8, zc8, by decide, zinjR zsub5 210 rfl rfl, rfl, rfl, rfl⟩
theorem lm8_390 : zLv RX8 390 yX8_allOrders := ⟨zinjR zsub7 227 rfl rfl, zinjR zsub7 229 rfl rfl, zin 88 (by decide +kernel)⟩
theorem lm8_278 : zLv RX8 278 yX8_laysOne := ⟨zinjR zsub7 36 rfl rfl, zinjR zsub7 38 rfl rfl, zin 63 (by decide +kernel)⟩
theorem lm8_348 : zLv RX8 348 yX8_draws := ⟨zinjR zsub7 122 rfl rfl, zinjR zsub7 124 rfl rfl, zin 75 (by decide +kernel)⟩
theorem lm8_352 : zLv RX8 352 yX8_laysOrder := ⟨zinjR zsub7 118 rfl rfl, zinjR zsub7 120 rfl rfl, zin 74 (by decide +kernel)⟩
theorem lk8_364 : Cond.constantLong RX8 364 (3) ∈ zT := zinjR zsub7 162 rfl rfl
theorem lk8_452 : Cond.constantLong RX8 452 (-1) ∈ zT := zinjR zsub8 59 rfl rfl
theorem lf8_147 : zFl RX8 147 8 17 (.int) false := ⟨RX8, TX8, 65, tyX8, zc8, by decide, zinjR zsub5 224 rfl rfl, rfl, rfl, rfl⟩
theorem lf8_243 : zFl RX8 243 8 23 (.int) false := ⟨RX8, TX8, 65, tyX8, zc8, by decide, zinjR zsub5 230 rfl rfl, rfl, rfl, rfl⟩
theorem lf8_13 : zFl RX8 13 8 1 (.array .int) true := ⟨RX8, TX8, 65, tyX8, zc8, by decide, zinjR zsub5 208 rfl rfl, rfl, rfl, rfl⟩
theorem lm8_220 : zLv RX8 220 yX8_next := ⟨zinjR zsub6 187 rfl rfl, zinjR zsub6 189 rfl rfl, zin 47 (by decide +kernel)⟩
theorem lm8_266 : zLv RX8 266 yX8_readLine := ⟨zinjR zsub6 209 rfl rfl, zinjR zsub6 211 rfl rfl, zin 50 (by decide +kernel)⟩
theorem lf8_26 : zFl RX8 26 8 5 (.array .boolean) true := ⟨RX8, TX8, 65, tyX8, zc8, by decide, zinjR zsub5 212 rfl rfl, rfl, rfl, rfl⟩
theorem lk8_385 : Cond.constantLong RX8 385 (999999949) ∈ zT := zinjR zsub7 209 rfl rfl
theorem lk8_442 : Cond.constantLong RX8 442 (1000) ∈ zT := zinjR zsub8 41 rfl rfl
theorem lk8_447 : Cond.constantLong RX8 447 (1000000000) ∈ zT := zinjR zsub8 46 rfl rfl
theorem lm8_224 : zLv RX8 224 yX8_isName := ⟨zinjR zsub6 225 rfl rfl, zinjR zsub6 227 rfl rfl, zin 54 (by decide +kernel)⟩
theorem lm8_214 : zLv RX8 214 yX8_bad := ⟨zinjR zsub6 217 rfl rfl, zinjR zsub6 219 rfl rfl, zin 52 (by decide +kernel)⟩
theorem lm8_227 : zLv RX8 227 yX8_isTaken := ⟨zinjR zsub6 229 rfl rfl, zinjR zsub6 231 rfl rfl, zin 55 (by decide +kernel)⟩
theorem lf8_230 : zFl RX8 230 8 32 (.long) false := ⟨RX8, TX8, 65, tyX8, zc8, by decide, zinjR zsub5 239 rfl rfl, rfl, rfl, rfl⟩
theorem lm8_150 : zLv RX8 150 yX8_byteAt := ⟨zinjR zsub6 191 rfl rfl, zinjR zsub6 193 rfl rfl, zin 48 (by decide +kernel)⟩
theorem lm8_163 : zLs RX8 163 yX8_isLetter := ⟨zinjR zsub6 195 rfl rfl, zinjR zsub6 196 rfl rfl⟩
theorem lm8_175 : zLv RX8 175 yX8_among := ⟨zinjR zsub6 200 rfl rfl, zinjR zsub6 202 rfl rfl, zin 49 (by decide +kernel)⟩
theorem lm8_179 : zLs RX8 179 yX8_isDigit := ⟨zinjR zsub6 206 rfl rfl, zinjR zsub6 207 rfl rfl⟩
theorem lf8_182 : zFl RX8 182 8 20 (.int) false := ⟨RX8, TX8, 65, tyX8, zc8, by decide, zinjR zsub5 227 rfl rfl, rfl, rfl, rfl⟩
theorem lk8_377 : Cond.constantLong RX8 377 (20) ∈ zT := zinjR zsub7 184 rfl rfl
theorem lm8_374 : zLv RX8 374 yX8_isWaiting := ⟨zinjR zsub7 176 rfl rfl, zinjR zsub7 178 rfl rfl, zin 82 (by decide +kernel)⟩
theorem lf8_217 : zFl RX8 217 8 31 (.int) false := ⟨RX8, TX8, 65, tyX8, zc8, by decide, zinjR zsub5 238 rfl rfl, rfl, rfl, rfl⟩
theorem lm8_471 : zLs RX8 471 yX8_areYears := ⟨zinjR zsub8 92 rfl rfl, zinjR zsub8 93 rfl rfl⟩
theorem lf8_488 : zFl RX8 488 8 64 (.int) false := ⟨RX8, TX8, 65, tyX8, zc8, by decide, zinjR zsub6 31 rfl rfl, rfl, rfl, rfl⟩
theorem lf8_112 : zFl RX8 112 8 63 (.array .int) true := ⟨RX8, TX8, 65, tyX8, zc8, by decide, zinjR zsub6 30 rfl rfl, rfl, rfl, rfl⟩
theorem lm8_491 : zLv RX8 491 yX8_prints := ⟨zinjR zsub8 161 rfl rfl, zinjR zsub8 163 rfl rfl, zin 104 (by decide +kernel)⟩
theorem lf8_16 : zFl RX8 16 8 2 (.array .int) true := ⟨RX8, TX8, 65, tyX8, zc8, by decide, zinjR zsub5 209 rfl rfl, rfl, rfl, rfl⟩
theorem lm8_233 : zLv RX8 233 yX8_newName := ⟨zinjR zsub6 221 rfl rfl, zinjR zsub6 223 rfl rfl, zin 53 (by decide +kernel)⟩
theorem lm8_236 : zLv RX8 236 yX8_number := ⟨zinjR zsub6 236 rfl rfl, zinjR zsub6 238 rfl rfl, zin 56 (by decide +kernel)⟩
theorem lm8_248 : zLv RX8 248 yX8_readUnit := ⟨zinjR zsub6 213 rfl rfl, zinjR zsub6 215 rfl rfl, zin 51 (by decide +kernel)⟩
theorem lm8_251 : zLv RX8 251 yX8_readHunter := ⟨zinjR zsub7 0 rfl rfl, zinjR zsub7 2 rfl rfl, zin 57 (by decide +kernel)⟩
theorem lm8_254 : zLv RX8 254 yX8_readParty := ⟨zinjR zsub7 4 rfl rfl, zinjR zsub7 6 rfl rfl, zin 58 (by decide +kernel)⟩
theorem lm8_257 : zLv RX8 257 yX8_readAsks := ⟨zinjR zsub7 11 rfl rfl, zinjR zsub7 13 rfl rfl, zin 59 (by decide +kernel)⟩
theorem lm8_260 : zLv RX8 260 yX8_readOnce := ⟨zinjR zsub7 15 rfl rfl, zinjR zsub7 17 rfl rfl, zin 60 (by decide +kernel)⟩
theorem lm8_307 : zLv RX8 307 yX8_forGuests := ⟨zinjR zsub7 66 rfl rfl, zinjR zsub7 68 rfl rfl, zin 68 (by decide +kernel)⟩
theorem lm8_325 : zLv RX8 325 yX8_firstRound := ⟨zinjR zsub7 142 rfl rfl, zinjR zsub7 144 rfl rfl, zin 78 (by decide +kernel)⟩
theorem lf8_85 : zFl RX8 85 8 47 (.array .int) true := ⟨RX8, TX8, 65, tyX8, zc8, by decide, zinjR zsub6 14 rfl rfl, rfl, rfl, rfl⟩
theorem lm8_318 : zLs RX8 318 yX8_common := ⟨zinjR zsub7 103 rfl rfl, zinjR zsub7 104 rfl rfl⟩
theorem lm8_460 : zLv RX8 460 yX8_laysJoined := ⟨zinjR zsub8 68 rfl rfl, zinjR zsub8 70 rfl rfl, zin 97 (by decide +kernel)⟩
theorem lk8_299 : Cond.constantLong RX8 299 (5) ∈ zT := zinjR zsub7 57 rfl rfl
theorem lm8_371 : zLv RX8 371 yX8_winnersNow := ⟨zinjR zsub7 168 rfl rfl, zinjR zsub7 170 rfl rfl, zin 81 (by decide +kernel)⟩
theorem lm8_457 : zLv RX8 457 yX8_wisest := ⟨zinjR zsub8 55 rfl rfl, zinjR zsub8 57 rfl rfl, zin 96 (by decide +kernel)⟩
theorem lf8_454 : zFl RX8 454 8 60 (.long) false := ⟨RX8, TX8, 65, tyX8, zc8, by decide, zinjR zsub6 27 rfl rfl, rfl, rfl, rfl⟩
theorem lf8_109 : zFl RX8 109 8 62 (.array .int) true := ⟨RX8, TX8, 65, tyX8, zc8, by decide, zinjR zsub6 29 rfl rfl, rfl, rfl, rfl⟩
theorem lmJ0_335 : zLv RJ0 335 yJ0_coder_7d493 := ⟨zinjR zsub3 60 rfl rfl, zinjR zsub3 61 rfl rfl, zinjR zsub3 62 rfl rfl⟩
theorem lmJ0_492 : zLv RJ0 492 yJ0_isLatin1_aae02 := ⟨zinjR zsub3 70 rfl rfl, zinjR zsub3 71 rfl rfl, zinjR zsub3 72 rfl rfl⟩
theorem lmJ0_495 : zLs RJ0 495 yJ1_charAt_3b067 := ⟨zinjR zsub3 74 rfl rfl, zinjR zsub3 75 rfl rfl⟩
theorem lmJ1_9 : zLs RJ1 9 yJ0_checkIndex_df160 := ⟨zinjR zsub3 77 rfl rfl, zinjR zsub3 78 rfl rfl⟩
theorem lmJ0_1059 : zLs RJ0 1059 yJ3_checkIndex_8e157 := ⟨zinjR zsub3 82 rfl rfl, zinjR zsub3 83 rfl rfl⟩
theorem lfJ0_9 : Cond.fieldLink RJ0 9 "java/lang/String" "value" "[B" ∈ zT := zinjR zsub8 169 rfl rfl
theorem lfJ0_15 : Cond.fieldLink RJ0 15 "java/lang/String" "coder" "B" ∈ zT := zinjR zsub8 170 rfl rfl
theorem lfJ0_38 : Cond.fieldLink RJ0 38 "java/lang/String" "COMPACT_STRINGS" "Z" ∈ zT := zinjR zsub3 64 rfl rfl
theorem lfJ0_1053 : Cond.fieldLink RJ0 1053 "jdk/internal/util/Preconditions" "SIOOBE_FORMATTER" "Ljava/util/function/BiFunction;" ∈ zT := zinjR zsub3 80 rfl rfl
theorem lnL_7 : Cond.classLink R_law 7 RX7 ∈ zT := zinjR zsub1 15 rfl rfl
theorem lmL_9 : zLi R_law 9 yX7_init := ⟨zinjR zsub1 17 rfl rfl, zinjR zsub1 18 rfl rfl, rfl⟩
theorem lnL_10 : Cond.classLink R_law 10 RX8 ∈ zT := zinjR zsub5 198 rfl rfl
theorem lmL_12 : zLi R_law 12 yX8_init := ⟨zinjR zsub5 200 rfl rfl, zinjR zsub5 201 rfl rfl, rfl⟩
theorem lmL_13 : zLv R_law 13 yX7_status := ⟨zinjR zsub2 231 rfl rfl, zinjR zsub2 232 rfl rfl, zinjR zsub2 233 rfl rfl⟩
theorem lmL_17 : zLv R_law 17 yX8_status := ⟨zinjR zsub6 164 rfl rfl, zinjR zsub6 165 rfl rfl, zinjR zsub6 166 rfl rfl⟩
theorem lmL_18 : zLv R_law 18 yX7_feed := ⟨zinjR zsub2 235 rfl rfl, zinjR zsub2 236 rfl rfl, zinjR zsub2 237 rfl rfl⟩
theorem lmL_22 : zLv R_law 22 yX8_feed := ⟨zinjR zsub6 168 rfl rfl, zinjR zsub6 169 rfl rfl, zinjR zsub6 170 rfl rfl⟩
theorem lmL_23 : zLv R_law 23 yX7_load := ⟨zinjR zsub3 4 rfl rfl, zinjR zsub3 5 rfl rfl, zinjR zsub3 6 rfl rfl⟩
theorem lmL_27 : zLv R_law 27 yX8_load := ⟨zinjR zsub6 176 rfl rfl, zinjR zsub6 177 rfl rfl, zinjR zsub6 178 rfl rfl⟩
theorem lmL_28 : zLv R_law 28 yX7_fault := ⟨zinjR zsub3 220 rfl rfl, zinjR zsub3 221 rfl rfl, zinjR zsub3 222 rfl rfl⟩
theorem lmL_31 : zLv R_law 31 yX8_fault := ⟨zinjR zsub7 24 rfl rfl, zinjR zsub7 25 rfl rfl, zinjR zsub7 26 rfl rfl⟩
theorem lmL_32 : zLv R_law 32 yX7_many := ⟨zinjR zsub3 224 rfl rfl, zinjR zsub3 225 rfl rfl, zinjR zsub3 226 rfl rfl⟩
theorem lmL_35 : zLv R_law 35 yX8_many := ⟨zinjR zsub7 28 rfl rfl, zinjR zsub7 29 rfl rfl, zinjR zsub7 30 rfl rfl⟩
theorem lmL_36 : zLv R_law 36 yX7_hunter := ⟨zinjR zsub3 231 rfl rfl, zinjR zsub3 232 rfl rfl, zinjR zsub3 233 rfl rfl⟩
theorem lmL_40 : zLv R_law 40 yX8_hunter := ⟨zinjR zsub7 40 rfl rfl, zinjR zsub7 41 rfl rfl, zinjR zsub7 42 rfl rfl⟩
theorem lmL_41 : zLv R_law 41 yX7_unit := ⟨zinjR zsub3 239 rfl rfl, zinjR zsub4 0 rfl rfl, zinjR zsub4 1 rfl rfl⟩
theorem lmL_44 : zLv R_law 44 yX8_unit := ⟨zinjR zsub7 53 rfl rfl, zinjR zsub7 54 rfl rfl, zinjR zsub7 55 rfl rfl⟩
theorem lmL_45 : zLv R_law 45 yX7_applicant := ⟨zinjR zsub4 27 rfl rfl, zinjR zsub4 28 rfl rfl, zinjR zsub4 29 rfl rfl⟩
theorem lmL_48 : zLv R_law 48 yX8_applicant := ⟨zinjR zsub7 82 rfl rfl, zinjR zsub7 83 rfl rfl, zinjR zsub7 84 rfl rfl⟩
theorem lmL_49 : zLv R_law 49 yX7_choice := ⟨zinjR zsub4 35 rfl rfl, zinjR zsub4 36 rfl rfl, zinjR zsub4 37 rfl rfl⟩
theorem lmL_52 : zLv R_law 52 yX8_choice := ⟨zinjR zsub7 91 rfl rfl, zinjR zsub7 92 rfl rfl, zinjR zsub7 93 rfl rfl⟩
theorem lmL_53 : zLv R_law 53 yX7_demand := ⟨zinjR zsub4 40 rfl rfl, zinjR zsub4 41 rfl rfl, zinjR zsub4 42 rfl rfl⟩
theorem lmL_56 : zLv R_law 56 yX8_demand := ⟨zinjR zsub7 95 rfl rfl, zinjR zsub7 96 rfl rfl, zinjR zsub7 97 rfl rfl⟩
theorem lmL_57 : zLv R_law 57 yX7_share := ⟨zinjR zsub4 50 rfl rfl, zinjR zsub4 51 rfl rfl, zinjR zsub4 52 rfl rfl⟩
theorem lmL_60 : zLv R_law 60 yX8_share := ⟨zinjR zsub7 106 rfl rfl, zinjR zsub7 107 rfl rfl, zinjR zsub7 108 rfl rfl⟩
theorem lmL_61 : zLv R_law 61 yX7_order := ⟨zinjR zsub4 54 rfl rfl, zinjR zsub4 55 rfl rfl, zinjR zsub4 56 rfl rfl⟩
theorem lmL_64 : zLv R_law 64 yX8_order := ⟨zinjR zsub7 110 rfl rfl, zinjR zsub7 111 rfl rfl, zinjR zsub7 112 rfl rfl⟩
theorem lmL_65 : zLv R_law 65 yX7_drawn := ⟨zinjR zsub4 75 rfl rfl, zinjR zsub4 76 rfl rfl, zinjR zsub4 77 rfl rfl⟩
theorem lmL_68 : zLv R_law 68 yX8_drawn := ⟨zinjR zsub7 130 rfl rfl, zinjR zsub7 131 rfl rfl, zinjR zsub7 132 rfl rfl⟩
theorem lmL_69 : zLv R_law 69 yX7_round := ⟨zinjR zsub4 110 rfl rfl, zinjR zsub4 111 rfl rfl, zinjR zsub4 112 rfl rfl⟩
theorem lmL_72 : zLv R_law 72 yX8_round := ⟨zinjR zsub7 154 rfl rfl, zinjR zsub7 155 rfl rfl, zinjR zsub7 156 rfl rfl⟩
theorem lmL_73 : zLv R_law 73 yX7_left := ⟨zinjR zsub4 114 rfl rfl, zinjR zsub4 115 rfl rfl, zinjR zsub4 116 rfl rfl⟩
theorem lmL_77 : zLv R_law 77 yX8_left := ⟨zinjR zsub7 158 rfl rfl, zinjR zsub7 159 rfl rfl, zinjR zsub7 160 rfl rfl⟩
theorem lmL_78 : zLv R_law 78 yX7_winners := ⟨zinjR zsub4 126 rfl rfl, zinjR zsub4 127 rfl rfl, zinjR zsub4 128 rfl rfl⟩
theorem lmL_81 : zLv R_law 81 yX8_winners := ⟨zinjR zsub7 164 rfl rfl, zinjR zsub7 165 rfl rfl, zinjR zsub7 166 rfl rfl⟩
theorem lmL_82 : zLv R_law 82 yX7_waits := ⟨zinjR zsub4 130 rfl rfl, zinjR zsub4 131 rfl rfl, zinjR zsub4 132 rfl rfl⟩
theorem lmL_85 : zLv R_law 85 yX8_waits := ⟨zinjR zsub7 172 rfl rfl, zinjR zsub7 173 rfl rfl, zinjR zsub7 174 rfl rfl⟩
theorem lmL_86 : zLv R_law 86 yX7_next := ⟨zinjR zsub4 139 rfl rfl, zinjR zsub4 140 rfl rfl, zinjR zsub4 141 rfl rfl⟩
theorem lmL_89 : zLv R_law 89 yX8_next_ := ⟨zinjR zsub7 180 rfl rfl, zinjR zsub7 181 rfl rfl, zinjR zsub7 182 rfl rfl⟩
theorem lmL_90 : zLv R_law 90 yX7_envies := ⟨zinjR zsub4 144 rfl rfl, zinjR zsub4 145 rfl rfl, zinjR zsub4 146 rfl rfl⟩
theorem lmL_93 : zLv R_law 93 yX8_envies := ⟨zinjR zsub7 185 rfl rfl, zinjR zsub7 186 rfl rfl, zinjR zsub7 187 rfl rfl⟩
theorem lmL_94 : zLv R_law 94 yX7_spoils := ⟨zinjR zsub4 153 rfl rfl, zinjR zsub4 154 rfl rfl, zinjR zsub4 155 rfl rfl⟩
theorem lmL_97 : zLv R_law 97 yX8_spoils := ⟨zinjR zsub7 193 rfl rfl, zinjR zsub7 194 rfl rfl, zinjR zsub7 195 rfl rfl⟩
theorem lmL_98 : zLv R_law 98 yX7_behind := ⟨zinjR zsub4 158 rfl rfl, zinjR zsub4 159 rfl rfl, zinjR zsub4 160 rfl rfl⟩
theorem lmL_101 : zLv R_law 101 yX8_behind := ⟨zinjR zsub7 197 rfl rfl, zinjR zsub7 198 rfl rfl, zinjR zsub7 199 rfl rfl⟩
theorem lmL_102 : zLv R_law 102 yX7_lucky := ⟨zinjR zsub4 171 rfl rfl, zinjR zsub4 172 rfl rfl, zinjR zsub4 173 rfl rfl⟩
theorem lmL_105 : zLv R_law 105 yX8_lucky := ⟨zinjR zsub7 205 rfl rfl, zinjR zsub7 206 rfl rfl, zinjR zsub7 207 rfl rfl⟩
theorem lmL_106 : zLv R_law 106 yX7_chance := ⟨zinjR zsub4 177 rfl rfl, zinjR zsub4 178 rfl rfl, zinjR zsub4 179 rfl rfl⟩
theorem lmL_110 : zLv R_law 110 yX8_chance := ⟨zinjR zsub7 214 rfl rfl, zinjR zsub7 215 rfl rfl, zinjR zsub7 216 rfl rfl⟩
theorem lmL_111 : zLv R_law 111 yX7_at := ⟨zinjR zsub4 225 rfl rfl, zinjR zsub4 226 rfl rfl, zinjR zsub4 227 rfl rfl⟩
theorem lmL_114 : zLv R_law 114 yX8_at := ⟨zinjR zsub8 13 rfl rfl, zinjR zsub8 14 rfl rfl, zinjR zsub8 15 rfl rfl⟩
theorem lmL_115 : zLv R_law 115 yX7_both := ⟨zinjR zsub4 229 rfl rfl, zinjR zsub4 230 rfl rfl, zinjR zsub4 231 rfl rfl⟩
theorem lmL_118 : zLv R_law 118 yX8_both := ⟨zinjR zsub8 17 rfl rfl, zinjR zsub8 18 rfl rfl, zinjR zsub8 19 rfl rfl⟩
theorem lmL_119 : zLv R_law 119 yX7_sure := ⟨zinjR zsub4 234 rfl rfl, zinjR zsub4 235 rfl rfl, zinjR zsub4 236 rfl rfl⟩
theorem lmL_122 : zLv R_law 122 yX8_sure := ⟨zinjR zsub8 21 rfl rfl, zinjR zsub8 22 rfl rfl, zinjR zsub8 23 rfl rfl⟩
theorem lmL_123 : zLv R_law 123 yX7_mean := ⟨zinjR zsub5 6 rfl rfl, zinjR zsub5 7 rfl rfl, zinjR zsub5 8 rfl rfl⟩
theorem lmL_127 : zLv R_law 127 yX8_mean := ⟨zinjR zsub8 25 rfl rfl, zinjR zsub8 26 rfl rfl, zinjR zsub8 27 rfl rfl⟩
theorem lmL_128 : zLv R_law 128 yX7_given := ⟨zinjR zsub5 10 rfl rfl, zinjR zsub5 11 rfl rfl, zinjR zsub5 12 rfl rfl⟩
theorem lmL_131 : zLv R_law 131 yX8_given := ⟨zinjR zsub8 29 rfl rfl, zinjR zsub8 30 rfl rfl, zinjR zsub8 31 rfl rfl⟩
theorem lmL_132 : zLv R_law 132 yX7_ends := ⟨zinjR zsub5 29 rfl rfl, zinjR zsub5 30 rfl rfl, zinjR zsub5 31 rfl rfl⟩
theorem lmL_135 : zLv R_law 135 yX8_ends := ⟨zinjR zsub8 33 rfl rfl, zinjR zsub8 34 rfl rfl, zinjR zsub8 35 rfl rfl⟩
theorem lmL_136 : zLv R_law 136 yX7_need := ⟨zinjR zsub5 33 rfl rfl, zinjR zsub5 34 rfl rfl, zinjR zsub5 35 rfl rfl⟩
theorem lmL_139 : zLv R_law 139 yX8_need := ⟨zinjR zsub8 37 rfl rfl, zinjR zsub8 38 rfl rfl, zinjR zsub8 39 rfl rfl⟩
theorem lmL_140 : zLv R_law 140 yX7_wise := ⟨zinjR zsub5 38 rfl rfl, zinjR zsub5 39 rfl rfl, zinjR zsub5 40 rfl rfl⟩
theorem lmL_143 : zLv R_law 143 yX8_wise := ⟨zinjR zsub8 51 rfl rfl, zinjR zsub8 52 rfl rfl, zinjR zsub8 53 rfl rfl⟩
theorem lmL_144 : zLv R_law 144 yX7_wiseChance := ⟨zinjR zsub5 51 rfl rfl, zinjR zsub5 52 rfl rfl, zinjR zsub5 53 rfl rfl⟩
theorem lmL_147 : zLv R_law 147 yX8_wiseChance := ⟨zinjR zsub8 60 rfl rfl, zinjR zsub8 61 rfl rfl, zinjR zsub8 62 rfl rfl⟩
theorem lmL_148 : zLv R_law 148 yX7_together := ⟨zinjR zsub5 58 rfl rfl, zinjR zsub5 59 rfl rfl, zinjR zsub5 60 rfl rfl⟩
theorem lmL_151 : zLv R_law 151 yX8_together := ⟨zinjR zsub8 64 rfl rfl, zinjR zsub8 65 rfl rfl, zinjR zsub8 66 rfl rfl⟩
theorem lmL_152 : zLv R_law 152 yX7_apart := ⟨zinjR zsub5 69 rfl rfl, zinjR zsub5 70 rfl rfl, zinjR zsub5 71 rfl rfl⟩
theorem lmL_155 : zLv R_law 155 yX8_apart := ⟨zinjR zsub8 72 rfl rfl, zinjR zsub8 73 rfl rfl, zinjR zsub8 74 rfl rfl⟩
theorem lmL_156 : zLv R_law 156 yX7_likes := ⟨zinjR zsub5 81 rfl rfl, zinjR zsub5 82 rfl rfl, zinjR zsub5 83 rfl rfl⟩
theorem lmL_159 : zLv R_law 159 yX8_likes := ⟨zinjR zsub8 84 rfl rfl, zinjR zsub8 85 rfl rfl, zinjR zsub8 86 rfl rfl⟩
theorem lmL_160 : zLv R_law 160 yX7_years := ⟨zinjR zsub5 85 rfl rfl, zinjR zsub5 86 rfl rfl, zinjR zsub5 87 rfl rfl⟩
theorem lmL_163 : zLv R_law 163 yX8_years := ⟨zinjR zsub8 88 rfl rfl, zinjR zsub8 89 rfl rfl, zinjR zsub8 90 rfl rfl⟩
theorem lmL_164 : zLv R_law 164 yX7_often := ⟨zinjR zsub5 122 rfl rfl, zinjR zsub5 123 rfl rfl, zinjR zsub5 124 rfl rfl⟩
theorem lmL_167 : zLv R_law 167 yX8_often := ⟨zinjR zsub8 104 rfl rfl, zinjR zsub8 105 rfl rfl, zinjR zsub8 106 rfl rfl⟩
theorem lmL_168 : zLv R_law 168 yX7_soonest := ⟨zinjR zsub5 126 rfl rfl, zinjR zsub5 127 rfl rfl, zinjR zsub5 128 rfl rfl⟩
theorem lmL_171 : zLv R_law 171 yX8_soonest := ⟨zinjR zsub8 108 rfl rfl, zinjR zsub8 109 rfl rfl, zinjR zsub8 110 rfl rfl⟩
theorem lmL_172 : zLv R_law 172 yX7_draw := ⟨zinjR zsub5 130 rfl rfl, zinjR zsub5 131 rfl rfl, zinjR zsub5 132 rfl rfl⟩
theorem lmL_175 : zLv R_law 175 yX8_draw := ⟨zinjR zsub8 116 rfl rfl, zinjR zsub8 117 rfl rfl, zinjR zsub8 118 rfl rfl⟩
theorem lmL_176 : zLv R_law 176 yX7_points := ⟨zinjR zsub5 146 rfl rfl, zinjR zsub5 147 rfl rfl, zinjR zsub5 148 rfl rfl⟩
theorem lmL_179 : zLv R_law 179 yX8_points := ⟨zinjR zsub8 124 rfl rfl, zinjR zsub8 125 rfl rfl, zinjR zsub8 126 rfl rfl⟩
theorem lmL_180 : zLv R_law 180 yX7_quota := ⟨zinjR zsub5 150 rfl rfl, zinjR zsub5 151 rfl rfl, zinjR zsub5 152 rfl rfl⟩
theorem lmL_183 : zLv R_law 183 yX8_quota := ⟨zinjR zsub8 132 rfl rfl, zinjR zsub8 133 rfl rfl, zinjR zsub8 134 rfl rfl⟩
theorem lmL_184 : zLv R_law 184 yX7_choose := ⟨zinjR zsub5 154 rfl rfl, zinjR zsub5 155 rfl rfl, zinjR zsub5 156 rfl rfl⟩
theorem lmL_188 : zLv R_law 188 yX8_choose := ⟨zinjR zsub8 136 rfl rfl, zinjR zsub8 137 rfl rfl, zinjR zsub8 138 rfl rfl⟩
theorem lmL_189 : zLv R_law 189 yX7_law := ⟨zinjR zsub5 162 rfl rfl, zinjR zsub5 163 rfl rfl, zinjR zsub5 164 rfl rfl⟩
theorem lmL_192 : zLv R_law 192 yX8_law := ⟨zinjR zsub8 140 rfl rfl, zinjR zsub8 141 rfl rfl, zinjR zsub8 142 rfl rfl⟩
theorem lmL_193 : zLv R_law 193 yX7_prefer := ⟨zinjR zsub5 166 rfl rfl, zinjR zsub5 167 rfl rfl, zinjR zsub5 168 rfl rfl⟩
theorem lmL_196 : zLv R_law 196 yX8_prefer := ⟨zinjR zsub8 144 rfl rfl, zinjR zsub8 145 rfl rfl, zinjR zsub8 146 rfl rfl⟩
theorem lmL_197 : zLv R_law 197 yX7_guests := ⟨zinjR zsub5 170 rfl rfl, zinjR zsub5 171 rfl rfl, zinjR zsub5 172 rfl rfl⟩
theorem lmL_200 : zLv R_law 200 yX8_guests := ⟨zinjR zsub8 149 rfl rfl, zinjR zsub8 150 rfl rfl, zinjR zsub8 151 rfl rfl⟩
theorem lmL_201 : zLv R_law 201 yX7_split := ⟨zinjR zsub5 174 rfl rfl, zinjR zsub5 175 rfl rfl, zinjR zsub5 176 rfl rfl⟩
theorem lmL_204 : zLv R_law 204 yX8_split := ⟨zinjR zsub8 153 rfl rfl, zinjR zsub8 154 rfl rfl, zinjR zsub8 155 rfl rfl⟩
theorem lmL_205 : zLv R_law 205 yX7_undo := ⟨zinjR zsub5 178 rfl rfl, zinjR zsub5 179 rfl rfl, zinjR zsub5 180 rfl rfl⟩
theorem lmL_208 : zLv R_law 208 yX8_undo := ⟨zinjR zsub8 112 rfl rfl, zinjR zsub8 113 rfl rfl, zinjR zsub8 114 rfl rfl⟩
theorem lmL_209 : zLv R_law 209 yX7_print := ⟨zinjR zsub5 186 rfl rfl, zinjR zsub5 187 rfl rfl, zinjR zsub5 188 rfl rfl⟩
theorem lmL_212 : zLv R_law 212 yX8_print := ⟨zinjR zsub8 157 rfl rfl, zinjR zsub8 158 rfl rfl, zinjR zsub8 159 rfl rfl⟩
theorem lmL_213 : zLv R_law 213 yX7_out := ⟨zinjR zsub5 194 rfl rfl, zinjR zsub5 195 rfl rfl, zinjR zsub5 196 rfl rfl⟩
theorem lmL_216 : zLv R_law 216 yX8_out := ⟨zinjR zsub8 165 rfl rfl, zinjR zsub8 166 rfl rfl, zinjR zsub8 167 rfl rfl⟩
theorem zinst0 : Cond.instantiable RX0 5 ∈ zT := zinjR zsub2 77 rfl rfl
theorem zini0 : Cond.initialized RX0 ∈ zT := zinjR zsub1 7 rfl rfl
theorem zinst1 : Cond.instantiable RX1 3 ∈ zT := zinjR zsub1 174 rfl rfl
theorem zini1 : Cond.initialized RX1 ∈ zT := zinjR zsub1 4 rfl rfl
theorem zinst2 : Cond.instantiable RX2 16 ∈ zT := zinjR zsub1 194 rfl rfl
theorem zini2 : Cond.initialized RX2 ∈ zT := zinjR zsub1 5 rfl rfl
theorem zinst3 : Cond.instantiable RX3 18 ∈ zT := zinjR zsub1 24 rfl rfl
theorem zini3 : Cond.initialized RX3 ∈ zT := zinjR zsub1 2 rfl rfl
theorem zinst4 : Cond.instantiable RX4 14 ∈ zT := zinjR zsub1 30 rfl rfl
theorem zini4 : Cond.initialized RX4 ∈ zT := zinjR zsub1 3 rfl rfl
theorem zinst5 : Cond.instantiable RX5 7 ∈ zT := zinjR zsub2 39 rfl rfl
theorem zini5 : Cond.initialized RX5 ∈ zT := zinjR zsub1 6 rfl rfl
theorem zinst6 : Cond.instantiable RX6 8 ∈ zT := zinjR zsub2 103 rfl rfl
theorem zini6 : Cond.initialized RX6 ∈ zT := zinjR zsub1 8 rfl rfl
theorem zinst7 : Cond.instantiable RX7 17 ∈ zT := zinjR zsub1 16 rfl rfl
theorem zini7 : Cond.initialized RX7 ∈ zT := zinjR zsub1 1 rfl rfl
theorem zinst8 : Cond.instantiable RX8 65 ∈ zT := zinjR zsub5 199 rfl rfl
theorem zini8 : Cond.initialized RX8 ∈ zT := zinjR zsub1 9 rfl rfl
theorem zarrI : Cond.arrayClass .int ∈ zT := zinjR zsub1 111 rfl rfl
theorem zarrZ : Cond.arrayClass .boolean ∈ zT := zinjR zsub6 163 rfl rfl
theorem zarrJ : Cond.arrayClass .long ∈ zT := zinjR zsub1 170 rfl rfl
theorem zobj1 : Cond.instanceMethod Lib.objectInit ∈ zT := zinjR zsub1 21 rfl rfl
theorem zobj2 : Cond.code Lib.objectInit ⟨#[0xb1]⟩ 1 none ∈ zT := zinjR zsub1 22 rfl rfl
theorem zmath1 : Cond.static Lib.Math.max.name ∈ zT := zinjR zsub5 27 rfl rfl
theorem zmath2 : Cond.static Lib.Math.min.name ∈ zT := zinjR zsub3 21 rfl rfl
theorem zmath3 : Cond.static Lib.MathLoose.max_long.x ∈ zT := zinjR zsub5 56 rfl rfl
theorem zmath0 : Cond.initialized "java/lang/Math" ∈ zT := zinjR zsub1 10 rfl rfl
theorem zmathc1 : Cond.code Lib.Math.max.name Lib.Math.max.code 2 (some .int) ∈ zT := zinjR zsub5 28 rfl rfl
theorem zmathc2 : Cond.code Lib.Math.min.name Lib.Math.min.code 2 (some .int) ∈ zT := zinjR zsub3 22 rfl rfl
theorem zmathc3 : Cond.code Lib.MathLoose.max_long.x Lib.MathLoose.max_long.code 4 (some .long) ∈ zT := zinjR zsub5 57 rfl rfl
