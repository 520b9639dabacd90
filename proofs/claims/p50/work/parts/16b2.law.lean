set_option maxRecDepth 100000 in
set_option maxHeartbeats 8000000 in
theorem law_c26 {p : Program} {l : Launch} {e : Env} {s : State} {m : MethodId} {below : List Frame} {meth : Method} {c : Code} {G : zG} {b sb L : Nat} {xs : Nat → Int32} (X : zOK p s m #[Value.ref sb] meth c G b R_law code 4) (hr : meth.sig.returnType = ret) (hX0 : va_X sb L xs s s.heap) (hsb : sb < s.heap.size) (hbb : b = s.heap.size) (hL : L ≤ 3072) {nc ns : Nat} (hc : nc ≤ 600000) (hs : ns ≤ 7302250) {i : Int32} (h0 : 0 ≤ i.toInt) (h6 : i.toInt + 6 ≤ L) {S : zS} (hI : jI S) (ih : ∀ S' : zS, jI S' → Zw p l e room_1 s m #[Value.ref sb] below meth c G b 4 (lw_Z below #[Value.ref sb] s) nc ns 18 [some (.ref (1000000 + sb)), some (.ref 0), some (.ref 200), some (.int (i + 6))] [] S') : Zw p l e room_1 s m #[Value.ref sb] below meth c G b 4 (lw_Z below #[Value.ref sb] s) nc ns 1092 [some (.ref (1000000 + sb)), some (.ref 0), some (.ref 200), some (.int i)] [] S := by
  have i1 : vp_in (i + 1) L := law_ix hL h0 h6 (by decide) (by decide)
  have i2 : vp_in (i + 2) L := law_ix hL h0 h6 (by decide) (by decide)
  have i3 : vp_in (i + 3) L := law_ix hL h0 h6 (by decide) (by decide)
  have i4 : vp_in (i + 4) L := law_ix hL h0 h6 (by decide) (by decide)
  have i5 : vp_in (i + 5) L := law_ix hL h0 h6 (by decide) (by decide)
  refine a_aload_n X dL_law_1092 rfl ?_
  refine a_aload_n X dL_law_1093 rfl ?_
  refine a_iload_n X dL_law_1094 rfl ?_
  refine a_iconst (v := 1) X dL_law_1095 (by decide) ?_
  refine a_iadd X dL_law_1096 ?_
  refine a_sld X hX0 hsb hbb (i1) dL_law_1097 ?_
  refine a_callVx X dL_law_1098 miX7_mean lmL_123 (f_mean hI) (hI.1.2.1) rfl rfl rfl (Nat.le_of_ble_eq_true rfl) ⟨by decide, by decide, hc, hs⟩ (fun r_1098 S_1098 q_1098 => ?_)
  obtain ⟨⟨v_1098, rfl⟩, h_1098⟩ := q_1098
  refine a_pop2 X dL_law_1101 rfl ?_
  refine a_aload_n X dL_law_1102 rfl ?_
  refine a_aload_n X dL_law_1103 rfl ?_
  refine a_iload_n X dL_law_1104 rfl ?_
  refine a_iconst (v := 1) X dL_law_1105 (by decide) ?_
  refine a_iadd X dL_law_1106 ?_
  refine a_sld X hX0 hsb hbb (i1) dL_law_1107 ?_
  refine a_callVx X dL_law_1108 miX8_mean lmL_127 (m_mean h_1098) (h_1098.2.1.2.1) rfl rfl rfl (Nat.le_of_ble_eq_true rfl) ⟨by decide, by decide, hc, hs⟩ (fun r_1108 S_1108 q_1108 => ?_)
  obtain ⟨⟨v_1108, rfl⟩, h_1108⟩ := q_1108
  refine a_pop2 X dL_law_1111 rfl ?_
  refine a_goto (tgt := 1731) X dL_law_1112 (by decide) ?_
  exact law_K X hr hX0 hsb hbb h_1108 ih
set_option maxRecDepth 100000 in
set_option maxHeartbeats 8000000 in
theorem law_c27 {p : Program} {l : Launch} {e : Env} {s : State} {m : MethodId} {below : List Frame} {meth : Method} {c : Code} {G : zG} {b sb L : Nat} {xs : Nat → Int32} (X : zOK p s m #[Value.ref sb] meth c G b R_law code 4) (hr : meth.sig.returnType = ret) (hX0 : va_X sb L xs s s.heap) (hsb : sb < s.heap.size) (hbb : b = s.heap.size) (hL : L ≤ 3072) {nc ns : Nat} (hc : nc ≤ 600000) (hs : ns ≤ 7302250) {i : Int32} (h0 : 0 ≤ i.toInt) (h6 : i.toInt + 6 ≤ L) {S : zS} (hI : jI S) (ih : ∀ S' : zS, jI S' → Zw p l e room_1 s m #[Value.ref sb] below meth c G b 4 (lw_Z below #[Value.ref sb] s) nc ns 18 [some (.ref (1000000 + sb)), some (.ref 0), some (.ref 200), some (.int (i + 6))] [] S') : Zw p l e room_1 s m #[Value.ref sb] below meth c G b 4 (lw_Z below #[Value.ref sb] s) nc ns 1115 [some (.ref (1000000 + sb)), some (.ref 0), some (.ref 200), some (.int i)] [] S := by
  have i1 : vp_in (i + 1) L := law_ix hL h0 h6 (by decide) (by decide)
  have i2 : vp_in (i + 2) L := law_ix hL h0 h6 (by decide) (by decide)
  have i3 : vp_in (i + 3) L := law_ix hL h0 h6 (by decide) (by decide)
  have i4 : vp_in (i + 4) L := law_ix hL h0 h6 (by decide) (by decide)
  have i5 : vp_in (i + 5) L := law_ix hL h0 h6 (by decide) (by decide)
  refine a_aload_n X dL_law_1115 rfl ?_
  refine a_aload_n X dL_law_1116 rfl ?_
  refine a_iload_n X dL_law_1117 rfl ?_
  refine a_iconst (v := 1) X dL_law_1118 (by decide) ?_
  refine a_iadd X dL_law_1119 ?_
  refine a_sld X hX0 hsb hbb (i1) dL_law_1120 ?_
  refine a_callVx X dL_law_1121 miX7_given lmL_128 (f_given hI) (hI.1.2.1) rfl rfl rfl (Nat.le_of_ble_eq_true rfl) ⟨by decide, by decide, hc, hs⟩ (fun r_1121 S_1121 q_1121 => ?_)
  obtain ⟨⟨v_1121, rfl⟩, h_1121⟩ := q_1121
  refine a_pop X dL_law_1124 rfl ?_
  refine a_aload_n X dL_law_1125 rfl ?_
  refine a_aload_n X dL_law_1126 rfl ?_
  refine a_iload_n X dL_law_1127 rfl ?_
  refine a_iconst (v := 1) X dL_law_1128 (by decide) ?_
  refine a_iadd X dL_law_1129 ?_
  refine a_sld X hX0 hsb hbb (i1) dL_law_1130 ?_
  refine a_callVx X dL_law_1131 miX8_given lmL_131 (m_given h_1121) (h_1121.2.1.2.1) rfl rfl rfl (Nat.le_of_ble_eq_true rfl) ⟨by decide, by decide, hc, hs⟩ (fun r_1131 S_1131 q_1131 => ?_)
  obtain ⟨⟨v_1131, rfl⟩, h_1131⟩ := q_1131
  refine a_pop X dL_law_1134 rfl ?_
  refine a_goto (tgt := 1731) X dL_law_1135 (by decide) ?_
  exact law_K X hr hX0 hsb hbb h_1131 ih
set_option maxRecDepth 100000 in
set_option maxHeartbeats 8000000 in
theorem law_c28 {p : Program} {l : Launch} {e : Env} {s : State} {m : MethodId} {below : List Frame} {meth : Method} {c : Code} {G : zG} {b sb L : Nat} {xs : Nat → Int32} (X : zOK p s m #[Value.ref sb] meth c G b R_law code 4) (hr : meth.sig.returnType = ret) (hX0 : va_X sb L xs s s.heap) (hsb : sb < s.heap.size) (hbb : b = s.heap.size) (hL : L ≤ 3072) {nc ns : Nat} (hc : nc ≤ 600000) (hs : ns ≤ 7302250) {i : Int32} (h0 : 0 ≤ i.toInt) (h6 : i.toInt + 6 ≤ L) {S : zS} (hI : jI S) (ih : ∀ S' : zS, jI S' → Zw p l e room_1 s m #[Value.ref sb] below meth c G b 4 (lw_Z below #[Value.ref sb] s) nc ns 18 [some (.ref (1000000 + sb)), some (.ref 0), some (.ref 200), some (.int (i + 6))] [] S') : Zw p l e room_1 s m #[Value.ref sb] below meth c G b 4 (lw_Z below #[Value.ref sb] s) nc ns 1138 [some (.ref (1000000 + sb)), some (.ref 0), some (.ref 200), some (.int i)] [] S := by
  have i1 : vp_in (i + 1) L := law_ix hL h0 h6 (by decide) (by decide)
  have i2 : vp_in (i + 2) L := law_ix hL h0 h6 (by decide) (by decide)
  have i3 : vp_in (i + 3) L := law_ix hL h0 h6 (by decide) (by decide)
  have i4 : vp_in (i + 4) L := law_ix hL h0 h6 (by decide) (by decide)
  have i5 : vp_in (i + 5) L := law_ix hL h0 h6 (by decide) (by decide)
  refine a_aload_n X dL_law_1138 rfl ?_
  refine a_callVx X dL_law_1139 miX7_ends lmL_132 (f_ends hI) (hI.1.2.1) rfl rfl rfl (Nat.le_of_ble_eq_true rfl) ⟨by decide, by decide, hc, hs⟩ (fun r_1139 S_1139 q_1139 => ?_)
  obtain ⟨⟨v_1139, rfl⟩, h_1139⟩ := q_1139
  refine a_pop X dL_law_1142 rfl ?_
  refine a_aload_n X dL_law_1143 rfl ?_
  refine a_callVx X dL_law_1144 miX8_ends lmL_135 (m_ends h_1139) (h_1139.2.1.2.1) rfl rfl rfl (Nat.le_of_ble_eq_true rfl) ⟨by decide, by decide, hc, hs⟩ (fun r_1144 S_1144 q_1144 => ?_)
  obtain ⟨⟨v_1144, rfl⟩, h_1144⟩ := q_1144
  refine a_pop X dL_law_1147 rfl ?_
  refine a_goto (tgt := 1731) X dL_law_1148 (by decide) ?_
  exact law_K X hr hX0 hsb hbb h_1144 ih
set_option maxRecDepth 100000 in
set_option maxHeartbeats 8000000 in
theorem law_c29 {p : Program} {l : Launch} {e : Env} {s : State} {m : MethodId} {below : List Frame} {meth : Method} {c : Code} {G : zG} {b sb L : Nat} {xs : Nat → Int32} (X : zOK p s m #[Value.ref sb] meth c G b R_law code 4) (hr : meth.sig.returnType = ret) (hX0 : va_X sb L xs s s.heap) (hsb : sb < s.heap.size) (hbb : b = s.heap.size) (hL : L ≤ 3072) {nc ns : Nat} (hc : nc ≤ 600000) (hs : ns ≤ 7302250) {i : Int32} (h0 : 0 ≤ i.toInt) (h6 : i.toInt + 6 ≤ L) {S : zS} (hI : jI S) (ih : ∀ S' : zS, jI S' → Zw p l e room_1 s m #[Value.ref sb] below meth c G b 4 (lw_Z below #[Value.ref sb] s) nc ns 18 [some (.ref (1000000 + sb)), some (.ref 0), some (.ref 200), some (.int (i + 6))] [] S') : Zw p l e room_1 s m #[Value.ref sb] below meth c G b 4 (lw_Z below #[Value.ref sb] s) nc ns 1151 [some (.ref (1000000 + sb)), some (.ref 0), some (.ref 200), some (.int i)] [] S := by
  have i1 : vp_in (i + 1) L := law_ix hL h0 h6 (by decide) (by decide)
  have i2 : vp_in (i + 2) L := law_ix hL h0 h6 (by decide) (by decide)
  have i3 : vp_in (i + 3) L := law_ix hL h0 h6 (by decide) (by decide)
  have i4 : vp_in (i + 4) L := law_ix hL h0 h6 (by decide) (by decide)
  have i5 : vp_in (i + 5) L := law_ix hL h0 h6 (by decide) (by decide)
  refine a_aload_n X dL_law_1151 rfl ?_
  refine a_aload_n X dL_law_1152 rfl ?_
  refine a_iload_n X dL_law_1153 rfl ?_
  refine a_iconst (v := 1) X dL_law_1154 (by decide) ?_
  refine a_iadd X dL_law_1155 ?_
  refine a_sld X hX0 hsb hbb (i1) dL_law_1156 ?_
  refine a_aload_n X dL_law_1157 rfl ?_
  refine a_iload_n X dL_law_1158 rfl ?_
  refine a_iconst (v := 2) X dL_law_1159 (by decide) ?_
  refine a_iadd X dL_law_1160 ?_
  refine a_sld X hX0 hsb hbb (i2) dL_law_1161 ?_
  refine a_callVx X dL_law_1162 miX7_need lmL_136 (f_need hI) (hI.1.2.1) rfl rfl rfl (Nat.le_of_ble_eq_true rfl) ⟨by decide, by decide, hc, hs⟩ (fun r_1162 S_1162 q_1162 => ?_)
  obtain ⟨⟨v_1162, rfl⟩, h_1162⟩ := q_1162
  refine a_pop X dL_law_1165 rfl ?_
  refine a_aload_n X dL_law_1166 rfl ?_
  refine a_aload_n X dL_law_1167 rfl ?_
  refine a_iload_n X dL_law_1168 rfl ?_
  refine a_iconst (v := 1) X dL_law_1169 (by decide) ?_
  refine a_iadd X dL_law_1170 ?_
  refine a_sld X hX0 hsb hbb (i1) dL_law_1171 ?_
  refine a_aload_n X dL_law_1172 rfl ?_
  refine a_iload_n X dL_law_1173 rfl ?_
  refine a_iconst (v := 2) X dL_law_1174 (by decide) ?_
  refine a_iadd X dL_law_1175 ?_
  refine a_sld X hX0 hsb hbb (i2) dL_law_1176 ?_
  refine a_callVx X dL_law_1177 miX8_need lmL_139 (m_need h_1162) (h_1162.2.1.2.1) rfl rfl rfl (Nat.le_of_ble_eq_true rfl) ⟨by decide, by decide, hc, hs⟩ (fun r_1177 S_1177 q_1177 => ?_)
  obtain ⟨⟨v_1177, rfl⟩, h_1177⟩ := q_1177
  refine a_pop X dL_law_1180 rfl ?_
  refine a_goto (tgt := 1731) X dL_law_1181 (by decide) ?_
  exact law_K X hr hX0 hsb hbb h_1177 ih
set_option maxRecDepth 100000 in
set_option maxHeartbeats 8000000 in
theorem law_c30 {p : Program} {l : Launch} {e : Env} {s : State} {m : MethodId} {below : List Frame} {meth : Method} {c : Code} {G : zG} {b sb L : Nat} {xs : Nat → Int32} (X : zOK p s m #[Value.ref sb] meth c G b R_law code 4) (hr : meth.sig.returnType = ret) (hX0 : va_X sb L xs s s.heap) (hsb : sb < s.heap.size) (hbb : b = s.heap.size) (hL : L ≤ 3072) {nc ns : Nat} (hc : nc ≤ 600000) (hs : ns ≤ 7302250) {i : Int32} (h0 : 0 ≤ i.toInt) (h6 : i.toInt + 6 ≤ L) {S : zS} (hI : jI S) (ih : ∀ S' : zS, jI S' → Zw p l e room_1 s m #[Value.ref sb] below meth c G b 4 (lw_Z below #[Value.ref sb] s) nc ns 18 [some (.ref (1000000 + sb)), some (.ref 0), some (.ref 200), some (.int (i + 6))] [] S') : Zw p l e room_1 s m #[Value.ref sb] below meth c G b 4 (lw_Z below #[Value.ref sb] s) nc ns 1184 [some (.ref (1000000 + sb)), some (.ref 0), some (.ref 200), some (.int i)] [] S := by
  have i1 : vp_in (i + 1) L := law_ix hL h0 h6 (by decide) (by decide)
  have i2 : vp_in (i + 2) L := law_ix hL h0 h6 (by decide) (by decide)
  have i3 : vp_in (i + 3) L := law_ix hL h0 h6 (by decide) (by decide)
  have i4 : vp_in (i + 4) L := law_ix hL h0 h6 (by decide) (by decide)
  have i5 : vp_in (i + 5) L := law_ix hL h0 h6 (by decide) (by decide)
  refine a_aload_n X dL_law_1184 rfl ?_
  refine a_aload_n X dL_law_1185 rfl ?_
  refine a_iload_n X dL_law_1186 rfl ?_
  refine a_iconst (v := 1) X dL_law_1187 (by decide) ?_
  refine a_iadd X dL_law_1188 ?_
  refine a_sld X hX0 hsb hbb (i1) dL_law_1189 ?_
  refine a_callVx X dL_law_1190 miX7_wise lmL_140 (f_wise hI) (hI.1.2.1) rfl rfl rfl (Nat.le_of_ble_eq_true rfl) ⟨by decide, by decide, hc, hs⟩ (fun r_1190 S_1190 q_1190 => ?_)
  obtain ⟨⟨v_1190, rfl⟩, h_1190⟩ := q_1190
  refine a_pop X dL_law_1193 rfl ?_
  refine a_aload_n X dL_law_1194 rfl ?_
  refine a_aload_n X dL_law_1195 rfl ?_
  refine a_iload_n X dL_law_1196 rfl ?_
  refine a_iconst (v := 1) X dL_law_1197 (by decide) ?_
  refine a_iadd X dL_law_1198 ?_
  refine a_sld X hX0 hsb hbb (i1) dL_law_1199 ?_
  refine a_callVx X dL_law_1200 miX8_wise lmL_143 (m_wise h_1190) (h_1190.2.1.2.1) rfl rfl rfl (Nat.le_of_ble_eq_true rfl) ⟨by decide, by decide, hc, hs⟩ (fun r_1200 S_1200 q_1200 => ?_)
  obtain ⟨⟨v_1200, rfl⟩, h_1200⟩ := q_1200
  refine a_pop X dL_law_1203 rfl ?_
  refine a_goto (tgt := 1731) X dL_law_1204 (by decide) ?_
  exact law_K X hr hX0 hsb hbb h_1200 ih
set_option maxRecDepth 100000 in
set_option maxHeartbeats 8000000 in
theorem law_c31 {p : Program} {l : Launch} {e : Env} {s : State} {m : MethodId} {below : List Frame} {meth : Method} {c : Code} {G : zG} {b sb L : Nat} {xs : Nat → Int32} (X : zOK p s m #[Value.ref sb] meth c G b R_law code 4) (hr : meth.sig.returnType = ret) (hX0 : va_X sb L xs s s.heap) (hsb : sb < s.heap.size) (hbb : b = s.heap.size) (hL : L ≤ 3072) {nc ns : Nat} (hc : nc ≤ 600000) (hs : ns ≤ 7302250) {i : Int32} (h0 : 0 ≤ i.toInt) (h6 : i.toInt + 6 ≤ L) {S : zS} (hI : jI S) (ih : ∀ S' : zS, jI S' → Zw p l e room_1 s m #[Value.ref sb] below meth c G b 4 (lw_Z below #[Value.ref sb] s) nc ns 18 [some (.ref (1000000 + sb)), some (.ref 0), some (.ref 200), some (.int (i + 6))] [] S') : Zw p l e room_1 s m #[Value.ref sb] below meth c G b 4 (lw_Z below #[Value.ref sb] s) nc ns 1207 [some (.ref (1000000 + sb)), some (.ref 0), some (.ref 200), some (.int i)] [] S := by
  have i1 : vp_in (i + 1) L := law_ix hL h0 h6 (by decide) (by decide)
  have i2 : vp_in (i + 2) L := law_ix hL h0 h6 (by decide) (by decide)
  have i3 : vp_in (i + 3) L := law_ix hL h0 h6 (by decide) (by decide)
  have i4 : vp_in (i + 4) L := law_ix hL h0 h6 (by decide) (by decide)
  have i5 : vp_in (i + 5) L := law_ix hL h0 h6 (by decide) (by decide)
  refine a_aload_n X dL_law_1207 rfl ?_
  refine a_aload_n X dL_law_1208 rfl ?_
  refine a_iload_n X dL_law_1209 rfl ?_
  refine a_iconst (v := 1) X dL_law_1210 (by decide) ?_
  refine a_iadd X dL_law_1211 ?_
  refine a_sld X hX0 hsb hbb (i1) dL_law_1212 ?_
  refine a_callVx X dL_law_1213 miX7_wiseChance lmL_144 (f_wiseChance hI) (hI.1.2.1) rfl rfl rfl (Nat.le_of_ble_eq_true rfl) ⟨by decide, by decide, hc, hs⟩ (fun r_1213 S_1213 q_1213 => ?_)
  obtain ⟨⟨v_1213, rfl⟩, h_1213⟩ := q_1213
  refine a_pop2 X dL_law_1216 rfl ?_
  refine a_aload_n X dL_law_1217 rfl ?_
  refine a_aload_n X dL_law_1218 rfl ?_
  refine a_iload_n X dL_law_1219 rfl ?_
  refine a_iconst (v := 1) X dL_law_1220 (by decide) ?_
  refine a_iadd X dL_law_1221 ?_
  refine a_sld X hX0 hsb hbb (i1) dL_law_1222 ?_
  refine a_callVx X dL_law_1223 miX8_wiseChance lmL_147 (m_wiseChance h_1213) (h_1213.2.1.2.1) rfl rfl rfl (Nat.le_of_ble_eq_true rfl) ⟨by decide, by decide, hc, hs⟩ (fun r_1223 S_1223 q_1223 => ?_)
  obtain ⟨⟨v_1223, rfl⟩, h_1223⟩ := q_1223
  refine a_pop2 X dL_law_1226 rfl ?_
  refine a_goto (tgt := 1731) X dL_law_1227 (by decide) ?_
  exact law_K X hr hX0 hsb hbb h_1223 ih
set_option maxRecDepth 100000 in
set_option maxHeartbeats 8000000 in
theorem law_c32 {p : Program} {l : Launch} {e : Env} {s : State} {m : MethodId} {below : List Frame} {meth : Method} {c : Code} {G : zG} {b sb L : Nat} {xs : Nat → Int32} (X : zOK p s m #[Value.ref sb] meth c G b R_law code 4) (hr : meth.sig.returnType = ret) (hX0 : va_X sb L xs s s.heap) (hsb : sb < s.heap.size) (hbb : b = s.heap.size) (hL : L ≤ 3072) {nc ns : Nat} (hc : nc ≤ 600000) (hs : ns ≤ 7302250) {i : Int32} (h0 : 0 ≤ i.toInt) (h6 : i.toInt + 6 ≤ L) {S : zS} (hI : jI S) (ih : ∀ S' : zS, jI S' → Zw p l e room_1 s m #[Value.ref sb] below meth c G b 4 (lw_Z below #[Value.ref sb] s) nc ns 18 [some (.ref (1000000 + sb)), some (.ref 0), some (.ref 200), some (.int (i + 6))] [] S') : Zw p l e room_1 s m #[Value.ref sb] below meth c G b 4 (lw_Z below #[Value.ref sb] s) nc ns 1230 [some (.ref (1000000 + sb)), some (.ref 0), some (.ref 200), some (.int i)] [] S := by
  have i1 : vp_in (i + 1) L := law_ix hL h0 h6 (by decide) (by decide)
  have i2 : vp_in (i + 2) L := law_ix hL h0 h6 (by decide) (by decide)
  have i3 : vp_in (i + 3) L := law_ix hL h0 h6 (by decide) (by decide)
  have i4 : vp_in (i + 4) L := law_ix hL h0 h6 (by decide) (by decide)
  have i5 : vp_in (i + 5) L := law_ix hL h0 h6 (by decide) (by decide)
  refine a_aload_n X dL_law_1230 rfl ?_
  refine a_aload_n X dL_law_1231 rfl ?_
  refine a_iload_n X dL_law_1232 rfl ?_
  refine a_iconst (v := 1) X dL_law_1233 (by decide) ?_
  refine a_iadd X dL_law_1234 ?_
  refine a_sld X hX0 hsb hbb (i1) dL_law_1235 ?_
  refine a_aload_n X dL_law_1236 rfl ?_
  refine a_iload_n X dL_law_1237 rfl ?_
  refine a_iconst (v := 2) X dL_law_1238 (by decide) ?_
  refine a_iadd X dL_law_1239 ?_
  refine a_sld X hX0 hsb hbb (i2) dL_law_1240 ?_
  refine a_callVx X dL_law_1241 miX7_together lmL_148 (f_together hI) (hI.1.2.1) rfl rfl rfl (Nat.le_of_ble_eq_true rfl) ⟨by decide, by decide, hc, hs⟩ (fun r_1241 S_1241 q_1241 => ?_)
  obtain ⟨⟨v_1241, rfl⟩, h_1241⟩ := q_1241
  refine a_pop2 X dL_law_1244 rfl ?_
  refine a_aload_n X dL_law_1245 rfl ?_
  refine a_aload_n X dL_law_1246 rfl ?_
  refine a_iload_n X dL_law_1247 rfl ?_
  refine a_iconst (v := 1) X dL_law_1248 (by decide) ?_
  refine a_iadd X dL_law_1249 ?_
  refine a_sld X hX0 hsb hbb (i1) dL_law_1250 ?_
  refine a_aload_n X dL_law_1251 rfl ?_
  refine a_iload_n X dL_law_1252 rfl ?_
  refine a_iconst (v := 2) X dL_law_1253 (by decide) ?_
  refine a_iadd X dL_law_1254 ?_
  refine a_sld X hX0 hsb hbb (i2) dL_law_1255 ?_
  refine a_callVx X dL_law_1256 miX8_together lmL_151 (m_together h_1241) (h_1241.2.1.2.1) rfl rfl rfl (Nat.le_of_ble_eq_true rfl) ⟨by decide, by decide, hc, hs⟩ (fun r_1256 S_1256 q_1256 => ?_)
  obtain ⟨⟨v_1256, rfl⟩, h_1256⟩ := q_1256
  refine a_pop2 X dL_law_1259 rfl ?_
  refine a_goto (tgt := 1731) X dL_law_1260 (by decide) ?_
  exact law_K X hr hX0 hsb hbb h_1256 ih
set_option maxRecDepth 100000 in
set_option maxHeartbeats 8000000 in
theorem law_c33 {p : Program} {l : Launch} {e : Env} {s : State} {m : MethodId} {below : List Frame} {meth : Method} {c : Code} {G : zG} {b sb L : Nat} {xs : Nat → Int32} (X : zOK p s m #[Value.ref sb] meth c G b R_law code 4) (hr : meth.sig.returnType = ret) (hX0 : va_X sb L xs s s.heap) (hsb : sb < s.heap.size) (hbb : b = s.heap.size) (hL : L ≤ 3072) {nc ns : Nat} (hc : nc ≤ 600000) (hs : ns ≤ 7302250) {i : Int32} (h0 : 0 ≤ i.toInt) (h6 : i.toInt + 6 ≤ L) {S : zS} (hI : jI S) (ih : ∀ S' : zS, jI S' → Zw p l e room_1 s m #[Value.ref sb] below meth c G b 4 (lw_Z below #[Value.ref sb] s) nc ns 18 [some (.ref (1000000 + sb)), some (.ref 0), some (.ref 200), some (.int (i + 6))] [] S') : Zw p l e room_1 s m #[Value.ref sb] below meth c G b 4 (lw_Z below #[Value.ref sb] s) nc ns 1263 [some (.ref (1000000 + sb)), some (.ref 0), some (.ref 200), some (.int i)] [] S := by
  have i1 : vp_in (i + 1) L := law_ix hL h0 h6 (by decide) (by decide)
  have i2 : vp_in (i + 2) L := law_ix hL h0 h6 (by decide) (by decide)
  have i3 : vp_in (i + 3) L := law_ix hL h0 h6 (by decide) (by decide)
  have i4 : vp_in (i + 4) L := law_ix hL h0 h6 (by decide) (by decide)
  have i5 : vp_in (i + 5) L := law_ix hL h0 h6 (by decide) (by decide)
  refine a_aload_n X dL_law_1263 rfl ?_
  refine a_aload_n X dL_law_1264 rfl ?_
  refine a_iload_n X dL_law_1265 rfl ?_
  refine a_iconst (v := 1) X dL_law_1266 (by decide) ?_
  refine a_iadd X dL_law_1267 ?_
  refine a_sld X hX0 hsb hbb (i1) dL_law_1268 ?_
  refine a_callVx X dL_law_1269 miX7_apart lmL_152 (f_apart hI) (hI.1.2.1) rfl rfl rfl (Nat.le_of_ble_eq_true rfl) ⟨by decide, by decide, hc, hs⟩ (fun r_1269 S_1269 q_1269 => ?_)
  obtain ⟨⟨v_1269, rfl⟩, h_1269⟩ := q_1269
  refine a_pop2 X dL_law_1272 rfl ?_
  refine a_aload_n X dL_law_1273 rfl ?_
  refine a_aload_n X dL_law_1274 rfl ?_
  refine a_iload_n X dL_law_1275 rfl ?_
  refine a_iconst (v := 1) X dL_law_1276 (by decide) ?_
  refine a_iadd X dL_law_1277 ?_
  refine a_sld X hX0 hsb hbb (i1) dL_law_1278 ?_
  refine a_callVx X dL_law_1279 miX8_apart lmL_155 (m_apart h_1269) (h_1269.2.1.2.1) rfl rfl rfl (Nat.le_of_ble_eq_true rfl) ⟨by decide, by decide, hc, hs⟩ (fun r_1279 S_1279 q_1279 => ?_)
  obtain ⟨⟨v_1279, rfl⟩, h_1279⟩ := q_1279
  refine a_pop2 X dL_law_1282 rfl ?_
  refine a_goto (tgt := 1731) X dL_law_1283 (by decide) ?_
  exact law_K X hr hX0 hsb hbb h_1279 ih
set_option maxRecDepth 100000 in
set_option maxHeartbeats 8000000 in
theorem law_c34 {p : Program} {l : Launch} {e : Env} {s : State} {m : MethodId} {below : List Frame} {meth : Method} {c : Code} {G : zG} {b sb L : Nat} {xs : Nat → Int32} (X : zOK p s m #[Value.ref sb] meth c G b R_law code 4) (hr : meth.sig.returnType = ret) (hX0 : va_X sb L xs s s.heap) (hsb : sb < s.heap.size) (hbb : b = s.heap.size) (hL : L ≤ 3072) {nc ns : Nat} (hc : nc ≤ 600000) (hs : ns ≤ 7302250) {i : Int32} (h0 : 0 ≤ i.toInt) (h6 : i.toInt + 6 ≤ L) {S : zS} (hI : jI S) (ih : ∀ S' : zS, jI S' → Zw p l e room_1 s m #[Value.ref sb] below meth c G b 4 (lw_Z below #[Value.ref sb] s) nc ns 18 [some (.ref (1000000 + sb)), some (.ref 0), some (.ref 200), some (.int (i + 6))] [] S') : Zw p l e room_1 s m #[Value.ref sb] below meth c G b 4 (lw_Z below #[Value.ref sb] s) nc ns 1286 [some (.ref (1000000 + sb)), some (.ref 0), some (.ref 200), some (.int i)] [] S := by
  have i1 : vp_in (i + 1) L := law_ix hL h0 h6 (by decide) (by decide)
  have i2 : vp_in (i + 2) L := law_ix hL h0 h6 (by decide) (by decide)
  have i3 : vp_in (i + 3) L := law_ix hL h0 h6 (by decide) (by decide)
  have i4 : vp_in (i + 4) L := law_ix hL h0 h6 (by decide) (by decide)
  have i5 : vp_in (i + 5) L := law_ix hL h0 h6 (by decide) (by decide)
  refine a_aload_n X dL_law_1286 rfl ?_
  refine a_aload_n X dL_law_1287 rfl ?_
  refine a_iload_n X dL_law_1288 rfl ?_
  refine a_iconst (v := 1) X dL_law_1289 (by decide) ?_
  refine a_iadd X dL_law_1290 ?_
  refine a_sld X hX0 hsb hbb (i1) dL_law_1291 ?_
  refine a_callVx X dL_law_1292 miX7_likes lmL_156 (f_likes hI) (hI.1.2.1) rfl rfl rfl (Nat.le_of_ble_eq_true rfl) ⟨by decide, by decide, hc, hs⟩ (fun r_1292 S_1292 q_1292 => ?_)
  obtain ⟨⟨v_1292, rfl⟩, h_1292⟩ := q_1292
  refine a_pop X dL_law_1295 rfl ?_
  refine a_aload_n X dL_law_1296 rfl ?_
  refine a_aload_n X dL_law_1297 rfl ?_
  refine a_iload_n X dL_law_1298 rfl ?_
  refine a_iconst (v := 1) X dL_law_1299 (by decide) ?_
  refine a_iadd X dL_law_1300 ?_
  refine a_sld X hX0 hsb hbb (i1) dL_law_1301 ?_
  refine a_callVx X dL_law_1302 miX8_likes lmL_159 (m_likes h_1292) (h_1292.2.1.2.1) rfl rfl rfl (Nat.le_of_ble_eq_true rfl) ⟨by decide, by decide, hc, hs⟩ (fun r_1302 S_1302 q_1302 => ?_)
  obtain ⟨⟨v_1302, rfl⟩, h_1302⟩ := q_1302
  refine a_pop X dL_law_1305 rfl ?_
  refine a_goto (tgt := 1731) X dL_law_1306 (by decide) ?_
  exact law_K X hr hX0 hsb hbb h_1302 ih
set_option maxRecDepth 100000 in
set_option maxHeartbeats 8000000 in
theorem law_c35 {p : Program} {l : Launch} {e : Env} {s : State} {m : MethodId} {below : List Frame} {meth : Method} {c : Code} {G : zG} {b sb L : Nat} {xs : Nat → Int32} (X : zOK p s m #[Value.ref sb] meth c G b R_law code 4) (hr : meth.sig.returnType = ret) (hX0 : va_X sb L xs s s.heap) (hsb : sb < s.heap.size) (hbb : b = s.heap.size) (hL : L ≤ 3072) {nc ns : Nat} (hc : nc ≤ 600000) (hs : ns ≤ 7302250) {i : Int32} (h0 : 0 ≤ i.toInt) (h6 : i.toInt + 6 ≤ L) {S : zS} (hI : jI S) (ih : ∀ S' : zS, jI S' → Zw p l e room_1 s m #[Value.ref sb] below meth c G b 4 (lw_Z below #[Value.ref sb] s) nc ns 18 [some (.ref (1000000 + sb)), some (.ref 0), some (.ref 200), some (.int (i + 6))] [] S') : Zw p l e room_1 s m #[Value.ref sb] below meth c G b 4 (lw_Z below #[Value.ref sb] s) nc ns 1309 [some (.ref (1000000 + sb)), some (.ref 0), some (.ref 200), some (.int i)] [] S := by
  have i1 : vp_in (i + 1) L := law_ix hL h0 h6 (by decide) (by decide)
  have i2 : vp_in (i + 2) L := law_ix hL h0 h6 (by decide) (by decide)
  have i3 : vp_in (i + 3) L := law_ix hL h0 h6 (by decide) (by decide)
  have i4 : vp_in (i + 4) L := law_ix hL h0 h6 (by decide) (by decide)
  have i5 : vp_in (i + 5) L := law_ix hL h0 h6 (by decide) (by decide)
  refine a_aload_n X dL_law_1309 rfl ?_
  refine a_aload_n X dL_law_1310 rfl ?_
  refine a_iload_n X dL_law_1311 rfl ?_
  refine a_iconst (v := 1) X dL_law_1312 (by decide) ?_
  refine a_iadd X dL_law_1313 ?_
  refine a_sld X hX0 hsb hbb (i1) dL_law_1314 ?_
  refine a_aload_n X dL_law_1315 rfl ?_
  refine a_iload_n X dL_law_1316 rfl ?_
  refine a_iconst (v := 2) X dL_law_1317 (by decide) ?_
  refine a_iadd X dL_law_1318 ?_
  refine a_sld X hX0 hsb hbb (i2) dL_law_1319 ?_
  refine a_aload_n X dL_law_1320 rfl ?_
  refine a_iload_n X dL_law_1321 rfl ?_
  refine a_iconst (v := 3) X dL_law_1322 (by decide) ?_
  refine a_iadd X dL_law_1323 ?_
  refine a_sld X hX0 hsb hbb (i3) dL_law_1324 ?_
  refine a_callVx X dL_law_1325 miX7_years lmL_160 (f_years hI) (hI.1.2.1) rfl rfl rfl (Nat.le_of_ble_eq_true rfl) ⟨by decide, by decide, hc, hs⟩ (fun r_1325 S_1325 q_1325 => ?_)
  obtain ⟨⟨v_1325, rfl⟩, h_1325⟩ := q_1325
  refine a_pop X dL_law_1328 rfl ?_
  refine a_aload_n X dL_law_1329 rfl ?_
  refine a_aload_n X dL_law_1330 rfl ?_
  refine a_iload_n X dL_law_1331 rfl ?_
  refine a_iconst (v := 1) X dL_law_1332 (by decide) ?_
  refine a_iadd X dL_law_1333 ?_
  refine a_sld X hX0 hsb hbb (i1) dL_law_1334 ?_
  refine a_aload_n X dL_law_1335 rfl ?_
  refine a_iload_n X dL_law_1336 rfl ?_
  refine a_iconst (v := 2) X dL_law_1337 (by decide) ?_
  refine a_iadd X dL_law_1338 ?_
  refine a_sld X hX0 hsb hbb (i2) dL_law_1339 ?_
  refine a_aload_n X dL_law_1340 rfl ?_
  refine a_iload_n X dL_law_1341 rfl ?_
  refine a_iconst (v := 3) X dL_law_1342 (by decide) ?_
  refine a_iadd X dL_law_1343 ?_
  refine a_sld X hX0 hsb hbb (i3) dL_law_1344 ?_
  refine a_callVx X dL_law_1345 miX8_years lmL_163 (m_years h_1325) (h_1325.2.1.2.1) rfl rfl rfl (Nat.le_of_ble_eq_true rfl) ⟨by decide, by decide, hc, hs⟩ (fun r_1345 S_1345 q_1345 => ?_)
  obtain ⟨⟨v_1345, rfl⟩, h_1345⟩ := q_1345
  refine a_pop X dL_law_1348 rfl ?_
  refine a_goto (tgt := 1731) X dL_law_1349 (by decide) ?_
  exact law_K X hr hX0 hsb hbb h_1345 ih
set_option maxRecDepth 100000 in
set_option maxHeartbeats 8000000 in
theorem law_c36 {p : Program} {l : Launch} {e : Env} {s : State} {m : MethodId} {below : List Frame} {meth : Method} {c : Code} {G : zG} {b sb L : Nat} {xs : Nat → Int32} (X : zOK p s m #[Value.ref sb] meth c G b R_law code 4) (hr : meth.sig.returnType = ret) (hX0 : va_X sb L xs s s.heap) (hsb : sb < s.heap.size) (hbb : b = s.heap.size) (hL : L ≤ 3072) {nc ns : Nat} (hc : nc ≤ 600000) (hs : ns ≤ 7302250) {i : Int32} (h0 : 0 ≤ i.toInt) (h6 : i.toInt + 6 ≤ L) {S : zS} (hI : jI S) (ih : ∀ S' : zS, jI S' → Zw p l e room_1 s m #[Value.ref sb] below meth c G b 4 (lw_Z below #[Value.ref sb] s) nc ns 18 [some (.ref (1000000 + sb)), some (.ref 0), some (.ref 200), some (.int (i + 6))] [] S') : Zw p l e room_1 s m #[Value.ref sb] below meth c G b 4 (lw_Z below #[Value.ref sb] s) nc ns 1352 [some (.ref (1000000 + sb)), some (.ref 0), some (.ref 200), some (.int i)] [] S := by
  have i1 : vp_in (i + 1) L := law_ix hL h0 h6 (by decide) (by decide)
  have i2 : vp_in (i + 2) L := law_ix hL h0 h6 (by decide) (by decide)
  have i3 : vp_in (i + 3) L := law_ix hL h0 h6 (by decide) (by decide)
  have i4 : vp_in (i + 4) L := law_ix hL h0 h6 (by decide) (by decide)
  have i5 : vp_in (i + 5) L := law_ix hL h0 h6 (by decide) (by decide)
  refine a_aload_n X dL_law_1352 rfl ?_
  refine a_aload_n X dL_law_1353 rfl ?_
  refine a_iload_n X dL_law_1354 rfl ?_
  refine a_iconst (v := 1) X dL_law_1355 (by decide) ?_
  refine a_iadd X dL_law_1356 ?_
  refine a_sld X hX0 hsb hbb (i1) dL_law_1357 ?_
  refine a_aload_n X dL_law_1358 rfl ?_
  refine a_iload_n X dL_law_1359 rfl ?_
  refine a_iconst (v := 2) X dL_law_1360 (by decide) ?_
  refine a_iadd X dL_law_1361 ?_
  refine a_sld X hX0 hsb hbb (i2) dL_law_1362 ?_
  refine a_aload_n X dL_law_1363 rfl ?_
  refine a_iload_n X dL_law_1364 rfl ?_
  refine a_iconst (v := 3) X dL_law_1365 (by decide) ?_
  refine a_iadd X dL_law_1366 ?_
  refine a_sld X hX0 hsb hbb (i3) dL_law_1367 ?_
  refine a_callVx X dL_law_1368 miX7_often lmL_164 (f_often hI) (hI.1.2.1) rfl rfl rfl (Nat.le_of_ble_eq_true rfl) ⟨by decide, by decide, hc, hs⟩ (fun r_1368 S_1368 q_1368 => ?_)
  obtain ⟨⟨v_1368, rfl⟩, h_1368⟩ := q_1368
  refine a_pop X dL_law_1371 rfl ?_
  refine a_aload_n X dL_law_1372 rfl ?_
  refine a_aload_n X dL_law_1373 rfl ?_
  refine a_iload_n X dL_law_1374 rfl ?_
  refine a_iconst (v := 1) X dL_law_1375 (by decide) ?_
  refine a_iadd X dL_law_1376 ?_
  refine a_sld X hX0 hsb hbb (i1) dL_law_1377 ?_
  refine a_aload_n X dL_law_1378 rfl ?_
  refine a_iload_n X dL_law_1379 rfl ?_
  refine a_iconst (v := 2) X dL_law_1380 (by decide) ?_
  refine a_iadd X dL_law_1381 ?_
  refine a_sld X hX0 hsb hbb (i2) dL_law_1382 ?_
  refine a_aload_n X dL_law_1383 rfl ?_
  refine a_iload_n X dL_law_1384 rfl ?_
  refine a_iconst (v := 3) X dL_law_1385 (by decide) ?_
  refine a_iadd X dL_law_1386 ?_
  refine a_sld X hX0 hsb hbb (i3) dL_law_1387 ?_
  refine a_callVx X dL_law_1388 miX8_often lmL_167 (m_often h_1368) (h_1368.2.1.2.1) rfl rfl rfl (Nat.le_of_ble_eq_true rfl) ⟨by decide, by decide, hc, hs⟩ (fun r_1388 S_1388 q_1388 => ?_)
  obtain ⟨⟨v_1388, rfl⟩, h_1388⟩ := q_1388
  refine a_pop X dL_law_1391 rfl ?_
  refine a_goto (tgt := 1731) X dL_law_1392 (by decide) ?_
  exact law_K X hr hX0 hsb hbb h_1388 ih
set_option maxRecDepth 100000 in
set_option maxHeartbeats 8000000 in
theorem law_c37 {p : Program} {l : Launch} {e : Env} {s : State} {m : MethodId} {below : List Frame} {meth : Method} {c : Code} {G : zG} {b sb L : Nat} {xs : Nat → Int32} (X : zOK p s m #[Value.ref sb] meth c G b R_law code 4) (hr : meth.sig.returnType = ret) (hX0 : va_X sb L xs s s.heap) (hsb : sb < s.heap.size) (hbb : b = s.heap.size) (hL : L ≤ 3072) {nc ns : Nat} (hc : nc ≤ 600000) (hs : ns ≤ 7302250) {i : Int32} (h0 : 0 ≤ i.toInt) (h6 : i.toInt + 6 ≤ L) {S : zS} (hI : jI S) (ih : ∀ S' : zS, jI S' → Zw p l e room_1 s m #[Value.ref sb] below meth c G b 4 (lw_Z below #[Value.ref sb] s) nc ns 18 [some (.ref (1000000 + sb)), some (.ref 0), some (.ref 200), some (.int (i + 6))] [] S') : Zw p l e room_1 s m #[Value.ref sb] below meth c G b 4 (lw_Z below #[Value.ref sb] s) nc ns 1395 [some (.ref (1000000 + sb)), some (.ref 0), some (.ref 200), some (.int i)] [] S := by
  have i1 : vp_in (i + 1) L := law_ix hL h0 h6 (by decide) (by decide)
  have i2 : vp_in (i + 2) L := law_ix hL h0 h6 (by decide) (by decide)
  have i3 : vp_in (i + 3) L := law_ix hL h0 h6 (by decide) (by decide)
  have i4 : vp_in (i + 4) L := law_ix hL h0 h6 (by decide) (by decide)
  have i5 : vp_in (i + 5) L := law_ix hL h0 h6 (by decide) (by decide)
  refine a_aload_n X dL_law_1395 rfl ?_
  refine a_aload_n X dL_law_1396 rfl ?_
  refine a_iload_n X dL_law_1397 rfl ?_
  refine a_iconst (v := 1) X dL_law_1398 (by decide) ?_
  refine a_iadd X dL_law_1399 ?_
  refine a_sld X hX0 hsb hbb (i1) dL_law_1400 ?_
  refine a_aload_n X dL_law_1401 rfl ?_
  refine a_iload_n X dL_law_1402 rfl ?_
  refine a_iconst (v := 2) X dL_law_1403 (by decide) ?_
  refine a_iadd X dL_law_1404 ?_
  refine a_sld X hX0 hsb hbb (i2) dL_law_1405 ?_
  refine a_aload_n X dL_law_1406 rfl ?_
  refine a_iload_n X dL_law_1407 rfl ?_
  refine a_iconst (v := 3) X dL_law_1408 (by decide) ?_
  refine a_iadd X dL_law_1409 ?_
  refine a_sld X hX0 hsb hbb (i3) dL_law_1410 ?_
  refine a_callVx X dL_law_1411 miX7_soonest lmL_168 (f_soonest hI) (hI.1.2.1) rfl rfl rfl (Nat.le_of_ble_eq_true rfl) ⟨by decide, by decide, hc, hs⟩ (fun r_1411 S_1411 q_1411 => ?_)
  obtain ⟨⟨v_1411, rfl⟩, h_1411⟩ := q_1411
  refine a_pop X dL_law_1414 rfl ?_
  refine a_aload_n X dL_law_1415 rfl ?_
  refine a_aload_n X dL_law_1416 rfl ?_
  refine a_iload_n X dL_law_1417 rfl ?_
  refine a_iconst (v := 1) X dL_law_1418 (by decide) ?_
  refine a_iadd X dL_law_1419 ?_
  refine a_sld X hX0 hsb hbb (i1) dL_law_1420 ?_
  refine a_aload_n X dL_law_1421 rfl ?_
  refine a_iload_n X dL_law_1422 rfl ?_
  refine a_iconst (v := 2) X dL_law_1423 (by decide) ?_
  refine a_iadd X dL_law_1424 ?_
  refine a_sld X hX0 hsb hbb (i2) dL_law_1425 ?_
  refine a_aload_n X dL_law_1426 rfl ?_
  refine a_iload_n X dL_law_1427 rfl ?_
  refine a_iconst (v := 3) X dL_law_1428 (by decide) ?_
  refine a_iadd X dL_law_1429 ?_
  refine a_sld X hX0 hsb hbb (i3) dL_law_1430 ?_
  refine a_callVx X dL_law_1431 miX8_soonest lmL_171 (m_soonest h_1411) (h_1411.2.1.2.1) rfl rfl rfl (Nat.le_of_ble_eq_true rfl) ⟨by decide, by decide, hc, hs⟩ (fun r_1431 S_1431 q_1431 => ?_)
  obtain ⟨⟨v_1431, rfl⟩, h_1431⟩ := q_1431
  refine a_pop X dL_law_1434 rfl ?_
  refine a_goto (tgt := 1731) X dL_law_1435 (by decide) ?_
  exact law_K X hr hX0 hsb hbb h_1431 ih
set_option maxRecDepth 100000 in
set_option maxHeartbeats 8000000 in
theorem law_c38 {p : Program} {l : Launch} {e : Env} {s : State} {m : MethodId} {below : List Frame} {meth : Method} {c : Code} {G : zG} {b sb L : Nat} {xs : Nat → Int32} (X : zOK p s m #[Value.ref sb] meth c G b R_law code 4) (hr : meth.sig.returnType = ret) (hX0 : va_X sb L xs s s.heap) (hsb : sb < s.heap.size) (hbb : b = s.heap.size) (hL : L ≤ 3072) {nc ns : Nat} (hc : nc ≤ 600000) (hs : ns ≤ 7302250) {i : Int32} (h0 : 0 ≤ i.toInt) (h6 : i.toInt + 6 ≤ L) {S : zS} (hI : jI S) (ih : ∀ S' : zS, jI S' → Zw p l e room_1 s m #[Value.ref sb] below meth c G b 4 (lw_Z below #[Value.ref sb] s) nc ns 18 [some (.ref (1000000 + sb)), some (.ref 0), some (.ref 200), some (.int (i + 6))] [] S') : Zw p l e room_1 s m #[Value.ref sb] below meth c G b 4 (lw_Z below #[Value.ref sb] s) nc ns 1438 [some (.ref (1000000 + sb)), some (.ref 0), some (.ref 200), some (.int i)] [] S := by
  have i1 : vp_in (i + 1) L := law_ix hL h0 h6 (by decide) (by decide)
  have i2 : vp_in (i + 2) L := law_ix hL h0 h6 (by decide) (by decide)
  have i3 : vp_in (i + 3) L := law_ix hL h0 h6 (by decide) (by decide)
  have i4 : vp_in (i + 4) L := law_ix hL h0 h6 (by decide) (by decide)
  have i5 : vp_in (i + 5) L := law_ix hL h0 h6 (by decide) (by decide)
  refine a_aload_n X dL_law_1438 rfl ?_
  refine a_aload_n X dL_law_1439 rfl ?_
  refine a_iload_n X dL_law_1440 rfl ?_
  refine a_iconst (v := 1) X dL_law_1441 (by decide) ?_
  refine a_iadd X dL_law_1442 ?_
  refine a_sld X hX0 hsb hbb (i1) dL_law_1443 ?_
  refine a_callVx X dL_law_1444 miX7_draw lmL_172 (f_draw hI) (hI.1.2.1) rfl rfl rfl (Nat.le_of_ble_eq_true rfl) ⟨by decide, by decide, hc, hs⟩ (fun r_1444 S_1444 q_1444 => ?_)
  obtain ⟨e_1444, he_1444, rfl, rfl⟩ := q_1444
  refine a_pop X dL_law_1447 rfl ?_
  refine a_aload_n X dL_law_1448 rfl ?_
  refine a_aload_n X dL_law_1449 rfl ?_
  refine a_iload_n X dL_law_1450 rfl ?_
  refine a_iconst (v := 1) X dL_law_1451 (by decide) ?_
  refine a_iadd X dL_law_1452 ?_
  refine a_sld X hX0 hsb hbb (i1) dL_law_1453 ?_
  refine a_callVx X dL_law_1454 miX8_draw lmL_175 (m_draw hI he_1444) (hI.2.1.2.1) rfl rfl rfl (Nat.le_of_ble_eq_true rfl) ⟨by decide, by decide, hc, hs⟩ (fun r_1454 S_1454 q_1454 => ?_)
  obtain ⟨rfl, h_1454⟩ := q_1454
  refine a_pop X dL_law_1457 rfl ?_
  refine a_goto (tgt := 1731) X dL_law_1458 (by decide) ?_
  exact law_K X hr hX0 hsb hbb h_1454 ih
