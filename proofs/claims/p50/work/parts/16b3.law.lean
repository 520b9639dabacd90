set_option maxRecDepth 100000 in
set_option maxHeartbeats 8000000 in
theorem law_c39 {p : Program} {l : Launch} {e : Env} {s : State} {m : MethodId} {below : List Frame} {meth : Method} {c : Code} {G : zG} {b sb L : Nat} {xs : Nat → Int32} (X : zOK p s m #[Value.ref sb] meth c G b R_law code 4) (hr : meth.sig.returnType = ret) (hX0 : va_X sb L xs s s.heap) (hsb : sb < s.heap.size) (hbb : b = s.heap.size) (hL : L ≤ 3072) {nc ns : Nat} (hc : nc ≤ 600000) (hs : ns ≤ 7302250) {i : Int32} (h0 : 0 ≤ i.toInt) (h6 : i.toInt + 6 ≤ L) {S : zS} (hI : jI S) (ih : ∀ S' : zS, jI S' → Zw p l e room_1 s m #[Value.ref sb] below meth c G b 4 (lw_Z below #[Value.ref sb] s) nc ns 18 [some (.ref (1000000 + sb)), some (.ref 0), some (.ref 200), some (.int (i + 6))] [] S') : Zw p l e room_1 s m #[Value.ref sb] below meth c G b 4 (lw_Z below #[Value.ref sb] s) nc ns 1461 [some (.ref (1000000 + sb)), some (.ref 0), some (.ref 200), some (.int i)] [] S := by
  have i1 : vp_in (i + 1) L := law_ix hL h0 h6 (by decide) (by decide)
  have i2 : vp_in (i + 2) L := law_ix hL h0 h6 (by decide) (by decide)
  have i3 : vp_in (i + 3) L := law_ix hL h0 h6 (by decide) (by decide)
  have i4 : vp_in (i + 4) L := law_ix hL h0 h6 (by decide) (by decide)
  have i5 : vp_in (i + 5) L := law_ix hL h0 h6 (by decide) (by decide)
  refine a_aload_n X dL_law_1461 rfl ?_
  refine a_aload_n X dL_law_1462 rfl ?_
  refine a_iload_n X dL_law_1463 rfl ?_
  refine a_iconst (v := 1) X dL_law_1464 (by decide) ?_
  refine a_iadd X dL_law_1465 ?_
  refine a_sld X hX0 hsb hbb (i1) dL_law_1466 ?_
  refine a_aload_n X dL_law_1467 rfl ?_
  refine a_iload_n X dL_law_1468 rfl ?_
  refine a_iconst (v := 2) X dL_law_1469 (by decide) ?_
  refine a_iadd X dL_law_1470 ?_
  refine a_sld X hX0 hsb hbb (i2) dL_law_1471 ?_
  refine a_callVx X dL_law_1472 miX7_points lmL_176 (f_points hI) (hI.1.2.1) rfl rfl rfl (Nat.le_of_ble_eq_true rfl) ⟨by decide, by decide, hc, hs⟩ (fun r_1472 S_1472 q_1472 => ?_)
  obtain ⟨e_1472, he_1472, rfl, rfl⟩ := q_1472
  refine a_pop X dL_law_1475 rfl ?_
  refine a_aload_n X dL_law_1476 rfl ?_
  refine a_aload_n X dL_law_1477 rfl ?_
  refine a_iload_n X dL_law_1478 rfl ?_
  refine a_iconst (v := 1) X dL_law_1479 (by decide) ?_
  refine a_iadd X dL_law_1480 ?_
  refine a_sld X hX0 hsb hbb (i1) dL_law_1481 ?_
  refine a_aload_n X dL_law_1482 rfl ?_
  refine a_iload_n X dL_law_1483 rfl ?_
  refine a_iconst (v := 2) X dL_law_1484 (by decide) ?_
  refine a_iadd X dL_law_1485 ?_
  refine a_sld X hX0 hsb hbb (i2) dL_law_1486 ?_
  refine a_callVx X dL_law_1487 miX8_points lmL_179 (m_points hI he_1472) (hI.2.1.2.1) rfl rfl rfl (Nat.le_of_ble_eq_true rfl) ⟨by decide, by decide, hc, hs⟩ (fun r_1487 S_1487 q_1487 => ?_)
  obtain ⟨rfl, h_1487⟩ := q_1487
  refine a_pop X dL_law_1490 rfl ?_
  refine a_goto (tgt := 1731) X dL_law_1491 (by decide) ?_
  exact law_K X hr hX0 hsb hbb h_1487 ih
set_option maxRecDepth 100000 in
set_option maxHeartbeats 8000000 in
theorem law_c40 {p : Program} {l : Launch} {e : Env} {s : State} {m : MethodId} {below : List Frame} {meth : Method} {c : Code} {G : zG} {b sb L : Nat} {xs : Nat → Int32} (X : zOK p s m #[Value.ref sb] meth c G b R_law code 4) (hr : meth.sig.returnType = ret) (hX0 : va_X sb L xs s s.heap) (hsb : sb < s.heap.size) (hbb : b = s.heap.size) (hL : L ≤ 3072) {nc ns : Nat} (hc : nc ≤ 600000) (hs : ns ≤ 7302250) {i : Int32} (h0 : 0 ≤ i.toInt) (h6 : i.toInt + 6 ≤ L) {S : zS} (hI : jI S) (ih : ∀ S' : zS, jI S' → Zw p l e room_1 s m #[Value.ref sb] below meth c G b 4 (lw_Z below #[Value.ref sb] s) nc ns 18 [some (.ref (1000000 + sb)), some (.ref 0), some (.ref 200), some (.int (i + 6))] [] S') : Zw p l e room_1 s m #[Value.ref sb] below meth c G b 4 (lw_Z below #[Value.ref sb] s) nc ns 1494 [some (.ref (1000000 + sb)), some (.ref 0), some (.ref 200), some (.int i)] [] S := by
  have i1 : vp_in (i + 1) L := law_ix hL h0 h6 (by decide) (by decide)
  have i2 : vp_in (i + 2) L := law_ix hL h0 h6 (by decide) (by decide)
  have i3 : vp_in (i + 3) L := law_ix hL h0 h6 (by decide) (by decide)
  have i4 : vp_in (i + 4) L := law_ix hL h0 h6 (by decide) (by decide)
  have i5 : vp_in (i + 5) L := law_ix hL h0 h6 (by decide) (by decide)
  refine a_aload_n X dL_law_1494 rfl ?_
  refine a_aload_n X dL_law_1495 rfl ?_
  refine a_iload_n X dL_law_1496 rfl ?_
  refine a_iconst (v := 1) X dL_law_1497 (by decide) ?_
  refine a_iadd X dL_law_1498 ?_
  refine a_sld X hX0 hsb hbb (i1) dL_law_1499 ?_
  refine a_aload_n X dL_law_1500 rfl ?_
  refine a_iload_n X dL_law_1501 rfl ?_
  refine a_iconst (v := 2) X dL_law_1502 (by decide) ?_
  refine a_iadd X dL_law_1503 ?_
  refine a_sld X hX0 hsb hbb (i2) dL_law_1504 ?_
  refine a_callVx X dL_law_1505 miX7_quota lmL_180 (f_quota hI) (hI.1.2.1) rfl rfl rfl (Nat.le_of_ble_eq_true rfl) ⟨by decide, by decide, hc, hs⟩ (fun r_1505 S_1505 q_1505 => ?_)
  obtain ⟨e_1505, he_1505, rfl, rfl⟩ := q_1505
  refine a_pop X dL_law_1508 rfl ?_
  refine a_aload_n X dL_law_1509 rfl ?_
  refine a_aload_n X dL_law_1510 rfl ?_
  refine a_iload_n X dL_law_1511 rfl ?_
  refine a_iconst (v := 1) X dL_law_1512 (by decide) ?_
  refine a_iadd X dL_law_1513 ?_
  refine a_sld X hX0 hsb hbb (i1) dL_law_1514 ?_
  refine a_aload_n X dL_law_1515 rfl ?_
  refine a_iload_n X dL_law_1516 rfl ?_
  refine a_iconst (v := 2) X dL_law_1517 (by decide) ?_
  refine a_iadd X dL_law_1518 ?_
  refine a_sld X hX0 hsb hbb (i2) dL_law_1519 ?_
  refine a_callVx X dL_law_1520 miX8_quota lmL_183 (m_quota hI he_1505) (hI.2.1.2.1) rfl rfl rfl (Nat.le_of_ble_eq_true rfl) ⟨by decide, by decide, hc, hs⟩ (fun r_1520 S_1520 q_1520 => ?_)
  obtain ⟨rfl, h_1520⟩ := q_1520
  refine a_pop X dL_law_1523 rfl ?_
  refine a_goto (tgt := 1731) X dL_law_1524 (by decide) ?_
  exact law_K X hr hX0 hsb hbb h_1520 ih
set_option maxRecDepth 100000 in
set_option maxHeartbeats 8000000 in
theorem law_c41 {p : Program} {l : Launch} {e : Env} {s : State} {m : MethodId} {below : List Frame} {meth : Method} {c : Code} {G : zG} {b sb L : Nat} {xs : Nat → Int32} (X : zOK p s m #[Value.ref sb] meth c G b R_law code 4) (hr : meth.sig.returnType = ret) (hX0 : va_X sb L xs s s.heap) (hsb : sb < s.heap.size) (hbb : b = s.heap.size) (hL : L ≤ 3072) {nc ns : Nat} (hc : nc ≤ 600000) (hs : ns ≤ 7302250) {i : Int32} (h0 : 0 ≤ i.toInt) (h6 : i.toInt + 6 ≤ L) {S : zS} (hI : jI S) (ih : ∀ S' : zS, jI S' → Zw p l e room_1 s m #[Value.ref sb] below meth c G b 4 (lw_Z below #[Value.ref sb] s) nc ns 18 [some (.ref (1000000 + sb)), some (.ref 0), some (.ref 200), some (.int (i + 6))] [] S') : Zw p l e room_1 s m #[Value.ref sb] below meth c G b 4 (lw_Z below #[Value.ref sb] s) nc ns 1527 [some (.ref (1000000 + sb)), some (.ref 0), some (.ref 200), some (.int i)] [] S := by
  have i1 : vp_in (i + 1) L := law_ix hL h0 h6 (by decide) (by decide)
  have i2 : vp_in (i + 2) L := law_ix hL h0 h6 (by decide) (by decide)
  have i3 : vp_in (i + 3) L := law_ix hL h0 h6 (by decide) (by decide)
  have i4 : vp_in (i + 4) L := law_ix hL h0 h6 (by decide) (by decide)
  have i5 : vp_in (i + 5) L := law_ix hL h0 h6 (by decide) (by decide)
  refine a_aload_n X dL_law_1527 rfl ?_
  refine a_aload_n X dL_law_1528 rfl ?_
  refine a_iload_n X dL_law_1529 rfl ?_
  refine a_iconst (v := 1) X dL_law_1530 (by decide) ?_
  refine a_iadd X dL_law_1531 ?_
  refine a_sld X hX0 hsb hbb (i1) dL_law_1532 ?_
  refine a_aload_n X dL_law_1533 rfl ?_
  refine a_iload_n X dL_law_1534 rfl ?_
  refine a_iconst (v := 2) X dL_law_1535 (by decide) ?_
  refine a_iadd X dL_law_1536 ?_
  refine a_sld X hX0 hsb hbb (i2) dL_law_1537 ?_
  refine a_aload_n X dL_law_1538 rfl ?_
  refine a_iload_n X dL_law_1539 rfl ?_
  refine a_iconst (v := 3) X dL_law_1540 (by decide) ?_
  refine a_iadd X dL_law_1541 ?_
  refine a_sld X hX0 hsb hbb (i3) dL_law_1542 ?_
  refine a_aload_n X dL_law_1543 rfl ?_
  refine a_iload_n X dL_law_1544 rfl ?_
  refine a_iconst (v := 4) X dL_law_1545 (by decide) ?_
  refine a_iadd X dL_law_1546 ?_
  refine a_sld X hX0 hsb hbb (i4) dL_law_1547 ?_
  refine a_callVx X dL_law_1548 miX7_choose lmL_184 (f_choose hI) (hI.1.2.1) rfl rfl rfl (Nat.le_of_ble_eq_true rfl) ⟨by decide, by decide, hc, hs⟩ (fun r_1548 S_1548 q_1548 => ?_)
  obtain ⟨e_1548, he_1548, rfl, rfl⟩ := q_1548
  refine a_pop X dL_law_1551 rfl ?_
  refine a_aload_n X dL_law_1552 rfl ?_
  refine a_aload_n X dL_law_1553 rfl ?_
  refine a_iload_n X dL_law_1554 rfl ?_
  refine a_iconst (v := 1) X dL_law_1555 (by decide) ?_
  refine a_iadd X dL_law_1556 ?_
  refine a_sld X hX0 hsb hbb (i1) dL_law_1557 ?_
  refine a_aload_n X dL_law_1558 rfl ?_
  refine a_iload_n X dL_law_1559 rfl ?_
  refine a_iconst (v := 2) X dL_law_1560 (by decide) ?_
  refine a_iadd X dL_law_1561 ?_
  refine a_sld X hX0 hsb hbb (i2) dL_law_1562 ?_
  refine a_aload_n X dL_law_1563 rfl ?_
  refine a_iload_n X dL_law_1564 rfl ?_
  refine a_iconst (v := 3) X dL_law_1565 (by decide) ?_
  refine a_iadd X dL_law_1566 ?_
  refine a_sld X hX0 hsb hbb (i3) dL_law_1567 ?_
  refine a_aload_n X dL_law_1568 rfl ?_
  refine a_iload_n X dL_law_1569 rfl ?_
  refine a_iconst (v := 4) X dL_law_1570 (by decide) ?_
  refine a_iadd X dL_law_1571 ?_
  refine a_sld X hX0 hsb hbb (i4) dL_law_1572 ?_
  refine a_callVx X dL_law_1573 miX8_choose lmL_188 (m_choose hI he_1548) (hI.2.1.2.1) rfl rfl rfl (Nat.le_of_ble_eq_true rfl) ⟨by decide, by decide, hc, hs⟩ (fun r_1573 S_1573 q_1573 => ?_)
  obtain ⟨rfl, h_1573⟩ := q_1573
  refine a_pop X dL_law_1576 rfl ?_
  refine a_goto (tgt := 1731) X dL_law_1577 (by decide) ?_
  exact law_K X hr hX0 hsb hbb h_1573 ih
set_option maxRecDepth 100000 in
set_option maxHeartbeats 8000000 in
theorem law_c42 {p : Program} {l : Launch} {e : Env} {s : State} {m : MethodId} {below : List Frame} {meth : Method} {c : Code} {G : zG} {b sb L : Nat} {xs : Nat → Int32} (X : zOK p s m #[Value.ref sb] meth c G b R_law code 4) (hr : meth.sig.returnType = ret) (hX0 : va_X sb L xs s s.heap) (hsb : sb < s.heap.size) (hbb : b = s.heap.size) (hL : L ≤ 3072) {nc ns : Nat} (hc : nc ≤ 600000) (hs : ns ≤ 7302250) {i : Int32} (h0 : 0 ≤ i.toInt) (h6 : i.toInt + 6 ≤ L) {S : zS} (hI : jI S) (ih : ∀ S' : zS, jI S' → Zw p l e room_1 s m #[Value.ref sb] below meth c G b 4 (lw_Z below #[Value.ref sb] s) nc ns 18 [some (.ref (1000000 + sb)), some (.ref 0), some (.ref 200), some (.int (i + 6))] [] S') : Zw p l e room_1 s m #[Value.ref sb] below meth c G b 4 (lw_Z below #[Value.ref sb] s) nc ns 1580 [some (.ref (1000000 + sb)), some (.ref 0), some (.ref 200), some (.int i)] [] S := by
  have i1 : vp_in (i + 1) L := law_ix hL h0 h6 (by decide) (by decide)
  have i2 : vp_in (i + 2) L := law_ix hL h0 h6 (by decide) (by decide)
  have i3 : vp_in (i + 3) L := law_ix hL h0 h6 (by decide) (by decide)
  have i4 : vp_in (i + 4) L := law_ix hL h0 h6 (by decide) (by decide)
  have i5 : vp_in (i + 5) L := law_ix hL h0 h6 (by decide) (by decide)
  refine a_aload_n X dL_law_1580 rfl ?_
  refine a_aload_n X dL_law_1581 rfl ?_
  refine a_iload_n X dL_law_1582 rfl ?_
  refine a_iconst (v := 1) X dL_law_1583 (by decide) ?_
  refine a_iadd X dL_law_1584 ?_
  refine a_sld X hX0 hsb hbb (i1) dL_law_1585 ?_
  refine a_callVx X dL_law_1586 miX7_law lmL_189 (f_law hI) (hI.1.2.1) rfl rfl rfl (Nat.le_of_ble_eq_true rfl) ⟨by decide, by decide, hc, hs⟩ (fun r_1586 S_1586 q_1586 => ?_)
  obtain ⟨e_1586, he_1586, rfl, rfl⟩ := q_1586
  refine a_pop X dL_law_1589 rfl ?_
  refine a_aload_n X dL_law_1590 rfl ?_
  refine a_aload_n X dL_law_1591 rfl ?_
  refine a_iload_n X dL_law_1592 rfl ?_
  refine a_iconst (v := 1) X dL_law_1593 (by decide) ?_
  refine a_iadd X dL_law_1594 ?_
  refine a_sld X hX0 hsb hbb (i1) dL_law_1595 ?_
  refine a_callVx X dL_law_1596 miX8_law lmL_192 (m_law hI he_1586) (hI.2.1.2.1) rfl rfl rfl (Nat.le_of_ble_eq_true rfl) ⟨by decide, by decide, hc, hs⟩ (fun r_1596 S_1596 q_1596 => ?_)
  obtain ⟨rfl, h_1596⟩ := q_1596
  refine a_pop X dL_law_1599 rfl ?_
  refine a_goto (tgt := 1731) X dL_law_1600 (by decide) ?_
  exact law_K X hr hX0 hsb hbb h_1596 ih
set_option maxRecDepth 100000 in
set_option maxHeartbeats 8000000 in
theorem law_c43 {p : Program} {l : Launch} {e : Env} {s : State} {m : MethodId} {below : List Frame} {meth : Method} {c : Code} {G : zG} {b sb L : Nat} {xs : Nat → Int32} (X : zOK p s m #[Value.ref sb] meth c G b R_law code 4) (hr : meth.sig.returnType = ret) (hX0 : va_X sb L xs s s.heap) (hsb : sb < s.heap.size) (hbb : b = s.heap.size) (hL : L ≤ 3072) {nc ns : Nat} (hc : nc ≤ 600000) (hs : ns ≤ 7302250) {i : Int32} (h0 : 0 ≤ i.toInt) (h6 : i.toInt + 6 ≤ L) {S : zS} (hI : jI S) (ih : ∀ S' : zS, jI S' → Zw p l e room_1 s m #[Value.ref sb] below meth c G b 4 (lw_Z below #[Value.ref sb] s) nc ns 18 [some (.ref (1000000 + sb)), some (.ref 0), some (.ref 200), some (.int (i + 6))] [] S') : Zw p l e room_1 s m #[Value.ref sb] below meth c G b 4 (lw_Z below #[Value.ref sb] s) nc ns 1603 [some (.ref (1000000 + sb)), some (.ref 0), some (.ref 200), some (.int i)] [] S := by
  have i1 : vp_in (i + 1) L := law_ix hL h0 h6 (by decide) (by decide)
  have i2 : vp_in (i + 2) L := law_ix hL h0 h6 (by decide) (by decide)
  have i3 : vp_in (i + 3) L := law_ix hL h0 h6 (by decide) (by decide)
  have i4 : vp_in (i + 4) L := law_ix hL h0 h6 (by decide) (by decide)
  have i5 : vp_in (i + 5) L := law_ix hL h0 h6 (by decide) (by decide)
  refine a_aload_n X dL_law_1603 rfl ?_
  refine a_aload_n X dL_law_1604 rfl ?_
  refine a_iload_n X dL_law_1605 rfl ?_
  refine a_iconst (v := 1) X dL_law_1606 (by decide) ?_
  refine a_iadd X dL_law_1607 ?_
  refine a_sld X hX0 hsb hbb (i1) dL_law_1608 ?_
  refine a_callVx X dL_law_1609 miX7_prefer lmL_193 (f_prefer hI) (hI.1.2.1) rfl rfl rfl (Nat.le_of_ble_eq_true rfl) ⟨by decide, by decide, hc, hs⟩ (fun r_1609 S_1609 q_1609 => ?_)
  obtain ⟨e_1609, he_1609, rfl, rfl⟩ := q_1609
  refine a_pop X dL_law_1612 rfl ?_
  refine a_aload_n X dL_law_1613 rfl ?_
  refine a_aload_n X dL_law_1614 rfl ?_
  refine a_iload_n X dL_law_1615 rfl ?_
  refine a_iconst (v := 1) X dL_law_1616 (by decide) ?_
  refine a_iadd X dL_law_1617 ?_
  refine a_sld X hX0 hsb hbb (i1) dL_law_1618 ?_
  refine a_callVx X dL_law_1619 miX8_prefer lmL_196 (m_prefer hI he_1609) (hI.2.1.2.1) rfl rfl rfl (Nat.le_of_ble_eq_true rfl) ⟨by decide, by decide, hc, hs⟩ (fun r_1619 S_1619 q_1619 => ?_)
  obtain ⟨rfl, h_1619⟩ := q_1619
  refine a_pop X dL_law_1622 rfl ?_
  refine a_goto (tgt := 1731) X dL_law_1623 (by decide) ?_
  exact law_K X hr hX0 hsb hbb h_1619 ih
set_option maxRecDepth 100000 in
set_option maxHeartbeats 8000000 in
theorem law_c44 {p : Program} {l : Launch} {e : Env} {s : State} {m : MethodId} {below : List Frame} {meth : Method} {c : Code} {G : zG} {b sb L : Nat} {xs : Nat → Int32} (X : zOK p s m #[Value.ref sb] meth c G b R_law code 4) (hr : meth.sig.returnType = ret) (hX0 : va_X sb L xs s s.heap) (hsb : sb < s.heap.size) (hbb : b = s.heap.size) (hL : L ≤ 3072) {nc ns : Nat} (hc : nc ≤ 600000) (hs : ns ≤ 7302250) {i : Int32} (h0 : 0 ≤ i.toInt) (h6 : i.toInt + 6 ≤ L) {S : zS} (hI : jI S) (ih : ∀ S' : zS, jI S' → Zw p l e room_1 s m #[Value.ref sb] below meth c G b 4 (lw_Z below #[Value.ref sb] s) nc ns 18 [some (.ref (1000000 + sb)), some (.ref 0), some (.ref 200), some (.int (i + 6))] [] S') : Zw p l e room_1 s m #[Value.ref sb] below meth c G b 4 (lw_Z below #[Value.ref sb] s) nc ns 1626 [some (.ref (1000000 + sb)), some (.ref 0), some (.ref 200), some (.int i)] [] S := by
  have i1 : vp_in (i + 1) L := law_ix hL h0 h6 (by decide) (by decide)
  have i2 : vp_in (i + 2) L := law_ix hL h0 h6 (by decide) (by decide)
  have i3 : vp_in (i + 3) L := law_ix hL h0 h6 (by decide) (by decide)
  have i4 : vp_in (i + 4) L := law_ix hL h0 h6 (by decide) (by decide)
  have i5 : vp_in (i + 5) L := law_ix hL h0 h6 (by decide) (by decide)
  refine a_aload_n X dL_law_1626 rfl ?_
  refine a_aload_n X dL_law_1627 rfl ?_
  refine a_iload_n X dL_law_1628 rfl ?_
  refine a_iconst (v := 1) X dL_law_1629 (by decide) ?_
  refine a_iadd X dL_law_1630 ?_
  refine a_sld X hX0 hsb hbb (i1) dL_law_1631 ?_
  refine a_callVx X dL_law_1632 miX7_guests lmL_197 (f_guests hI) (hI.1.2.1) rfl rfl rfl (Nat.le_of_ble_eq_true rfl) ⟨by decide, by decide, hc, hs⟩ (fun r_1632 S_1632 q_1632 => ?_)
  obtain ⟨e_1632, he_1632, rfl, rfl⟩ := q_1632
  refine a_pop X dL_law_1635 rfl ?_
  refine a_aload_n X dL_law_1636 rfl ?_
  refine a_aload_n X dL_law_1637 rfl ?_
  refine a_iload_n X dL_law_1638 rfl ?_
  refine a_iconst (v := 1) X dL_law_1639 (by decide) ?_
  refine a_iadd X dL_law_1640 ?_
  refine a_sld X hX0 hsb hbb (i1) dL_law_1641 ?_
  refine a_callVx X dL_law_1642 miX8_guests lmL_200 (m_guests hI he_1632) (hI.2.1.2.1) rfl rfl rfl (Nat.le_of_ble_eq_true rfl) ⟨by decide, by decide, hc, hs⟩ (fun r_1642 S_1642 q_1642 => ?_)
  obtain ⟨rfl, h_1642⟩ := q_1642
  refine a_pop X dL_law_1645 rfl ?_
  refine a_goto (tgt := 1731) X dL_law_1646 (by decide) ?_
  exact law_K X hr hX0 hsb hbb h_1642 ih
set_option maxRecDepth 100000 in
set_option maxHeartbeats 8000000 in
theorem law_c45 {p : Program} {l : Launch} {e : Env} {s : State} {m : MethodId} {below : List Frame} {meth : Method} {c : Code} {G : zG} {b sb L : Nat} {xs : Nat → Int32} (X : zOK p s m #[Value.ref sb] meth c G b R_law code 4) (hr : meth.sig.returnType = ret) (hX0 : va_X sb L xs s s.heap) (hsb : sb < s.heap.size) (hbb : b = s.heap.size) (hL : L ≤ 3072) {nc ns : Nat} (hc : nc ≤ 600000) (hs : ns ≤ 7302250) {i : Int32} (h0 : 0 ≤ i.toInt) (h6 : i.toInt + 6 ≤ L) {S : zS} (hI : jI S) (ih : ∀ S' : zS, jI S' → Zw p l e room_1 s m #[Value.ref sb] below meth c G b 4 (lw_Z below #[Value.ref sb] s) nc ns 18 [some (.ref (1000000 + sb)), some (.ref 0), some (.ref 200), some (.int (i + 6))] [] S') : Zw p l e room_1 s m #[Value.ref sb] below meth c G b 4 (lw_Z below #[Value.ref sb] s) nc ns 1649 [some (.ref (1000000 + sb)), some (.ref 0), some (.ref 200), some (.int i)] [] S := by
  have i1 : vp_in (i + 1) L := law_ix hL h0 h6 (by decide) (by decide)
  have i2 : vp_in (i + 2) L := law_ix hL h0 h6 (by decide) (by decide)
  have i3 : vp_in (i + 3) L := law_ix hL h0 h6 (by decide) (by decide)
  have i4 : vp_in (i + 4) L := law_ix hL h0 h6 (by decide) (by decide)
  have i5 : vp_in (i + 5) L := law_ix hL h0 h6 (by decide) (by decide)
  refine a_aload_n X dL_law_1649 rfl ?_
  refine a_aload_n X dL_law_1650 rfl ?_
  refine a_iload_n X dL_law_1651 rfl ?_
  refine a_iconst (v := 1) X dL_law_1652 (by decide) ?_
  refine a_iadd X dL_law_1653 ?_
  refine a_sld X hX0 hsb hbb (i1) dL_law_1654 ?_
  refine a_callVx X dL_law_1655 miX7_split lmL_201 (f_split hI) (hI.1.2.1) rfl rfl rfl (Nat.le_of_ble_eq_true rfl) ⟨by decide, by decide, hc, hs⟩ (fun r_1655 S_1655 q_1655 => ?_)
  obtain ⟨e_1655, he_1655, rfl, rfl⟩ := q_1655
  refine a_pop X dL_law_1658 rfl ?_
  refine a_aload_n X dL_law_1659 rfl ?_
  refine a_aload_n X dL_law_1660 rfl ?_
  refine a_iload_n X dL_law_1661 rfl ?_
  refine a_iconst (v := 1) X dL_law_1662 (by decide) ?_
  refine a_iadd X dL_law_1663 ?_
  refine a_sld X hX0 hsb hbb (i1) dL_law_1664 ?_
  refine a_callVx X dL_law_1665 miX8_split lmL_204 (m_split hI he_1655) (hI.2.1.2.1) rfl rfl rfl (Nat.le_of_ble_eq_true rfl) ⟨by decide, by decide, hc, hs⟩ (fun r_1665 S_1665 q_1665 => ?_)
  obtain ⟨rfl, h_1665⟩ := q_1665
  refine a_pop X dL_law_1668 rfl ?_
  refine a_goto (tgt := 1731) X dL_law_1669 (by decide) ?_
  exact law_K X hr hX0 hsb hbb h_1665 ih
set_option maxRecDepth 100000 in
set_option maxHeartbeats 8000000 in
theorem law_c46 {p : Program} {l : Launch} {e : Env} {s : State} {m : MethodId} {below : List Frame} {meth : Method} {c : Code} {G : zG} {b sb L : Nat} {xs : Nat → Int32} (X : zOK p s m #[Value.ref sb] meth c G b R_law code 4) (hr : meth.sig.returnType = ret) (hX0 : va_X sb L xs s s.heap) (hsb : sb < s.heap.size) (hbb : b = s.heap.size) (hL : L ≤ 3072) {nc ns : Nat} (hc : nc ≤ 600000) (hs : ns ≤ 7302250) {i : Int32} (h0 : 0 ≤ i.toInt) (h6 : i.toInt + 6 ≤ L) {S : zS} (hI : jI S) (ih : ∀ S' : zS, jI S' → Zw p l e room_1 s m #[Value.ref sb] below meth c G b 4 (lw_Z below #[Value.ref sb] s) nc ns 18 [some (.ref (1000000 + sb)), some (.ref 0), some (.ref 200), some (.int (i + 6))] [] S') : Zw p l e room_1 s m #[Value.ref sb] below meth c G b 4 (lw_Z below #[Value.ref sb] s) nc ns 1672 [some (.ref (1000000 + sb)), some (.ref 0), some (.ref 200), some (.int i)] [] S := by
  have i1 : vp_in (i + 1) L := law_ix hL h0 h6 (by decide) (by decide)
  have i2 : vp_in (i + 2) L := law_ix hL h0 h6 (by decide) (by decide)
  have i3 : vp_in (i + 3) L := law_ix hL h0 h6 (by decide) (by decide)
  have i4 : vp_in (i + 4) L := law_ix hL h0 h6 (by decide) (by decide)
  have i5 : vp_in (i + 5) L := law_ix hL h0 h6 (by decide) (by decide)
  refine a_aload_n X dL_law_1672 rfl ?_
  refine a_callVx X dL_law_1673 miX7_undo lmL_205 (f_undo hI) (hI.1.2.1) rfl rfl rfl (Nat.le_of_ble_eq_true rfl) ⟨by decide, by decide, hc, hs⟩ (fun r_1673 S_1673 q_1673 => ?_)
  obtain ⟨e_1673, he_1673, rfl, rfl⟩ := q_1673
  refine a_pop X dL_law_1676 rfl ?_
  refine a_aload_n X dL_law_1677 rfl ?_
  refine a_callVx X dL_law_1678 miX8_undo lmL_208 (m_undo hI he_1673) (hI.2.1.2.1) rfl rfl rfl (Nat.le_of_ble_eq_true rfl) ⟨by decide, by decide, hc, hs⟩ (fun r_1678 S_1678 q_1678 => ?_)
  obtain ⟨rfl, h_1678⟩ := q_1678
  refine a_pop X dL_law_1681 rfl ?_
  refine a_goto (tgt := 1731) X dL_law_1682 (by decide) ?_
  exact law_K X hr hX0 hsb hbb h_1678 ih
set_option maxRecDepth 100000 in
set_option maxHeartbeats 8000000 in
theorem law_c47 {p : Program} {l : Launch} {e : Env} {s : State} {m : MethodId} {below : List Frame} {meth : Method} {c : Code} {G : zG} {b sb L : Nat} {xs : Nat → Int32} (X : zOK p s m #[Value.ref sb] meth c G b R_law code 4) (hr : meth.sig.returnType = ret) (hX0 : va_X sb L xs s s.heap) (hsb : sb < s.heap.size) (hbb : b = s.heap.size) (hL : L ≤ 3072) {nc ns : Nat} (hc : nc ≤ 600000) (hs : ns ≤ 7302250) {i : Int32} (h0 : 0 ≤ i.toInt) (h6 : i.toInt + 6 ≤ L) {S : zS} (hI : jI S) (ih : ∀ S' : zS, jI S' → Zw p l e room_1 s m #[Value.ref sb] below meth c G b 4 (lw_Z below #[Value.ref sb] s) nc ns 18 [some (.ref (1000000 + sb)), some (.ref 0), some (.ref 200), some (.int (i + 6))] [] S') : Zw p l e room_1 s m #[Value.ref sb] below meth c G b 4 (lw_Z below #[Value.ref sb] s) nc ns 1685 [some (.ref (1000000 + sb)), some (.ref 0), some (.ref 200), some (.int i)] [] S := by
  have i1 : vp_in (i + 1) L := law_ix hL h0 h6 (by decide) (by decide)
  have i2 : vp_in (i + 2) L := law_ix hL h0 h6 (by decide) (by decide)
  have i3 : vp_in (i + 3) L := law_ix hL h0 h6 (by decide) (by decide)
  have i4 : vp_in (i + 4) L := law_ix hL h0 h6 (by decide) (by decide)
  have i5 : vp_in (i + 5) L := law_ix hL h0 h6 (by decide) (by decide)
  refine a_aload_n X dL_law_1685 rfl ?_
  refine a_aload_n X dL_law_1686 rfl ?_
  refine a_iload_n X dL_law_1687 rfl ?_
  refine a_iconst (v := 1) X dL_law_1688 (by decide) ?_
  refine a_iadd X dL_law_1689 ?_
  refine a_sld X hX0 hsb hbb (i1) dL_law_1690 ?_
  refine a_callVx X dL_law_1691 miX7_print lmL_209 (f_print hI) (hI.1.2.1) rfl rfl rfl (Nat.le_of_ble_eq_true rfl) ⟨by decide, by decide, hc, hs⟩ (fun r_1691 S_1691 q_1691 => ?_)
  obtain ⟨e_1691, he_1691, rfl, rfl⟩ := q_1691
  refine a_pop X dL_law_1694 rfl ?_
  refine a_aload_n X dL_law_1695 rfl ?_
  refine a_aload_n X dL_law_1696 rfl ?_
  refine a_iload_n X dL_law_1697 rfl ?_
  refine a_iconst (v := 1) X dL_law_1698 (by decide) ?_
  refine a_iadd X dL_law_1699 ?_
  refine a_sld X hX0 hsb hbb (i1) dL_law_1700 ?_
  refine a_callVx X dL_law_1701 miX8_print lmL_212 (m_print hI he_1691) (hI.2.1.2.1) rfl rfl rfl (Nat.le_of_ble_eq_true rfl) ⟨by decide, by decide, hc, hs⟩ (fun r_1701 S_1701 q_1701 => ?_)
  obtain ⟨rfl, h_1701⟩ := q_1701
  refine a_pop X dL_law_1704 rfl ?_
  refine a_goto (tgt := 1731) X dL_law_1705 (by decide) ?_
  exact law_K X hr hX0 hsb hbb h_1701 ih
set_option maxRecDepth 100000 in
set_option maxHeartbeats 8000000 in
theorem law_c48 {p : Program} {l : Launch} {e : Env} {s : State} {m : MethodId} {below : List Frame} {meth : Method} {c : Code} {G : zG} {b sb L : Nat} {xs : Nat → Int32} (X : zOK p s m #[Value.ref sb] meth c G b R_law code 4) (hr : meth.sig.returnType = ret) (hX0 : va_X sb L xs s s.heap) (hsb : sb < s.heap.size) (hbb : b = s.heap.size) (hL : L ≤ 3072) {nc ns : Nat} (hc : nc ≤ 600000) (hs : ns ≤ 7302250) {i : Int32} (h0 : 0 ≤ i.toInt) (h6 : i.toInt + 6 ≤ L) {S : zS} (hI : jI S) (ih : ∀ S' : zS, jI S' → Zw p l e room_1 s m #[Value.ref sb] below meth c G b 4 (lw_Z below #[Value.ref sb] s) nc ns 18 [some (.ref (1000000 + sb)), some (.ref 0), some (.ref 200), some (.int (i + 6))] [] S') : Zw p l e room_1 s m #[Value.ref sb] below meth c G b 4 (lw_Z below #[Value.ref sb] s) nc ns 1708 [some (.ref (1000000 + sb)), some (.ref 0), some (.ref 200), some (.int i)] [] S := by
  have i1 : vp_in (i + 1) L := law_ix hL h0 h6 (by decide) (by decide)
  have i2 : vp_in (i + 2) L := law_ix hL h0 h6 (by decide) (by decide)
  have i3 : vp_in (i + 3) L := law_ix hL h0 h6 (by decide) (by decide)
  have i4 : vp_in (i + 4) L := law_ix hL h0 h6 (by decide) (by decide)
  have i5 : vp_in (i + 5) L := law_ix hL h0 h6 (by decide) (by decide)
  refine a_aload_n X dL_law_1708 rfl ?_
  refine a_aload_n X dL_law_1709 rfl ?_
  refine a_iload_n X dL_law_1710 rfl ?_
  refine a_iconst (v := 1) X dL_law_1711 (by decide) ?_
  refine a_iadd X dL_law_1712 ?_
  refine a_sld X hX0 hsb hbb (i1) dL_law_1713 ?_
  refine a_callVx X dL_law_1714 miX7_out lmL_213 (f_out hI) (hI.1.2.1) rfl rfl rfl (Nat.le_of_ble_eq_true rfl) ⟨by decide, by decide, hc, hs⟩ (fun r_1714 S_1714 q_1714 => ?_)
  obtain ⟨e_1714, he_1714, rfl, rfl⟩ := q_1714
  refine a_aload_n X dL_law_1717 rfl ?_
  refine a_aload_n X dL_law_1718 rfl ?_
  refine a_iload_n X dL_law_1719 rfl ?_
  refine a_iconst (v := 1) X dL_law_1720 (by decide) ?_
  refine a_iadd X dL_law_1721 ?_
  refine a_sld X hX0 hsb hbb (i1) dL_law_1722 ?_
  refine a_callVx X dL_law_1723 miX8_out lmL_216 (m_out hI he_1714) (hI.2.1.2.1) rfl rfl rfl (Nat.le_of_ble_eq_true rfl) ⟨by decide, by decide, hc, hs⟩ (fun r_1723 S_1723 q_1723 => ?_)
  obtain ⟨rfl, h_1723⟩ := q_1723
  refine a_icmp_eq (tgt := 1731) X dL_law_1726 (by decide) (fun h_1726 => ?_) (fun h_1726 => absurd rfl h_1726)
  exact law_K X hr hX0 hsb hbb h_1723 ih
