set_option maxRecDepth 100000 in
set_option maxHeartbeats 8000000 in
theorem law_c39 {p : Program} {l : Launch} {e : Env} {s : State} {m : MethodId} {below : List Frame} {meth : Method} {c : Code} {G : zG} {b sb L : Nat} {xs : Nat → Int32} (X : zOK p s m #[Value.ref sb] meth c G b R_law code 4) (hr : meth.sig.returnType = ret) (hX0 : va_X sb L xs s s.heap) (hsb : sb < s.heap.size) (hbb : b = s.heap.size) (hL : L ≤ 3072) {nc ns : Nat} (hc : nc ≤ 600000) (hs : ns ≤ 7302250) {i : Int32} (h0 : 0 ≤ i.toInt) (h6 : i.toInt + 6 ≤ L) {S : zS} (hI : jI S) (ih : ∀ S' : zS, jI S' → Zw p l e room_1 s m #[Value.ref sb] below meth c G b 4 (lw_Z below #[Value.ref sb] s) nc ns 18 [some (.ref (1000000 + sb)), some (.ref 0), some (.ref 200), some (.int (i + 6))] [] S') : Zw p l e room_1 s m #[Value.ref sb] below meth c G b 4 (lw_Z below #[Value.ref sb] s) nc ns 1462 [some (.ref (1000000 + sb)), some (.ref 0), some (.ref 200), some (.int i)] [] S := by
  have i1 : vp_in (i + 1) L := law_ix hL h0 h6 (by decide) (by decide)
  have i2 : vp_in (i + 2) L := law_ix hL h0 h6 (by decide) (by decide)
  have i3 : vp_in (i + 3) L := law_ix hL h0 h6 (by decide) (by decide)
  have i4 : vp_in (i + 4) L := law_ix hL h0 h6 (by decide) (by decide)
  have i5 : vp_in (i + 5) L := law_ix hL h0 h6 (by decide) (by decide)
  refine a_aload_n X dL_law_1462 rfl ?_
  refine a_aload_n X dL_law_1463 rfl ?_
  refine a_iload_n X dL_law_1464 rfl ?_
  refine a_iconst (v := 1) X dL_law_1465 (by decide) ?_
  refine a_iadd X dL_law_1466 ?_
  refine a_sld X hX0 hsb hbb (i1) dL_law_1467 ?_
  refine a_aload_n X dL_law_1468 rfl ?_
  refine a_iload_n X dL_law_1469 rfl ?_
  refine a_iconst (v := 2) X dL_law_1470 (by decide) ?_
  refine a_iadd X dL_law_1471 ?_
  refine a_sld X hX0 hsb hbb (i2) dL_law_1472 ?_
  refine a_callVx X dL_law_1473 miX7_points lmL_176 (f_points hI) (hI.1.2.1) rfl rfl rfl (Nat.le_of_ble_eq_true rfl) ⟨by decide, by decide, hc, hs⟩ (fun r_1473 S_1473 q_1473 => ?_)
  obtain ⟨e_1473, he_1473, rfl, rfl⟩ := q_1473
  refine a_pop X dL_law_1476 rfl ?_
  refine a_aload_n X dL_law_1477 rfl ?_
  refine a_aload_n X dL_law_1478 rfl ?_
  refine a_iload_n X dL_law_1479 rfl ?_
  refine a_iconst (v := 1) X dL_law_1480 (by decide) ?_
  refine a_iadd X dL_law_1481 ?_
  refine a_sld X hX0 hsb hbb (i1) dL_law_1482 ?_
  refine a_aload_n X dL_law_1483 rfl ?_
  refine a_iload_n X dL_law_1484 rfl ?_
  refine a_iconst (v := 2) X dL_law_1485 (by decide) ?_
  refine a_iadd X dL_law_1486 ?_
  refine a_sld X hX0 hsb hbb (i2) dL_law_1487 ?_
  refine a_callVx X dL_law_1488 miX8_points lmL_179 (m_points hI he_1473) (hI.2.1.2.1) rfl rfl rfl (Nat.le_of_ble_eq_true rfl) ⟨by decide, by decide, hc, hs⟩ (fun r_1488 S_1488 q_1488 => ?_)
  obtain ⟨rfl, h_1488⟩ := q_1488
  refine a_pop X dL_law_1491 rfl ?_
  refine a_goto (tgt := 1732) X dL_law_1492 (by decide) ?_
  exact law_K X hr hX0 hsb hbb h_1488 ih
set_option maxRecDepth 100000 in
set_option maxHeartbeats 8000000 in
theorem law_c40 {p : Program} {l : Launch} {e : Env} {s : State} {m : MethodId} {below : List Frame} {meth : Method} {c : Code} {G : zG} {b sb L : Nat} {xs : Nat → Int32} (X : zOK p s m #[Value.ref sb] meth c G b R_law code 4) (hr : meth.sig.returnType = ret) (hX0 : va_X sb L xs s s.heap) (hsb : sb < s.heap.size) (hbb : b = s.heap.size) (hL : L ≤ 3072) {nc ns : Nat} (hc : nc ≤ 600000) (hs : ns ≤ 7302250) {i : Int32} (h0 : 0 ≤ i.toInt) (h6 : i.toInt + 6 ≤ L) {S : zS} (hI : jI S) (ih : ∀ S' : zS, jI S' → Zw p l e room_1 s m #[Value.ref sb] below meth c G b 4 (lw_Z below #[Value.ref sb] s) nc ns 18 [some (.ref (1000000 + sb)), some (.ref 0), some (.ref 200), some (.int (i + 6))] [] S') : Zw p l e room_1 s m #[Value.ref sb] below meth c G b 4 (lw_Z below #[Value.ref sb] s) nc ns 1495 [some (.ref (1000000 + sb)), some (.ref 0), some (.ref 200), some (.int i)] [] S := by
  have i1 : vp_in (i + 1) L := law_ix hL h0 h6 (by decide) (by decide)
  have i2 : vp_in (i + 2) L := law_ix hL h0 h6 (by decide) (by decide)
  have i3 : vp_in (i + 3) L := law_ix hL h0 h6 (by decide) (by decide)
  have i4 : vp_in (i + 4) L := law_ix hL h0 h6 (by decide) (by decide)
  have i5 : vp_in (i + 5) L := law_ix hL h0 h6 (by decide) (by decide)
  refine a_aload_n X dL_law_1495 rfl ?_
  refine a_aload_n X dL_law_1496 rfl ?_
  refine a_iload_n X dL_law_1497 rfl ?_
  refine a_iconst (v := 1) X dL_law_1498 (by decide) ?_
  refine a_iadd X dL_law_1499 ?_
  refine a_sld X hX0 hsb hbb (i1) dL_law_1500 ?_
  refine a_aload_n X dL_law_1501 rfl ?_
  refine a_iload_n X dL_law_1502 rfl ?_
  refine a_iconst (v := 2) X dL_law_1503 (by decide) ?_
  refine a_iadd X dL_law_1504 ?_
  refine a_sld X hX0 hsb hbb (i2) dL_law_1505 ?_
  refine a_callVx X dL_law_1506 miX7_quota lmL_180 (f_quota hI) (hI.1.2.1) rfl rfl rfl (Nat.le_of_ble_eq_true rfl) ⟨by decide, by decide, hc, hs⟩ (fun r_1506 S_1506 q_1506 => ?_)
  obtain ⟨e_1506, he_1506, rfl, rfl⟩ := q_1506
  refine a_pop X dL_law_1509 rfl ?_
  refine a_aload_n X dL_law_1510 rfl ?_
  refine a_aload_n X dL_law_1511 rfl ?_
  refine a_iload_n X dL_law_1512 rfl ?_
  refine a_iconst (v := 1) X dL_law_1513 (by decide) ?_
  refine a_iadd X dL_law_1514 ?_
  refine a_sld X hX0 hsb hbb (i1) dL_law_1515 ?_
  refine a_aload_n X dL_law_1516 rfl ?_
  refine a_iload_n X dL_law_1517 rfl ?_
  refine a_iconst (v := 2) X dL_law_1518 (by decide) ?_
  refine a_iadd X dL_law_1519 ?_
  refine a_sld X hX0 hsb hbb (i2) dL_law_1520 ?_
  refine a_callVx X dL_law_1521 miX8_quota lmL_183 (m_quota hI he_1506) (hI.2.1.2.1) rfl rfl rfl (Nat.le_of_ble_eq_true rfl) ⟨by decide, by decide, hc, hs⟩ (fun r_1521 S_1521 q_1521 => ?_)
  obtain ⟨rfl, h_1521⟩ := q_1521
  refine a_pop X dL_law_1524 rfl ?_
  refine a_goto (tgt := 1732) X dL_law_1525 (by decide) ?_
  exact law_K X hr hX0 hsb hbb h_1521 ih
set_option maxRecDepth 100000 in
set_option maxHeartbeats 8000000 in
theorem law_c41 {p : Program} {l : Launch} {e : Env} {s : State} {m : MethodId} {below : List Frame} {meth : Method} {c : Code} {G : zG} {b sb L : Nat} {xs : Nat → Int32} (X : zOK p s m #[Value.ref sb] meth c G b R_law code 4) (hr : meth.sig.returnType = ret) (hX0 : va_X sb L xs s s.heap) (hsb : sb < s.heap.size) (hbb : b = s.heap.size) (hL : L ≤ 3072) {nc ns : Nat} (hc : nc ≤ 600000) (hs : ns ≤ 7302250) {i : Int32} (h0 : 0 ≤ i.toInt) (h6 : i.toInt + 6 ≤ L) {S : zS} (hI : jI S) (ih : ∀ S' : zS, jI S' → Zw p l e room_1 s m #[Value.ref sb] below meth c G b 4 (lw_Z below #[Value.ref sb] s) nc ns 18 [some (.ref (1000000 + sb)), some (.ref 0), some (.ref 200), some (.int (i + 6))] [] S') : Zw p l e room_1 s m #[Value.ref sb] below meth c G b 4 (lw_Z below #[Value.ref sb] s) nc ns 1528 [some (.ref (1000000 + sb)), some (.ref 0), some (.ref 200), some (.int i)] [] S := by
  have i1 : vp_in (i + 1) L := law_ix hL h0 h6 (by decide) (by decide)
  have i2 : vp_in (i + 2) L := law_ix hL h0 h6 (by decide) (by decide)
  have i3 : vp_in (i + 3) L := law_ix hL h0 h6 (by decide) (by decide)
  have i4 : vp_in (i + 4) L := law_ix hL h0 h6 (by decide) (by decide)
  have i5 : vp_in (i + 5) L := law_ix hL h0 h6 (by decide) (by decide)
  refine a_aload_n X dL_law_1528 rfl ?_
  refine a_aload_n X dL_law_1529 rfl ?_
  refine a_iload_n X dL_law_1530 rfl ?_
  refine a_iconst (v := 1) X dL_law_1531 (by decide) ?_
  refine a_iadd X dL_law_1532 ?_
  refine a_sld X hX0 hsb hbb (i1) dL_law_1533 ?_
  refine a_aload_n X dL_law_1534 rfl ?_
  refine a_iload_n X dL_law_1535 rfl ?_
  refine a_iconst (v := 2) X dL_law_1536 (by decide) ?_
  refine a_iadd X dL_law_1537 ?_
  refine a_sld X hX0 hsb hbb (i2) dL_law_1538 ?_
  refine a_aload_n X dL_law_1539 rfl ?_
  refine a_iload_n X dL_law_1540 rfl ?_
  refine a_iconst (v := 3) X dL_law_1541 (by decide) ?_
  refine a_iadd X dL_law_1542 ?_
  refine a_sld X hX0 hsb hbb (i3) dL_law_1543 ?_
  refine a_aload_n X dL_law_1544 rfl ?_
  refine a_iload_n X dL_law_1545 rfl ?_
  refine a_iconst (v := 4) X dL_law_1546 (by decide) ?_
  refine a_iadd X dL_law_1547 ?_
  refine a_sld X hX0 hsb hbb (i4) dL_law_1548 ?_
  refine a_callVx X dL_law_1549 miX7_choose lmL_184 (f_choose hI) (hI.1.2.1) rfl rfl rfl (Nat.le_of_ble_eq_true rfl) ⟨by decide, by decide, hc, hs⟩ (fun r_1549 S_1549 q_1549 => ?_)
  obtain ⟨e_1549, he_1549, rfl, rfl⟩ := q_1549
  refine a_pop X dL_law_1552 rfl ?_
  refine a_aload_n X dL_law_1553 rfl ?_
  refine a_aload_n X dL_law_1554 rfl ?_
  refine a_iload_n X dL_law_1555 rfl ?_
  refine a_iconst (v := 1) X dL_law_1556 (by decide) ?_
  refine a_iadd X dL_law_1557 ?_
  refine a_sld X hX0 hsb hbb (i1) dL_law_1558 ?_
  refine a_aload_n X dL_law_1559 rfl ?_
  refine a_iload_n X dL_law_1560 rfl ?_
  refine a_iconst (v := 2) X dL_law_1561 (by decide) ?_
  refine a_iadd X dL_law_1562 ?_
  refine a_sld X hX0 hsb hbb (i2) dL_law_1563 ?_
  refine a_aload_n X dL_law_1564 rfl ?_
  refine a_iload_n X dL_law_1565 rfl ?_
  refine a_iconst (v := 3) X dL_law_1566 (by decide) ?_
  refine a_iadd X dL_law_1567 ?_
  refine a_sld X hX0 hsb hbb (i3) dL_law_1568 ?_
  refine a_aload_n X dL_law_1569 rfl ?_
  refine a_iload_n X dL_law_1570 rfl ?_
  refine a_iconst (v := 4) X dL_law_1571 (by decide) ?_
  refine a_iadd X dL_law_1572 ?_
  refine a_sld X hX0 hsb hbb (i4) dL_law_1573 ?_
  refine a_callVx X dL_law_1574 miX8_choose lmL_188 (m_choose hI he_1549) (hI.2.1.2.1) rfl rfl rfl (Nat.le_of_ble_eq_true rfl) ⟨by decide, by decide, hc, hs⟩ (fun r_1574 S_1574 q_1574 => ?_)
  obtain ⟨rfl, h_1574⟩ := q_1574
  refine a_pop X dL_law_1577 rfl ?_
  refine a_goto (tgt := 1732) X dL_law_1578 (by decide) ?_
  exact law_K X hr hX0 hsb hbb h_1574 ih
set_option maxRecDepth 100000 in
set_option maxHeartbeats 8000000 in
theorem law_c42 {p : Program} {l : Launch} {e : Env} {s : State} {m : MethodId} {below : List Frame} {meth : Method} {c : Code} {G : zG} {b sb L : Nat} {xs : Nat → Int32} (X : zOK p s m #[Value.ref sb] meth c G b R_law code 4) (hr : meth.sig.returnType = ret) (hX0 : va_X sb L xs s s.heap) (hsb : sb < s.heap.size) (hbb : b = s.heap.size) (hL : L ≤ 3072) {nc ns : Nat} (hc : nc ≤ 600000) (hs : ns ≤ 7302250) {i : Int32} (h0 : 0 ≤ i.toInt) (h6 : i.toInt + 6 ≤ L) {S : zS} (hI : jI S) (ih : ∀ S' : zS, jI S' → Zw p l e room_1 s m #[Value.ref sb] below meth c G b 4 (lw_Z below #[Value.ref sb] s) nc ns 18 [some (.ref (1000000 + sb)), some (.ref 0), some (.ref 200), some (.int (i + 6))] [] S') : Zw p l e room_1 s m #[Value.ref sb] below meth c G b 4 (lw_Z below #[Value.ref sb] s) nc ns 1581 [some (.ref (1000000 + sb)), some (.ref 0), some (.ref 200), some (.int i)] [] S := by
  have i1 : vp_in (i + 1) L := law_ix hL h0 h6 (by decide) (by decide)
  have i2 : vp_in (i + 2) L := law_ix hL h0 h6 (by decide) (by decide)
  have i3 : vp_in (i + 3) L := law_ix hL h0 h6 (by decide) (by decide)
  have i4 : vp_in (i + 4) L := law_ix hL h0 h6 (by decide) (by decide)
  have i5 : vp_in (i + 5) L := law_ix hL h0 h6 (by decide) (by decide)
  refine a_aload_n X dL_law_1581 rfl ?_
  refine a_aload_n X dL_law_1582 rfl ?_
  refine a_iload_n X dL_law_1583 rfl ?_
  refine a_iconst (v := 1) X dL_law_1584 (by decide) ?_
  refine a_iadd X dL_law_1585 ?_
  refine a_sld X hX0 hsb hbb (i1) dL_law_1586 ?_
  refine a_callVx X dL_law_1587 miX7_law lmL_189 (f_law hI) (hI.1.2.1) rfl rfl rfl (Nat.le_of_ble_eq_true rfl) ⟨by decide, by decide, hc, hs⟩ (fun r_1587 S_1587 q_1587 => ?_)
  obtain ⟨e_1587, he_1587, rfl, rfl⟩ := q_1587
  refine a_pop X dL_law_1590 rfl ?_
  refine a_aload_n X dL_law_1591 rfl ?_
  refine a_aload_n X dL_law_1592 rfl ?_
  refine a_iload_n X dL_law_1593 rfl ?_
  refine a_iconst (v := 1) X dL_law_1594 (by decide) ?_
  refine a_iadd X dL_law_1595 ?_
  refine a_sld X hX0 hsb hbb (i1) dL_law_1596 ?_
  refine a_callVx X dL_law_1597 miX8_law lmL_192 (m_law hI he_1587) (hI.2.1.2.1) rfl rfl rfl (Nat.le_of_ble_eq_true rfl) ⟨by decide, by decide, hc, hs⟩ (fun r_1597 S_1597 q_1597 => ?_)
  obtain ⟨rfl, h_1597⟩ := q_1597
  refine a_pop X dL_law_1600 rfl ?_
  refine a_goto (tgt := 1732) X dL_law_1601 (by decide) ?_
  exact law_K X hr hX0 hsb hbb h_1597 ih
set_option maxRecDepth 100000 in
set_option maxHeartbeats 8000000 in
theorem law_c43 {p : Program} {l : Launch} {e : Env} {s : State} {m : MethodId} {below : List Frame} {meth : Method} {c : Code} {G : zG} {b sb L : Nat} {xs : Nat → Int32} (X : zOK p s m #[Value.ref sb] meth c G b R_law code 4) (hr : meth.sig.returnType = ret) (hX0 : va_X sb L xs s s.heap) (hsb : sb < s.heap.size) (hbb : b = s.heap.size) (hL : L ≤ 3072) {nc ns : Nat} (hc : nc ≤ 600000) (hs : ns ≤ 7302250) {i : Int32} (h0 : 0 ≤ i.toInt) (h6 : i.toInt + 6 ≤ L) {S : zS} (hI : jI S) (ih : ∀ S' : zS, jI S' → Zw p l e room_1 s m #[Value.ref sb] below meth c G b 4 (lw_Z below #[Value.ref sb] s) nc ns 18 [some (.ref (1000000 + sb)), some (.ref 0), some (.ref 200), some (.int (i + 6))] [] S') : Zw p l e room_1 s m #[Value.ref sb] below meth c G b 4 (lw_Z below #[Value.ref sb] s) nc ns 1604 [some (.ref (1000000 + sb)), some (.ref 0), some (.ref 200), some (.int i)] [] S := by
  have i1 : vp_in (i + 1) L := law_ix hL h0 h6 (by decide) (by decide)
  have i2 : vp_in (i + 2) L := law_ix hL h0 h6 (by decide) (by decide)
  have i3 : vp_in (i + 3) L := law_ix hL h0 h6 (by decide) (by decide)
  have i4 : vp_in (i + 4) L := law_ix hL h0 h6 (by decide) (by decide)
  have i5 : vp_in (i + 5) L := law_ix hL h0 h6 (by decide) (by decide)
  refine a_aload_n X dL_law_1604 rfl ?_
  refine a_aload_n X dL_law_1605 rfl ?_
  refine a_iload_n X dL_law_1606 rfl ?_
  refine a_iconst (v := 1) X dL_law_1607 (by decide) ?_
  refine a_iadd X dL_law_1608 ?_
  refine a_sld X hX0 hsb hbb (i1) dL_law_1609 ?_
  refine a_callVx X dL_law_1610 miX7_prefer lmL_193 (f_prefer hI) (hI.1.2.1) rfl rfl rfl (Nat.le_of_ble_eq_true rfl) ⟨by decide, by decide, hc, hs⟩ (fun r_1610 S_1610 q_1610 => ?_)
  obtain ⟨e_1610, he_1610, rfl, rfl⟩ := q_1610
  refine a_pop X dL_law_1613 rfl ?_
  refine a_aload_n X dL_law_1614 rfl ?_
  refine a_aload_n X dL_law_1615 rfl ?_
  refine a_iload_n X dL_law_1616 rfl ?_
  refine a_iconst (v := 1) X dL_law_1617 (by decide) ?_
  refine a_iadd X dL_law_1618 ?_
  refine a_sld X hX0 hsb hbb (i1) dL_law_1619 ?_
  refine a_callVx X dL_law_1620 miX8_prefer lmL_196 (m_prefer hI he_1610) (hI.2.1.2.1) rfl rfl rfl (Nat.le_of_ble_eq_true rfl) ⟨by decide, by decide, hc, hs⟩ (fun r_1620 S_1620 q_1620 => ?_)
  obtain ⟨rfl, h_1620⟩ := q_1620
  refine a_pop X dL_law_1623 rfl ?_
  refine a_goto (tgt := 1732) X dL_law_1624 (by decide) ?_
  exact law_K X hr hX0 hsb hbb h_1620 ih
set_option maxRecDepth 100000 in
set_option maxHeartbeats 8000000 in
theorem law_c44 {p : Program} {l : Launch} {e : Env} {s : State} {m : MethodId} {below : List Frame} {meth : Method} {c : Code} {G : zG} {b sb L : Nat} {xs : Nat → Int32} (X : zOK p s m #[Value.ref sb] meth c G b R_law code 4) (hr : meth.sig.returnType = ret) (hX0 : va_X sb L xs s s.heap) (hsb : sb < s.heap.size) (hbb : b = s.heap.size) (hL : L ≤ 3072) {nc ns : Nat} (hc : nc ≤ 600000) (hs : ns ≤ 7302250) {i : Int32} (h0 : 0 ≤ i.toInt) (h6 : i.toInt + 6 ≤ L) {S : zS} (hI : jI S) (ih : ∀ S' : zS, jI S' → Zw p l e room_1 s m #[Value.ref sb] below meth c G b 4 (lw_Z below #[Value.ref sb] s) nc ns 18 [some (.ref (1000000 + sb)), some (.ref 0), some (.ref 200), some (.int (i + 6))] [] S') : Zw p l e room_1 s m #[Value.ref sb] below meth c G b 4 (lw_Z below #[Value.ref sb] s) nc ns 1627 [some (.ref (1000000 + sb)), some (.ref 0), some (.ref 200), some (.int i)] [] S := by
  have i1 : vp_in (i + 1) L := law_ix hL h0 h6 (by decide) (by decide)
  have i2 : vp_in (i + 2) L := law_ix hL h0 h6 (by decide) (by decide)
  have i3 : vp_in (i + 3) L := law_ix hL h0 h6 (by decide) (by decide)
  have i4 : vp_in (i + 4) L := law_ix hL h0 h6 (by decide) (by decide)
  have i5 : vp_in (i + 5) L := law_ix hL h0 h6 (by decide) (by decide)
  refine a_aload_n X dL_law_1627 rfl ?_
  refine a_aload_n X dL_law_1628 rfl ?_
  refine a_iload_n X dL_law_1629 rfl ?_
  refine a_iconst (v := 1) X dL_law_1630 (by decide) ?_
  refine a_iadd X dL_law_1631 ?_
  refine a_sld X hX0 hsb hbb (i1) dL_law_1632 ?_
  refine a_callVx X dL_law_1633 miX7_guests lmL_197 (f_guests hI) (hI.1.2.1) rfl rfl rfl (Nat.le_of_ble_eq_true rfl) ⟨by decide, by decide, hc, hs⟩ (fun r_1633 S_1633 q_1633 => ?_)
  obtain ⟨e_1633, he_1633, rfl, rfl⟩ := q_1633
  refine a_pop X dL_law_1636 rfl ?_
  refine a_aload_n X dL_law_1637 rfl ?_
  refine a_aload_n X dL_law_1638 rfl ?_
  refine a_iload_n X dL_law_1639 rfl ?_
  refine a_iconst (v := 1) X dL_law_1640 (by decide) ?_
  refine a_iadd X dL_law_1641 ?_
  refine a_sld X hX0 hsb hbb (i1) dL_law_1642 ?_
  refine a_callVx X dL_law_1643 miX8_guests lmL_200 (m_guests hI he_1633) (hI.2.1.2.1) rfl rfl rfl (Nat.le_of_ble_eq_true rfl) ⟨by decide, by decide, hc, hs⟩ (fun r_1643 S_1643 q_1643 => ?_)
  obtain ⟨rfl, h_1643⟩ := q_1643
  refine a_pop X dL_law_1646 rfl ?_
  refine a_goto (tgt := 1732) X dL_law_1647 (by decide) ?_
  exact law_K X hr hX0 hsb hbb h_1643 ih
set_option maxRecDepth 100000 in
set_option maxHeartbeats 8000000 in
theorem law_c45 {p : Program} {l : Launch} {e : Env} {s : State} {m : MethodId} {below : List Frame} {meth : Method} {c : Code} {G : zG} {b sb L : Nat} {xs : Nat → Int32} (X : zOK p s m #[Value.ref sb] meth c G b R_law code 4) (hr : meth.sig.returnType = ret) (hX0 : va_X sb L xs s s.heap) (hsb : sb < s.heap.size) (hbb : b = s.heap.size) (hL : L ≤ 3072) {nc ns : Nat} (hc : nc ≤ 600000) (hs : ns ≤ 7302250) {i : Int32} (h0 : 0 ≤ i.toInt) (h6 : i.toInt + 6 ≤ L) {S : zS} (hI : jI S) (ih : ∀ S' : zS, jI S' → Zw p l e room_1 s m #[Value.ref sb] below meth c G b 4 (lw_Z below #[Value.ref sb] s) nc ns 18 [some (.ref (1000000 + sb)), some (.ref 0), some (.ref 200), some (.int (i + 6))] [] S') : Zw p l e room_1 s m #[Value.ref sb] below meth c G b 4 (lw_Z below #[Value.ref sb] s) nc ns 1650 [some (.ref (1000000 + sb)), some (.ref 0), some (.ref 200), some (.int i)] [] S := by
  have i1 : vp_in (i + 1) L := law_ix hL h0 h6 (by decide) (by decide)
  have i2 : vp_in (i + 2) L := law_ix hL h0 h6 (by decide) (by decide)
  have i3 : vp_in (i + 3) L := law_ix hL h0 h6 (by decide) (by decide)
  have i4 : vp_in (i + 4) L := law_ix hL h0 h6 (by decide) (by decide)
  have i5 : vp_in (i + 5) L := law_ix hL h0 h6 (by decide) (by decide)
  refine a_aload_n X dL_law_1650 rfl ?_
  refine a_aload_n X dL_law_1651 rfl ?_
  refine a_iload_n X dL_law_1652 rfl ?_
  refine a_iconst (v := 1) X dL_law_1653 (by decide) ?_
  refine a_iadd X dL_law_1654 ?_
  refine a_sld X hX0 hsb hbb (i1) dL_law_1655 ?_
  refine a_callVx X dL_law_1656 miX7_split lmL_201 (f_split hI) (hI.1.2.1) rfl rfl rfl (Nat.le_of_ble_eq_true rfl) ⟨by decide, by decide, hc, hs⟩ (fun r_1656 S_1656 q_1656 => ?_)
  obtain ⟨e_1656, he_1656, rfl, rfl⟩ := q_1656
  refine a_pop X dL_law_1659 rfl ?_
  refine a_aload_n X dL_law_1660 rfl ?_
  refine a_aload_n X dL_law_1661 rfl ?_
  refine a_iload_n X dL_law_1662 rfl ?_
  refine a_iconst (v := 1) X dL_law_1663 (by decide) ?_
  refine a_iadd X dL_law_1664 ?_
  refine a_sld X hX0 hsb hbb (i1) dL_law_1665 ?_
  refine a_callVx X dL_law_1666 miX8_split lmL_204 (m_split hI he_1656) (hI.2.1.2.1) rfl rfl rfl (Nat.le_of_ble_eq_true rfl) ⟨by decide, by decide, hc, hs⟩ (fun r_1666 S_1666 q_1666 => ?_)
  obtain ⟨rfl, h_1666⟩ := q_1666
  refine a_pop X dL_law_1669 rfl ?_
  refine a_goto (tgt := 1732) X dL_law_1670 (by decide) ?_
  exact law_K X hr hX0 hsb hbb h_1666 ih
set_option maxRecDepth 100000 in
set_option maxHeartbeats 8000000 in
theorem law_c46 {p : Program} {l : Launch} {e : Env} {s : State} {m : MethodId} {below : List Frame} {meth : Method} {c : Code} {G : zG} {b sb L : Nat} {xs : Nat → Int32} (X : zOK p s m #[Value.ref sb] meth c G b R_law code 4) (hr : meth.sig.returnType = ret) (hX0 : va_X sb L xs s s.heap) (hsb : sb < s.heap.size) (hbb : b = s.heap.size) (hL : L ≤ 3072) {nc ns : Nat} (hc : nc ≤ 600000) (hs : ns ≤ 7302250) {i : Int32} (h0 : 0 ≤ i.toInt) (h6 : i.toInt + 6 ≤ L) {S : zS} (hI : jI S) (ih : ∀ S' : zS, jI S' → Zw p l e room_1 s m #[Value.ref sb] below meth c G b 4 (lw_Z below #[Value.ref sb] s) nc ns 18 [some (.ref (1000000 + sb)), some (.ref 0), some (.ref 200), some (.int (i + 6))] [] S') : Zw p l e room_1 s m #[Value.ref sb] below meth c G b 4 (lw_Z below #[Value.ref sb] s) nc ns 1673 [some (.ref (1000000 + sb)), some (.ref 0), some (.ref 200), some (.int i)] [] S := by
  have i1 : vp_in (i + 1) L := law_ix hL h0 h6 (by decide) (by decide)
  have i2 : vp_in (i + 2) L := law_ix hL h0 h6 (by decide) (by decide)
  have i3 : vp_in (i + 3) L := law_ix hL h0 h6 (by decide) (by decide)
  have i4 : vp_in (i + 4) L := law_ix hL h0 h6 (by decide) (by decide)
  have i5 : vp_in (i + 5) L := law_ix hL h0 h6 (by decide) (by decide)
  refine a_aload_n X dL_law_1673 rfl ?_
  refine a_callVx X dL_law_1674 miX7_undo lmL_205 (f_undo hI) (hI.1.2.1) rfl rfl rfl (Nat.le_of_ble_eq_true rfl) ⟨by decide, by decide, hc, hs⟩ (fun r_1674 S_1674 q_1674 => ?_)
  obtain ⟨e_1674, he_1674, rfl, rfl⟩ := q_1674
  refine a_pop X dL_law_1677 rfl ?_
  refine a_aload_n X dL_law_1678 rfl ?_
  refine a_callVx X dL_law_1679 miX8_undo lmL_208 (m_undo hI he_1674) (hI.2.1.2.1) rfl rfl rfl (Nat.le_of_ble_eq_true rfl) ⟨by decide, by decide, hc, hs⟩ (fun r_1679 S_1679 q_1679 => ?_)
  obtain ⟨rfl, h_1679⟩ := q_1679
  refine a_pop X dL_law_1682 rfl ?_
  refine a_goto (tgt := 1732) X dL_law_1683 (by decide) ?_
  exact law_K X hr hX0 hsb hbb h_1679 ih
set_option maxRecDepth 100000 in
set_option maxHeartbeats 8000000 in
theorem law_c47 {p : Program} {l : Launch} {e : Env} {s : State} {m : MethodId} {below : List Frame} {meth : Method} {c : Code} {G : zG} {b sb L : Nat} {xs : Nat → Int32} (X : zOK p s m #[Value.ref sb] meth c G b R_law code 4) (hr : meth.sig.returnType = ret) (hX0 : va_X sb L xs s s.heap) (hsb : sb < s.heap.size) (hbb : b = s.heap.size) (hL : L ≤ 3072) {nc ns : Nat} (hc : nc ≤ 600000) (hs : ns ≤ 7302250) {i : Int32} (h0 : 0 ≤ i.toInt) (h6 : i.toInt + 6 ≤ L) {S : zS} (hI : jI S) (ih : ∀ S' : zS, jI S' → Zw p l e room_1 s m #[Value.ref sb] below meth c G b 4 (lw_Z below #[Value.ref sb] s) nc ns 18 [some (.ref (1000000 + sb)), some (.ref 0), some (.ref 200), some (.int (i + 6))] [] S') : Zw p l e room_1 s m #[Value.ref sb] below meth c G b 4 (lw_Z below #[Value.ref sb] s) nc ns 1686 [some (.ref (1000000 + sb)), some (.ref 0), some (.ref 200), some (.int i)] [] S := by
  have i1 : vp_in (i + 1) L := law_ix hL h0 h6 (by decide) (by decide)
  have i2 : vp_in (i + 2) L := law_ix hL h0 h6 (by decide) (by decide)
  have i3 : vp_in (i + 3) L := law_ix hL h0 h6 (by decide) (by decide)
  have i4 : vp_in (i + 4) L := law_ix hL h0 h6 (by decide) (by decide)
  have i5 : vp_in (i + 5) L := law_ix hL h0 h6 (by decide) (by decide)
  refine a_aload_n X dL_law_1686 rfl ?_
  refine a_aload_n X dL_law_1687 rfl ?_
  refine a_iload_n X dL_law_1688 rfl ?_
  refine a_iconst (v := 1) X dL_law_1689 (by decide) ?_
  refine a_iadd X dL_law_1690 ?_
  refine a_sld X hX0 hsb hbb (i1) dL_law_1691 ?_
  refine a_callVx X dL_law_1692 miX7_print lmL_209 (f_print hI) (hI.1.2.1) rfl rfl rfl (Nat.le_of_ble_eq_true rfl) ⟨by decide, by decide, hc, hs⟩ (fun r_1692 S_1692 q_1692 => ?_)
  obtain ⟨⟨v_1692, rfl⟩, h_1692⟩ := q_1692
  refine a_pop X dL_law_1695 rfl ?_
  refine a_aload_n X dL_law_1696 rfl ?_
  refine a_aload_n X dL_law_1697 rfl ?_
  refine a_iload_n X dL_law_1698 rfl ?_
  refine a_iconst (v := 1) X dL_law_1699 (by decide) ?_
  refine a_iadd X dL_law_1700 ?_
  refine a_sld X hX0 hsb hbb (i1) dL_law_1701 ?_
  refine a_callVx X dL_law_1702 miX8_print lmL_212 (m_print h_1692) (h_1692.2.1.2.1) rfl rfl rfl (Nat.le_of_ble_eq_true rfl) ⟨by decide, by decide, hc, hs⟩ (fun r_1702 S_1702 q_1702 => ?_)
  obtain ⟨⟨v_1702, rfl⟩, h_1702⟩ := q_1702
  refine a_pop X dL_law_1705 rfl ?_
  refine a_goto (tgt := 1732) X dL_law_1706 (by decide) ?_
  exact law_K X hr hX0 hsb hbb h_1702 ih
set_option maxRecDepth 100000 in
set_option maxHeartbeats 8000000 in
theorem law_c48 {p : Program} {l : Launch} {e : Env} {s : State} {m : MethodId} {below : List Frame} {meth : Method} {c : Code} {G : zG} {b sb L : Nat} {xs : Nat → Int32} (X : zOK p s m #[Value.ref sb] meth c G b R_law code 4) (hr : meth.sig.returnType = ret) (hX0 : va_X sb L xs s s.heap) (hsb : sb < s.heap.size) (hbb : b = s.heap.size) (hL : L ≤ 3072) {nc ns : Nat} (hc : nc ≤ 600000) (hs : ns ≤ 7302250) {i : Int32} (h0 : 0 ≤ i.toInt) (h6 : i.toInt + 6 ≤ L) {S : zS} (hI : jI S) (ih : ∀ S' : zS, jI S' → Zw p l e room_1 s m #[Value.ref sb] below meth c G b 4 (lw_Z below #[Value.ref sb] s) nc ns 18 [some (.ref (1000000 + sb)), some (.ref 0), some (.ref 200), some (.int (i + 6))] [] S') : Zw p l e room_1 s m #[Value.ref sb] below meth c G b 4 (lw_Z below #[Value.ref sb] s) nc ns 1709 [some (.ref (1000000 + sb)), some (.ref 0), some (.ref 200), some (.int i)] [] S := by
  have i1 : vp_in (i + 1) L := law_ix hL h0 h6 (by decide) (by decide)
  have i2 : vp_in (i + 2) L := law_ix hL h0 h6 (by decide) (by decide)
  have i3 : vp_in (i + 3) L := law_ix hL h0 h6 (by decide) (by decide)
  have i4 : vp_in (i + 4) L := law_ix hL h0 h6 (by decide) (by decide)
  have i5 : vp_in (i + 5) L := law_ix hL h0 h6 (by decide) (by decide)
  refine a_aload_n X dL_law_1709 rfl ?_
  refine a_aload_n X dL_law_1710 rfl ?_
  refine a_iload_n X dL_law_1711 rfl ?_
  refine a_iconst (v := 1) X dL_law_1712 (by decide) ?_
  refine a_iadd X dL_law_1713 ?_
  refine a_sld X hX0 hsb hbb (i1) dL_law_1714 ?_
  refine a_callVx X dL_law_1715 miX7_out lmL_213 (f_out hI) (hI.1.2.1) rfl rfl rfl (Nat.le_of_ble_eq_true rfl) ⟨by decide, by decide, hc, hs⟩ (fun r_1715 S_1715 q_1715 => ?_)
  obtain ⟨⟨v_1715, rfl⟩, h_1715⟩ := q_1715
  refine a_pop X dL_law_1718 rfl ?_
  refine a_aload_n X dL_law_1719 rfl ?_
  refine a_aload_n X dL_law_1720 rfl ?_
  refine a_iload_n X dL_law_1721 rfl ?_
  refine a_iconst (v := 1) X dL_law_1722 (by decide) ?_
  refine a_iadd X dL_law_1723 ?_
  refine a_sld X hX0 hsb hbb (i1) dL_law_1724 ?_
  refine a_callVx X dL_law_1725 miX8_out lmL_216 (m_out h_1715) (h_1715.2.1.2.1) rfl rfl rfl (Nat.le_of_ble_eq_true rfl) ⟨by decide, by decide, hc, hs⟩ (fun r_1725 S_1725 q_1725 => ?_)
  obtain ⟨⟨v_1725, rfl⟩, h_1725⟩ := q_1725
  refine a_pop X dL_law_1728 rfl ?_
  refine a_goto (tgt := 1732) X dL_law_1729 (by decide) ?_
  exact law_K X hr hX0 hsb hbb h_1725 ih
