set_option maxRecDepth 100000 in
set_option maxHeartbeats 8000000 in
theorem law_c13 {p : Program} {l : Launch} {e : Env} {s : State} {m : MethodId} {below : List Frame} {meth : Method} {c : Code} {G : zG} {b sb L : Nat} {xs : Nat → Int32} (X : zOK p s m #[Value.ref sb] meth c G b R_law code 4) (hr : meth.sig.returnType = ret) (hX0 : va_X sb L xs s s.heap) (hsb : sb < s.heap.size) (hbb : b = s.heap.size) (hL : L ≤ 3072) {nc ns : Nat} (hc : nc ≤ 600000) (hs : ns ≤ 7302250) {i : Int32} (h0 : 0 ≤ i.toInt) (h6 : i.toInt + 6 ≤ L) {S : zS} (hI : jI S) (ih : ∀ S' : zS, jI S' → Zw p l e room_1 s m #[Value.ref sb] below meth c G b 4 (lw_Z below #[Value.ref sb] s) nc ns 18 [some (.ref (1000000 + sb)), some (.ref 0), some (.ref 200), some (.int (i + 6))] [] S') : Zw p l e room_1 s m #[Value.ref sb] below meth c G b 4 (lw_Z below #[Value.ref sb] s) nc ns 653 [some (.ref (1000000 + sb)), some (.ref 0), some (.ref 200), some (.int i)] [] S := by
  have i1 : vp_in (i + 1) L := law_ix hL h0 h6 (by decide) (by decide)
  have i2 : vp_in (i + 2) L := law_ix hL h0 h6 (by decide) (by decide)
  have i3 : vp_in (i + 3) L := law_ix hL h0 h6 (by decide) (by decide)
  have i4 : vp_in (i + 4) L := law_ix hL h0 h6 (by decide) (by decide)
  have i5 : vp_in (i + 5) L := law_ix hL h0 h6 (by decide) (by decide)
  refine a_aload_n X dL_law_653 rfl ?_
  refine a_aload_n X dL_law_654 rfl ?_
  refine a_iload_n X dL_law_655 rfl ?_
  refine a_iconst (v := 1) X dL_law_656 (by decide) ?_
  refine a_iadd X dL_law_657 ?_
  refine a_sld X hX0 hsb hbb (i1) dL_law_658 ?_
  refine a_aload_n X dL_law_659 rfl ?_
  refine a_iload_n X dL_law_660 rfl ?_
  refine a_iconst (v := 2) X dL_law_661 (by decide) ?_
  refine a_iadd X dL_law_662 ?_
  refine a_sld X hX0 hsb hbb (i2) dL_law_663 ?_
  refine a_callVx X dL_law_664 miX7_round lmL_69 (f_round hI) (hI.1.2.1) rfl rfl rfl (Nat.le_of_ble_eq_true rfl) ⟨by decide, by decide, hc, hs⟩ (fun r_664 S_664 q_664 => ?_)
  obtain ⟨⟨v_664, rfl⟩, h_664⟩ := q_664
  refine a_pop X dL_law_667 rfl ?_
  refine a_aload_n X dL_law_668 rfl ?_
  refine a_aload_n X dL_law_669 rfl ?_
  refine a_iload_n X dL_law_670 rfl ?_
  refine a_iconst (v := 1) X dL_law_671 (by decide) ?_
  refine a_iadd X dL_law_672 ?_
  refine a_sld X hX0 hsb hbb (i1) dL_law_673 ?_
  refine a_aload_n X dL_law_674 rfl ?_
  refine a_iload_n X dL_law_675 rfl ?_
  refine a_iconst (v := 2) X dL_law_676 (by decide) ?_
  refine a_iadd X dL_law_677 ?_
  refine a_sld X hX0 hsb hbb (i2) dL_law_678 ?_
  refine a_callVx X dL_law_679 miX8_round lmL_72 (m_round h_664) (h_664.2.1.2.1) rfl rfl rfl (Nat.le_of_ble_eq_true rfl) ⟨by decide, by decide, hc, hs⟩ (fun r_679 S_679 q_679 => ?_)
  obtain ⟨⟨v_679, rfl⟩, h_679⟩ := q_679
  refine a_pop X dL_law_682 rfl ?_
  refine a_goto (tgt := 1731) X dL_law_683 (by decide) ?_
  exact law_K X hr hX0 hsb hbb h_679 ih
set_option maxRecDepth 100000 in
set_option maxHeartbeats 8000000 in
theorem law_c14 {p : Program} {l : Launch} {e : Env} {s : State} {m : MethodId} {below : List Frame} {meth : Method} {c : Code} {G : zG} {b sb L : Nat} {xs : Nat → Int32} (X : zOK p s m #[Value.ref sb] meth c G b R_law code 4) (hr : meth.sig.returnType = ret) (hX0 : va_X sb L xs s s.heap) (hsb : sb < s.heap.size) (hbb : b = s.heap.size) (hL : L ≤ 3072) {nc ns : Nat} (hc : nc ≤ 600000) (hs : ns ≤ 7302250) {i : Int32} (h0 : 0 ≤ i.toInt) (h6 : i.toInt + 6 ≤ L) {S : zS} (hI : jI S) (ih : ∀ S' : zS, jI S' → Zw p l e room_1 s m #[Value.ref sb] below meth c G b 4 (lw_Z below #[Value.ref sb] s) nc ns 18 [some (.ref (1000000 + sb)), some (.ref 0), some (.ref 200), some (.int (i + 6))] [] S') : Zw p l e room_1 s m #[Value.ref sb] below meth c G b 4 (lw_Z below #[Value.ref sb] s) nc ns 686 [some (.ref (1000000 + sb)), some (.ref 0), some (.ref 200), some (.int i)] [] S := by
  have i1 : vp_in (i + 1) L := law_ix hL h0 h6 (by decide) (by decide)
  have i2 : vp_in (i + 2) L := law_ix hL h0 h6 (by decide) (by decide)
  have i3 : vp_in (i + 3) L := law_ix hL h0 h6 (by decide) (by decide)
  have i4 : vp_in (i + 4) L := law_ix hL h0 h6 (by decide) (by decide)
  have i5 : vp_in (i + 5) L := law_ix hL h0 h6 (by decide) (by decide)
  refine a_aload_n X dL_law_686 rfl ?_
  refine a_aload_n X dL_law_687 rfl ?_
  refine a_iload_n X dL_law_688 rfl ?_
  refine a_iconst (v := 1) X dL_law_689 (by decide) ?_
  refine a_iadd X dL_law_690 ?_
  refine a_sld X hX0 hsb hbb (i1) dL_law_691 ?_
  refine a_aload_n X dL_law_692 rfl ?_
  refine a_iload_n X dL_law_693 rfl ?_
  refine a_iconst (v := 2) X dL_law_694 (by decide) ?_
  refine a_iadd X dL_law_695 ?_
  refine a_sld X hX0 hsb hbb (i2) dL_law_696 ?_
  refine a_aload_n X dL_law_697 rfl ?_
  refine a_iload_n X dL_law_698 rfl ?_
  refine a_iconst (v := 3) X dL_law_699 (by decide) ?_
  refine a_iadd X dL_law_700 ?_
  refine a_sld X hX0 hsb hbb (i3) dL_law_701 ?_
  refine a_callVx X dL_law_702 miX7_left lmL_73 (f_left hI) (hI.1.2.1) rfl rfl rfl (Nat.le_of_ble_eq_true rfl) ⟨by decide, by decide, hc, hs⟩ (fun r_702 S_702 q_702 => ?_)
  obtain ⟨⟨v_702, rfl⟩, h_702⟩ := q_702
  refine a_pop X dL_law_705 rfl ?_
  refine a_aload_n X dL_law_706 rfl ?_
  refine a_aload_n X dL_law_707 rfl ?_
  refine a_iload_n X dL_law_708 rfl ?_
  refine a_iconst (v := 1) X dL_law_709 (by decide) ?_
  refine a_iadd X dL_law_710 ?_
  refine a_sld X hX0 hsb hbb (i1) dL_law_711 ?_
  refine a_aload_n X dL_law_712 rfl ?_
  refine a_iload_n X dL_law_713 rfl ?_
  refine a_iconst (v := 2) X dL_law_714 (by decide) ?_
  refine a_iadd X dL_law_715 ?_
  refine a_sld X hX0 hsb hbb (i2) dL_law_716 ?_
  refine a_aload_n X dL_law_717 rfl ?_
  refine a_iload_n X dL_law_718 rfl ?_
  refine a_iconst (v := 3) X dL_law_719 (by decide) ?_
  refine a_iadd X dL_law_720 ?_
  refine a_sld X hX0 hsb hbb (i3) dL_law_721 ?_
  refine a_callVx X dL_law_722 miX8_left lmL_77 (m_left h_702) (h_702.2.1.2.1) rfl rfl rfl (Nat.le_of_ble_eq_true rfl) ⟨by decide, by decide, hc, hs⟩ (fun r_722 S_722 q_722 => ?_)
  obtain ⟨⟨v_722, rfl⟩, h_722⟩ := q_722
  refine a_pop X dL_law_725 rfl ?_
  refine a_goto (tgt := 1731) X dL_law_726 (by decide) ?_
  exact law_K X hr hX0 hsb hbb h_722 ih
set_option maxRecDepth 100000 in
set_option maxHeartbeats 8000000 in
theorem law_c15 {p : Program} {l : Launch} {e : Env} {s : State} {m : MethodId} {below : List Frame} {meth : Method} {c : Code} {G : zG} {b sb L : Nat} {xs : Nat → Int32} (X : zOK p s m #[Value.ref sb] meth c G b R_law code 4) (hr : meth.sig.returnType = ret) (hX0 : va_X sb L xs s s.heap) (hsb : sb < s.heap.size) (hbb : b = s.heap.size) (hL : L ≤ 3072) {nc ns : Nat} (hc : nc ≤ 600000) (hs : ns ≤ 7302250) {i : Int32} (h0 : 0 ≤ i.toInt) (h6 : i.toInt + 6 ≤ L) {S : zS} (hI : jI S) (ih : ∀ S' : zS, jI S' → Zw p l e room_1 s m #[Value.ref sb] below meth c G b 4 (lw_Z below #[Value.ref sb] s) nc ns 18 [some (.ref (1000000 + sb)), some (.ref 0), some (.ref 200), some (.int (i + 6))] [] S') : Zw p l e room_1 s m #[Value.ref sb] below meth c G b 4 (lw_Z below #[Value.ref sb] s) nc ns 729 [some (.ref (1000000 + sb)), some (.ref 0), some (.ref 200), some (.int i)] [] S := by
  have i1 : vp_in (i + 1) L := law_ix hL h0 h6 (by decide) (by decide)
  have i2 : vp_in (i + 2) L := law_ix hL h0 h6 (by decide) (by decide)
  have i3 : vp_in (i + 3) L := law_ix hL h0 h6 (by decide) (by decide)
  have i4 : vp_in (i + 4) L := law_ix hL h0 h6 (by decide) (by decide)
  have i5 : vp_in (i + 5) L := law_ix hL h0 h6 (by decide) (by decide)
  refine a_aload_n X dL_law_729 rfl ?_
  refine a_aload_n X dL_law_730 rfl ?_
  refine a_iload_n X dL_law_731 rfl ?_
  refine a_iconst (v := 1) X dL_law_732 (by decide) ?_
  refine a_iadd X dL_law_733 ?_
  refine a_sld X hX0 hsb hbb (i1) dL_law_734 ?_
  refine a_callVx X dL_law_735 miX7_winners lmL_78 (f_winners hI) (hI.1.2.1) rfl rfl rfl (Nat.le_of_ble_eq_true rfl) ⟨by decide, by decide, hc, hs⟩ (fun r_735 S_735 q_735 => ?_)
  obtain ⟨⟨v_735, rfl⟩, h_735⟩ := q_735
  refine a_pop X dL_law_738 rfl ?_
  refine a_aload_n X dL_law_739 rfl ?_
  refine a_aload_n X dL_law_740 rfl ?_
  refine a_iload_n X dL_law_741 rfl ?_
  refine a_iconst (v := 1) X dL_law_742 (by decide) ?_
  refine a_iadd X dL_law_743 ?_
  refine a_sld X hX0 hsb hbb (i1) dL_law_744 ?_
  refine a_callVx X dL_law_745 miX8_winners lmL_81 (m_winners h_735) (h_735.2.1.2.1) rfl rfl rfl (Nat.le_of_ble_eq_true rfl) ⟨by decide, by decide, hc, hs⟩ (fun r_745 S_745 q_745 => ?_)
  obtain ⟨⟨v_745, rfl⟩, h_745⟩ := q_745
  refine a_pop X dL_law_748 rfl ?_
  refine a_goto (tgt := 1731) X dL_law_749 (by decide) ?_
  exact law_K X hr hX0 hsb hbb h_745 ih
set_option maxRecDepth 100000 in
set_option maxHeartbeats 8000000 in
theorem law_c16 {p : Program} {l : Launch} {e : Env} {s : State} {m : MethodId} {below : List Frame} {meth : Method} {c : Code} {G : zG} {b sb L : Nat} {xs : Nat → Int32} (X : zOK p s m #[Value.ref sb] meth c G b R_law code 4) (hr : meth.sig.returnType = ret) (hX0 : va_X sb L xs s s.heap) (hsb : sb < s.heap.size) (hbb : b = s.heap.size) (hL : L ≤ 3072) {nc ns : Nat} (hc : nc ≤ 600000) (hs : ns ≤ 7302250) {i : Int32} (h0 : 0 ≤ i.toInt) (h6 : i.toInt + 6 ≤ L) {S : zS} (hI : jI S) (ih : ∀ S' : zS, jI S' → Zw p l e room_1 s m #[Value.ref sb] below meth c G b 4 (lw_Z below #[Value.ref sb] s) nc ns 18 [some (.ref (1000000 + sb)), some (.ref 0), some (.ref 200), some (.int (i + 6))] [] S') : Zw p l e room_1 s m #[Value.ref sb] below meth c G b 4 (lw_Z below #[Value.ref sb] s) nc ns 752 [some (.ref (1000000 + sb)), some (.ref 0), some (.ref 200), some (.int i)] [] S := by
  have i1 : vp_in (i + 1) L := law_ix hL h0 h6 (by decide) (by decide)
  have i2 : vp_in (i + 2) L := law_ix hL h0 h6 (by decide) (by decide)
  have i3 : vp_in (i + 3) L := law_ix hL h0 h6 (by decide) (by decide)
  have i4 : vp_in (i + 4) L := law_ix hL h0 h6 (by decide) (by decide)
  have i5 : vp_in (i + 5) L := law_ix hL h0 h6 (by decide) (by decide)
  refine a_aload_n X dL_law_752 rfl ?_
  refine a_aload_n X dL_law_753 rfl ?_
  refine a_iload_n X dL_law_754 rfl ?_
  refine a_iconst (v := 1) X dL_law_755 (by decide) ?_
  refine a_iadd X dL_law_756 ?_
  refine a_sld X hX0 hsb hbb (i1) dL_law_757 ?_
  refine a_aload_n X dL_law_758 rfl ?_
  refine a_iload_n X dL_law_759 rfl ?_
  refine a_iconst (v := 2) X dL_law_760 (by decide) ?_
  refine a_iadd X dL_law_761 ?_
  refine a_sld X hX0 hsb hbb (i2) dL_law_762 ?_
  refine a_aload_n X dL_law_763 rfl ?_
  refine a_iload_n X dL_law_764 rfl ?_
  refine a_iconst (v := 3) X dL_law_765 (by decide) ?_
  refine a_iadd X dL_law_766 ?_
  refine a_sld X hX0 hsb hbb (i3) dL_law_767 ?_
  refine a_callVx X dL_law_768 miX7_waits lmL_82 (f_waits hI) (hI.1.2.1) rfl rfl rfl (Nat.le_of_ble_eq_true rfl) ⟨by decide, by decide, hc, hs⟩ (fun r_768 S_768 q_768 => ?_)
  obtain ⟨⟨v_768, rfl⟩, h_768⟩ := q_768
  refine a_pop X dL_law_771 rfl ?_
  refine a_aload_n X dL_law_772 rfl ?_
  refine a_aload_n X dL_law_773 rfl ?_
  refine a_iload_n X dL_law_774 rfl ?_
  refine a_iconst (v := 1) X dL_law_775 (by decide) ?_
  refine a_iadd X dL_law_776 ?_
  refine a_sld X hX0 hsb hbb (i1) dL_law_777 ?_
  refine a_aload_n X dL_law_778 rfl ?_
  refine a_iload_n X dL_law_779 rfl ?_
  refine a_iconst (v := 2) X dL_law_780 (by decide) ?_
  refine a_iadd X dL_law_781 ?_
  refine a_sld X hX0 hsb hbb (i2) dL_law_782 ?_
  refine a_aload_n X dL_law_783 rfl ?_
  refine a_iload_n X dL_law_784 rfl ?_
  refine a_iconst (v := 3) X dL_law_785 (by decide) ?_
  refine a_iadd X dL_law_786 ?_
  refine a_sld X hX0 hsb hbb (i3) dL_law_787 ?_
  refine a_callVx X dL_law_788 miX8_waits lmL_85 (m_waits h_768) (h_768.2.1.2.1) rfl rfl rfl (Nat.le_of_ble_eq_true rfl) ⟨by decide, by decide, hc, hs⟩ (fun r_788 S_788 q_788 => ?_)
  obtain ⟨⟨v_788, rfl⟩, h_788⟩ := q_788
  refine a_pop X dL_law_791 rfl ?_
  refine a_goto (tgt := 1731) X dL_law_792 (by decide) ?_
  exact law_K X hr hX0 hsb hbb h_788 ih
set_option maxRecDepth 100000 in
set_option maxHeartbeats 8000000 in
theorem law_c17 {p : Program} {l : Launch} {e : Env} {s : State} {m : MethodId} {below : List Frame} {meth : Method} {c : Code} {G : zG} {b sb L : Nat} {xs : Nat → Int32} (X : zOK p s m #[Value.ref sb] meth c G b R_law code 4) (hr : meth.sig.returnType = ret) (hX0 : va_X sb L xs s s.heap) (hsb : sb < s.heap.size) (hbb : b = s.heap.size) (hL : L ≤ 3072) {nc ns : Nat} (hc : nc ≤ 600000) (hs : ns ≤ 7302250) {i : Int32} (h0 : 0 ≤ i.toInt) (h6 : i.toInt + 6 ≤ L) {S : zS} (hI : jI S) (ih : ∀ S' : zS, jI S' → Zw p l e room_1 s m #[Value.ref sb] below meth c G b 4 (lw_Z below #[Value.ref sb] s) nc ns 18 [some (.ref (1000000 + sb)), some (.ref 0), some (.ref 200), some (.int (i + 6))] [] S') : Zw p l e room_1 s m #[Value.ref sb] below meth c G b 4 (lw_Z below #[Value.ref sb] s) nc ns 795 [some (.ref (1000000 + sb)), some (.ref 0), some (.ref 200), some (.int i)] [] S := by
  have i1 : vp_in (i + 1) L := law_ix hL h0 h6 (by decide) (by decide)
  have i2 : vp_in (i + 2) L := law_ix hL h0 h6 (by decide) (by decide)
  have i3 : vp_in (i + 3) L := law_ix hL h0 h6 (by decide) (by decide)
  have i4 : vp_in (i + 4) L := law_ix hL h0 h6 (by decide) (by decide)
  have i5 : vp_in (i + 5) L := law_ix hL h0 h6 (by decide) (by decide)
  refine a_aload_n X dL_law_795 rfl ?_
  refine a_aload_n X dL_law_796 rfl ?_
  refine a_iload_n X dL_law_797 rfl ?_
  refine a_iconst (v := 1) X dL_law_798 (by decide) ?_
  refine a_iadd X dL_law_799 ?_
  refine a_sld X hX0 hsb hbb (i1) dL_law_800 ?_
  refine a_aload_n X dL_law_801 rfl ?_
  refine a_iload_n X dL_law_802 rfl ?_
  refine a_iconst (v := 2) X dL_law_803 (by decide) ?_
  refine a_iadd X dL_law_804 ?_
  refine a_sld X hX0 hsb hbb (i2) dL_law_805 ?_
  refine a_aload_n X dL_law_806 rfl ?_
  refine a_iload_n X dL_law_807 rfl ?_
  refine a_iconst (v := 3) X dL_law_808 (by decide) ?_
  refine a_iadd X dL_law_809 ?_
  refine a_sld X hX0 hsb hbb (i3) dL_law_810 ?_
  refine a_callVx X dL_law_811 miX7_next lmL_86 (f_next hI) (hI.1.2.1) rfl rfl rfl (Nat.le_of_ble_eq_true rfl) ⟨by decide, by decide, hc, hs⟩ (fun r_811 S_811 q_811 => ?_)
  obtain ⟨⟨v_811, rfl⟩, h_811⟩ := q_811
  refine a_pop X dL_law_814 rfl ?_
  refine a_aload_n X dL_law_815 rfl ?_
  refine a_aload_n X dL_law_816 rfl ?_
  refine a_iload_n X dL_law_817 rfl ?_
  refine a_iconst (v := 1) X dL_law_818 (by decide) ?_
  refine a_iadd X dL_law_819 ?_
  refine a_sld X hX0 hsb hbb (i1) dL_law_820 ?_
  refine a_aload_n X dL_law_821 rfl ?_
  refine a_iload_n X dL_law_822 rfl ?_
  refine a_iconst (v := 2) X dL_law_823 (by decide) ?_
  refine a_iadd X dL_law_824 ?_
  refine a_sld X hX0 hsb hbb (i2) dL_law_825 ?_
  refine a_aload_n X dL_law_826 rfl ?_
  refine a_iload_n X dL_law_827 rfl ?_
  refine a_iconst (v := 3) X dL_law_828 (by decide) ?_
  refine a_iadd X dL_law_829 ?_
  refine a_sld X hX0 hsb hbb (i3) dL_law_830 ?_
  refine a_callVx X dL_law_831 miX8_next_ lmL_89 (m_next h_811) (h_811.2.1.2.1) rfl rfl rfl (Nat.le_of_ble_eq_true rfl) ⟨by decide, by decide, hc, hs⟩ (fun r_831 S_831 q_831 => ?_)
  obtain ⟨⟨v_831, rfl⟩, h_831⟩ := q_831
  refine a_pop X dL_law_834 rfl ?_
  refine a_goto (tgt := 1731) X dL_law_835 (by decide) ?_
  exact law_K X hr hX0 hsb hbb h_831 ih
set_option maxRecDepth 100000 in
set_option maxHeartbeats 8000000 in
theorem law_c18 {p : Program} {l : Launch} {e : Env} {s : State} {m : MethodId} {below : List Frame} {meth : Method} {c : Code} {G : zG} {b sb L : Nat} {xs : Nat → Int32} (X : zOK p s m #[Value.ref sb] meth c G b R_law code 4) (hr : meth.sig.returnType = ret) (hX0 : va_X sb L xs s s.heap) (hsb : sb < s.heap.size) (hbb : b = s.heap.size) (hL : L ≤ 3072) {nc ns : Nat} (hc : nc ≤ 600000) (hs : ns ≤ 7302250) {i : Int32} (h0 : 0 ≤ i.toInt) (h6 : i.toInt + 6 ≤ L) {S : zS} (hI : jI S) (ih : ∀ S' : zS, jI S' → Zw p l e room_1 s m #[Value.ref sb] below meth c G b 4 (lw_Z below #[Value.ref sb] s) nc ns 18 [some (.ref (1000000 + sb)), some (.ref 0), some (.ref 200), some (.int (i + 6))] [] S') : Zw p l e room_1 s m #[Value.ref sb] below meth c G b 4 (lw_Z below #[Value.ref sb] s) nc ns 838 [some (.ref (1000000 + sb)), some (.ref 0), some (.ref 200), some (.int i)] [] S := by
  have i1 : vp_in (i + 1) L := law_ix hL h0 h6 (by decide) (by decide)
  have i2 : vp_in (i + 2) L := law_ix hL h0 h6 (by decide) (by decide)
  have i3 : vp_in (i + 3) L := law_ix hL h0 h6 (by decide) (by decide)
  have i4 : vp_in (i + 4) L := law_ix hL h0 h6 (by decide) (by decide)
  have i5 : vp_in (i + 5) L := law_ix hL h0 h6 (by decide) (by decide)
  refine a_aload_n X dL_law_838 rfl ?_
  refine a_aload_n X dL_law_839 rfl ?_
  refine a_iload_n X dL_law_840 rfl ?_
  refine a_iconst (v := 1) X dL_law_841 (by decide) ?_
  refine a_iadd X dL_law_842 ?_
  refine a_sld X hX0 hsb hbb (i1) dL_law_843 ?_
  refine a_aload_n X dL_law_844 rfl ?_
  refine a_iload_n X dL_law_845 rfl ?_
  refine a_iconst (v := 2) X dL_law_846 (by decide) ?_
  refine a_iadd X dL_law_847 ?_
  refine a_sld X hX0 hsb hbb (i2) dL_law_848 ?_
  refine a_callVx X dL_law_849 miX7_envies lmL_90 (f_envies hI) (hI.1.2.1) rfl rfl rfl (Nat.le_of_ble_eq_true rfl) ⟨by decide, by decide, hc, hs⟩ (fun r_849 S_849 q_849 => ?_)
  obtain ⟨⟨v_849, rfl⟩, h_849⟩ := q_849
  refine a_pop X dL_law_852 rfl ?_
  refine a_aload_n X dL_law_853 rfl ?_
  refine a_aload_n X dL_law_854 rfl ?_
  refine a_iload_n X dL_law_855 rfl ?_
  refine a_iconst (v := 1) X dL_law_856 (by decide) ?_
  refine a_iadd X dL_law_857 ?_
  refine a_sld X hX0 hsb hbb (i1) dL_law_858 ?_
  refine a_aload_n X dL_law_859 rfl ?_
  refine a_iload_n X dL_law_860 rfl ?_
  refine a_iconst (v := 2) X dL_law_861 (by decide) ?_
  refine a_iadd X dL_law_862 ?_
  refine a_sld X hX0 hsb hbb (i2) dL_law_863 ?_
  refine a_callVx X dL_law_864 miX8_envies lmL_93 (m_envies h_849) (h_849.2.1.2.1) rfl rfl rfl (Nat.le_of_ble_eq_true rfl) ⟨by decide, by decide, hc, hs⟩ (fun r_864 S_864 q_864 => ?_)
  obtain ⟨⟨v_864, rfl⟩, h_864⟩ := q_864
  refine a_pop X dL_law_867 rfl ?_
  refine a_goto (tgt := 1731) X dL_law_868 (by decide) ?_
  exact law_K X hr hX0 hsb hbb h_864 ih
set_option maxRecDepth 100000 in
set_option maxHeartbeats 8000000 in
theorem law_c19 {p : Program} {l : Launch} {e : Env} {s : State} {m : MethodId} {below : List Frame} {meth : Method} {c : Code} {G : zG} {b sb L : Nat} {xs : Nat → Int32} (X : zOK p s m #[Value.ref sb] meth c G b R_law code 4) (hr : meth.sig.returnType = ret) (hX0 : va_X sb L xs s s.heap) (hsb : sb < s.heap.size) (hbb : b = s.heap.size) (hL : L ≤ 3072) {nc ns : Nat} (hc : nc ≤ 600000) (hs : ns ≤ 7302250) {i : Int32} (h0 : 0 ≤ i.toInt) (h6 : i.toInt + 6 ≤ L) {S : zS} (hI : jI S) (ih : ∀ S' : zS, jI S' → Zw p l e room_1 s m #[Value.ref sb] below meth c G b 4 (lw_Z below #[Value.ref sb] s) nc ns 18 [some (.ref (1000000 + sb)), some (.ref 0), some (.ref 200), some (.int (i + 6))] [] S') : Zw p l e room_1 s m #[Value.ref sb] below meth c G b 4 (lw_Z below #[Value.ref sb] s) nc ns 871 [some (.ref (1000000 + sb)), some (.ref 0), some (.ref 200), some (.int i)] [] S := by
  have i1 : vp_in (i + 1) L := law_ix hL h0 h6 (by decide) (by decide)
  have i2 : vp_in (i + 2) L := law_ix hL h0 h6 (by decide) (by decide)
  have i3 : vp_in (i + 3) L := law_ix hL h0 h6 (by decide) (by decide)
  have i4 : vp_in (i + 4) L := law_ix hL h0 h6 (by decide) (by decide)
  have i5 : vp_in (i + 5) L := law_ix hL h0 h6 (by decide) (by decide)
  refine a_aload_n X dL_law_871 rfl ?_
  refine a_aload_n X dL_law_872 rfl ?_
  refine a_iload_n X dL_law_873 rfl ?_
  refine a_iconst (v := 1) X dL_law_874 (by decide) ?_
  refine a_iadd X dL_law_875 ?_
  refine a_sld X hX0 hsb hbb (i1) dL_law_876 ?_
  refine a_aload_n X dL_law_877 rfl ?_
  refine a_iload_n X dL_law_878 rfl ?_
  refine a_iconst (v := 2) X dL_law_879 (by decide) ?_
  refine a_iadd X dL_law_880 ?_
  refine a_sld X hX0 hsb hbb (i2) dL_law_881 ?_
  refine a_callVx X dL_law_882 miX7_spoils lmL_94 (f_spoils hI) (hI.1.2.1) rfl rfl rfl (Nat.le_of_ble_eq_true rfl) ⟨by decide, by decide, hc, hs⟩ (fun r_882 S_882 q_882 => ?_)
  obtain ⟨⟨v_882, rfl⟩, h_882⟩ := q_882
  refine a_pop X dL_law_885 rfl ?_
  refine a_aload_n X dL_law_886 rfl ?_
  refine a_aload_n X dL_law_887 rfl ?_
  refine a_iload_n X dL_law_888 rfl ?_
  refine a_iconst (v := 1) X dL_law_889 (by decide) ?_
  refine a_iadd X dL_law_890 ?_
  refine a_sld X hX0 hsb hbb (i1) dL_law_891 ?_
  refine a_aload_n X dL_law_892 rfl ?_
  refine a_iload_n X dL_law_893 rfl ?_
  refine a_iconst (v := 2) X dL_law_894 (by decide) ?_
  refine a_iadd X dL_law_895 ?_
  refine a_sld X hX0 hsb hbb (i2) dL_law_896 ?_
  refine a_callVx X dL_law_897 miX8_spoils lmL_97 (m_spoils h_882) (h_882.2.1.2.1) rfl rfl rfl (Nat.le_of_ble_eq_true rfl) ⟨by decide, by decide, hc, hs⟩ (fun r_897 S_897 q_897 => ?_)
  obtain ⟨⟨v_897, rfl⟩, h_897⟩ := q_897
  refine a_pop X dL_law_900 rfl ?_
  refine a_goto (tgt := 1731) X dL_law_901 (by decide) ?_
  exact law_K X hr hX0 hsb hbb h_897 ih
set_option maxRecDepth 100000 in
set_option maxHeartbeats 8000000 in
theorem law_c20 {p : Program} {l : Launch} {e : Env} {s : State} {m : MethodId} {below : List Frame} {meth : Method} {c : Code} {G : zG} {b sb L : Nat} {xs : Nat → Int32} (X : zOK p s m #[Value.ref sb] meth c G b R_law code 4) (hr : meth.sig.returnType = ret) (hX0 : va_X sb L xs s s.heap) (hsb : sb < s.heap.size) (hbb : b = s.heap.size) (hL : L ≤ 3072) {nc ns : Nat} (hc : nc ≤ 600000) (hs : ns ≤ 7302250) {i : Int32} (h0 : 0 ≤ i.toInt) (h6 : i.toInt + 6 ≤ L) {S : zS} (hI : jI S) (ih : ∀ S' : zS, jI S' → Zw p l e room_1 s m #[Value.ref sb] below meth c G b 4 (lw_Z below #[Value.ref sb] s) nc ns 18 [some (.ref (1000000 + sb)), some (.ref 0), some (.ref 200), some (.int (i + 6))] [] S') : Zw p l e room_1 s m #[Value.ref sb] below meth c G b 4 (lw_Z below #[Value.ref sb] s) nc ns 904 [some (.ref (1000000 + sb)), some (.ref 0), some (.ref 200), some (.int i)] [] S := by
  have i1 : vp_in (i + 1) L := law_ix hL h0 h6 (by decide) (by decide)
  have i2 : vp_in (i + 2) L := law_ix hL h0 h6 (by decide) (by decide)
  have i3 : vp_in (i + 3) L := law_ix hL h0 h6 (by decide) (by decide)
  have i4 : vp_in (i + 4) L := law_ix hL h0 h6 (by decide) (by decide)
  have i5 : vp_in (i + 5) L := law_ix hL h0 h6 (by decide) (by decide)
  refine a_aload_n X dL_law_904 rfl ?_
  refine a_aload_n X dL_law_905 rfl ?_
  refine a_iload_n X dL_law_906 rfl ?_
  refine a_iconst (v := 1) X dL_law_907 (by decide) ?_
  refine a_iadd X dL_law_908 ?_
  refine a_sld X hX0 hsb hbb (i1) dL_law_909 ?_
  refine a_aload_n X dL_law_910 rfl ?_
  refine a_iload_n X dL_law_911 rfl ?_
  refine a_iconst (v := 2) X dL_law_912 (by decide) ?_
  refine a_iadd X dL_law_913 ?_
  refine a_sld X hX0 hsb hbb (i2) dL_law_914 ?_
  refine a_callVx X dL_law_915 miX7_behind lmL_98 (f_behind hI) (hI.1.2.1) rfl rfl rfl (Nat.le_of_ble_eq_true rfl) ⟨by decide, by decide, hc, hs⟩ (fun r_915 S_915 q_915 => ?_)
  obtain ⟨⟨v_915, rfl⟩, h_915⟩ := q_915
  refine a_pop X dL_law_918 rfl ?_
  refine a_aload_n X dL_law_919 rfl ?_
  refine a_aload_n X dL_law_920 rfl ?_
  refine a_iload_n X dL_law_921 rfl ?_
  refine a_iconst (v := 1) X dL_law_922 (by decide) ?_
  refine a_iadd X dL_law_923 ?_
  refine a_sld X hX0 hsb hbb (i1) dL_law_924 ?_
  refine a_aload_n X dL_law_925 rfl ?_
  refine a_iload_n X dL_law_926 rfl ?_
  refine a_iconst (v := 2) X dL_law_927 (by decide) ?_
  refine a_iadd X dL_law_928 ?_
  refine a_sld X hX0 hsb hbb (i2) dL_law_929 ?_
  refine a_callVx X dL_law_930 miX8_behind lmL_101 (m_behind h_915) (h_915.2.1.2.1) rfl rfl rfl (Nat.le_of_ble_eq_true rfl) ⟨by decide, by decide, hc, hs⟩ (fun r_930 S_930 q_930 => ?_)
  obtain ⟨⟨v_930, rfl⟩, h_930⟩ := q_930
  refine a_pop X dL_law_933 rfl ?_
  refine a_goto (tgt := 1731) X dL_law_934 (by decide) ?_
  exact law_K X hr hX0 hsb hbb h_930 ih
set_option maxRecDepth 100000 in
set_option maxHeartbeats 8000000 in
theorem law_c21 {p : Program} {l : Launch} {e : Env} {s : State} {m : MethodId} {below : List Frame} {meth : Method} {c : Code} {G : zG} {b sb L : Nat} {xs : Nat → Int32} (X : zOK p s m #[Value.ref sb] meth c G b R_law code 4) (hr : meth.sig.returnType = ret) (hX0 : va_X sb L xs s s.heap) (hsb : sb < s.heap.size) (hbb : b = s.heap.size) (hL : L ≤ 3072) {nc ns : Nat} (hc : nc ≤ 600000) (hs : ns ≤ 7302250) {i : Int32} (h0 : 0 ≤ i.toInt) (h6 : i.toInt + 6 ≤ L) {S : zS} (hI : jI S) (ih : ∀ S' : zS, jI S' → Zw p l e room_1 s m #[Value.ref sb] below meth c G b 4 (lw_Z below #[Value.ref sb] s) nc ns 18 [some (.ref (1000000 + sb)), some (.ref 0), some (.ref 200), some (.int (i + 6))] [] S') : Zw p l e room_1 s m #[Value.ref sb] below meth c G b 4 (lw_Z below #[Value.ref sb] s) nc ns 937 [some (.ref (1000000 + sb)), some (.ref 0), some (.ref 200), some (.int i)] [] S := by
  have i1 : vp_in (i + 1) L := law_ix hL h0 h6 (by decide) (by decide)
  have i2 : vp_in (i + 2) L := law_ix hL h0 h6 (by decide) (by decide)
  have i3 : vp_in (i + 3) L := law_ix hL h0 h6 (by decide) (by decide)
  have i4 : vp_in (i + 4) L := law_ix hL h0 h6 (by decide) (by decide)
  have i5 : vp_in (i + 5) L := law_ix hL h0 h6 (by decide) (by decide)
  refine a_aload_n X dL_law_937 rfl ?_
  refine a_aload_n X dL_law_938 rfl ?_
  refine a_iload_n X dL_law_939 rfl ?_
  refine a_iconst (v := 1) X dL_law_940 (by decide) ?_
  refine a_iadd X dL_law_941 ?_
  refine a_sld X hX0 hsb hbb (i1) dL_law_942 ?_
  refine a_aload_n X dL_law_943 rfl ?_
  refine a_iload_n X dL_law_944 rfl ?_
  refine a_iconst (v := 2) X dL_law_945 (by decide) ?_
  refine a_iadd X dL_law_946 ?_
  refine a_sld X hX0 hsb hbb (i2) dL_law_947 ?_
  refine a_callVx X dL_law_948 miX7_lucky lmL_102 (f_lucky hI) (hI.1.2.1) rfl rfl rfl (Nat.le_of_ble_eq_true rfl) ⟨by decide, by decide, hc, hs⟩ (fun r_948 S_948 q_948 => ?_)
  obtain ⟨⟨v_948, rfl⟩, h_948⟩ := q_948
  refine a_pop X dL_law_951 rfl ?_
  refine a_aload_n X dL_law_952 rfl ?_
  refine a_aload_n X dL_law_953 rfl ?_
  refine a_iload_n X dL_law_954 rfl ?_
  refine a_iconst (v := 1) X dL_law_955 (by decide) ?_
  refine a_iadd X dL_law_956 ?_
  refine a_sld X hX0 hsb hbb (i1) dL_law_957 ?_
  refine a_aload_n X dL_law_958 rfl ?_
  refine a_iload_n X dL_law_959 rfl ?_
  refine a_iconst (v := 2) X dL_law_960 (by decide) ?_
  refine a_iadd X dL_law_961 ?_
  refine a_sld X hX0 hsb hbb (i2) dL_law_962 ?_
  refine a_callVx X dL_law_963 miX8_lucky lmL_105 (m_lucky h_948) (h_948.2.1.2.1) rfl rfl rfl (Nat.le_of_ble_eq_true rfl) ⟨by decide, by decide, hc, hs⟩ (fun r_963 S_963 q_963 => ?_)
  obtain ⟨⟨v_963, rfl⟩, h_963⟩ := q_963
  refine a_pop X dL_law_966 rfl ?_
  refine a_goto (tgt := 1731) X dL_law_967 (by decide) ?_
  exact law_K X hr hX0 hsb hbb h_963 ih
set_option maxRecDepth 100000 in
set_option maxHeartbeats 8000000 in
theorem law_c22 {p : Program} {l : Launch} {e : Env} {s : State} {m : MethodId} {below : List Frame} {meth : Method} {c : Code} {G : zG} {b sb L : Nat} {xs : Nat → Int32} (X : zOK p s m #[Value.ref sb] meth c G b R_law code 4) (hr : meth.sig.returnType = ret) (hX0 : va_X sb L xs s s.heap) (hsb : sb < s.heap.size) (hbb : b = s.heap.size) (hL : L ≤ 3072) {nc ns : Nat} (hc : nc ≤ 600000) (hs : ns ≤ 7302250) {i : Int32} (h0 : 0 ≤ i.toInt) (h6 : i.toInt + 6 ≤ L) {S : zS} (hI : jI S) (ih : ∀ S' : zS, jI S' → Zw p l e room_1 s m #[Value.ref sb] below meth c G b 4 (lw_Z below #[Value.ref sb] s) nc ns 18 [some (.ref (1000000 + sb)), some (.ref 0), some (.ref 200), some (.int (i + 6))] [] S') : Zw p l e room_1 s m #[Value.ref sb] below meth c G b 4 (lw_Z below #[Value.ref sb] s) nc ns 970 [some (.ref (1000000 + sb)), some (.ref 0), some (.ref 200), some (.int i)] [] S := by
  have i1 : vp_in (i + 1) L := law_ix hL h0 h6 (by decide) (by decide)
  have i2 : vp_in (i + 2) L := law_ix hL h0 h6 (by decide) (by decide)
  have i3 : vp_in (i + 3) L := law_ix hL h0 h6 (by decide) (by decide)
  have i4 : vp_in (i + 4) L := law_ix hL h0 h6 (by decide) (by decide)
  have i5 : vp_in (i + 5) L := law_ix hL h0 h6 (by decide) (by decide)
  refine a_aload_n X dL_law_970 rfl ?_
  refine a_aload_n X dL_law_971 rfl ?_
  refine a_iload_n X dL_law_972 rfl ?_
  refine a_iconst (v := 1) X dL_law_973 (by decide) ?_
  refine a_iadd X dL_law_974 ?_
  refine a_sld X hX0 hsb hbb (i1) dL_law_975 ?_
  refine a_aload_n X dL_law_976 rfl ?_
  refine a_iload_n X dL_law_977 rfl ?_
  refine a_iconst (v := 2) X dL_law_978 (by decide) ?_
  refine a_iadd X dL_law_979 ?_
  refine a_sld X hX0 hsb hbb (i2) dL_law_980 ?_
  refine a_callVx X dL_law_981 miX7_chance lmL_106 (f_chance hI) (hI.1.2.1) rfl rfl rfl (Nat.le_of_ble_eq_true rfl) ⟨by decide, by decide, hc, hs⟩ (fun r_981 S_981 q_981 => ?_)
  obtain ⟨⟨v_981, rfl⟩, h_981⟩ := q_981
  refine a_pop2 X dL_law_984 rfl ?_
  refine a_aload_n X dL_law_985 rfl ?_
  refine a_aload_n X dL_law_986 rfl ?_
  refine a_iload_n X dL_law_987 rfl ?_
  refine a_iconst (v := 1) X dL_law_988 (by decide) ?_
  refine a_iadd X dL_law_989 ?_
  refine a_sld X hX0 hsb hbb (i1) dL_law_990 ?_
  refine a_aload_n X dL_law_991 rfl ?_
  refine a_iload_n X dL_law_992 rfl ?_
  refine a_iconst (v := 2) X dL_law_993 (by decide) ?_
  refine a_iadd X dL_law_994 ?_
  refine a_sld X hX0 hsb hbb (i2) dL_law_995 ?_
  refine a_callVx X dL_law_996 miX8_chance lmL_110 (m_chance h_981) (h_981.2.1.2.1) rfl rfl rfl (Nat.le_of_ble_eq_true rfl) ⟨by decide, by decide, hc, hs⟩ (fun r_996 S_996 q_996 => ?_)
  obtain ⟨⟨v_996, rfl⟩, h_996⟩ := q_996
  refine a_pop2 X dL_law_999 rfl ?_
  refine a_goto (tgt := 1731) X dL_law_1000 (by decide) ?_
  exact law_K X hr hX0 hsb hbb h_996 ih
set_option maxRecDepth 100000 in
set_option maxHeartbeats 8000000 in
theorem law_c23 {p : Program} {l : Launch} {e : Env} {s : State} {m : MethodId} {below : List Frame} {meth : Method} {c : Code} {G : zG} {b sb L : Nat} {xs : Nat → Int32} (X : zOK p s m #[Value.ref sb] meth c G b R_law code 4) (hr : meth.sig.returnType = ret) (hX0 : va_X sb L xs s s.heap) (hsb : sb < s.heap.size) (hbb : b = s.heap.size) (hL : L ≤ 3072) {nc ns : Nat} (hc : nc ≤ 600000) (hs : ns ≤ 7302250) {i : Int32} (h0 : 0 ≤ i.toInt) (h6 : i.toInt + 6 ≤ L) {S : zS} (hI : jI S) (ih : ∀ S' : zS, jI S' → Zw p l e room_1 s m #[Value.ref sb] below meth c G b 4 (lw_Z below #[Value.ref sb] s) nc ns 18 [some (.ref (1000000 + sb)), some (.ref 0), some (.ref 200), some (.int (i + 6))] [] S') : Zw p l e room_1 s m #[Value.ref sb] below meth c G b 4 (lw_Z below #[Value.ref sb] s) nc ns 1003 [some (.ref (1000000 + sb)), some (.ref 0), some (.ref 200), some (.int i)] [] S := by
  have i1 : vp_in (i + 1) L := law_ix hL h0 h6 (by decide) (by decide)
  have i2 : vp_in (i + 2) L := law_ix hL h0 h6 (by decide) (by decide)
  have i3 : vp_in (i + 3) L := law_ix hL h0 h6 (by decide) (by decide)
  have i4 : vp_in (i + 4) L := law_ix hL h0 h6 (by decide) (by decide)
  have i5 : vp_in (i + 5) L := law_ix hL h0 h6 (by decide) (by decide)
  refine a_aload_n X dL_law_1003 rfl ?_
  refine a_aload_n X dL_law_1004 rfl ?_
  refine a_iload_n X dL_law_1005 rfl ?_
  refine a_iconst (v := 1) X dL_law_1006 (by decide) ?_
  refine a_iadd X dL_law_1007 ?_
  refine a_sld X hX0 hsb hbb (i1) dL_law_1008 ?_
  refine a_aload_n X dL_law_1009 rfl ?_
  refine a_iload_n X dL_law_1010 rfl ?_
  refine a_iconst (v := 2) X dL_law_1011 (by decide) ?_
  refine a_iadd X dL_law_1012 ?_
  refine a_sld X hX0 hsb hbb (i2) dL_law_1013 ?_
  refine a_callVx X dL_law_1014 miX7_at lmL_111 (f_at hI) (hI.1.2.1) rfl rfl rfl (Nat.le_of_ble_eq_true rfl) ⟨by decide, by decide, hc, hs⟩ (fun r_1014 S_1014 q_1014 => ?_)
  obtain ⟨⟨v_1014, rfl⟩, h_1014⟩ := q_1014
  refine a_pop2 X dL_law_1017 rfl ?_
  refine a_aload_n X dL_law_1018 rfl ?_
  refine a_aload_n X dL_law_1019 rfl ?_
  refine a_iload_n X dL_law_1020 rfl ?_
  refine a_iconst (v := 1) X dL_law_1021 (by decide) ?_
  refine a_iadd X dL_law_1022 ?_
  refine a_sld X hX0 hsb hbb (i1) dL_law_1023 ?_
  refine a_aload_n X dL_law_1024 rfl ?_
  refine a_iload_n X dL_law_1025 rfl ?_
  refine a_iconst (v := 2) X dL_law_1026 (by decide) ?_
  refine a_iadd X dL_law_1027 ?_
  refine a_sld X hX0 hsb hbb (i2) dL_law_1028 ?_
  refine a_callVx X dL_law_1029 miX8_at lmL_114 (m_at h_1014) (h_1014.2.1.2.1) rfl rfl rfl (Nat.le_of_ble_eq_true rfl) ⟨by decide, by decide, hc, hs⟩ (fun r_1029 S_1029 q_1029 => ?_)
  obtain ⟨⟨v_1029, rfl⟩, h_1029⟩ := q_1029
  refine a_pop2 X dL_law_1032 rfl ?_
  refine a_goto (tgt := 1731) X dL_law_1033 (by decide) ?_
  exact law_K X hr hX0 hsb hbb h_1029 ih
set_option maxRecDepth 100000 in
set_option maxHeartbeats 8000000 in
theorem law_c24 {p : Program} {l : Launch} {e : Env} {s : State} {m : MethodId} {below : List Frame} {meth : Method} {c : Code} {G : zG} {b sb L : Nat} {xs : Nat → Int32} (X : zOK p s m #[Value.ref sb] meth c G b R_law code 4) (hr : meth.sig.returnType = ret) (hX0 : va_X sb L xs s s.heap) (hsb : sb < s.heap.size) (hbb : b = s.heap.size) (hL : L ≤ 3072) {nc ns : Nat} (hc : nc ≤ 600000) (hs : ns ≤ 7302250) {i : Int32} (h0 : 0 ≤ i.toInt) (h6 : i.toInt + 6 ≤ L) {S : zS} (hI : jI S) (ih : ∀ S' : zS, jI S' → Zw p l e room_1 s m #[Value.ref sb] below meth c G b 4 (lw_Z below #[Value.ref sb] s) nc ns 18 [some (.ref (1000000 + sb)), some (.ref 0), some (.ref 200), some (.int (i + 6))] [] S') : Zw p l e room_1 s m #[Value.ref sb] below meth c G b 4 (lw_Z below #[Value.ref sb] s) nc ns 1036 [some (.ref (1000000 + sb)), some (.ref 0), some (.ref 200), some (.int i)] [] S := by
  have i1 : vp_in (i + 1) L := law_ix hL h0 h6 (by decide) (by decide)
  have i2 : vp_in (i + 2) L := law_ix hL h0 h6 (by decide) (by decide)
  have i3 : vp_in (i + 3) L := law_ix hL h0 h6 (by decide) (by decide)
  have i4 : vp_in (i + 4) L := law_ix hL h0 h6 (by decide) (by decide)
  have i5 : vp_in (i + 5) L := law_ix hL h0 h6 (by decide) (by decide)
  refine a_aload_n X dL_law_1036 rfl ?_
  refine a_aload_n X dL_law_1037 rfl ?_
  refine a_iload_n X dL_law_1038 rfl ?_
  refine a_iconst (v := 1) X dL_law_1039 (by decide) ?_
  refine a_iadd X dL_law_1040 ?_
  refine a_sld X hX0 hsb hbb (i1) dL_law_1041 ?_
  refine a_aload_n X dL_law_1042 rfl ?_
  refine a_iload_n X dL_law_1043 rfl ?_
  refine a_iconst (v := 2) X dL_law_1044 (by decide) ?_
  refine a_iadd X dL_law_1045 ?_
  refine a_sld X hX0 hsb hbb (i2) dL_law_1046 ?_
  refine a_callVx X dL_law_1047 miX7_both lmL_115 (f_both hI) (hI.1.2.1) rfl rfl rfl (Nat.le_of_ble_eq_true rfl) ⟨by decide, by decide, hc, hs⟩ (fun r_1047 S_1047 q_1047 => ?_)
  obtain ⟨⟨v_1047, rfl⟩, h_1047⟩ := q_1047
  refine a_pop2 X dL_law_1050 rfl ?_
  refine a_aload_n X dL_law_1051 rfl ?_
  refine a_aload_n X dL_law_1052 rfl ?_
  refine a_iload_n X dL_law_1053 rfl ?_
  refine a_iconst (v := 1) X dL_law_1054 (by decide) ?_
  refine a_iadd X dL_law_1055 ?_
  refine a_sld X hX0 hsb hbb (i1) dL_law_1056 ?_
  refine a_aload_n X dL_law_1057 rfl ?_
  refine a_iload_n X dL_law_1058 rfl ?_
  refine a_iconst (v := 2) X dL_law_1059 (by decide) ?_
  refine a_iadd X dL_law_1060 ?_
  refine a_sld X hX0 hsb hbb (i2) dL_law_1061 ?_
  refine a_callVx X dL_law_1062 miX8_both lmL_118 (m_both h_1047) (h_1047.2.1.2.1) rfl rfl rfl (Nat.le_of_ble_eq_true rfl) ⟨by decide, by decide, hc, hs⟩ (fun r_1062 S_1062 q_1062 => ?_)
  obtain ⟨⟨v_1062, rfl⟩, h_1062⟩ := q_1062
  refine a_pop2 X dL_law_1065 rfl ?_
  refine a_goto (tgt := 1731) X dL_law_1066 (by decide) ?_
  exact law_K X hr hX0 hsb hbb h_1062 ih
set_option maxRecDepth 100000 in
set_option maxHeartbeats 8000000 in
theorem law_c25 {p : Program} {l : Launch} {e : Env} {s : State} {m : MethodId} {below : List Frame} {meth : Method} {c : Code} {G : zG} {b sb L : Nat} {xs : Nat → Int32} (X : zOK p s m #[Value.ref sb] meth c G b R_law code 4) (hr : meth.sig.returnType = ret) (hX0 : va_X sb L xs s s.heap) (hsb : sb < s.heap.size) (hbb : b = s.heap.size) (hL : L ≤ 3072) {nc ns : Nat} (hc : nc ≤ 600000) (hs : ns ≤ 7302250) {i : Int32} (h0 : 0 ≤ i.toInt) (h6 : i.toInt + 6 ≤ L) {S : zS} (hI : jI S) (ih : ∀ S' : zS, jI S' → Zw p l e room_1 s m #[Value.ref sb] below meth c G b 4 (lw_Z below #[Value.ref sb] s) nc ns 18 [some (.ref (1000000 + sb)), some (.ref 0), some (.ref 200), some (.int (i + 6))] [] S') : Zw p l e room_1 s m #[Value.ref sb] below meth c G b 4 (lw_Z below #[Value.ref sb] s) nc ns 1069 [some (.ref (1000000 + sb)), some (.ref 0), some (.ref 200), some (.int i)] [] S := by
  have i1 : vp_in (i + 1) L := law_ix hL h0 h6 (by decide) (by decide)
  have i2 : vp_in (i + 2) L := law_ix hL h0 h6 (by decide) (by decide)
  have i3 : vp_in (i + 3) L := law_ix hL h0 h6 (by decide) (by decide)
  have i4 : vp_in (i + 4) L := law_ix hL h0 h6 (by decide) (by decide)
  have i5 : vp_in (i + 5) L := law_ix hL h0 h6 (by decide) (by decide)
  refine a_aload_n X dL_law_1069 rfl ?_
  refine a_aload_n X dL_law_1070 rfl ?_
  refine a_iload_n X dL_law_1071 rfl ?_
  refine a_iconst (v := 1) X dL_law_1072 (by decide) ?_
  refine a_iadd X dL_law_1073 ?_
  refine a_sld X hX0 hsb hbb (i1) dL_law_1074 ?_
  refine a_callVx X dL_law_1075 miX7_sure lmL_119 (f_sure hI) (hI.1.2.1) rfl rfl rfl (Nat.le_of_ble_eq_true rfl) ⟨by decide, by decide, hc, hs⟩ (fun r_1075 S_1075 q_1075 => ?_)
  obtain ⟨⟨v_1075, rfl⟩, h_1075⟩ := q_1075
  refine a_pop X dL_law_1078 rfl ?_
  refine a_aload_n X dL_law_1079 rfl ?_
  refine a_aload_n X dL_law_1080 rfl ?_
  refine a_iload_n X dL_law_1081 rfl ?_
  refine a_iconst (v := 1) X dL_law_1082 (by decide) ?_
  refine a_iadd X dL_law_1083 ?_
  refine a_sld X hX0 hsb hbb (i1) dL_law_1084 ?_
  refine a_callVx X dL_law_1085 miX8_sure lmL_122 (m_sure h_1075) (h_1075.2.1.2.1) rfl rfl rfl (Nat.le_of_ble_eq_true rfl) ⟨by decide, by decide, hc, hs⟩ (fun r_1085 S_1085 q_1085 => ?_)
  obtain ⟨⟨v_1085, rfl⟩, h_1085⟩ := q_1085
  refine a_pop X dL_law_1088 rfl ?_
  refine a_goto (tgt := 1731) X dL_law_1089 (by decide) ?_
  exact law_K X hr hX0 hsb hbb h_1085 ih
