set_option maxHeartbeats 4000000 in
set_option maxRecDepth 100000 in
theorem law_20 {p : Program} {l : Launch} {e : Env} {s : State} {m : MethodId} {below : List Frame} {meth : Method} {c : Code} {H : Heap} {locs : List Loc} {Q : State → Prop} {ls : Array Slot} {E : Ev} {adC adM : Nat → Nat} {b L : Nat} {xs : Nat → Int32} {x y : St} (hX : LX E adC adM b L xs p s m meth c) {i : Nat} (hi : i + 5 ≤ L) (hrel : Rel x y) (hc : Wd E adC ixC x H) (hm : Wd E adM ixM y H) (hS : va_S (fun q => s.heap.size ≤ q) s.heap H locs) (hl : lv_has ls 4 [(0, .ref b), (1, .ref (adC 0)), (2, .ref (adM 100)), (3, .int (nI i))])
    (kk : ∀ x' y' H1 locs1, Rel x' y' → Wd E adC ixC x' H1 → Wd E adM ixM y' H1 → va_S (fun q => s.heap.size ≤ q) s.heap H1 locs1 → W p l e room_1 s m #[Value.ref b] below meth c H1 locs1 600000 7302250 Q (F0 m 990 ls [])) : W p l e room_1 s m #[Value.ref b] below meth c H locs 600000 7302250 Q (F0 m 738 ls []) := by
  obtain ⟨C0, hXX, hbl, hap, hapM, h3, h4, h5, hL⟩ := id hX
  obtain ⟨hx, hb, hml, hr, hown, hts, hlk, hK⟩ := id C0
  obtain ⟨r, x', y', e1, e2, hrel'⟩ := s_forget hrel 
  refine lv_aload_n hx hb dl_738 rfl (lv_at hl 1 rfl) ?_
  refine lcC (As := []) (rest := []) (n := 0) hX (cc_GG_forget hap ⟨by decide, rfl⟩ e1) hc hm hS gw_code_GG_forget gw_m_LA_100 gw_inst_GG_forget gw_sel_GG_forget gw_ini_GG rfl rfl (by decide +kernel) rfl ⟨Nat.le_of_ble_eq_true rfl, Nat.le_of_ble_eq_true rfl⟩ hl.1 rfl (Nat.le_of_ble_eq_true rfl) dl_739 (fun H locs hc hm hS => ?_)
  refine lv_aload_n hx hb dl_742 rfl (lv_at hl 2 rfl) ?_
  refine lcM (As := []) (rest := [.int r]) (n := 0) hX (cc_MO_forget hapM ⟨by decide, rfl⟩ e2) hm hc hS gw_code_MO_forget gw_m_LA_103 gw_inst_MO_forget gw_sel_MO_forget gw_ini_MO rfl rfl (by decide +kernel) rfl ⟨Nat.le_of_ble_eq_true rfl, Nat.le_of_ble_eq_true rfl⟩ hl.1 rfl (Nat.le_of_ble_eq_true rfl) dl_743 (fun H locs hm hc hS => ?_)
  exact lv_icmp_eq (tgt := 990) hx hb dl_746 (by decide) (fun _ => kk _ _ _ _ hrel' hc hm hS) (fun h => absurd rfl h)
set_option maxHeartbeats 4000000 in
set_option maxRecDepth 100000 in
theorem law_21 {p : Program} {l : Launch} {e : Env} {s : State} {m : MethodId} {below : List Frame} {meth : Method} {c : Code} {H : Heap} {locs : List Loc} {Q : State → Prop} {ls : Array Slot} {E : Ev} {adC adM : Nat → Nat} {b L : Nat} {xs : Nat → Int32} {x y : St} (hX : LX E adC adM b L xs p s m meth c) {i : Nat} (hi : i + 5 ≤ L) (hrel : Rel x y) (hc : Wd E adC ixC x H) (hm : Wd E adM ixM y H) (hS : va_S (fun q => s.heap.size ≤ q) s.heap H locs) (hl : lv_has ls 4 [(0, .ref b), (1, .ref (adC 0)), (2, .ref (adM 100)), (3, .int (nI i))])
    (kk : ∀ x' y' H1 locs1, Rel x' y' → Wd E adC ixC x' H1 → Wd E adM ixM y' H1 → va_S (fun q => s.heap.size ≤ q) s.heap H1 locs1 → W p l e room_1 s m #[Value.ref b] below meth c H1 locs1 600000 7302250 Q (F0 m 990 ls [])) : W p l e room_1 s m #[Value.ref b] below meth c H locs 600000 7302250 Q (F0 m 751 ls []) := by
  obtain ⟨C0, hXX, hbl, hap, hapM, h3, h4, h5, hL⟩ := id hX
  obtain ⟨hx, hb, hml, hr, hown, hts, hlk, hK⟩ := id C0
  obtain ⟨r, x', y', e1, e2, hrel'⟩ := s_likely hrel (xs (i + 1)) (xs (i + 2))
  refine lv_aload_n hx hb dl_751 rfl (lv_at hl 1 rfl) ?_
  refine argL hX hS (k := 1) (by omega) hl dl_752 dl_753 dl_754 (by decide) dl_755 dl_756 ?_
  refine argL hX hS (k := 2) (by omega) hl dl_757 dl_758 dl_759 (by decide) dl_760 dl_761 ?_
  refine lcC (As := [.int (xs (i + 1)), .int (xs (i + 2))]) (rest := []) (n := 2) hX (cc_GG_likely hap ⟨by decide, rfl⟩ e1) hc hm hS gw_code_GG_likely gw_m_LA_104 gw_inst_GG_likely gw_sel_GG_likely gw_ini_GG rfl rfl (by decide +kernel) rfl ⟨Nat.le_of_ble_eq_true rfl, Nat.le_of_ble_eq_true rfl⟩ hl.1 rfl (Nat.le_of_ble_eq_true rfl) dl_762 (fun H locs hc hm hS => ?_)
  refine lv_aload_n hx hb dl_765 rfl (lv_at hl 2 rfl) ?_
  refine argL hX hS (k := 1) (by omega) hl dl_766 dl_767 dl_768 (by decide) dl_769 dl_770 ?_
  refine argL hX hS (k := 2) (by omega) hl dl_771 dl_772 dl_773 (by decide) dl_774 dl_775 ?_
  refine lcM (As := [.int (xs (i + 1)), .int (xs (i + 2))]) (rest := [.int r]) (n := 2) hX (cc_MO_likely hapM ⟨by decide, rfl⟩ e2) hm hc hS gw_code_MO_likely gw_m_LA_107 gw_inst_MO_likely gw_sel_MO_likely gw_ini_MO rfl rfl (by decide +kernel) rfl ⟨Nat.le_of_ble_eq_true rfl, Nat.le_of_ble_eq_true rfl⟩ hl.1 rfl (Nat.le_of_ble_eq_true rfl) dl_776 (fun H locs hm hc hS => ?_)
  exact lv_icmp_eq (tgt := 990) hx hb dl_779 (by decide) (fun _ => kk _ _ _ _ hrel' hc hm hS) (fun h => absurd rfl h)
set_option maxHeartbeats 4000000 in
set_option maxRecDepth 100000 in
theorem law_22 {p : Program} {l : Launch} {e : Env} {s : State} {m : MethodId} {below : List Frame} {meth : Method} {c : Code} {H : Heap} {locs : List Loc} {Q : State → Prop} {ls : Array Slot} {E : Ev} {adC adM : Nat → Nat} {b L : Nat} {xs : Nat → Int32} {x y : St} (hX : LX E adC adM b L xs p s m meth c) {i : Nat} (hi : i + 5 ≤ L) (hrel : Rel x y) (hc : Wd E adC ixC x H) (hm : Wd E adM ixM y H) (hS : va_S (fun q => s.heap.size ≤ q) s.heap H locs) (hl : lv_has ls 4 [(0, .ref b), (1, .ref (adC 0)), (2, .ref (adM 100)), (3, .int (nI i))])
    (kk : ∀ x' y' H1 locs1, Rel x' y' → Wd E adC ixC x' H1 → Wd E adM ixM y' H1 → va_S (fun q => s.heap.size ≤ q) s.heap H1 locs1 → W p l e room_1 s m #[Value.ref b] below meth c H1 locs1 600000 7302250 Q (F0 m 990 ls [])) : W p l e room_1 s m #[Value.ref b] below meth c H locs 600000 7302250 Q (F0 m 784 ls []) := by
  obtain ⟨C0, hXX, hbl, hap, hapM, h3, h4, h5, hL⟩ := id hX
  obtain ⟨hx, hb, hml, hr, hown, hts, hlk, hK⟩ := id C0
  obtain ⟨r, x', y', e1, e2, hrel'⟩ := s_odds hrel (xs (i + 1)) (xs (i + 2)) (xs (i + 3)) (xs (i + 4))
  refine lv_aload_n hx hb dl_784 rfl (lv_at hl 1 rfl) ?_
  refine argL hX hS (k := 1) (by omega) hl dl_785 dl_786 dl_787 (by decide) dl_788 dl_789 ?_
  refine argL hX hS (k := 2) (by omega) hl dl_790 dl_791 dl_792 (by decide) dl_793 dl_794 ?_
  refine argL hX hS (k := 3) (by omega) hl dl_795 dl_796 dl_797 (by decide) dl_798 dl_799 ?_
  refine argL hX hS (k := 4) (by omega) hl dl_800 dl_801 dl_802 (by decide) dl_803 dl_804 ?_
  refine lcC (As := [.int (xs (i + 1)), .int (xs (i + 2)), .int (xs (i + 3)), .int (xs (i + 4))]) (rest := []) (n := 4) hX (cc_GG_odds hap ⟨by decide, rfl⟩ e1) hc hm hS gw_code_GG_odds gw_m_LA_108 gw_inst_GG_odds gw_sel_GG_odds gw_ini_GG rfl rfl (by decide +kernel) rfl ⟨Nat.le_of_ble_eq_true rfl, Nat.le_of_ble_eq_true rfl⟩ hl.1 rfl (Nat.le_of_ble_eq_true rfl) dl_805 (fun H locs hc hm hS => ?_)
  refine lv_aload_n hx hb dl_808 rfl (lv_at hl 2 rfl) ?_
  refine argL hX hS (k := 1) (by omega) hl dl_809 dl_810 dl_811 (by decide) dl_812 dl_813 ?_
  refine argL hX hS (k := 2) (by omega) hl dl_814 dl_815 dl_816 (by decide) dl_817 dl_818 ?_
  refine argL hX hS (k := 3) (by omega) hl dl_819 dl_820 dl_821 (by decide) dl_822 dl_823 ?_
  refine argL hX hS (k := 4) (by omega) hl dl_824 dl_825 dl_826 (by decide) dl_827 dl_828 ?_
  refine lcM (As := [.int (xs (i + 1)), .int (xs (i + 2)), .int (xs (i + 3)), .int (xs (i + 4))]) (rest := [.int r]) (n := 4) hX (cc_MO_odds hapM ⟨by decide, rfl⟩ e2) hm hc hS gw_code_MO_odds gw_m_LA_112 gw_inst_MO_odds gw_sel_MO_odds gw_ini_MO rfl rfl (by decide +kernel) rfl ⟨Nat.le_of_ble_eq_true rfl, Nat.le_of_ble_eq_true rfl⟩ hl.1 rfl (Nat.le_of_ble_eq_true rfl) dl_829 (fun H locs hm hc hS => ?_)
  exact lv_icmp_eq (tgt := 990) hx hb dl_832 (by decide) (fun _ => kk _ _ _ _ hrel' hc hm hS) (fun h => absurd rfl h)
set_option maxHeartbeats 4000000 in
set_option maxRecDepth 100000 in
theorem law_23 {p : Program} {l : Launch} {e : Env} {s : State} {m : MethodId} {below : List Frame} {meth : Method} {c : Code} {H : Heap} {locs : List Loc} {Q : State → Prop} {ls : Array Slot} {E : Ev} {adC adM : Nat → Nat} {b L : Nat} {xs : Nat → Int32} {x y : St} (hX : LX E adC adM b L xs p s m meth c) {i : Nat} (hi : i + 5 ≤ L) (hrel : Rel x y) (hc : Wd E adC ixC x H) (hm : Wd E adM ixM y H) (hS : va_S (fun q => s.heap.size ≤ q) s.heap H locs) (hl : lv_has ls 4 [(0, .ref b), (1, .ref (adC 0)), (2, .ref (adM 100)), (3, .int (nI i))])
    (kk : ∀ x' y' H1 locs1, Rel x' y' → Wd E adC ixC x' H1 → Wd E adM ixM y' H1 → va_S (fun q => s.heap.size ≤ q) s.heap H1 locs1 → W p l e room_1 s m #[Value.ref b] below meth c H1 locs1 600000 7302250 Q (F0 m 990 ls [])) : W p l e room_1 s m #[Value.ref b] below meth c H locs 600000 7302250 Q (F0 m 837 ls []) := by
  obtain ⟨C0, hXX, hbl, hap, hapM, h3, h4, h5, hL⟩ := id hX
  obtain ⟨hx, hb, hml, hr, hown, hts, hlk, hK⟩ := id C0
  obtain ⟨r, x', y', e1, e2, hrel'⟩ := s_harm hrel (xs (i + 1))
  refine lv_aload_n hx hb dl_837 rfl (lv_at hl 1 rfl) ?_
  refine argL hX hS (k := 1) (by omega) hl dl_838 dl_839 dl_840 (by decide) dl_841 dl_842 ?_
  refine lcC (As := [.int (xs (i + 1))]) (rest := []) (n := 1) hX (cc_GG_harm hap ⟨by decide, rfl⟩ e1) hc hm hS gw_code_GG_harm gw_m_LA_113 gw_inst_GG_harm gw_sel_GG_harm gw_ini_GG rfl rfl (by decide +kernel) rfl ⟨Nat.le_of_ble_eq_true rfl, Nat.le_of_ble_eq_true rfl⟩ hl.1 rfl (Nat.le_of_ble_eq_true rfl) dl_843 (fun H locs hc hm hS => ?_)
  refine lv_aload_n hx hb dl_846 rfl (lv_at hl 2 rfl) ?_
  refine argL hX hS (k := 1) (by omega) hl dl_847 dl_848 dl_849 (by decide) dl_850 dl_851 ?_
  refine lcM (As := [.int (xs (i + 1))]) (rest := [.int r]) (n := 1) hX (cc_MO_harm hapM ⟨by decide, rfl⟩ e2) hm hc hS gw_code_MO_harm gw_m_LA_116 gw_inst_MO_harm gw_sel_MO_harm gw_ini_MO rfl rfl (by decide +kernel) rfl ⟨Nat.le_of_ble_eq_true rfl, Nat.le_of_ble_eq_true rfl⟩ hl.1 rfl (Nat.le_of_ble_eq_true rfl) dl_852 (fun H locs hm hc hS => ?_)
  exact lv_icmp_eq (tgt := 990) hx hb dl_855 (by decide) (fun _ => kk _ _ _ _ hrel' hc hm hS) (fun h => absurd rfl h)
set_option maxHeartbeats 4000000 in
set_option maxRecDepth 100000 in
theorem law_24 {p : Program} {l : Launch} {e : Env} {s : State} {m : MethodId} {below : List Frame} {meth : Method} {c : Code} {H : Heap} {locs : List Loc} {Q : State → Prop} {ls : Array Slot} {E : Ev} {adC adM : Nat → Nat} {b L : Nat} {xs : Nat → Int32} {x y : St} (hX : LX E adC adM b L xs p s m meth c) {i : Nat} (hi : i + 5 ≤ L) (hrel : Rel x y) (hc : Wd E adC ixC x H) (hm : Wd E adM ixM y H) (hS : va_S (fun q => s.heap.size ≤ q) s.heap H locs) (hl : lv_has ls 4 [(0, .ref b), (1, .ref (adC 0)), (2, .ref (adM 100)), (3, .int (nI i))])
    (kk : ∀ x' y' H1 locs1, Rel x' y' → Wd E adC ixC x' H1 → Wd E adM ixM y' H1 → va_S (fun q => s.heap.size ≤ q) s.heap H1 locs1 → W p l e room_1 s m #[Value.ref b] below meth c H1 locs1 600000 7302250 Q (F0 m 990 ls [])) : W p l e room_1 s m #[Value.ref b] below meth c H locs 600000 7302250 Q (F0 m 860 ls []) := by
  obtain ⟨C0, hXX, hbl, hap, hapM, h3, h4, h5, hL⟩ := id hX
  obtain ⟨hx, hb, hml, hr, hown, hts, hlk, hK⟩ := id C0
  obtain ⟨r, x', y', e1, e2, hrel'⟩ := s_part hrel (xs (i + 1))
  refine lv_aload_n hx hb dl_860 rfl (lv_at hl 1 rfl) ?_
  refine argL hX hS (k := 1) (by omega) hl dl_861 dl_862 dl_863 (by decide) dl_864 dl_865 ?_
  refine lcC (As := [.int (xs (i + 1))]) (rest := []) (n := 1) hX (cc_GG_part hap ⟨by decide, rfl⟩ e1) hc hm hS gw_code_GG_part gw_m_LA_117 gw_inst_GG_part gw_sel_GG_part gw_ini_GG rfl rfl (by decide +kernel) rfl ⟨Nat.le_of_ble_eq_true rfl, Nat.le_of_ble_eq_true rfl⟩ hl.1 rfl (Nat.le_of_ble_eq_true rfl) dl_866 (fun H locs hc hm hS => ?_)
  refine lv_aload_n hx hb dl_869 rfl (lv_at hl 2 rfl) ?_
  refine argL hX hS (k := 1) (by omega) hl dl_870 dl_871 dl_872 (by decide) dl_873 dl_874 ?_
  refine lcM (As := [.int (xs (i + 1))]) (rest := [.long r]) (n := 1) hX (cc_MO_part hapM ⟨by decide, rfl⟩ e2) hm hc hS gw_code_MO_part gw_m_LA_121 gw_inst_MO_part gw_sel_MO_part gw_ini_MO rfl rfl (by decide +kernel) rfl ⟨Nat.le_of_ble_eq_true rfl, Nat.le_of_ble_eq_true rfl⟩ hl.1 rfl (Nat.le_of_ble_eq_true rfl) dl_875 (fun H locs hm hc hS => ?_)
  refine W.lcmp hx hb dl_878 ?_
  exact lv_if_eq (tgt := 990) hx hb dl_879 (by decide) (fun _ => kk _ _ _ _ hrel' hc hm hS) (fun h => absurd (lg_cmp_self r) h)
set_option maxHeartbeats 4000000 in
set_option maxRecDepth 100000 in
theorem law_25 {p : Program} {l : Launch} {e : Env} {s : State} {m : MethodId} {below : List Frame} {meth : Method} {c : Code} {H : Heap} {locs : List Loc} {Q : State → Prop} {ls : Array Slot} {E : Ev} {adC adM : Nat → Nat} {b L : Nat} {xs : Nat → Int32} {x y : St} (hX : LX E adC adM b L xs p s m meth c) {i : Nat} (hi : i + 5 ≤ L) (hrel : Rel x y) (hc : Wd E adC ixC x H) (hm : Wd E adM ixM y H) (hS : va_S (fun q => s.heap.size ≤ q) s.heap H locs) (hl : lv_has ls 4 [(0, .ref b), (1, .ref (adC 0)), (2, .ref (adM 100)), (3, .int (nI i))])
    (kk : ∀ x' y' H1 locs1, Rel x' y' → Wd E adC ixC x' H1 → Wd E adM ixM y' H1 → va_S (fun q => s.heap.size ≤ q) s.heap H1 locs1 → W p l e room_1 s m #[Value.ref b] below meth c H1 locs1 600000 7302250 Q (F0 m 990 ls [])) : W p l e room_1 s m #[Value.ref b] below meth c H locs 600000 7302250 Q (F0 m 884 ls []) := by
  obtain ⟨C0, hXX, hbl, hap, hapM, h3, h4, h5, hL⟩ := id hX
  obtain ⟨hx, hb, hml, hr, hown, hts, hlk, hK⟩ := id C0
  obtain ⟨r, x', y', e1, e2, hrel'⟩ := s_image hrel (xs (i + 1))
  refine lv_aload_n hx hb dl_884 rfl (lv_at hl 1 rfl) ?_
  refine argL hX hS (k := 1) (by omega) hl dl_885 dl_886 dl_887 (by decide) dl_888 dl_889 ?_
  refine lcC (As := [.int (xs (i + 1))]) (rest := []) (n := 1) hX (cc_GG_image hap ⟨by decide, rfl⟩ e1) hc hm hS gw_code_GG_image gw_m_LA_122 gw_inst_GG_image gw_sel_GG_image gw_ini_GG rfl rfl (by decide +kernel) rfl ⟨Nat.le_of_ble_eq_true rfl, Nat.le_of_ble_eq_true rfl⟩ hl.1 rfl (Nat.le_of_ble_eq_true rfl) dl_890 (fun H locs hc hm hS => ?_)
  refine lv_aload_n hx hb dl_893 rfl (lv_at hl 2 rfl) ?_
  refine argL hX hS (k := 1) (by omega) hl dl_894 dl_895 dl_896 (by decide) dl_897 dl_898 ?_
  refine lcM (As := [.int (xs (i + 1))]) (rest := [.int r]) (n := 1) hX (cc_MO_image hapM ⟨by decide, rfl⟩ e2) hm hc hS gw_code_MO_image gw_m_LA_125 gw_inst_MO_image gw_sel_MO_image gw_ini_MO rfl rfl (by decide +kernel) rfl ⟨Nat.le_of_ble_eq_true rfl, Nat.le_of_ble_eq_true rfl⟩ hl.1 rfl (Nat.le_of_ble_eq_true rfl) dl_899 (fun H locs hm hc hS => ?_)
  exact lv_icmp_eq (tgt := 990) hx hb dl_902 (by decide) (fun _ => kk _ _ _ _ hrel' hc hm hS) (fun h => absurd rfl h)
set_option maxHeartbeats 4000000 in
set_option maxRecDepth 100000 in
theorem law_26 {p : Program} {l : Launch} {e : Env} {s : State} {m : MethodId} {below : List Frame} {meth : Method} {c : Code} {H : Heap} {locs : List Loc} {Q : State → Prop} {ls : Array Slot} {E : Ev} {adC adM : Nat → Nat} {b L : Nat} {xs : Nat → Int32} {x y : St} (hX : LX E adC adM b L xs p s m meth c) {i : Nat} (hi : i + 5 ≤ L) (hrel : Rel x y) (hc : Wd E adC ixC x H) (hm : Wd E adM ixM y H) (hS : va_S (fun q => s.heap.size ≤ q) s.heap H locs) (hl : lv_has ls 4 [(0, .ref b), (1, .ref (adC 0)), (2, .ref (adM 100)), (3, .int (nI i))])
    (kk : ∀ x' y' H1 locs1, Rel x' y' → Wd E adC ixC x' H1 → Wd E adM ixM y' H1 → va_S (fun q => s.heap.size ≤ q) s.heap H1 locs1 → W p l e room_1 s m #[Value.ref b] below meth c H1 locs1 600000 7302250 Q (F0 m 990 ls [])) : W p l e room_1 s m #[Value.ref b] below meth c H locs 600000 7302250 Q (F0 m 907 ls []) := by
  obtain ⟨C0, hXX, hbl, hap, hapM, h3, h4, h5, hL⟩ := id hX
  obtain ⟨hx, hb, hml, hr, hown, hts, hlk, hK⟩ := id C0
  obtain ⟨r, x', y', e1, e2, hrel'⟩ := s_from hrel (xs (i + 1))
  refine lv_aload_n hx hb dl_907 rfl (lv_at hl 1 rfl) ?_
  refine argL hX hS (k := 1) (by omega) hl dl_908 dl_909 dl_910 (by decide) dl_911 dl_912 ?_
  refine lcC (As := [.int (xs (i + 1))]) (rest := []) (n := 1) hX (cc_GG_from hap ⟨by decide, rfl⟩ e1) hc hm hS gw_code_GG_from gw_m_LA_126 gw_inst_GG_from gw_sel_GG_from gw_ini_GG rfl rfl (by decide +kernel) rfl ⟨Nat.le_of_ble_eq_true rfl, Nat.le_of_ble_eq_true rfl⟩ hl.1 rfl (Nat.le_of_ble_eq_true rfl) dl_913 (fun H locs hc hm hS => ?_)
  refine lv_aload_n hx hb dl_916 rfl (lv_at hl 2 rfl) ?_
  refine argL hX hS (k := 1) (by omega) hl dl_917 dl_918 dl_919 (by decide) dl_920 dl_921 ?_
  refine lcM (As := [.int (xs (i + 1))]) (rest := [.int r]) (n := 1) hX (cc_MO_from hapM ⟨by decide, rfl⟩ e2) hm hc hS gw_code_MO_from gw_m_LA_129 gw_inst_MO_from gw_sel_MO_from gw_ini_MO rfl rfl (by decide +kernel) rfl ⟨Nat.le_of_ble_eq_true rfl, Nat.le_of_ble_eq_true rfl⟩ hl.1 rfl (Nat.le_of_ble_eq_true rfl) dl_922 (fun H locs hm hc hS => ?_)
  exact lv_icmp_eq (tgt := 990) hx hb dl_925 (by decide) (fun _ => kk _ _ _ _ hrel' hc hm hS) (fun h => absurd rfl h)
set_option maxHeartbeats 4000000 in
set_option maxRecDepth 100000 in
theorem law_27 {p : Program} {l : Launch} {e : Env} {s : State} {m : MethodId} {below : List Frame} {meth : Method} {c : Code} {H : Heap} {locs : List Loc} {Q : State → Prop} {ls : Array Slot} {E : Ev} {adC adM : Nat → Nat} {b L : Nat} {xs : Nat → Int32} {x y : St} (hX : LX E adC adM b L xs p s m meth c) {i : Nat} (hi : i + 5 ≤ L) (hrel : Rel x y) (hc : Wd E adC ixC x H) (hm : Wd E adM ixM y H) (hS : va_S (fun q => s.heap.size ≤ q) s.heap H locs) (hl : lv_has ls 4 [(0, .ref b), (1, .ref (adC 0)), (2, .ref (adM 100)), (3, .int (nI i))])
    (kk : ∀ x' y' H1 locs1, Rel x' y' → Wd E adC ixC x' H1 → Wd E adM ixM y' H1 → va_S (fun q => s.heap.size ≤ q) s.heap H1 locs1 → W p l e room_1 s m #[Value.ref b] below meth c H1 locs1 600000 7302250 Q (F0 m 990 ls [])) : W p l e room_1 s m #[Value.ref b] below meth c H locs 600000 7302250 Q (F0 m 930 ls []) := by
  obtain ⟨C0, hXX, hbl, hap, hapM, h3, h4, h5, hL⟩ := id hX
  obtain ⟨hx, hb, hml, hr, hown, hts, hlk, hK⟩ := id C0
  obtain ⟨r, x', y', e1, e2, hrel'⟩ := s_status hrel (xs (i + 1))
  refine lv_aload_n hx hb dl_930 rfl (lv_at hl 1 rfl) ?_
  refine argL hX hS (k := 1) (by omega) hl dl_931 dl_932 dl_933 (by decide) dl_934 dl_935 ?_
  refine lcC (As := [.int (xs (i + 1))]) (rest := []) (n := 1) hX (cc_GG_status hap ⟨by decide, rfl⟩ e1) hc hm hS gw_code_GG_status gw_m_LA_130 gw_inst_GG_status gw_sel_GG_status gw_ini_GG rfl rfl (by decide +kernel) rfl ⟨Nat.le_of_ble_eq_true rfl, Nat.le_of_ble_eq_true rfl⟩ hl.1 rfl (Nat.le_of_ble_eq_true rfl) dl_936 (fun H locs hc hm hS => ?_)
  refine lv_aload_n hx hb dl_939 rfl (lv_at hl 2 rfl) ?_
  refine argL hX hS (k := 1) (by omega) hl dl_940 dl_941 dl_942 (by decide) dl_943 dl_944 ?_
  refine lcM (As := [.int (xs (i + 1))]) (rest := [.int r]) (n := 1) hX (cc_MO_status hapM ⟨by decide, rfl⟩ e2) hm hc hS gw_code_MO_status gw_m_LA_133 gw_inst_MO_status gw_sel_MO_status gw_ini_MO rfl rfl (by decide +kernel) rfl ⟨Nat.le_of_ble_eq_true rfl, Nat.le_of_ble_eq_true rfl⟩ hl.1 rfl (Nat.le_of_ble_eq_true rfl) dl_945 (fun H locs hm hc hS => ?_)
  exact lv_icmp_eq (tgt := 990) hx hb dl_948 (by decide) (fun _ => kk _ _ _ _ hrel' hc hm hS) (fun h => absurd rfl h)
set_option maxHeartbeats 4000000 in
set_option maxRecDepth 100000 in
theorem law_28 {p : Program} {l : Launch} {e : Env} {s : State} {m : MethodId} {below : List Frame} {meth : Method} {c : Code} {H : Heap} {locs : List Loc} {Q : State → Prop} {ls : Array Slot} {E : Ev} {adC adM : Nat → Nat} {b L : Nat} {xs : Nat → Int32} {x y : St} (hX : LX E adC adM b L xs p s m meth c) {i : Nat} (hi : i + 5 ≤ L) (hrel : Rel x y) (hc : Wd E adC ixC x H) (hm : Wd E adM ixM y H) (hS : va_S (fun q => s.heap.size ≤ q) s.heap H locs) (hl : lv_has ls 4 [(0, .ref b), (1, .ref (adC 0)), (2, .ref (adM 100)), (3, .int (nI i))])
    (kk : ∀ x' y' H1 locs1, Rel x' y' → Wd E adC ixC x' H1 → Wd E adM ixM y' H1 → va_S (fun q => s.heap.size ≤ q) s.heap H1 locs1 → W p l e room_1 s m #[Value.ref b] below meth c H1 locs1 600000 7302250 Q (F0 m 990 ls [])) : W p l e room_1 s m #[Value.ref b] below meth c H locs 600000 7302250 Q (F0 m 953 ls []) := by
  obtain ⟨C0, hXX, hbl, hap, hapM, h3, h4, h5, hL⟩ := id hX
  obtain ⟨hx, hb, hml, hr, hown, hts, hlk, hK⟩ := id C0
  obtain ⟨r, x', y', e1, e2, hrel'⟩ := s_count hrel (xs (i + 1))
  refine lv_aload_n hx hb dl_953 rfl (lv_at hl 1 rfl) ?_
  refine argL hX hS (k := 1) (by omega) hl dl_954 dl_955 dl_956 (by decide) dl_957 dl_958 ?_
  refine lcC (As := [.int (xs (i + 1))]) (rest := []) (n := 1) hX (cc_GG_count hap ⟨by decide, rfl⟩ e1) hc hm hS gw_code_GG_count gw_m_LA_134 gw_inst_GG_count gw_sel_GG_count gw_ini_GG rfl rfl (by decide +kernel) rfl ⟨Nat.le_of_ble_eq_true rfl, Nat.le_of_ble_eq_true rfl⟩ hl.1 rfl (Nat.le_of_ble_eq_true rfl) dl_959 (fun H locs hc hm hS => ?_)
  refine lv_aload_n hx hb dl_962 rfl (lv_at hl 2 rfl) ?_
  refine argL hX hS (k := 1) (by omega) hl dl_963 dl_964 dl_965 (by decide) dl_966 dl_967 ?_
  refine lcM (As := [.int (xs (i + 1))]) (rest := [.int r]) (n := 1) hX (cc_MO_count hapM ⟨by decide, rfl⟩ e2) hm hc hS gw_code_MO_count gw_m_LA_137 gw_inst_MO_count gw_sel_MO_count gw_ini_MO rfl rfl (by decide +kernel) rfl ⟨Nat.le_of_ble_eq_true rfl, Nat.le_of_ble_eq_true rfl⟩ hl.1 rfl (Nat.le_of_ble_eq_true rfl) dl_968 (fun H locs hm hc hS => ?_)
  exact lv_icmp_eq (tgt := 990) hx hb dl_971 (by decide) (fun _ => kk _ _ _ _ hrel' hc hm hS) (fun h => absurd rfl h)
set_option maxHeartbeats 4000000 in
set_option maxRecDepth 100000 in
theorem law_29 {p : Program} {l : Launch} {e : Env} {s : State} {m : MethodId} {below : List Frame} {meth : Method} {c : Code} {H : Heap} {locs : List Loc} {Q : State → Prop} {ls : Array Slot} {E : Ev} {adC adM : Nat → Nat} {b L : Nat} {xs : Nat → Int32} {x y : St} (hX : LX E adC adM b L xs p s m meth c) {i : Nat} (hi : i + 5 ≤ L) (hrel : Rel x y) (hc : Wd E adC ixC x H) (hm : Wd E adM ixM y H) (hS : va_S (fun q => s.heap.size ≤ q) s.heap H locs) (hl : lv_has ls 4 [(0, .ref b), (1, .ref (adC 0)), (2, .ref (adM 100)), (3, .int (nI i))])
    (kk : ∀ x' y' H1 locs1, Rel x' y' → Wd E adC ixC x' H1 → Wd E adM ixM y' H1 → va_S (fun q => s.heap.size ≤ q) s.heap H1 locs1 → W p l e room_1 s m #[Value.ref b] below meth c H1 locs1 600000 7302250 Q (F0 m 990 ls [])) : W p l e room_1 s m #[Value.ref b] below meth c H locs 600000 7302250 Q (F0 m 976 ls []) := by
  obtain ⟨C0, hXX, hbl, hap, hapM, h3, h4, h5, hL⟩ := id hX
  obtain ⟨hx, hb, hml, hr, hown, hts, hlk, hK⟩ := id C0
  obtain ⟨r, x', y', e1, e2, hrel'⟩ := s_digest hrel 
  refine lv_aload_n hx hb dl_976 rfl (lv_at hl 1 rfl) ?_
  refine lcC (As := []) (rest := []) (n := 0) hX (cc_GG_digest hap ⟨by decide, rfl⟩ e1) hc hm hS gw_code_GG_digest gw_m_LA_138 gw_inst_GG_digest gw_sel_GG_digest gw_ini_GG rfl rfl (by decide +kernel) rfl ⟨Nat.le_of_ble_eq_true rfl, Nat.le_of_ble_eq_true rfl⟩ hl.1 rfl (Nat.le_of_ble_eq_true rfl) dl_977 (fun H locs hc hm hS => ?_)
  refine lv_aload_n hx hb dl_980 rfl (lv_at hl 2 rfl) ?_
  refine lcM (As := []) (rest := [.long r]) (n := 0) hX (cc_MO_digest hapM ⟨by decide, rfl⟩ e2) hm hc hS gw_code_MO_digest gw_m_LA_142 gw_inst_MO_digest gw_sel_MO_digest gw_ini_MO rfl rfl (by decide +kernel) rfl ⟨Nat.le_of_ble_eq_true rfl, Nat.le_of_ble_eq_true rfl⟩ hl.1 rfl (Nat.le_of_ble_eq_true rfl) dl_981 (fun H locs hm hc hS => ?_)
  refine W.lcmp hx hb dl_984 ?_
  exact lv_if_eq (tgt := 990) hx hb dl_985 (by decide) (fun _ => kk _ _ _ _ hrel' hc hm hS) (fun h => absurd (lg_cmp_self r) h)
