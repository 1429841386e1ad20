set_option maxHeartbeats 4000000 in
set_option maxRecDepth 100000 in
theorem law_10 {p : Program} {l : Launch} {e : Env} {s : State} {m : MethodId} {below : List Frame} {meth : Method} {c : Code} {H : Heap} {locs : List Loc} {Q : State → Prop} {ls : Array Slot} {E : Ev} {adC adM : Nat → Nat} {b L : Nat} {xs : Nat → Int32} {x y : St} (hX : LX E adC adM b L xs p s m meth c) {i : Nat} (hi : i + 5 ≤ L) (hrel : Rel x y) (hc : Wd E adC ixC x H) (hm : Wd E adM ixM y H) (hS : va_S (fun q => s.heap.size ≤ q) s.heap H locs) (hl : lv_has ls 4 [(0, .ref b), (1, .ref (adC 0)), (2, .ref (adM 100)), (3, .int (nI i))])
    (kk : ∀ x' y' H1 locs1, Rel x' y' → Wd E adC ixC x' H1 → Wd E adM ixM y' H1 → va_S (fun q => s.heap.size ≤ q) s.heap H1 locs1 → W p l e room_1 s m #[Value.ref b] below meth c H1 locs1 600000 7302250 Q (F0 m 990 ls [])) : W p l e room_1 s m #[Value.ref b] below meth c H locs 600000 7302250 Q (F0 m 478 ls []) := by
  obtain ⟨C0, hXX, hbl, hap, hapM, h3, h4, h5, hL⟩ := id hX
  obtain ⟨hx, hb, hml, hr, hown, hts, hlk, hK⟩ := id C0
  obtain ⟨r, x', y', e1, e2, hrel'⟩ := s_read hrel 
  refine lv_aload_n hx hb dl_478 rfl (lv_at hl 1 rfl) ?_
  refine lcC (As := []) (rest := []) (n := 0) hX (cc_GG_read hap ⟨by decide, rfl⟩ e1) hc hm hS gw_code_GG_read gw_m_LA_60 gw_inst_GG_read gw_sel_GG_read gw_ini_GG rfl rfl (by decide +kernel) rfl ⟨Nat.le_of_ble_eq_true rfl, Nat.le_of_ble_eq_true rfl⟩ hl.1 rfl (Nat.le_of_ble_eq_true rfl) dl_479 (fun H locs hc hm hS => ?_)
  refine lv_aload_n hx hb dl_482 rfl (lv_at hl 2 rfl) ?_
  refine lcM (As := []) (rest := [.int r]) (n := 0) hX (cc_MO_read hapM ⟨by decide, rfl⟩ e2) hm hc hS gw_code_MO_read gw_m_LA_63 gw_inst_MO_read gw_sel_MO_read gw_ini_MO rfl rfl (by decide +kernel) rfl ⟨Nat.le_of_ble_eq_true rfl, Nat.le_of_ble_eq_true rfl⟩ hl.1 rfl (Nat.le_of_ble_eq_true rfl) dl_483 (fun H locs hm hc hS => ?_)
  exact lv_icmp_eq (tgt := 990) hx hb dl_486 (by decide) (fun _ => kk _ _ _ _ hrel' hc hm hS) (fun h => absurd rfl h)
set_option maxHeartbeats 4000000 in
set_option maxRecDepth 100000 in
theorem law_11 {p : Program} {l : Launch} {e : Env} {s : State} {m : MethodId} {below : List Frame} {meth : Method} {c : Code} {H : Heap} {locs : List Loc} {Q : State → Prop} {ls : Array Slot} {E : Ev} {adC adM : Nat → Nat} {b L : Nat} {xs : Nat → Int32} {x y : St} (hX : LX E adC adM b L xs p s m meth c) {i : Nat} (hi : i + 5 ≤ L) (hrel : Rel x y) (hc : Wd E adC ixC x H) (hm : Wd E adM ixM y H) (hS : va_S (fun q => s.heap.size ≤ q) s.heap H locs) (hl : lv_has ls 4 [(0, .ref b), (1, .ref (adC 0)), (2, .ref (adM 100)), (3, .int (nI i))])
    (kk : ∀ x' y' H1 locs1, Rel x' y' → Wd E adC ixC x' H1 → Wd E adM ixM y' H1 → va_S (fun q => s.heap.size ≤ q) s.heap H1 locs1 → W p l e room_1 s m #[Value.ref b] below meth c H1 locs1 600000 7302250 Q (F0 m 990 ls [])) : W p l e room_1 s m #[Value.ref b] below meth c H locs 600000 7302250 Q (F0 m 491 ls []) := by
  obtain ⟨C0, hXX, hbl, hap, hapM, h3, h4, h5, hL⟩ := id hX
  obtain ⟨hx, hb, hml, hr, hown, hts, hlk, hK⟩ := id C0
  obtain ⟨r, x', y', e1, e2, hrel'⟩ := s_grief hrel (xs (i + 1)) (xs (i + 2))
  refine lv_aload_n hx hb dl_491 rfl (lv_at hl 1 rfl) ?_
  refine argL hX hS (k := 1) (by omega) hl dl_492 dl_493 dl_494 (by decide) dl_495 dl_496 ?_
  refine argL hX hS (k := 2) (by omega) hl dl_497 dl_498 dl_499 (by decide) dl_500 dl_501 ?_
  refine lcC (As := [.int (xs (i + 1)), .int (xs (i + 2))]) (rest := []) (n := 2) hX (cc_GG_grief hap ⟨by decide, rfl⟩ e1) hc hm hS gw_code_GG_grief gw_m_LA_64 gw_inst_GG_grief gw_sel_GG_grief gw_ini_GG rfl rfl (by decide +kernel) rfl ⟨Nat.le_of_ble_eq_true rfl, Nat.le_of_ble_eq_true rfl⟩ hl.1 rfl (Nat.le_of_ble_eq_true rfl) dl_502 (fun H locs hc hm hS => ?_)
  refine lv_aload_n hx hb dl_505 rfl (lv_at hl 2 rfl) ?_
  refine argL hX hS (k := 1) (by omega) hl dl_506 dl_507 dl_508 (by decide) dl_509 dl_510 ?_
  refine argL hX hS (k := 2) (by omega) hl dl_511 dl_512 dl_513 (by decide) dl_514 dl_515 ?_
  refine lcM (As := [.int (xs (i + 1)), .int (xs (i + 2))]) (rest := [.int r]) (n := 2) hX (cc_MO_grief hapM ⟨by decide, rfl⟩ e2) hm hc hS gw_code_MO_grief gw_m_LA_67 gw_inst_MO_grief gw_sel_MO_grief gw_ini_MO rfl rfl (by decide +kernel) rfl ⟨Nat.le_of_ble_eq_true rfl, Nat.le_of_ble_eq_true rfl⟩ hl.1 rfl (Nat.le_of_ble_eq_true rfl) dl_516 (fun H locs hm hc hS => ?_)
  exact lv_icmp_eq (tgt := 990) hx hb dl_519 (by decide) (fun _ => kk _ _ _ _ hrel' hc hm hS) (fun h => absurd rfl h)
set_option maxHeartbeats 4000000 in
set_option maxRecDepth 100000 in
theorem law_12 {p : Program} {l : Launch} {e : Env} {s : State} {m : MethodId} {below : List Frame} {meth : Method} {c : Code} {H : Heap} {locs : List Loc} {Q : State → Prop} {ls : Array Slot} {E : Ev} {adC adM : Nat → Nat} {b L : Nat} {xs : Nat → Int32} {x y : St} (hX : LX E adC adM b L xs p s m meth c) {i : Nat} (hi : i + 5 ≤ L) (hrel : Rel x y) (hc : Wd E adC ixC x H) (hm : Wd E adM ixM y H) (hS : va_S (fun q => s.heap.size ≤ q) s.heap H locs) (hl : lv_has ls 4 [(0, .ref b), (1, .ref (adC 0)), (2, .ref (adM 100)), (3, .int (nI i))])
    (kk : ∀ x' y' H1 locs1, Rel x' y' → Wd E adC ixC x' H1 → Wd E adM ixM y' H1 → va_S (fun q => s.heap.size ≤ q) s.heap H1 locs1 → W p l e room_1 s m #[Value.ref b] below meth c H1 locs1 600000 7302250 Q (F0 m 990 ls [])) : W p l e room_1 s m #[Value.ref b] below meth c H locs 600000 7302250 Q (F0 m 524 ls []) := by
  obtain ⟨C0, hXX, hbl, hap, hapM, h3, h4, h5, hL⟩ := id hX
  obtain ⟨hx, hb, hml, hr, hown, hts, hlk, hK⟩ := id C0
  obtain ⟨r, x', y', e1, e2, hrel'⟩ := s_opens hrel (xs (i + 1))
  refine lv_aload_n hx hb dl_524 rfl (lv_at hl 1 rfl) ?_
  refine argL hX hS (k := 1) (by omega) hl dl_525 dl_526 dl_527 (by decide) dl_528 dl_529 ?_
  refine lcC (As := [.int (xs (i + 1))]) (rest := []) (n := 1) hX (cc_GG_opens hap ⟨by decide, rfl⟩ e1) hc hm hS gw_code_GG_opens gw_m_LA_68 gw_inst_GG_opens gw_sel_GG_opens gw_ini_GG rfl rfl (by decide +kernel) rfl ⟨Nat.le_of_ble_eq_true rfl, Nat.le_of_ble_eq_true rfl⟩ hl.1 rfl (Nat.le_of_ble_eq_true rfl) dl_530 (fun H locs hc hm hS => ?_)
  refine lv_aload_n hx hb dl_533 rfl (lv_at hl 2 rfl) ?_
  refine argL hX hS (k := 1) (by omega) hl dl_534 dl_535 dl_536 (by decide) dl_537 dl_538 ?_
  refine lcM (As := [.int (xs (i + 1))]) (rest := [.int r]) (n := 1) hX (cc_MO_opens hapM ⟨by decide, rfl⟩ e2) hm hc hS gw_code_MO_opens gw_m_LA_71 gw_inst_MO_opens gw_sel_MO_opens gw_ini_MO rfl rfl (by decide +kernel) rfl ⟨Nat.le_of_ble_eq_true rfl, Nat.le_of_ble_eq_true rfl⟩ hl.1 rfl (Nat.le_of_ble_eq_true rfl) dl_539 (fun H locs hm hc hS => ?_)
  exact lv_icmp_eq (tgt := 990) hx hb dl_542 (by decide) (fun _ => kk _ _ _ _ hrel' hc hm hS) (fun h => absurd rfl h)
set_option maxHeartbeats 4000000 in
set_option maxRecDepth 100000 in
theorem law_13 {p : Program} {l : Launch} {e : Env} {s : State} {m : MethodId} {below : List Frame} {meth : Method} {c : Code} {H : Heap} {locs : List Loc} {Q : State → Prop} {ls : Array Slot} {E : Ev} {adC adM : Nat → Nat} {b L : Nat} {xs : Nat → Int32} {x y : St} (hX : LX E adC adM b L xs p s m meth c) {i : Nat} (hi : i + 5 ≤ L) (hrel : Rel x y) (hc : Wd E adC ixC x H) (hm : Wd E adM ixM y H) (hS : va_S (fun q => s.heap.size ≤ q) s.heap H locs) (hl : lv_has ls 4 [(0, .ref b), (1, .ref (adC 0)), (2, .ref (adM 100)), (3, .int (nI i))])
    (kk : ∀ x' y' H1 locs1, Rel x' y' → Wd E adC ixC x' H1 → Wd E adM ixM y' H1 → va_S (fun q => s.heap.size ≤ q) s.heap H1 locs1 → W p l e room_1 s m #[Value.ref b] below meth c H1 locs1 600000 7302250 Q (F0 m 990 ls [])) : W p l e room_1 s m #[Value.ref b] below meth c H locs 600000 7302250 Q (F0 m 547 ls []) := by
  obtain ⟨C0, hXX, hbl, hap, hapM, h3, h4, h5, hL⟩ := id hX
  obtain ⟨hx, hb, hml, hr, hown, hts, hlk, hK⟩ := id C0
  obtain ⟨r, x', y', e1, e2, hrel'⟩ := s_lasts hrel (xs (i + 1))
  refine lv_aload_n hx hb dl_547 rfl (lv_at hl 1 rfl) ?_
  refine argL hX hS (k := 1) (by omega) hl dl_548 dl_549 dl_550 (by decide) dl_551 dl_552 ?_
  refine lcC (As := [.int (xs (i + 1))]) (rest := []) (n := 1) hX (cc_GG_lasts hap ⟨by decide, rfl⟩ e1) hc hm hS gw_code_GG_lasts gw_m_LA_72 gw_inst_GG_lasts gw_sel_GG_lasts gw_ini_GG rfl rfl (by decide +kernel) rfl ⟨Nat.le_of_ble_eq_true rfl, Nat.le_of_ble_eq_true rfl⟩ hl.1 rfl (Nat.le_of_ble_eq_true rfl) dl_553 (fun H locs hc hm hS => ?_)
  refine lv_aload_n hx hb dl_556 rfl (lv_at hl 2 rfl) ?_
  refine argL hX hS (k := 1) (by omega) hl dl_557 dl_558 dl_559 (by decide) dl_560 dl_561 ?_
  refine lcM (As := [.int (xs (i + 1))]) (rest := [.int r]) (n := 1) hX (cc_MO_lasts hapM ⟨by decide, rfl⟩ e2) hm hc hS gw_code_MO_lasts gw_m_LA_75 gw_inst_MO_lasts gw_sel_MO_lasts gw_ini_MO rfl rfl (by decide +kernel) rfl ⟨Nat.le_of_ble_eq_true rfl, Nat.le_of_ble_eq_true rfl⟩ hl.1 rfl (Nat.le_of_ble_eq_true rfl) dl_562 (fun H locs hm hc hS => ?_)
  exact lv_icmp_eq (tgt := 990) hx hb dl_565 (by decide) (fun _ => kk _ _ _ _ hrel' hc hm hS) (fun h => absurd rfl h)
set_option maxHeartbeats 4000000 in
set_option maxRecDepth 100000 in
theorem law_14 {p : Program} {l : Launch} {e : Env} {s : State} {m : MethodId} {below : List Frame} {meth : Method} {c : Code} {H : Heap} {locs : List Loc} {Q : State → Prop} {ls : Array Slot} {E : Ev} {adC adM : Nat → Nat} {b L : Nat} {xs : Nat → Int32} {x y : St} (hX : LX E adC adM b L xs p s m meth c) {i : Nat} (hi : i + 5 ≤ L) (hrel : Rel x y) (hc : Wd E adC ixC x H) (hm : Wd E adM ixM y H) (hS : va_S (fun q => s.heap.size ≤ q) s.heap H locs) (hl : lv_has ls 4 [(0, .ref b), (1, .ref (adC 0)), (2, .ref (adM 100)), (3, .int (nI i))])
    (kk : ∀ x' y' H1 locs1, Rel x' y' → Wd E adC ixC x' H1 → Wd E adM ixM y' H1 → va_S (fun q => s.heap.size ≤ q) s.heap H1 locs1 → W p l e room_1 s m #[Value.ref b] below meth c H1 locs1 600000 7302250 Q (F0 m 990 ls [])) : W p l e room_1 s m #[Value.ref b] below meth c H locs 600000 7302250 Q (F0 m 570 ls []) := by
  obtain ⟨C0, hXX, hbl, hap, hapM, h3, h4, h5, hL⟩ := id hX
  obtain ⟨hx, hb, hml, hr, hown, hts, hlk, hK⟩ := id C0
  obtain ⟨r, x', y', e1, e2, hrel'⟩ := s_open hrel 
  refine lv_aload_n hx hb dl_570 rfl (lv_at hl 1 rfl) ?_
  refine lcC (As := []) (rest := []) (n := 0) hX (cc_GG_open hap ⟨by decide, rfl⟩ e1) hc hm hS gw_code_GG_open gw_m_LA_76 gw_inst_GG_open gw_sel_GG_open gw_ini_GG rfl rfl (by decide +kernel) rfl ⟨Nat.le_of_ble_eq_true rfl, Nat.le_of_ble_eq_true rfl⟩ hl.1 rfl (Nat.le_of_ble_eq_true rfl) dl_571 (fun H locs hc hm hS => ?_)
  refine lv_aload_n hx hb dl_574 rfl (lv_at hl 2 rfl) ?_
  refine lcM (As := []) (rest := [.int r]) (n := 0) hX (cc_MO_open hapM ⟨by decide, rfl⟩ e2) hm hc hS gw_code_MO_open gw_m_LA_79 gw_inst_MO_open gw_sel_MO_open gw_ini_MO rfl rfl (by decide +kernel) rfl ⟨Nat.le_of_ble_eq_true rfl, Nat.le_of_ble_eq_true rfl⟩ hl.1 rfl (Nat.le_of_ble_eq_true rfl) dl_575 (fun H locs hm hc hS => ?_)
  exact lv_icmp_eq (tgt := 990) hx hb dl_578 (by decide) (fun _ => kk _ _ _ _ hrel' hc hm hS) (fun h => absurd rfl h)
set_option maxHeartbeats 4000000 in
set_option maxRecDepth 100000 in
theorem law_15 {p : Program} {l : Launch} {e : Env} {s : State} {m : MethodId} {below : List Frame} {meth : Method} {c : Code} {H : Heap} {locs : List Loc} {Q : State → Prop} {ls : Array Slot} {E : Ev} {adC adM : Nat → Nat} {b L : Nat} {xs : Nat → Int32} {x y : St} (hX : LX E adC adM b L xs p s m meth c) {i : Nat} (hi : i + 5 ≤ L) (hrel : Rel x y) (hc : Wd E adC ixC x H) (hm : Wd E adM ixM y H) (hS : va_S (fun q => s.heap.size ≤ q) s.heap H locs) (hl : lv_has ls 4 [(0, .ref b), (1, .ref (adC 0)), (2, .ref (adM 100)), (3, .int (nI i))])
    (kk : ∀ x' y' H1 locs1, Rel x' y' → Wd E adC ixC x' H1 → Wd E adM ixM y' H1 → va_S (fun q => s.heap.size ≤ q) s.heap H1 locs1 → W p l e room_1 s m #[Value.ref b] below meth c H1 locs1 600000 7302250 Q (F0 m 990 ls [])) : W p l e room_1 s m #[Value.ref b] below meth c H locs 600000 7302250 Q (F0 m 583 ls []) := by
  obtain ⟨C0, hXX, hbl, hap, hapM, h3, h4, h5, hL⟩ := id hX
  obtain ⟨hx, hb, hml, hr, hown, hts, hlk, hK⟩ := id C0
  obtain ⟨r, x', y', e1, e2, hrel'⟩ := s_hire hrel (xs (i + 1))
  refine lv_aload_n hx hb dl_583 rfl (lv_at hl 1 rfl) ?_
  refine argL hX hS (k := 1) (by omega) hl dl_584 dl_585 dl_586 (by decide) dl_587 dl_588 ?_
  refine lcC (As := [.int (xs (i + 1))]) (rest := []) (n := 1) hX (cc_GG_hire hap ⟨by decide, rfl⟩ e1) hc hm hS gw_code_GG_hire gw_m_LA_80 gw_inst_GG_hire gw_sel_GG_hire gw_ini_GG rfl rfl (by decide +kernel) rfl ⟨Nat.le_of_ble_eq_true rfl, Nat.le_of_ble_eq_true rfl⟩ hl.1 rfl (Nat.le_of_ble_eq_true rfl) dl_589 (fun H locs hc hm hS => ?_)
  refine lv_aload_n hx hb dl_592 rfl (lv_at hl 2 rfl) ?_
  refine argL hX hS (k := 1) (by omega) hl dl_593 dl_594 dl_595 (by decide) dl_596 dl_597 ?_
  refine lcM (As := [.int (xs (i + 1))]) (rest := [.int r]) (n := 1) hX (cc_MO_hire hapM ⟨by decide, rfl⟩ e2) hm hc hS gw_code_MO_hire gw_m_LA_83 gw_inst_MO_hire gw_sel_MO_hire gw_ini_MO rfl rfl (by decide +kernel) rfl ⟨Nat.le_of_ble_eq_true rfl, Nat.le_of_ble_eq_true rfl⟩ hl.1 rfl (Nat.le_of_ble_eq_true rfl) dl_598 (fun H locs hm hc hS => ?_)
  exact lv_icmp_eq (tgt := 990) hx hb dl_601 (by decide) (fun _ => kk _ _ _ _ hrel' hc hm hS) (fun h => absurd rfl h)
set_option maxHeartbeats 4000000 in
set_option maxRecDepth 100000 in
theorem law_16 {p : Program} {l : Launch} {e : Env} {s : State} {m : MethodId} {below : List Frame} {meth : Method} {c : Code} {H : Heap} {locs : List Loc} {Q : State → Prop} {ls : Array Slot} {E : Ev} {adC adM : Nat → Nat} {b L : Nat} {xs : Nat → Int32} {x y : St} (hX : LX E adC adM b L xs p s m meth c) {i : Nat} (hi : i + 5 ≤ L) (hrel : Rel x y) (hc : Wd E adC ixC x H) (hm : Wd E adM ixM y H) (hS : va_S (fun q => s.heap.size ≤ q) s.heap H locs) (hl : lv_has ls 4 [(0, .ref b), (1, .ref (adC 0)), (2, .ref (adM 100)), (3, .int (nI i))])
    (kk : ∀ x' y' H1 locs1, Rel x' y' → Wd E adC ixC x' H1 → Wd E adM ixM y' H1 → va_S (fun q => s.heap.size ≤ q) s.heap H1 locs1 → W p l e room_1 s m #[Value.ref b] below meth c H1 locs1 600000 7302250 Q (F0 m 990 ls [])) : W p l e room_1 s m #[Value.ref b] below meth c H locs 600000 7302250 Q (F0 m 606 ls []) := by
  obtain ⟨C0, hXX, hbl, hap, hapM, h3, h4, h5, hL⟩ := id hX
  obtain ⟨hx, hb, hml, hr, hown, hts, hlk, hK⟩ := id C0
  obtain ⟨r, x', y', e1, e2, hrel'⟩ := s_who hrel (xs (i + 1))
  refine lv_aload_n hx hb dl_606 rfl (lv_at hl 1 rfl) ?_
  refine argL hX hS (k := 1) (by omega) hl dl_607 dl_608 dl_609 (by decide) dl_610 dl_611 ?_
  refine lcC (As := [.int (xs (i + 1))]) (rest := []) (n := 1) hX (cc_GG_who hap ⟨by decide, rfl⟩ e1) hc hm hS gw_code_GG_who gw_m_LA_84 gw_inst_GG_who gw_sel_GG_who gw_ini_GG rfl rfl (by decide +kernel) rfl ⟨Nat.le_of_ble_eq_true rfl, Nat.le_of_ble_eq_true rfl⟩ hl.1 rfl (Nat.le_of_ble_eq_true rfl) dl_612 (fun H locs hc hm hS => ?_)
  refine lv_aload_n hx hb dl_615 rfl (lv_at hl 2 rfl) ?_
  refine argL hX hS (k := 1) (by omega) hl dl_616 dl_617 dl_618 (by decide) dl_619 dl_620 ?_
  refine lcM (As := [.int (xs (i + 1))]) (rest := [.int r]) (n := 1) hX (cc_MO_who hapM ⟨by decide, rfl⟩ e2) hm hc hS gw_code_MO_who gw_m_LA_87 gw_inst_MO_who gw_sel_MO_who gw_ini_MO rfl rfl (by decide +kernel) rfl ⟨Nat.le_of_ble_eq_true rfl, Nat.le_of_ble_eq_true rfl⟩ hl.1 rfl (Nat.le_of_ble_eq_true rfl) dl_621 (fun H locs hm hc hS => ?_)
  exact lv_icmp_eq (tgt := 990) hx hb dl_624 (by decide) (fun _ => kk _ _ _ _ hrel' hc hm hS) (fun h => absurd rfl h)
set_option maxHeartbeats 4000000 in
set_option maxRecDepth 100000 in
theorem law_17 {p : Program} {l : Launch} {e : Env} {s : State} {m : MethodId} {below : List Frame} {meth : Method} {c : Code} {H : Heap} {locs : List Loc} {Q : State → Prop} {ls : Array Slot} {E : Ev} {adC adM : Nat → Nat} {b L : Nat} {xs : Nat → Int32} {x y : St} (hX : LX E adC adM b L xs p s m meth c) {i : Nat} (hi : i + 5 ≤ L) (hrel : Rel x y) (hc : Wd E adC ixC x H) (hm : Wd E adM ixM y H) (hS : va_S (fun q => s.heap.size ≤ q) s.heap H locs) (hl : lv_has ls 4 [(0, .ref b), (1, .ref (adC 0)), (2, .ref (adM 100)), (3, .int (nI i))])
    (kk : ∀ x' y' H1 locs1, Rel x' y' → Wd E adC ixC x' H1 → Wd E adM ixM y' H1 → va_S (fun q => s.heap.size ≤ q) s.heap H1 locs1 → W p l e room_1 s m #[Value.ref b] below meth c H1 locs1 600000 7302250 Q (F0 m 990 ls [])) : W p l e room_1 s m #[Value.ref b] below meth c H locs 600000 7302250 Q (F0 m 629 ls []) := by
  obtain ⟨C0, hXX, hbl, hap, hapM, h3, h4, h5, hL⟩ := id hX
  obtain ⟨hx, hb, hml, hr, hown, hts, hlk, hK⟩ := id C0
  obtain ⟨r, x', y', e1, e2, hrel'⟩ := s_saves hrel (xs (i + 1))
  refine lv_aload_n hx hb dl_629 rfl (lv_at hl 1 rfl) ?_
  refine argL hX hS (k := 1) (by omega) hl dl_630 dl_631 dl_632 (by decide) dl_633 dl_634 ?_
  refine lcC (As := [.int (xs (i + 1))]) (rest := []) (n := 1) hX (cc_GG_saves hap ⟨by decide, rfl⟩ e1) hc hm hS gw_code_GG_saves gw_m_LA_88 gw_inst_GG_saves gw_sel_GG_saves gw_ini_GG rfl rfl (by decide +kernel) rfl ⟨Nat.le_of_ble_eq_true rfl, Nat.le_of_ble_eq_true rfl⟩ hl.1 rfl (Nat.le_of_ble_eq_true rfl) dl_635 (fun H locs hc hm hS => ?_)
  refine lv_aload_n hx hb dl_638 rfl (lv_at hl 2 rfl) ?_
  refine argL hX hS (k := 1) (by omega) hl dl_639 dl_640 dl_641 (by decide) dl_642 dl_643 ?_
  refine lcM (As := [.int (xs (i + 1))]) (rest := [.int r]) (n := 1) hX (cc_MO_saves hapM ⟨by decide, rfl⟩ e2) hm hc hS gw_code_MO_saves gw_m_LA_91 gw_inst_MO_saves gw_sel_MO_saves gw_ini_MO rfl rfl (by decide +kernel) rfl ⟨Nat.le_of_ble_eq_true rfl, Nat.le_of_ble_eq_true rfl⟩ hl.1 rfl (Nat.le_of_ble_eq_true rfl) dl_644 (fun H locs hm hc hS => ?_)
  exact lv_icmp_eq (tgt := 990) hx hb dl_647 (by decide) (fun _ => kk _ _ _ _ hrel' hc hm hS) (fun h => absurd rfl h)
set_option maxHeartbeats 4000000 in
set_option maxRecDepth 100000 in
theorem law_18 {p : Program} {l : Launch} {e : Env} {s : State} {m : MethodId} {below : List Frame} {meth : Method} {c : Code} {H : Heap} {locs : List Loc} {Q : State → Prop} {ls : Array Slot} {E : Ev} {adC adM : Nat → Nat} {b L : Nat} {xs : Nat → Int32} {x y : St} (hX : LX E adC adM b L xs p s m meth c) {i : Nat} (hi : i + 5 ≤ L) (hrel : Rel x y) (hc : Wd E adC ixC x H) (hm : Wd E adM ixM y H) (hS : va_S (fun q => s.heap.size ≤ q) s.heap H locs) (hl : lv_has ls 4 [(0, .ref b), (1, .ref (adC 0)), (2, .ref (adM 100)), (3, .int (nI i))])
    (kk : ∀ x' y' H1 locs1, Rel x' y' → Wd E adC ixC x' H1 → Wd E adM ixM y' H1 → va_S (fun q => s.heap.size ≤ q) s.heap H1 locs1 → W p l e room_1 s m #[Value.ref b] below meth c H1 locs1 600000 7302250 Q (F0 m 990 ls [])) : W p l e room_1 s m #[Value.ref b] below meth c H locs 600000 7302250 Q (F0 m 652 ls []) := by
  obtain ⟨C0, hXX, hbl, hap, hapM, h3, h4, h5, hL⟩ := id hX
  obtain ⟨hx, hb, hml, hr, hown, hts, hlk, hK⟩ := id C0
  obtain ⟨r, x', y', e1, e2, hrel'⟩ := s_tears hrel (xs (i + 1)) (xs (i + 2)) (xs (i + 3))
  refine lv_aload_n hx hb dl_652 rfl (lv_at hl 1 rfl) ?_
  refine argL hX hS (k := 1) (by omega) hl dl_653 dl_654 dl_655 (by decide) dl_656 dl_657 ?_
  refine argL hX hS (k := 2) (by omega) hl dl_658 dl_659 dl_660 (by decide) dl_661 dl_662 ?_
  refine argL hX hS (k := 3) (by omega) hl dl_663 dl_664 dl_665 (by decide) dl_666 dl_667 ?_
  refine lcC (As := [.int (xs (i + 1)), .int (xs (i + 2)), .int (xs (i + 3))]) (rest := []) (n := 3) hX (cc_GG_tears hap ⟨by decide, rfl⟩ e1) hc hm hS gw_code_GG_tears gw_m_LA_92 gw_inst_GG_tears gw_sel_GG_tears gw_ini_GG rfl rfl (by decide +kernel) rfl ⟨Nat.le_of_ble_eq_true rfl, Nat.le_of_ble_eq_true rfl⟩ hl.1 rfl (Nat.le_of_ble_eq_true rfl) dl_668 (fun H locs hc hm hS => ?_)
  refine lv_aload_n hx hb dl_671 rfl (lv_at hl 2 rfl) ?_
  refine argL hX hS (k := 1) (by omega) hl dl_672 dl_673 dl_674 (by decide) dl_675 dl_676 ?_
  refine argL hX hS (k := 2) (by omega) hl dl_677 dl_678 dl_679 (by decide) dl_680 dl_681 ?_
  refine argL hX hS (k := 3) (by omega) hl dl_682 dl_683 dl_684 (by decide) dl_685 dl_686 ?_
  refine lcM (As := [.int (xs (i + 1)), .int (xs (i + 2)), .int (xs (i + 3))]) (rest := [.int r]) (n := 3) hX (cc_MO_tears hapM ⟨by decide, rfl⟩ e2) hm hc hS gw_code_MO_tears gw_m_LA_95 gw_inst_MO_tears gw_sel_MO_tears gw_ini_MO rfl rfl (by decide +kernel) rfl ⟨Nat.le_of_ble_eq_true rfl, Nat.le_of_ble_eq_true rfl⟩ hl.1 rfl (Nat.le_of_ble_eq_true rfl) dl_687 (fun H locs hm hc hS => ?_)
  exact lv_icmp_eq (tgt := 990) hx hb dl_690 (by decide) (fun _ => kk _ _ _ _ hrel' hc hm hS) (fun h => absurd rfl h)
set_option maxHeartbeats 4000000 in
set_option maxRecDepth 100000 in
theorem law_19 {p : Program} {l : Launch} {e : Env} {s : State} {m : MethodId} {below : List Frame} {meth : Method} {c : Code} {H : Heap} {locs : List Loc} {Q : State → Prop} {ls : Array Slot} {E : Ev} {adC adM : Nat → Nat} {b L : Nat} {xs : Nat → Int32} {x y : St} (hX : LX E adC adM b L xs p s m meth c) {i : Nat} (hi : i + 5 ≤ L) (hrel : Rel x y) (hc : Wd E adC ixC x H) (hm : Wd E adM ixM y H) (hS : va_S (fun q => s.heap.size ≤ q) s.heap H locs) (hl : lv_has ls 4 [(0, .ref b), (1, .ref (adC 0)), (2, .ref (adM 100)), (3, .int (nI i))])
    (kk : ∀ x' y' H1 locs1, Rel x' y' → Wd E adC ixC x' H1 → Wd E adM ixM y' H1 → va_S (fun q => s.heap.size ≤ q) s.heap H1 locs1 → W p l e room_1 s m #[Value.ref b] below meth c H1 locs1 600000 7302250 Q (F0 m 990 ls [])) : W p l e room_1 s m #[Value.ref b] below meth c H locs 600000 7302250 Q (F0 m 695 ls []) := by
  obtain ⟨C0, hXX, hbl, hap, hapM, h3, h4, h5, hL⟩ := id hX
  obtain ⟨hx, hb, hml, hr, hown, hts, hlk, hK⟩ := id C0
  obtain ⟨r, x', y', e1, e2, hrel'⟩ := s_fact hrel (xs (i + 1)) (xs (i + 2)) (xs (i + 3))
  refine lv_aload_n hx hb dl_695 rfl (lv_at hl 1 rfl) ?_
  refine argL hX hS (k := 1) (by omega) hl dl_696 dl_697 dl_698 (by decide) dl_699 dl_700 ?_
  refine argL hX hS (k := 2) (by omega) hl dl_701 dl_702 dl_703 (by decide) dl_704 dl_705 ?_
  refine argL hX hS (k := 3) (by omega) hl dl_706 dl_707 dl_708 (by decide) dl_709 dl_710 ?_
  refine lcC (As := [.int (xs (i + 1)), .int (xs (i + 2)), .int (xs (i + 3))]) (rest := []) (n := 3) hX (cc_GG_fact hap ⟨by decide, rfl⟩ e1) hc hm hS gw_code_GG_fact gw_m_LA_96 gw_inst_GG_fact gw_sel_GG_fact gw_ini_GG rfl rfl (by decide +kernel) rfl ⟨Nat.le_of_ble_eq_true rfl, Nat.le_of_ble_eq_true rfl⟩ hl.1 rfl (Nat.le_of_ble_eq_true rfl) dl_711 (fun H locs hc hm hS => ?_)
  refine lv_aload_n hx hb dl_714 rfl (lv_at hl 2 rfl) ?_
  refine argL hX hS (k := 1) (by omega) hl dl_715 dl_716 dl_717 (by decide) dl_718 dl_719 ?_
  refine argL hX hS (k := 2) (by omega) hl dl_720 dl_721 dl_722 (by decide) dl_723 dl_724 ?_
  refine argL hX hS (k := 3) (by omega) hl dl_725 dl_726 dl_727 (by decide) dl_728 dl_729 ?_
  refine lcM (As := [.int (xs (i + 1)), .int (xs (i + 2)), .int (xs (i + 3))]) (rest := [.int r]) (n := 3) hX (cc_MO_fact hapM ⟨by decide, rfl⟩ e2) hm hc hS gw_code_MO_fact gw_m_LA_99 gw_inst_MO_fact gw_sel_MO_fact gw_ini_MO rfl rfl (by decide +kernel) rfl ⟨Nat.le_of_ble_eq_true rfl, Nat.le_of_ble_eq_true rfl⟩ hl.1 rfl (Nat.le_of_ble_eq_true rfl) dl_730 (fun H locs hm hc hS => ?_)
  exact lv_icmp_eq (tgt := 990) hx hb dl_733 (by decide) (fun _ => kk _ _ _ _ hrel' hc hm hS) (fun h => absurd rfl h)
