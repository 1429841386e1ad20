theorem and31 (v : Int32) : ∃ n : Nat, n ≤ 31 ∧ v &&& 31 = nI n := by
  refine ⟨(v.toBitVec &&& 31#32).toNat, ?_, ?_⟩
  · rw [BitVec.toNat_and]
    exact Nat.and_le_right
  · apply Int32.toBitVec_inj.mp
    show v.toBitVec &&& 31#32 = BitVec.ofNat 32 (v.toBitVec &&& 31#32).toNat
    rw [BitVec.ofNat_toNat, BitVec.setWidth_eq]
theorem len_5 {i L : Nat} (hi : i ≤ 2560) (hL : L ≤ 2560) : (nI L - 5 < nI i) ↔ L < i + 5 := by
  rw [Int32.lt_iff_toInt_lt, nI_toInt (by omega)]
  have e : (nI L - 5).toInt = (L : Int) - 5 := by
    rw [Int32.toInt_sub, nI_toInt (by omega), show ((5 : Int32)).toInt = 5 from by decide]
    rw [Int.bmod_def]
    split <;> omega
  rw [e]
  omega
set_option maxHeartbeats 8000000 in
set_option maxRecDepth 100000 in
/-- the law's loop: r calls are left at most -/
theorem law_loop {p : Program} {l : Launch} {e : Env} {s : State} {m : MethodId} {below : List Frame} {meth : Method} {c : Code} {E : Ev} {adC adM : Nat → Nat} {b L : Nat} {xs : Nat → Int32} (hX : LX E adC adM b L xs p s m meth c) : ∀ (r i : Nat), L < i + 5 * r → i ≤ L → ∀ (x y : St) (H : Heap) (locs : List Loc) (ls : Array Slot), Rel x y → Wd E adC ixC x H → Wd E adM ixM y H → va_S (fun q => s.heap.size ≤ q) s.heap H locs → lv_has ls 4 [(0, .ref b), (1, .ref (adC 0)), (2, .ref (adM 100)), (3, .int (nI i))] → W p l e room_1 s m #[Value.ref b] below meth c H locs 600000 7302250 (lw_Z below #[Value.ref b] s) (F0 m 18 ls []) := by
  obtain ⟨C0, hXX, hbl, hap, hapM, h3, h4, h5, hL⟩ := id hX
  obtain ⟨hx, hb, hml, hr, hown, hts, hlk, hK⟩ := id C0
  intro r
  induction r with
  | zero => intro i h1 h2; omega
  | succ r ih =>
    intro i h1 h2 x y H locs ls hrel hc hm hS hl
    refine lv_iload_n hx hb dl_18 rfl (lv_at hl 3 rfl) ?_
    refine lv_aload_n hx hb dl_19 rfl (lv_at hl 0 rfl) ?_
    refine va_slen hx hb hXX hbl (Nat.not_le.mpr hbl) hS dl_20 ?_
    refine lv_iconst (v := 5) hx hb dl_21 (by decide) ?_
    refine lv_isub hx hb dl_22 ?_
    refine lv_icmp_gt (tgt := 996) hx hb dl_23 (by decide) (fun h => ?_) (fun h => ?_)
    · refine lv_iconst (v := 1) hx hb dl_996 (by decide) ?_
      refine va_forget (fun q hq => hS.2.2 q hq) ?_
      exact lw_ret hx hb hr hlk dl_997
    · have hi : i + 5 ≤ L := by
        have h' : ¬ (nI L - 5 < nI i) := h
        rw [len_5 (by omega) hL] at h'
        omega
      have back : ∀ (x' y' : St) (H1 : Heap) (locs1 : List Loc), Rel x' y' → Wd E adC ixC x' H1 → Wd E adM ixM y' H1 → va_S (fun q => s.heap.size ≤ q) s.heap H1 locs1 → W p l e room_1 s m #[Value.ref b] below meth c H1 locs1 600000 7302250 (lw_Z below #[Value.ref b] s) (F0 m 990 ls []) := by
        intro x' y' H1 locs1 hrel' hc' hm' hS'
        refine lv_iinc (v := nI (i + 5)) (lv' := [(3, .int (nI (i + 5))), (0, .ref b), (1, .ref (adC 0)), (2, .ref (adM 100))]) hx hb dl_990 hl (k := 3) rfl (show nI i + nI 5 = nI (i + 5) from nI_add i 5) (by decide) rfl (fun ls hl => ?_)
        refine lv_goto (tgt := 18) hx hb dl_993 (by decide) ?_
        exact ih (i + 5) (by omega) hi x' y' H1 locs1 ls hrel' hc' hm' hS' (lv_sub hl [1, 2, 3, 0] rfl)
      refine lv_aload_n hx hb dl_26 rfl (lv_at hl 0 rfl) ?_
      refine lv_iload_n hx hb dl_27 rfl (lv_at hl 3 rfl) ?_
      refine va_sld hx hb hXX hbl (Nat.not_le.mpr hbl) hS (ixb_in (ixb_nI (show i < L by omega) (by omega))) dl_28 ?_
      refine lv_bipush (v := 31) hx hb dl_29 (by decide) ?_
      refine lv_iand hx hb dl_31 ?_
      obtain ⟨n, n1, n2⟩ := and31 (xs (nI i).toNatClampNeg)
      rw [n2]
      have nt : (nI n).toInt = (n : Int) := nI_toInt (by omega)
      by_cases hn : 29 < n
      · exact lv_tableOut (tgt := 990) hx hb dl_32 (Or.inr (by rw [nt]; omega)) (by decide) (back x y H locs hrel hc hm hS)
      · have : n = 0 ∨ n = 1 ∨ n = 2 ∨ n = 3 ∨ n = 4 ∨ n = 5 ∨ n = 6 ∨ n = 7 ∨ n = 8 ∨ n = 9 ∨ n = 10 ∨ n = 11 ∨ n = 12 ∨ n = 13 ∨ n = 14 ∨ n = 15 ∨ n = 16 ∨ n = 17 ∨ n = 18 ∨ n = 19 ∨ n = 20 ∨ n = 21 ∨ n = 22 ∨ n = 23 ∨ n = 24 ∨ n = 25 ∨ n = 26 ∨ n = 27 ∨ n = 28 ∨ n = 29 := by omega
        rcases this with rfl | rfl | rfl | rfl | rfl | rfl | rfl | rfl | rfl | rfl | rfl | rfl | rfl | rfl | rfl | rfl | rfl | rfl | rfl | rfl | rfl | rfl | rfl | rfl | rfl | rfl | rfl | rfl | rfl | rfl
        · exact lv_tableIn (tgt := 168) (off := 136) hx hb dl_32 (by rw [nt]; omega) (by rw [nt]; omega) (by rw [nt]; rfl) (by decide) (law_0 hX hi hrel hc hm hS hl back)
        · exact lv_tableIn (tgt := 211) (off := 179) hx hb dl_32 (by rw [nt]; omega) (by rw [nt]; omega) (by rw [nt]; rfl) (by decide) (law_1 hX hi hrel hc hm hS hl back)
        · exact lv_tableIn (tgt := 234) (off := 202) hx hb dl_32 (by rw [nt]; omega) (by rw [nt]; omega) (by rw [nt]; rfl) (by decide) (law_2 hX hi hrel hc hm hS hl back)
        · exact lv_tableIn (tgt := 267) (off := 235) hx hb dl_32 (by rw [nt]; omega) (by rw [nt]; omega) (by rw [nt]; rfl) (by decide) (law_3 hX hi hrel hc hm hS hl back)
        · exact lv_tableIn (tgt := 310) (off := 278) hx hb dl_32 (by rw [nt]; omega) (by rw [nt]; omega) (by rw [nt]; rfl) (by decide) (law_4 hX hi hrel hc hm hS hl back)
        · exact lv_tableIn (tgt := 323) (off := 291) hx hb dl_32 (by rw [nt]; omega) (by rw [nt]; omega) (by rw [nt]; rfl) (by decide) (law_5 hX hi hrel hc hm hS hl back)
        · exact lv_tableIn (tgt := 366) (off := 334) hx hb dl_32 (by rw [nt]; omega) (by rw [nt]; omega) (by rw [nt]; rfl) (by decide) (law_6 hX hi hrel hc hm hS hl back)
        · exact lv_tableIn (tgt := 389) (off := 357) hx hb dl_32 (by rw [nt]; omega) (by rw [nt]; omega) (by rw [nt]; rfl) (by decide) (law_7 hX hi hrel hc hm hS hl back)
        · exact lv_tableIn (tgt := 402) (off := 370) hx hb dl_32 (by rw [nt]; omega) (by rw [nt]; omega) (by rw [nt]; rfl) (by decide) (law_8 hX hi hrel hc hm hS hl back)
        · exact lv_tableIn (tgt := 465) (off := 433) hx hb dl_32 (by rw [nt]; omega) (by rw [nt]; omega) (by rw [nt]; rfl) (by decide) (law_9 hX hi hrel hc hm hS hl back)
        · exact lv_tableIn (tgt := 478) (off := 446) hx hb dl_32 (by rw [nt]; omega) (by rw [nt]; omega) (by rw [nt]; rfl) (by decide) (law_10 hX hi hrel hc hm hS hl back)
        · exact lv_tableIn (tgt := 491) (off := 459) hx hb dl_32 (by rw [nt]; omega) (by rw [nt]; omega) (by rw [nt]; rfl) (by decide) (law_11 hX hi hrel hc hm hS hl back)
        · exact lv_tableIn (tgt := 524) (off := 492) hx hb dl_32 (by rw [nt]; omega) (by rw [nt]; omega) (by rw [nt]; rfl) (by decide) (law_12 hX hi hrel hc hm hS hl back)
        · exact lv_tableIn (tgt := 547) (off := 515) hx hb dl_32 (by rw [nt]; omega) (by rw [nt]; omega) (by rw [nt]; rfl) (by decide) (law_13 hX hi hrel hc hm hS hl back)
        · exact lv_tableIn (tgt := 570) (off := 538) hx hb dl_32 (by rw [nt]; omega) (by rw [nt]; omega) (by rw [nt]; rfl) (by decide) (law_14 hX hi hrel hc hm hS hl back)
        · exact lv_tableIn (tgt := 583) (off := 551) hx hb dl_32 (by rw [nt]; omega) (by rw [nt]; omega) (by rw [nt]; rfl) (by decide) (law_15 hX hi hrel hc hm hS hl back)
        · exact lv_tableIn (tgt := 606) (off := 574) hx hb dl_32 (by rw [nt]; omega) (by rw [nt]; omega) (by rw [nt]; rfl) (by decide) (law_16 hX hi hrel hc hm hS hl back)
        · exact lv_tableIn (tgt := 629) (off := 597) hx hb dl_32 (by rw [nt]; omega) (by rw [nt]; omega) (by rw [nt]; rfl) (by decide) (law_17 hX hi hrel hc hm hS hl back)
        · exact lv_tableIn (tgt := 652) (off := 620) hx hb dl_32 (by rw [nt]; omega) (by rw [nt]; omega) (by rw [nt]; rfl) (by decide) (law_18 hX hi hrel hc hm hS hl back)
        · exact lv_tableIn (tgt := 695) (off := 663) hx hb dl_32 (by rw [nt]; omega) (by rw [nt]; omega) (by rw [nt]; rfl) (by decide) (law_19 hX hi hrel hc hm hS hl back)
        · exact lv_tableIn (tgt := 738) (off := 706) hx hb dl_32 (by rw [nt]; omega) (by rw [nt]; omega) (by rw [nt]; rfl) (by decide) (law_20 hX hi hrel hc hm hS hl back)
        · exact lv_tableIn (tgt := 751) (off := 719) hx hb dl_32 (by rw [nt]; omega) (by rw [nt]; omega) (by rw [nt]; rfl) (by decide) (law_21 hX hi hrel hc hm hS hl back)
        · exact lv_tableIn (tgt := 784) (off := 752) hx hb dl_32 (by rw [nt]; omega) (by rw [nt]; omega) (by rw [nt]; rfl) (by decide) (law_22 hX hi hrel hc hm hS hl back)
        · exact lv_tableIn (tgt := 837) (off := 805) hx hb dl_32 (by rw [nt]; omega) (by rw [nt]; omega) (by rw [nt]; rfl) (by decide) (law_23 hX hi hrel hc hm hS hl back)
        · exact lv_tableIn (tgt := 860) (off := 828) hx hb dl_32 (by rw [nt]; omega) (by rw [nt]; omega) (by rw [nt]; rfl) (by decide) (law_24 hX hi hrel hc hm hS hl back)
        · exact lv_tableIn (tgt := 884) (off := 852) hx hb dl_32 (by rw [nt]; omega) (by rw [nt]; omega) (by rw [nt]; rfl) (by decide) (law_25 hX hi hrel hc hm hS hl back)
        · exact lv_tableIn (tgt := 907) (off := 875) hx hb dl_32 (by rw [nt]; omega) (by rw [nt]; omega) (by rw [nt]; rfl) (by decide) (law_26 hX hi hrel hc hm hS hl back)
        · exact lv_tableIn (tgt := 930) (off := 898) hx hb dl_32 (by rw [nt]; omega) (by rw [nt]; omega) (by rw [nt]; rfl) (by decide) (law_27 hX hi hrel hc hm hS hl back)
        · exact lv_tableIn (tgt := 953) (off := 921) hx hb dl_32 (by rw [nt]; omega) (by rw [nt]; omega) (by rw [nt]; rfl) (by decide) (law_28 hX hi hrel hc hm hS hl back)
        · exact lv_tableIn (tgt := 976) (off := 944) hx hb dl_32 (by rw [nt]; omega) (by rw [nt]; omega) (by rw [nt]; rfl) (by decide) (law_29 hX hi hrel hc hm hS hl back)
theorem AC_of {E : Ev} {A : Nat → Prop} {ad : Nat → Nat} {js : List Nat} {x : St} (hn : js.Nodup) (hD : va_D A (wl E.2.1 ad js x)) : Ap ad js (AC ad js) ∧ ∀ a, AC ad js a → A a := by
  refine ⟨⟨hn, fun q hq r hr he => ?_, fun q hq => ⟨q, hq, rfl⟩⟩, fun a ⟨q, hq, he⟩ => ?_⟩
  · obtain ⟨i, i1, i2⟩ := wl_at (cA := E.2.1) (ad := ad) (x := x) hq
    obtain ⟨j, j1, j2⟩ := wl_at (cA := E.2.1) (ad := ad) (x := x) hr
    have := hD.1 i j _ _ i2 j2 he
    subst this
    exact Option.some.inj (i1.symm.trans j1)
  · obtain ⟨i, i1, i2⟩ := wl_at (cA := E.2.1) (ad := ad) (x := x) hq
    rw [← he]
    exact hD.2 i _ i2
set_option maxHeartbeats 8000000 in
set_option maxRecDepth 100000 in
/-- the law, from its entry -/
theorem whole_start {p : Program} {e : Env} {s : State} {m : MethodId} {below : List Frame} {meth : Method} {c : Code} (l : Launch) {b L : Nat} {xs : Nat → Int32} (hL : L ≤ 2560) (C0 : lw_At p s m meth c b L xs) : W p l e room_1 s m #[Value.ref b] below meth c s.heap [] 0 0 (lw_Z below #[Value.ref b] s) (entryFrame m ([Value.ref b] : List Value).toArray 4) := by
  obtain ⟨hx, hb, hr, hml, hown, hts, hXX, hbl, hlk, hgv⟩ := C0
  obtain ⟨E, hKI⟩ := start_ok hts hgv
  have hA : ∀ q : Nat, s.heap.size ≤ q → (fun q : Nat => s.heap.size ≤ q) q := fun _ h => h
  have CC : Cx E (fun q => s.heap.size ≤ q) RLA code 4 ret p s m #[Value.ref b] meth c := ⟨hx, hb, hml, hr, hown, fun w hw => hts w (gtb_lw hw), hlk, hKI.1⟩
  have hS : va_S (fun q : Nat => s.heap.size ≤ q) s.heap s.heap [] := va_S.rf
  have hP : va_P E.1 vcl [] s.heap := fun k q h => by simp at h
  have hD : va_D (fun q : Nat => s.heap.size ≤ q) [] := ⟨fun i j p q h => by simp at h, fun k q h => by simp at h⟩
  have hl := lv_entry ([.ref b]) (n := 4) (Nat.le_of_ble_eq_true rfl)
  rw [lg_entry_eq]
  generalize (lg_sl ([.ref b]) ++ List.replicate (4 - (lg_sl ([.ref b])).length) Slot.unset).toArray = ls at hl ⊢
  have hl : lv_has ls 4 [(0, .ref b)] := hl
  refine rnO (fs := fsGG) CC hA hP hD hS vcl_5 ig_GG ty_GG gw_cl_LA_7 gw_is_GG gw_ini_GG (fun j hj => by rcases (show j = 0 ∨ j = 1 ∨ j = 2 ∨ j = 3 ∨ j = 4 ∨ j = 5 ∨ j = 6 ∨ j = 7 ∨ j = 8 ∨ j = 9 ∨ j = 10 by omega) with rfl | rfl | rfl | rfl | rfl | rfl | rfl | rfl | rfl | rfl | rfl <;> rfl) (Nat.le_of_ble_eq_true rfl) (Nat.le_of_ble_eq_true rfl) dl_0 (fun q1 H hP hD hS => ?_)
  refine lv_dup hx hb dl_3 rfl ?_
  refine rcI (As := []) (rest := [.ref q1]) (n := 0) CC hKI hA cc_GG_init hP hD hS gw_code_GG_init gw_m_LA_9 gw_inst_GG_init gw_ini_GG rfl rfl rfl (by decide +kernel) rfl ⟨Nat.le_of_ble_eq_true rfl, Nat.le_of_ble_eq_true rfl⟩ hl.1 rfl (Nat.le_of_ble_eq_true rfl) dl_4 ⟨Nat.le_of_ble_eq_true rfl, Nat.le_of_ble_eq_true rfl⟩ (fun w H locs hX1 hP hD hS => ?_)
  obtain ⟨adC, eC, rfl⟩ := hX1
  have hP : va_P E.1 vcl (wl E.2.1 adC ixC c0) H := hP
  have hD : va_D (fun q : Nat => s.heap.size ≤ q) (wl E.2.1 adC ixC c0) := hD
  refine lv_astore_n (lv' := [(1, .ref q1), (0, .ref b)]) hx hb dl_7 rfl hl (by decide) rfl (fun ls hl => ?_)
  refine rnO (fs := fsMO) CC hA hP hD hS vcl_6 ig_MO ty_MO gw_cl_LA_10 gw_is_MO gw_ini_MO (fun j hj => by rcases (show j = 0 ∨ j = 1 ∨ j = 2 ∨ j = 3 ∨ j = 4 ∨ j = 5 ∨ j = 6 ∨ j = 7 ∨ j = 8 ∨ j = 9 ∨ j = 10 ∨ j = 11 ∨ j = 12 ∨ j = 13 ∨ j = 14 ∨ j = 15 ∨ j = 16 ∨ j = 17 ∨ j = 18 ∨ j = 19 ∨ j = 20 ∨ j = 21 ∨ j = 22 by omega) with rfl | rfl | rfl | rfl | rfl | rfl | rfl | rfl | rfl | rfl | rfl | rfl | rfl | rfl | rfl | rfl | rfl | rfl | rfl | rfl | rfl | rfl | rfl <;> rfl) (Nat.le_of_ble_eq_true rfl) (Nat.le_of_ble_eq_true rfl) dl_8 (fun q2 H hP hD hS => ?_)
  refine lv_dup hx hb dl_11 rfl ?_
  refine rcI (As := []) (rest := [.ref q2]) (n := 0) CC hKI hA (cc_MO_init (fun _ => 0)) hP hD hS gw_code_MO_init gw_m_LA_12 gw_inst_MO_init gw_ini_MO rfl rfl rfl (by decide +kernel) rfl ⟨Nat.le_of_ble_eq_true rfl, Nat.le_of_ble_eq_true rfl⟩ hl.1 rfl (Nat.le_of_ble_eq_true rfl) dl_12 ⟨Nat.le_of_ble_eq_true rfl, Nat.le_of_ble_eq_true rfl⟩ (fun w H locs hX1 hP hD hS => ?_)
  obtain ⟨adM, eM, -, rfl⟩ := hX1
  have hP : va_P E.1 vcl (wl E.2.1 adC ixC c0 ++ wl E.2.1 adM ixM m0) H := hP
  have hD : va_D (fun q : Nat => s.heap.size ≤ q) (wl E.2.1 adC ixC c0 ++ wl E.2.1 adM ixM m0) := hD
  have hPC : Wd E adC ixC c0 H := P_mem hP (fun z hz => List.mem_append_left _ hz)
  have hPM : Wd E adM ixM m0 H := P_mem hP (fun z hz => List.mem_append_right _ hz)
  have hDn := D_nd.mp hD
  rw [List.map_append, List.nodup_append] at hDn
  have hDC : va_D (fun q : Nat => s.heap.size ≤ q) (wl E.2.1 adC ixC c0) := D_nd.mpr ⟨hDn.1.1, fun z hz => hDn.2 z (List.mem_append_left _ hz)⟩
  have hDM : va_D (fun q : Nat => s.heap.size ≤ q) (wl E.2.1 adM ixM m0) := D_nd.mpr ⟨hDn.1.2.1, fun z hz => hDn.2 z (List.mem_append_right _ hz)⟩
  obtain ⟨a1, a2⟩ := AC_of ndC hDC
  obtain ⟨b1, b2⟩ := AC_of ndM hDM
  have hdis : ∀ a, AC adC ixC a → ¬ AC adM ixM a := by
    rintro a ⟨q, hq, e1⟩ ⟨r, hr, e2⟩
    obtain ⟨i, -, i2⟩ := wl_at (cA := E.2.1) (ad := adC) (x := c0) hq
    obtain ⟨j, -, j2⟩ := wl_at (cA := E.2.1) (ad := adM) (x := m0) hr
    exact hDn.1.2.2 (adC q) (List.mem_map_of_mem (List.mem_of_getElem? i2)) (adM r) (List.mem_map_of_mem (List.mem_of_getElem? j2)) (e1.trans e2.symm)
  refine lv_astore_n (lv' := [(2, .ref q2), (1, .ref q1), (0, .ref b)]) hx hb dl_15 rfl hl (by decide) rfl (fun ls hl => ?_)
  refine lv_iconst (v := 0) hx hb dl_16 (by decide) ?_
  refine lv_istore_n (lv' := [(3, .int 0), (2, .ref q2), (1, .ref q1), (0, .ref b)]) hx hb dl_17 rfl hl (by decide) rfl (fun ls hl => ?_)
  refine W.widen (k := 600000) (n := 7302250) (Nat.le_of_ble_eq_true rfl) (Nat.le_of_ble_eq_true rfl) ?_
  have hl : lv_has ls 4 [(3, .int 0), (2, .ref (adM 100)), (1, .ref (adC 0)), (0, .ref b)] := by rw [eM, eC]; exact hl
  exact law_loop ⟨CC, hXX, hbl, a1, b1, a2, b2, hdis, hL⟩ (L + 1) 0 (by omega) (Nat.zero_le _) c0 m0 H locs ls Rel_0 hPC hPM hS (lv_sub hl [3, 2, 1, 0] rfl)
