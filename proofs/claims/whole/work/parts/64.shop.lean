theorem dd_SH_init_0 : decode bb_SH_init 0 = .ok (.aload_n 0, 1) := by decide +kernel
theorem dd_SH_init_1 : decode bb_SH_init 1 = .ok (.invokespecial 3, 3) := by decide +kernel
theorem dd_SH_init_4 : decode bb_SH_init 4 = .ok (.aload_n 0, 1) := by decide +kernel
theorem dd_SH_init_5 : decode bb_SH_init 5 = .ok (.new 9, 3) := by decide +kernel
theorem dd_SH_init_8 : decode bb_SH_init 8 = .ok (.dup, 1) := by decide +kernel
theorem dd_SH_init_9 : decode bb_SH_init 9 = .ok (.bipush 6, 2) := by decide +kernel
theorem dd_SH_init_11 : decode bb_SH_init 11 = .ok (.iconst 3, 1) := by decide +kernel
theorem dd_SH_init_12 : decode bb_SH_init 12 = .ok (.invokespecial 11, 3) := by decide +kernel
theorem dd_SH_init_15 : decode bb_SH_init 15 = .ok (.putfield 14, 3) := by decide +kernel
theorem dd_SH_init_18 : decode bb_SH_init 18 = .ok (.aload_n 0, 1) := by decide +kernel
theorem dd_SH_init_19 : decode bb_SH_init 19 = .ok (.new 9, 3) := by decide +kernel
theorem dd_SH_init_22 : decode bb_SH_init 22 = .ok (.dup, 1) := by decide +kernel
theorem dd_SH_init_23 : decode bb_SH_init 23 = .ok (.bipush 6, 2) := by decide +kernel
theorem dd_SH_init_25 : decode bb_SH_init 25 = .ok (.iconst 1, 1) := by decide +kernel
theorem dd_SH_init_26 : decode bb_SH_init 26 = .ok (.invokespecial 11, 3) := by decide +kernel
theorem dd_SH_init_29 : decode bb_SH_init 29 = .ok (.putfield 20, 3) := by decide +kernel
theorem dd_SH_init_32 : decode bb_SH_init 32 = .ok (.aload_n 0, 1) := by decide +kernel
theorem dd_SH_init_33 : decode bb_SH_init 33 = .ok (.new 9, 3) := by decide +kernel
theorem dd_SH_init_36 : decode bb_SH_init 36 = .ok (.dup, 1) := by decide +kernel
theorem dd_SH_init_37 : decode bb_SH_init 37 = .ok (.iconst 4, 1) := by decide +kernel
theorem dd_SH_init_38 : decode bb_SH_init 38 = .ok (.iconst 2, 1) := by decide +kernel
theorem dd_SH_init_39 : decode bb_SH_init 39 = .ok (.invokespecial 11, 3) := by decide +kernel
theorem dd_SH_init_42 : decode bb_SH_init 42 = .ok (.putfield 23, 3) := by decide +kernel
theorem dd_SH_init_45 : decode bb_SH_init 45 = .ok (.aload_n 0, 1) := by decide +kernel
theorem dd_SH_init_46 : decode bb_SH_init 46 = .ok (.new 9, 3) := by decide +kernel
theorem dd_SH_init_49 : decode bb_SH_init 49 = .ok (.dup, 1) := by decide +kernel
theorem dd_SH_init_50 : decode bb_SH_init 50 = .ok (.bipush 10, 2) := by decide +kernel
theorem dd_SH_init_52 : decode bb_SH_init 52 = .ok (.iconst 3, 1) := by decide +kernel
theorem dd_SH_init_53 : decode bb_SH_init 53 = .ok (.invokespecial 11, 3) := by decide +kernel
theorem dd_SH_init_56 : decode bb_SH_init 56 = .ok (.putfield 26, 3) := by decide +kernel
theorem dd_SH_init_59 : decode bb_SH_init 59 = .ok (.aload_n 0, 1) := by decide +kernel
theorem dd_SH_init_60 : decode bb_SH_init 60 = .ok (.new 9, 3) := by decide +kernel
theorem dd_SH_init_63 : decode bb_SH_init 63 = .ok (.dup, 1) := by decide +kernel
theorem dd_SH_init_64 : decode bb_SH_init 64 = .ok (.bipush 6, 2) := by decide +kernel
theorem dd_SH_init_66 : decode bb_SH_init 66 = .ok (.iconst 3, 1) := by decide +kernel
theorem dd_SH_init_67 : decode bb_SH_init 67 = .ok (.invokespecial 11, 3) := by decide +kernel
theorem dd_SH_init_70 : decode bb_SH_init 70 = .ok (.putfield 29, 3) := by decide +kernel
theorem dd_SH_init_73 : decode bb_SH_init 73 = .ok (.aload_n 0, 1) := by decide +kernel
theorem dd_SH_init_74 : decode bb_SH_init 74 = .ok (.bipush 6, 2) := by decide +kernel
theorem dd_SH_init_76 : decode bb_SH_init 76 = .ok (.bipush 100, 2) := by decide +kernel
theorem dd_SH_init_78 : decode bb_SH_init 78 = .ok (.multianewarray 32 2, 4) := by decide +kernel
theorem dd_SH_init_82 : decode bb_SH_init 82 = .ok (.putfield 34, 3) := by decide +kernel
theorem dd_SH_init_85 : decode bb_SH_init 85 = .ok (.aload_n 0, 1) := by decide +kernel
theorem dd_SH_init_86 : decode bb_SH_init 86 = .ok (.bipush 18, 2) := by decide +kernel
theorem dd_SH_init_88 : decode bb_SH_init 88 = .ok (.newarray .int, 2) := by decide +kernel
theorem dd_SH_init_90 : decode bb_SH_init 90 = .ok (.putfield 37, 3) := by decide +kernel
theorem dd_SH_init_93 : decode bb_SH_init 93 = .ok (.aload_n 0, 1) := by decide +kernel
theorem dd_SH_init_94 : decode bb_SH_init 94 = .ok (.sipush 190, 3) := by decide +kernel
theorem dd_SH_init_97 : decode bb_SH_init 97 = .ok (.newarray .int, 2) := by decide +kernel
theorem dd_SH_init_99 : decode bb_SH_init 99 = .ok (.putfield 41, 3) := by decide +kernel
theorem dd_SH_init_102 : decode bb_SH_init 102 = .ok (.aload_n 0, 1) := by decide +kernel
theorem dd_SH_init_103 : decode bb_SH_init 103 = .ok (.getfield 37, 3) := by decide +kernel
theorem dd_SH_init_106 : decode bb_SH_init 106 = .ok (.iconst (-1), 1) := by decide +kernel
theorem dd_SH_init_107 : decode bb_SH_init 107 = .ok (.invokestatic 44, 3) := by decide +kernel
theorem dd_SH_init_110 : decode bb_SH_init 110 = .ok (.return_, 1) := by decide +kernel
def fsSH : List Value := [.null, .null, .null, .null, .null, .null, .null, .null, .int 0, .int 0]
/-- the class's numbers at first -/
def lgI (L w : Int32) : Nat → Int32 := fun k => if k = 0 then L else if k = 1 then w else 0
def c0i (a : Nat) : Nat → Int32 := if a = 3 then (fun k => if k = 3 then -1 else 0) else if a < 16 then (fun _ => 0) else if (a - 16) % 20 = 1 then lgI 6 3 else if (a - 16) % 20 = 3 then lgI 6 1 else if (a - 16) % 20 = 5 then lgI 4 2 else if (a - 16) % 20 = 7 then lgI 10 3 else if (a - 16) % 20 = 9 then lgI 6 3 else if (a - 16) % 20 = 18 then (fun _ => -1) else (fun _ => 0)
def c0l (a : Nat) : Nat → Int64 := if a = 0 then (fun k => if k = 7 then 1 else 0) else (fun _ => 0)
def c0 : St := (c0i, c0l)
abbrev rm_SH_init : Room := { frames := 2, cells := 19, slots := 914, locals := 50 }
def XSH (E : Ev) (h0 s : Nat) (ad0 : Nat → Nat) (ws : va_W) : Prop := ∃ ad : Nat → Nat, ad s = h0 ∧ (∀ q, ¬ (s ≤ q ∧ q < s + 20) → ad q = ad0 q) ∧ ws = wl E.2.1 ad (List.range' s 20) c0
/-- the addresses of a shop's cells -/
def adS (s : Nat) (v : List Nat) (ad0 : Nat → Nat) (q : Nat) : Nat := if s ≤ q ∧ q < s + 20 then v.getD (q - s) 0 else ad0 q
theorem rf_grid {s : Nat} (hs : sp s) (i : Nat) : rf (s + 11) i = if i < 6 then s + 12 + i else 0 := by
  by_cases z : i < 6
  · rw [if_pos z]; exact (sp_row hs z).1
  · rw [if_neg z]
    unfold rf
    rcases hs with rfl | rfl | rfl | rfl
    · rw [List.getD_eq_getElem?_getD, List.getElem?_eq_none (by show 6 ≤ i; omega)]; rfl
    · rw [List.getD_eq_getElem?_getD, List.getElem?_eq_none (by show 6 ≤ i; omega)]; rfl
    · rw [List.getD_eq_getElem?_getD, List.getElem?_eq_none (by show 6 ≤ i; omega)]; rfl
    · rw [List.getD_eq_getElem?_getD, List.getElem?_eq_none (by show 6 ≤ i; omega)]; rfl
theorem XSH_ok {E : Ev} {s : Nat} (hs : sp s) (ad0 : Nat → Nat) (h0 l0 a0 l1 a1 l2 a2 l3 a3 l4 a4 g b pa : Nat) : XSH E h0 s ad0 [(h0, .inr (4, [.ref l0, .ref l1, .ref l2, .ref l3, .ref l4, .ref g, .ref b, .ref pa, .int 0, .int 0])), (l0, .inr (1, [.int (nI 6), .int (nI 3), .ref a0, .int 0])), (a0, .inl (E.2.1 0, 18, .inl (fun _ => 0))), (l1, .inr (1, [.int (nI 6), .int (nI 1), .ref a1, .int 0])), (a1, .inl (E.2.1 0, 6, .inl (fun _ => 0))), (l2, .inr (1, [.int (nI 4), .int (nI 2), .ref a2, .int 0])), (a2, .inl (E.2.1 0, 8, .inl (fun _ => 0))), (l3, .inr (1, [.int (nI 10), .int (nI 3), .ref a3, .int 0])), (a3, .inl (E.2.1 0, 30, .inl (fun _ => 0))), (l4, .inr (1, [.int (nI 6), .int (nI 3), .ref a4, .int 0])), (a4, .inl (E.2.1 0, 18, .inl (fun _ => 0))), (g, .inl (E.2.1 5, 6, .inr (.inr (.inr (.inr (fun i => some (if i < 6 then g + 1 + i else ad0 0))))))), (g + 1, .inl (E.2.1 0, 100, .inl (fun _ => 0))), (g + 2, .inl (E.2.1 0, 100, .inl (fun _ => 0))), (g + 3, .inl (E.2.1 0, 100, .inl (fun _ => 0))), (g + 4, .inl (E.2.1 0, 100, .inl (fun _ => 0))), (g + 5, .inl (E.2.1 0, 100, .inl (fun _ => 0))), (g + 6, .inl (E.2.1 0, 100, .inl (fun _ => 0))), (b, .inl (E.2.1 0, 18, .inl (fun _ => -1))), (pa, .inl (E.2.1 0, 190, .inl (fun _ => 0)))] := by
  have hg : ∀ i, adS s [h0, l0, a0, l1, a1, l2, a2, l3, a3, l4, a4, g, g + 1, g + 2, g + 3, g + 4, g + 5, g + 6, b, pa] ad0 (rf (s + 11) i) = if i < 6 then g + 1 + i else ad0 0 := by
    intro i
    rw [rf_grid hs]
    by_cases z : i < 6
    · rw [if_pos z, if_pos z]
      unfold adS
      rw [if_pos (by omega), show s + 12 + i - s = 12 + i by omega]
      have : i = 0 ∨ i = 1 ∨ i = 2 ∨ i = 3 ∨ i = 4 ∨ i = 5 := by omega
      rcases this with rfl | rfl | rfl | rfl | rfl | rfl <;> rfl
    · rw [if_neg z, if_neg z]
      unfold adS
      rw [if_neg (by rcases hs with rfl | rfl | rfl | rfl <;> omega)]
  have he : ent E.2.1 (adS s [h0, l0, a0, l1, a1, l2, a2, l3, a3, l4, a4, g, g + 1, g + 2, g + 3, g + 4, g + 5, g + 6, b, pa] ad0) c0 (s + 11) = .inl (E.2.1 5, 6, .inr (.inr (.inr (.inr (fun i => some (if i < 6 then g + 1 + i else ad0 0)))))) := by
    rw [ent_25 (by rcases hs with rfl | rfl | rfl | rfl <;> rfl), (sp_ln hs).2.2.2.2.2.1]
    congr 7
    funext i
    rw [hg i]
  refine ⟨adS s [h0, l0, a0, l1, a1, l2, a2, l3, a3, l4, a4, g, g + 1, g + 2, g + 3, g + 4, g + 5, g + 6, b, pa] ad0, ?_, fun q hq => if_neg hq, ?_⟩
  · unfold adS
    rw [if_pos (by omega), Nat.sub_self]; rfl
  · rw [← he]
    rcases hs with rfl | rfl | rfl | rfl <;> rfl
set_option maxHeartbeats 8000000 in
set_option maxRecDepth 100000 in
theorem cc_SH_init {l : Launch} {E : Ev} {h0 sz s0 : Nat} (hs : sp s0) (ad0 : Nat → Nat) : Met l yy_SH_init (Cond.code yy_SH_init bb_SH_init 1 none :: gtb) rm_SH_init (va_Pc [.ref h0] (PI E h0 4 fsSH sz)) (QI E (AI h0 4 fsSH sz) (XSH E h0 s0 ad0)) 19 914 (AI h0 4 fsSH sz) := by
  refine enterI (As := []) (by decide) rfl (Nat.le_of_ble_eq_true rfl) (fun p e s m below meth c ls A C0 hKI hi hA hP hD hS hl => ?_)
  obtain ⟨hx, hb, hml, hr, hown, hts, hlk, hK⟩ := id C0
  have hl : lv_has ls 1 [(0, .ref h0)] := hl
  refine lv_aload_n hx hb dd_SH_init_0 rfl (lv_at hl 0 rfl) ?_
  refine oI C0 gw_oi_SH hl.1 (Nat.le_of_ble_eq_true rfl) (Nat.le_of_ble_eq_true rfl) dd_SH_init_1 ?_
  refine lv_aload_n hx hb dd_SH_init_4 rfl (lv_at hl 0 rfl) ?_
  refine rnO (fs := fsLE) C0 hA hP hD hS vcl_1 ig_LE ty_LE gw_cl_SH_9 gw_is_LE gw_ini_LE (fun j hj => by rcases (show j = 0 ∨ j = 1 ∨ j = 2 ∨ j = 3 by omega) with rfl | rfl | rfl | rfl <;> rfl) (Nat.le_of_ble_eq_true rfl) (Nat.le_of_ble_eq_true rfl) dd_SH_init_5 (fun l0 H hP hD hS => ?_)
  refine W.widen (k := 1) (n := 4) (Nat.le_of_ble_eq_true rfl) (Nat.le_of_ble_eq_true rfl) ?_
  refine lv_dup hx hb dd_SH_init_8 rfl ?_
  refine lv_bipush (v := 6) hx hb dd_SH_init_9 (by decide) ?_
  refine lv_iconst (v := 3) hx hb dd_SH_init_11 (by decide) ?_
  refine rcI (As := [.int (nI 6), .int (nI 3)]) (rest := [.ref l0, .ref h0]) (n := 2) C0 hKI hA (cc_LE_init (L := 6) (w := 3) (by decide) (by decide) (by decide)) hP hD hS gw_code_LE_init gw_m_SH_11 gw_inst_LE_init gw_ini_LE rfl rfl rfl (by decide +kernel) rfl ⟨Nat.le_of_ble_eq_true rfl, Nat.le_of_ble_eq_true rfl⟩ hl.1 rfl (Nat.le_of_ble_eq_true rfl) dd_SH_init_12 ⟨Nat.le_of_ble_eq_true rfl, Nat.le_of_ble_eq_true rfl⟩ (fun w H locs hX hP hD hS => ?_)
  obtain ⟨a0, rfl⟩ := hX
  have hP : va_P E.1 vcl [(h0, .inr (4, [.null, .null, .null, .null, .null, .null, .null, .null, .int 0, .int 0])), (l0, .inr (1, [.int (nI 6), .int (nI 3), .ref a0, .int 0])), (a0, .inl (E.2.1 0, 18, .inl (fun _ => 0)))] H := hP
  have hD : va_D A [(h0, .inr (4, [.null, .null, .null, .null, .null, .null, .null, .null, .int 0, .int 0])), (l0, .inr (1, [.int (nI 6), .int (nI 3), .ref a0, .int 0])), (a0, .inl (E.2.1 0, 18, .inl (fun _ => 0)))] := hD
  refine W.widen (k := 2) (n := 22) (Nat.le_of_ble_eq_true rfl) (Nat.le_of_ble_eq_true rfl) ?_
  refine rpF C0 hi hP hD hS vcl_4 ig_SH ty_SH nm_SH 0 (by decide) rfl rfl rfl gw_f_SH_14 rfl rfl (Nat.le_of_ble_eq_true rfl) (fs' := [.ref l0, .null, .null, .null, .null, .null, .null, .null, .int 0, .int 0]) rfl dd_SH_init_15 (fun H locs hP hD hS => ?_)
  refine lv_aload_n hx hb dd_SH_init_18 rfl (lv_at hl 0 rfl) ?_
  refine rnO (fs := fsLE) C0 hA hP hD hS vcl_1 ig_LE ty_LE gw_cl_SH_9 gw_is_LE gw_ini_LE (fun j hj => by rcases (show j = 0 ∨ j = 1 ∨ j = 2 ∨ j = 3 by omega) with rfl | rfl | rfl | rfl <;> rfl) (Nat.le_of_ble_eq_true rfl) (Nat.le_of_ble_eq_true rfl) dd_SH_init_19 (fun l1 H hP hD hS => ?_)
  refine W.widen (k := 3) (n := 26) (Nat.le_of_ble_eq_true rfl) (Nat.le_of_ble_eq_true rfl) ?_
  refine lv_dup hx hb dd_SH_init_22 rfl ?_
  refine lv_bipush (v := 6) hx hb dd_SH_init_23 (by decide) ?_
  refine lv_iconst (v := 1) hx hb dd_SH_init_25 (by decide) ?_
  refine rcI (As := [.int (nI 6), .int (nI 1)]) (rest := [.ref l1, .ref h0]) (n := 2) C0 hKI hA (cc_LE_init (L := 6) (w := 1) (by decide) (by decide) (by decide)) hP hD hS gw_code_LE_init gw_m_SH_11 gw_inst_LE_init gw_ini_LE rfl rfl rfl (by decide +kernel) rfl ⟨Nat.le_of_ble_eq_true rfl, Nat.le_of_ble_eq_true rfl⟩ hl.1 rfl (Nat.le_of_ble_eq_true rfl) dd_SH_init_26 ⟨Nat.le_of_ble_eq_true rfl, Nat.le_of_ble_eq_true rfl⟩ (fun w H locs hX hP hD hS => ?_)
  obtain ⟨a1, rfl⟩ := hX
  have hP : va_P E.1 vcl [(h0, .inr (4, [.ref l0, .null, .null, .null, .null, .null, .null, .null, .int 0, .int 0])), (l0, .inr (1, [.int (nI 6), .int (nI 3), .ref a0, .int 0])), (a0, .inl (E.2.1 0, 18, .inl (fun _ => 0))), (l1, .inr (1, [.int (nI 6), .int (nI 1), .ref a1, .int 0])), (a1, .inl (E.2.1 0, 6, .inl (fun _ => 0)))] H := hP
  have hD : va_D A [(h0, .inr (4, [.ref l0, .null, .null, .null, .null, .null, .null, .null, .int 0, .int 0])), (l0, .inr (1, [.int (nI 6), .int (nI 3), .ref a0, .int 0])), (a0, .inl (E.2.1 0, 18, .inl (fun _ => 0))), (l1, .inr (1, [.int (nI 6), .int (nI 1), .ref a1, .int 0])), (a1, .inl (E.2.1 0, 6, .inl (fun _ => 0)))] := hD
  refine W.widen (k := 4) (n := 32) (Nat.le_of_ble_eq_true rfl) (Nat.le_of_ble_eq_true rfl) ?_
  refine rpF C0 hi hP hD hS vcl_4 ig_SH ty_SH nm_SH 1 (by decide) rfl rfl rfl gw_f_SH_20 rfl rfl (Nat.le_of_ble_eq_true rfl) (fs' := [.ref l0, .ref l1, .null, .null, .null, .null, .null, .null, .int 0, .int 0]) rfl dd_SH_init_29 (fun H locs hP hD hS => ?_)
  refine lv_aload_n hx hb dd_SH_init_32 rfl (lv_at hl 0 rfl) ?_
  refine rnO (fs := fsLE) C0 hA hP hD hS vcl_1 ig_LE ty_LE gw_cl_SH_9 gw_is_LE gw_ini_LE (fun j hj => by rcases (show j = 0 ∨ j = 1 ∨ j = 2 ∨ j = 3 by omega) with rfl | rfl | rfl | rfl <;> rfl) (Nat.le_of_ble_eq_true rfl) (Nat.le_of_ble_eq_true rfl) dd_SH_init_33 (fun l2 H hP hD hS => ?_)
  refine W.widen (k := 5) (n := 36) (Nat.le_of_ble_eq_true rfl) (Nat.le_of_ble_eq_true rfl) ?_
  refine lv_dup hx hb dd_SH_init_36 rfl ?_
  refine lv_iconst (v := 4) hx hb dd_SH_init_37 (by decide) ?_
  refine lv_iconst (v := 2) hx hb dd_SH_init_38 (by decide) ?_
  refine rcI (As := [.int (nI 4), .int (nI 2)]) (rest := [.ref l2, .ref h0]) (n := 2) C0 hKI hA (cc_LE_init (L := 4) (w := 2) (by decide) (by decide) (by decide)) hP hD hS gw_code_LE_init gw_m_SH_11 gw_inst_LE_init gw_ini_LE rfl rfl rfl (by decide +kernel) rfl ⟨Nat.le_of_ble_eq_true rfl, Nat.le_of_ble_eq_true rfl⟩ hl.1 rfl (Nat.le_of_ble_eq_true rfl) dd_SH_init_39 ⟨Nat.le_of_ble_eq_true rfl, Nat.le_of_ble_eq_true rfl⟩ (fun w H locs hX hP hD hS => ?_)
  obtain ⟨a2, rfl⟩ := hX
  have hP : va_P E.1 vcl [(h0, .inr (4, [.ref l0, .ref l1, .null, .null, .null, .null, .null, .null, .int 0, .int 0])), (l0, .inr (1, [.int (nI 6), .int (nI 3), .ref a0, .int 0])), (a0, .inl (E.2.1 0, 18, .inl (fun _ => 0))), (l1, .inr (1, [.int (nI 6), .int (nI 1), .ref a1, .int 0])), (a1, .inl (E.2.1 0, 6, .inl (fun _ => 0))), (l2, .inr (1, [.int (nI 4), .int (nI 2), .ref a2, .int 0])), (a2, .inl (E.2.1 0, 8, .inl (fun _ => 0)))] H := hP
  have hD : va_D A [(h0, .inr (4, [.ref l0, .ref l1, .null, .null, .null, .null, .null, .null, .int 0, .int 0])), (l0, .inr (1, [.int (nI 6), .int (nI 3), .ref a0, .int 0])), (a0, .inl (E.2.1 0, 18, .inl (fun _ => 0))), (l1, .inr (1, [.int (nI 6), .int (nI 1), .ref a1, .int 0])), (a1, .inl (E.2.1 0, 6, .inl (fun _ => 0))), (l2, .inr (1, [.int (nI 4), .int (nI 2), .ref a2, .int 0])), (a2, .inl (E.2.1 0, 8, .inl (fun _ => 0)))] := hD
  refine W.widen (k := 6) (n := 44) (Nat.le_of_ble_eq_true rfl) (Nat.le_of_ble_eq_true rfl) ?_
  refine rpF C0 hi hP hD hS vcl_4 ig_SH ty_SH nm_SH 2 (by decide) rfl rfl rfl gw_f_SH_23 rfl rfl (Nat.le_of_ble_eq_true rfl) (fs' := [.ref l0, .ref l1, .ref l2, .null, .null, .null, .null, .null, .int 0, .int 0]) rfl dd_SH_init_42 (fun H locs hP hD hS => ?_)
  refine lv_aload_n hx hb dd_SH_init_45 rfl (lv_at hl 0 rfl) ?_
  refine rnO (fs := fsLE) C0 hA hP hD hS vcl_1 ig_LE ty_LE gw_cl_SH_9 gw_is_LE gw_ini_LE (fun j hj => by rcases (show j = 0 ∨ j = 1 ∨ j = 2 ∨ j = 3 by omega) with rfl | rfl | rfl | rfl <;> rfl) (Nat.le_of_ble_eq_true rfl) (Nat.le_of_ble_eq_true rfl) dd_SH_init_46 (fun l3 H hP hD hS => ?_)
  refine W.widen (k := 7) (n := 48) (Nat.le_of_ble_eq_true rfl) (Nat.le_of_ble_eq_true rfl) ?_
  refine lv_dup hx hb dd_SH_init_49 rfl ?_
  refine lv_bipush (v := 10) hx hb dd_SH_init_50 (by decide) ?_
  refine lv_iconst (v := 3) hx hb dd_SH_init_52 (by decide) ?_
  refine rcI (As := [.int (nI 10), .int (nI 3)]) (rest := [.ref l3, .ref h0]) (n := 2) C0 hKI hA (cc_LE_init (L := 10) (w := 3) (by decide) (by decide) (by decide)) hP hD hS gw_code_LE_init gw_m_SH_11 gw_inst_LE_init gw_ini_LE rfl rfl rfl (by decide +kernel) rfl ⟨Nat.le_of_ble_eq_true rfl, Nat.le_of_ble_eq_true rfl⟩ hl.1 rfl (Nat.le_of_ble_eq_true rfl) dd_SH_init_53 ⟨Nat.le_of_ble_eq_true rfl, Nat.le_of_ble_eq_true rfl⟩ (fun w H locs hX hP hD hS => ?_)
  obtain ⟨a3, rfl⟩ := hX
  have hP : va_P E.1 vcl [(h0, .inr (4, [.ref l0, .ref l1, .ref l2, .null, .null, .null, .null, .null, .int 0, .int 0])), (l0, .inr (1, [.int (nI 6), .int (nI 3), .ref a0, .int 0])), (a0, .inl (E.2.1 0, 18, .inl (fun _ => 0))), (l1, .inr (1, [.int (nI 6), .int (nI 1), .ref a1, .int 0])), (a1, .inl (E.2.1 0, 6, .inl (fun _ => 0))), (l2, .inr (1, [.int (nI 4), .int (nI 2), .ref a2, .int 0])), (a2, .inl (E.2.1 0, 8, .inl (fun _ => 0))), (l3, .inr (1, [.int (nI 10), .int (nI 3), .ref a3, .int 0])), (a3, .inl (E.2.1 0, 30, .inl (fun _ => 0)))] H := hP
  have hD : va_D A [(h0, .inr (4, [.ref l0, .ref l1, .ref l2, .null, .null, .null, .null, .null, .int 0, .int 0])), (l0, .inr (1, [.int (nI 6), .int (nI 3), .ref a0, .int 0])), (a0, .inl (E.2.1 0, 18, .inl (fun _ => 0))), (l1, .inr (1, [.int (nI 6), .int (nI 1), .ref a1, .int 0])), (a1, .inl (E.2.1 0, 6, .inl (fun _ => 0))), (l2, .inr (1, [.int (nI 4), .int (nI 2), .ref a2, .int 0])), (a2, .inl (E.2.1 0, 8, .inl (fun _ => 0))), (l3, .inr (1, [.int (nI 10), .int (nI 3), .ref a3, .int 0])), (a3, .inl (E.2.1 0, 30, .inl (fun _ => 0)))] := hD
  refine W.widen (k := 8) (n := 78) (Nat.le_of_ble_eq_true rfl) (Nat.le_of_ble_eq_true rfl) ?_
  refine rpF C0 hi hP hD hS vcl_4 ig_SH ty_SH nm_SH 3 (by decide) rfl rfl rfl gw_f_SH_26 rfl rfl (Nat.le_of_ble_eq_true rfl) (fs' := [.ref l0, .ref l1, .ref l2, .ref l3, .null, .null, .null, .null, .int 0, .int 0]) rfl dd_SH_init_56 (fun H locs hP hD hS => ?_)
  refine lv_aload_n hx hb dd_SH_init_59 rfl (lv_at hl 0 rfl) ?_
  refine rnO (fs := fsLE) C0 hA hP hD hS vcl_1 ig_LE ty_LE gw_cl_SH_9 gw_is_LE gw_ini_LE (fun j hj => by rcases (show j = 0 ∨ j = 1 ∨ j = 2 ∨ j = 3 by omega) with rfl | rfl | rfl | rfl <;> rfl) (Nat.le_of_ble_eq_true rfl) (Nat.le_of_ble_eq_true rfl) dd_SH_init_60 (fun l4 H hP hD hS => ?_)
  refine W.widen (k := 9) (n := 82) (Nat.le_of_ble_eq_true rfl) (Nat.le_of_ble_eq_true rfl) ?_
  refine lv_dup hx hb dd_SH_init_63 rfl ?_
  refine lv_bipush (v := 6) hx hb dd_SH_init_64 (by decide) ?_
  refine lv_iconst (v := 3) hx hb dd_SH_init_66 (by decide) ?_
  refine rcI (As := [.int (nI 6), .int (nI 3)]) (rest := [.ref l4, .ref h0]) (n := 2) C0 hKI hA (cc_LE_init (L := 6) (w := 3) (by decide) (by decide) (by decide)) hP hD hS gw_code_LE_init gw_m_SH_11 gw_inst_LE_init gw_ini_LE rfl rfl rfl (by decide +kernel) rfl ⟨Nat.le_of_ble_eq_true rfl, Nat.le_of_ble_eq_true rfl⟩ hl.1 rfl (Nat.le_of_ble_eq_true rfl) dd_SH_init_67 ⟨Nat.le_of_ble_eq_true rfl, Nat.le_of_ble_eq_true rfl⟩ (fun w H locs hX hP hD hS => ?_)
  obtain ⟨a4, rfl⟩ := hX
  have hP : va_P E.1 vcl [(h0, .inr (4, [.ref l0, .ref l1, .ref l2, .ref l3, .null, .null, .null, .null, .int 0, .int 0])), (l0, .inr (1, [.int (nI 6), .int (nI 3), .ref a0, .int 0])), (a0, .inl (E.2.1 0, 18, .inl (fun _ => 0))), (l1, .inr (1, [.int (nI 6), .int (nI 1), .ref a1, .int 0])), (a1, .inl (E.2.1 0, 6, .inl (fun _ => 0))), (l2, .inr (1, [.int (nI 4), .int (nI 2), .ref a2, .int 0])), (a2, .inl (E.2.1 0, 8, .inl (fun _ => 0))), (l3, .inr (1, [.int (nI 10), .int (nI 3), .ref a3, .int 0])), (a3, .inl (E.2.1 0, 30, .inl (fun _ => 0))), (l4, .inr (1, [.int (nI 6), .int (nI 3), .ref a4, .int 0])), (a4, .inl (E.2.1 0, 18, .inl (fun _ => 0)))] H := hP
  have hD : va_D A [(h0, .inr (4, [.ref l0, .ref l1, .ref l2, .ref l3, .null, .null, .null, .null, .int 0, .int 0])), (l0, .inr (1, [.int (nI 6), .int (nI 3), .ref a0, .int 0])), (a0, .inl (E.2.1 0, 18, .inl (fun _ => 0))), (l1, .inr (1, [.int (nI 6), .int (nI 1), .ref a1, .int 0])), (a1, .inl (E.2.1 0, 6, .inl (fun _ => 0))), (l2, .inr (1, [.int (nI 4), .int (nI 2), .ref a2, .int 0])), (a2, .inl (E.2.1 0, 8, .inl (fun _ => 0))), (l3, .inr (1, [.int (nI 10), .int (nI 3), .ref a3, .int 0])), (a3, .inl (E.2.1 0, 30, .inl (fun _ => 0))), (l4, .inr (1, [.int (nI 6), .int (nI 3), .ref a4, .int 0])), (a4, .inl (E.2.1 0, 18, .inl (fun _ => 0)))] := hD
  refine W.widen (k := 10) (n := 100) (Nat.le_of_ble_eq_true rfl) (Nat.le_of_ble_eq_true rfl) ?_
  refine rpF C0 hi hP hD hS vcl_4 ig_SH ty_SH nm_SH 4 (by decide) rfl rfl rfl gw_f_SH_29 rfl rfl (Nat.le_of_ble_eq_true rfl) (fs' := [.ref l0, .ref l1, .ref l2, .ref l3, .ref l4, .null, .null, .null, .int 0, .int 0]) rfl dd_SH_init_70 (fun H locs hP hD hS => ?_)
  refine lv_aload_n hx hb dd_SH_init_73 rfl (lv_at hl 0 rfl) ?_
  refine lv_bipush (v := 6) hx hb dd_SH_init_74 (by decide) ?_
  refine lv_bipush (v := 100) hx hb dd_SH_init_76 (by decide) ?_
  refine rnG C0 hKI hA hP hD hS (ad0 0) gw_cl_SH_32 (Nat.le_of_ble_eq_true rfl) (Nat.le_of_ble_eq_true rfl) dd_SH_init_78 (fun g H locs hP hD hS => ?_)
  have hP : va_P E.1 vcl [(h0, .inr (4, [.ref l0, .ref l1, .ref l2, .ref l3, .ref l4, .null, .null, .null, .int 0, .int 0])), (l0, .inr (1, [.int (nI 6), .int (nI 3), .ref a0, .int 0])), (a0, .inl (E.2.1 0, 18, .inl (fun _ => 0))), (l1, .inr (1, [.int (nI 6), .int (nI 1), .ref a1, .int 0])), (a1, .inl (E.2.1 0, 6, .inl (fun _ => 0))), (l2, .inr (1, [.int (nI 4), .int (nI 2), .ref a2, .int 0])), (a2, .inl (E.2.1 0, 8, .inl (fun _ => 0))), (l3, .inr (1, [.int (nI 10), .int (nI 3), .ref a3, .int 0])), (a3, .inl (E.2.1 0, 30, .inl (fun _ => 0))), (l4, .inr (1, [.int (nI 6), .int (nI 3), .ref a4, .int 0])), (a4, .inl (E.2.1 0, 18, .inl (fun _ => 0))), (g, .inl (E.2.1 5, 6, .inr (.inr (.inr (.inr (fun i => some (if i < 6 then g + 1 + i else ad0 0))))))), (g + 1, .inl (E.2.1 0, 100, .inl (fun _ => 0))), (g + 2, .inl (E.2.1 0, 100, .inl (fun _ => 0))), (g + 3, .inl (E.2.1 0, 100, .inl (fun _ => 0))), (g + 4, .inl (E.2.1 0, 100, .inl (fun _ => 0))), (g + 5, .inl (E.2.1 0, 100, .inl (fun _ => 0))), (g + 6, .inl (E.2.1 0, 100, .inl (fun _ => 0)))] H := hP
  have hD : va_D A [(h0, .inr (4, [.ref l0, .ref l1, .ref l2, .ref l3, .ref l4, .null, .null, .null, .int 0, .int 0])), (l0, .inr (1, [.int (nI 6), .int (nI 3), .ref a0, .int 0])), (a0, .inl (E.2.1 0, 18, .inl (fun _ => 0))), (l1, .inr (1, [.int (nI 6), .int (nI 1), .ref a1, .int 0])), (a1, .inl (E.2.1 0, 6, .inl (fun _ => 0))), (l2, .inr (1, [.int (nI 4), .int (nI 2), .ref a2, .int 0])), (a2, .inl (E.2.1 0, 8, .inl (fun _ => 0))), (l3, .inr (1, [.int (nI 10), .int (nI 3), .ref a3, .int 0])), (a3, .inl (E.2.1 0, 30, .inl (fun _ => 0))), (l4, .inr (1, [.int (nI 6), .int (nI 3), .ref a4, .int 0])), (a4, .inl (E.2.1 0, 18, .inl (fun _ => 0))), (g, .inl (E.2.1 5, 6, .inr (.inr (.inr (.inr (fun i => some (if i < 6 then g + 1 + i else ad0 0))))))), (g + 1, .inl (E.2.1 0, 100, .inl (fun _ => 0))), (g + 2, .inl (E.2.1 0, 100, .inl (fun _ => 0))), (g + 3, .inl (E.2.1 0, 100, .inl (fun _ => 0))), (g + 4, .inl (E.2.1 0, 100, .inl (fun _ => 0))), (g + 5, .inl (E.2.1 0, 100, .inl (fun _ => 0))), (g + 6, .inl (E.2.1 0, 100, .inl (fun _ => 0)))] := hD
  refine W.widen (k := 17) (n := 706) (Nat.le_of_ble_eq_true rfl) (Nat.le_of_ble_eq_true rfl) ?_
  refine rpF C0 hi hP hD hS vcl_4 ig_SH ty_SH nm_SH 5 (by decide) rfl rfl rfl gw_f_SH_34 rfl rfl (Nat.le_of_ble_eq_true rfl) (fs' := [.ref l0, .ref l1, .ref l2, .ref l3, .ref l4, .ref g, .null, .null, .int 0, .int 0]) rfl dd_SH_init_82 (fun H locs hP hD hS => ?_)
  refine lv_aload_n hx hb dd_SH_init_85 rfl (lv_at hl 0 rfl) ?_
  refine lv_bipush (v := 18) hx hb dd_SH_init_86 (by decide) ?_
  refine rnI C0 hA hP hD hS 18 (by decide) (by decide) (by decide) (Nat.le_of_ble_eq_true rfl) (Nat.le_of_ble_eq_true rfl) dd_SH_init_88 (fun b H hP hD hS => ?_)
  have hP : va_P E.1 vcl [(h0, .inr (4, [.ref l0, .ref l1, .ref l2, .ref l3, .ref l4, .ref g, .null, .null, .int 0, .int 0])), (l0, .inr (1, [.int (nI 6), .int (nI 3), .ref a0, .int 0])), (a0, .inl (E.2.1 0, 18, .inl (fun _ => 0))), (l1, .inr (1, [.int (nI 6), .int (nI 1), .ref a1, .int 0])), (a1, .inl (E.2.1 0, 6, .inl (fun _ => 0))), (l2, .inr (1, [.int (nI 4), .int (nI 2), .ref a2, .int 0])), (a2, .inl (E.2.1 0, 8, .inl (fun _ => 0))), (l3, .inr (1, [.int (nI 10), .int (nI 3), .ref a3, .int 0])), (a3, .inl (E.2.1 0, 30, .inl (fun _ => 0))), (l4, .inr (1, [.int (nI 6), .int (nI 3), .ref a4, .int 0])), (a4, .inl (E.2.1 0, 18, .inl (fun _ => 0))), (g, .inl (E.2.1 5, 6, .inr (.inr (.inr (.inr (fun i => some (if i < 6 then g + 1 + i else ad0 0))))))), (g + 1, .inl (E.2.1 0, 100, .inl (fun _ => 0))), (g + 2, .inl (E.2.1 0, 100, .inl (fun _ => 0))), (g + 3, .inl (E.2.1 0, 100, .inl (fun _ => 0))), (g + 4, .inl (E.2.1 0, 100, .inl (fun _ => 0))), (g + 5, .inl (E.2.1 0, 100, .inl (fun _ => 0))), (g + 6, .inl (E.2.1 0, 100, .inl (fun _ => 0))), (b, .inl (E.2.1 0, 18, .inl (fun _ => 0)))] H := hP
  have hD : va_D A [(h0, .inr (4, [.ref l0, .ref l1, .ref l2, .ref l3, .ref l4, .ref g, .null, .null, .int 0, .int 0])), (l0, .inr (1, [.int (nI 6), .int (nI 3), .ref a0, .int 0])), (a0, .inl (E.2.1 0, 18, .inl (fun _ => 0))), (l1, .inr (1, [.int (nI 6), .int (nI 1), .ref a1, .int 0])), (a1, .inl (E.2.1 0, 6, .inl (fun _ => 0))), (l2, .inr (1, [.int (nI 4), .int (nI 2), .ref a2, .int 0])), (a2, .inl (E.2.1 0, 8, .inl (fun _ => 0))), (l3, .inr (1, [.int (nI 10), .int (nI 3), .ref a3, .int 0])), (a3, .inl (E.2.1 0, 30, .inl (fun _ => 0))), (l4, .inr (1, [.int (nI 6), .int (nI 3), .ref a4, .int 0])), (a4, .inl (E.2.1 0, 18, .inl (fun _ => 0))), (g, .inl (E.2.1 5, 6, .inr (.inr (.inr (.inr (fun i => some (if i < 6 then g + 1 + i else ad0 0))))))), (g + 1, .inl (E.2.1 0, 100, .inl (fun _ => 0))), (g + 2, .inl (E.2.1 0, 100, .inl (fun _ => 0))), (g + 3, .inl (E.2.1 0, 100, .inl (fun _ => 0))), (g + 4, .inl (E.2.1 0, 100, .inl (fun _ => 0))), (g + 5, .inl (E.2.1 0, 100, .inl (fun _ => 0))), (g + 6, .inl (E.2.1 0, 100, .inl (fun _ => 0))), (b, .inl (E.2.1 0, 18, .inl (fun _ => 0)))] := hD
  refine W.widen (k := 18) (n := 724) (Nat.le_of_ble_eq_true rfl) (Nat.le_of_ble_eq_true rfl) ?_
  refine rpF C0 hi hP hD hS vcl_4 ig_SH ty_SH nm_SH 6 (by decide) rfl rfl rfl gw_f_SH_37 rfl rfl (Nat.le_of_ble_eq_true rfl) (fs' := [.ref l0, .ref l1, .ref l2, .ref l3, .ref l4, .ref g, .ref b, .null, .int 0, .int 0]) rfl dd_SH_init_90 (fun H locs hP hD hS => ?_)
  refine lv_aload_n hx hb dd_SH_init_93 rfl (lv_at hl 0 rfl) ?_
  refine lv_sipush (v := 190) hx hb dd_SH_init_94 (by decide) ?_
  refine rnI C0 hA hP hD hS 190 (by decide) (by decide) (by decide) (Nat.le_of_ble_eq_true rfl) (Nat.le_of_ble_eq_true rfl) dd_SH_init_97 (fun pa H hP hD hS => ?_)
  have hP : va_P E.1 vcl [(h0, .inr (4, [.ref l0, .ref l1, .ref l2, .ref l3, .ref l4, .ref g, .ref b, .null, .int 0, .int 0])), (l0, .inr (1, [.int (nI 6), .int (nI 3), .ref a0, .int 0])), (a0, .inl (E.2.1 0, 18, .inl (fun _ => 0))), (l1, .inr (1, [.int (nI 6), .int (nI 1), .ref a1, .int 0])), (a1, .inl (E.2.1 0, 6, .inl (fun _ => 0))), (l2, .inr (1, [.int (nI 4), .int (nI 2), .ref a2, .int 0])), (a2, .inl (E.2.1 0, 8, .inl (fun _ => 0))), (l3, .inr (1, [.int (nI 10), .int (nI 3), .ref a3, .int 0])), (a3, .inl (E.2.1 0, 30, .inl (fun _ => 0))), (l4, .inr (1, [.int (nI 6), .int (nI 3), .ref a4, .int 0])), (a4, .inl (E.2.1 0, 18, .inl (fun _ => 0))), (g, .inl (E.2.1 5, 6, .inr (.inr (.inr (.inr (fun i => some (if i < 6 then g + 1 + i else ad0 0))))))), (g + 1, .inl (E.2.1 0, 100, .inl (fun _ => 0))), (g + 2, .inl (E.2.1 0, 100, .inl (fun _ => 0))), (g + 3, .inl (E.2.1 0, 100, .inl (fun _ => 0))), (g + 4, .inl (E.2.1 0, 100, .inl (fun _ => 0))), (g + 5, .inl (E.2.1 0, 100, .inl (fun _ => 0))), (g + 6, .inl (E.2.1 0, 100, .inl (fun _ => 0))), (b, .inl (E.2.1 0, 18, .inl (fun _ => 0))), (pa, .inl (E.2.1 0, 190, .inl (fun _ => 0)))] H := hP
  have hD : va_D A [(h0, .inr (4, [.ref l0, .ref l1, .ref l2, .ref l3, .ref l4, .ref g, .ref b, .null, .int 0, .int 0])), (l0, .inr (1, [.int (nI 6), .int (nI 3), .ref a0, .int 0])), (a0, .inl (E.2.1 0, 18, .inl (fun _ => 0))), (l1, .inr (1, [.int (nI 6), .int (nI 1), .ref a1, .int 0])), (a1, .inl (E.2.1 0, 6, .inl (fun _ => 0))), (l2, .inr (1, [.int (nI 4), .int (nI 2), .ref a2, .int 0])), (a2, .inl (E.2.1 0, 8, .inl (fun _ => 0))), (l3, .inr (1, [.int (nI 10), .int (nI 3), .ref a3, .int 0])), (a3, .inl (E.2.1 0, 30, .inl (fun _ => 0))), (l4, .inr (1, [.int (nI 6), .int (nI 3), .ref a4, .int 0])), (a4, .inl (E.2.1 0, 18, .inl (fun _ => 0))), (g, .inl (E.2.1 5, 6, .inr (.inr (.inr (.inr (fun i => some (if i < 6 then g + 1 + i else ad0 0))))))), (g + 1, .inl (E.2.1 0, 100, .inl (fun _ => 0))), (g + 2, .inl (E.2.1 0, 100, .inl (fun _ => 0))), (g + 3, .inl (E.2.1 0, 100, .inl (fun _ => 0))), (g + 4, .inl (E.2.1 0, 100, .inl (fun _ => 0))), (g + 5, .inl (E.2.1 0, 100, .inl (fun _ => 0))), (g + 6, .inl (E.2.1 0, 100, .inl (fun _ => 0))), (b, .inl (E.2.1 0, 18, .inl (fun _ => 0))), (pa, .inl (E.2.1 0, 190, .inl (fun _ => 0)))] := hD
  refine W.widen (k := 19) (n := 914) (Nat.le_of_ble_eq_true rfl) (Nat.le_of_ble_eq_true rfl) ?_
  refine rpF C0 hi hP hD hS vcl_4 ig_SH ty_SH nm_SH 7 (by decide) rfl rfl rfl gw_f_SH_41 rfl rfl (Nat.le_of_ble_eq_true rfl) (fs' := [.ref l0, .ref l1, .ref l2, .ref l3, .ref l4, .ref g, .ref b, .ref pa, .int 0, .int 0]) rfl dd_SH_init_99 (fun H locs hP hD hS => ?_)
  refine lv_aload_n hx hb dd_SH_init_102 rfl (lv_at hl 0 rfl) ?_
  refine rgH C0 hP vcl_4 ig_SH 6 (by decide) rfl gw_f_SH_37 (v := .ref b) rfl dd_SH_init_103 ?_
  refine lv_iconst (v := -1) hx hb dd_SH_init_106 (by decide) ?_
  obtain ⟨y, y1, y2, y3⟩ := c_fillI (x := ((fun _ _ => 0), (fun _ _ => 0))) (q := 34) (v := -1) (by decide)
  have hB : ∀ q : Nat, q = b → A q := fun q hq => by
    rw [hq]
    exact (D_nd.mp hD).2 (b, .inl (E.2.1 0, 18, .inl (fun _ => 0))) (by simp)
  have hap : Ap (fun _ => b) [34] (fun q => q = b) := ⟨by simp, fun q hq r hr _ => by simp at hq hr; omega, fun q _ => rfl⟩
  have hW : Wd E (fun _ => b) [34] ((fun _ _ => 0), (fun _ _ => 0)) H := P_mem hP (fun z hz => by
    have : z = (b, .inl (E.2.1 0, 18, .inl (fun _ => 0))) := List.mem_singleton.mp hz
    rw [this]
    simp)
  refine rcS2 (As := [.ref b, .int (-1)]) (rest := []) (n := 2) C0 hB (zc_AR_fillI hap (v0 := 34) ⟨by simp, rfl⟩ y1) hW hS gw_code_AR_fillI gw_m_SH_44 gw_static_AR_fillI gw_ini_AR rfl rfl (by decide +kernel) rfl ⟨Nat.le_of_ble_eq_true rfl, Nat.le_of_ble_eq_true rfl⟩ hl.1 rfl (Nat.le_of_ble_eq_true rfl) dd_SH_init_107 ⟨Nat.le_of_ble_eq_true rfl, Nat.le_of_ble_eq_true rfl⟩ (fun H1 locs1 hW1 hz1 hk1 hS1 => ?_)
  have hb1 : va_at E.1 vcl (b, .inl (E.2.1 0, 18, .inl (fun _ => -1))) H1 := by
    have h := hW1 0 _ rfl
    have h2 : H1[b]? = some (vp_cell (E.2.1 0) (18, .inl (gi y 34))) := h
    show H1[b]? = some (vp_cell (E.2.1 0) (18, .inl (fun _ => -1)))
    rw [h2, vp_cell_i, vp_cell_i]
    unfold arrV
    congr 3
    funext j
    show Value.int (gi y 34 j.val) = Value.int (-1)
    rw [y3 j.val j.isLt]
  obtain ⟨hP, hD⟩ := P_upd (w1 := [(h0, .inr (4, [.ref l0, .ref l1, .ref l2, .ref l3, .ref l4, .ref g, .ref b, .ref pa, .int 0, .int 0])), (l0, .inr (1, [.int (nI 6), .int (nI 3), .ref a0, .int 0])), (a0, .inl (E.2.1 0, 18, .inl (fun _ => 0))), (l1, .inr (1, [.int (nI 6), .int (nI 1), .ref a1, .int 0])), (a1, .inl (E.2.1 0, 6, .inl (fun _ => 0))), (l2, .inr (1, [.int (nI 4), .int (nI 2), .ref a2, .int 0])), (a2, .inl (E.2.1 0, 8, .inl (fun _ => 0))), (l3, .inr (1, [.int (nI 10), .int (nI 3), .ref a3, .int 0])), (a3, .inl (E.2.1 0, 30, .inl (fun _ => 0))), (l4, .inr (1, [.int (nI 6), .int (nI 3), .ref a4, .int 0])), (a4, .inl (E.2.1 0, 18, .inl (fun _ => 0))), (g, .inl (E.2.1 5, 6, .inr (.inr (.inr (.inr (fun i => some (if i < 6 then g + 1 + i else ad0 0))))))), (g + 1, .inl (E.2.1 0, 100, .inl (fun _ => 0))), (g + 2, .inl (E.2.1 0, 100, .inl (fun _ => 0))), (g + 3, .inl (E.2.1 0, 100, .inl (fun _ => 0))), (g + 4, .inl (E.2.1 0, 100, .inl (fun _ => 0))), (g + 5, .inl (E.2.1 0, 100, .inl (fun _ => 0))), (g + 6, .inl (E.2.1 0, 100, .inl (fun _ => 0)))]) (w2 := [(pa, .inl (E.2.1 0, 190, .inl (fun _ => 0)))]) (e := .inl (E.2.1 0, 18, .inl (fun _ => 0))) hP hD (fun q h1 h2 => hk1 q h1 h2) hb1
  exact rvI C0 (XSH_ok hs ad0 h0 l0 a0 l1 a1 l2 a2 l3 a3 l4 a4 g b pa) hP hD hS1 (Nat.le_of_ble_eq_true rfl) (Nat.le_of_ble_eq_true rfl) dd_SH_init_110
