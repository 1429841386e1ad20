def adB (s n : Nat) (v : List Nat) (ad0 : Nat → Nat) (q : Nat) : Nat := if s ≤ q ∧ q < s + n then v.getD (q - s) 0 else ad0 q
def m0 : St := (fun a => if a = 100 then (fun k => if k = 13 then -1 else 0) else (fun _ => 0), fun a => if a = 100 then (fun k => if k = 5 then 1 else 0) else (fun _ => 0))
theorem dd_HI_init_0 : decode bb_HI_init 0 = .ok (.aload_n 0, 1) := by decide +kernel
theorem dd_HI_init_1 : decode bb_HI_init 1 = .ok (.invokespecial 3, 3) := by decide +kernel
theorem dd_HI_init_4 : decode bb_HI_init 4 = .ok (.aload_n 0, 1) := by decide +kernel
theorem dd_HI_init_5 : decode bb_HI_init 5 = .ok (.bipush 6, 2) := by decide +kernel
theorem dd_HI_init_7 : decode bb_HI_init 7 = .ok (.newarray .int, 2) := by decide +kernel
theorem dd_HI_init_9 : decode bb_HI_init 9 = .ok (.putfield 9, 3) := by decide +kernel
theorem dd_HI_init_12 : decode bb_HI_init 12 = .ok (.aload_n 0, 1) := by decide +kernel
theorem dd_HI_init_13 : decode bb_HI_init 13 = .ok (.bipush 6, 2) := by decide +kernel
theorem dd_HI_init_15 : decode bb_HI_init 15 = .ok (.newarray .long, 2) := by decide +kernel
theorem dd_HI_init_17 : decode bb_HI_init 17 = .ok (.putfield 15, 3) := by decide +kernel
theorem dd_HI_init_20 : decode bb_HI_init 20 = .ok (.aload_n 0, 1) := by decide +kernel
theorem dd_HI_init_21 : decode bb_HI_init 21 = .ok (.bipush 6, 2) := by decide +kernel
theorem dd_HI_init_23 : decode bb_HI_init 23 = .ok (.newarray .int, 2) := by decide +kernel
theorem dd_HI_init_25 : decode bb_HI_init 25 = .ok (.putfield 19, 3) := by decide +kernel
theorem dd_HI_init_28 : decode bb_HI_init 28 = .ok (.return_, 1) := by decide +kernel
def fsHI : List Value := [.null, .null, .null, .int 0]
abbrev rm_HI_init : Room := { frames := 1, cells := 3, slots := 18, locals := 21 }
def XHI (E : Ev) (h0 : Nat) (ad0 : Nat → Nat) (ws : va_W) : Prop := ∃ ad : Nat → Nat, ad 5 = h0 ∧ (∀ q, ¬ (5 ≤ q ∧ q < 9) → ad q = ad0 q) ∧ ws = wl E.2.1 ad (List.range' 5 4) c0
set_option maxHeartbeats 8000000 in
set_option maxRecDepth 100000 in
theorem cc_HI_init {l : Launch} {E : Ev} {h0 sz : Nat} (ad0 : Nat → Nat) : Met l yy_HI_init (Cond.code yy_HI_init bb_HI_init 1 none :: gtb) rm_HI_init (va_Pc [.ref h0] (PI E h0 0 fsHI sz)) (QI E (AI h0 0 fsHI sz) (XHI E h0 ad0)) 3 18 (AI h0 0 fsHI sz) := by
  refine enterI (As := []) (by decide) rfl (Nat.le_of_ble_eq_true rfl) (fun p e s m below meth c ls A C0 hKI hi hA hP hD hS hl => ?_)
  obtain ⟨hx, hb, hml, hr, hown, hts, hlk, hK⟩ := id C0
  have hl : lv_has ls 1 [(0, .ref h0)] := hl
  refine lv_aload_n hx hb dd_HI_init_0 rfl (lv_at hl 0 rfl) ?_
  refine oI C0 gw_oi_HI hl.1 (Nat.le_of_ble_eq_true rfl) (Nat.le_of_ble_eq_true rfl) dd_HI_init_1 ?_
  refine lv_aload_n hx hb dd_HI_init_4 rfl (lv_at hl 0 rfl) ?_
  refine lv_bipush (v := 6) hx hb dd_HI_init_5 (by decide) ?_
  refine rnI C0 hA hP hD hS 6 (by decide) (by decide) (by decide) (Nat.le_of_ble_eq_true rfl) (Nat.le_of_ble_eq_true rfl) dd_HI_init_7 (fun t0 H hP hD hS => ?_)
  have hP : va_P E.1 vcl [(h0, .inr (0, [.null, .null, .null, .int 0])), (t0, .inl (E.2.1 0, 6, .inl (fun _ => 0)))] H := hP
  have hD : va_D A [(h0, .inr (0, [.null, .null, .null, .int 0])), (t0, .inl (E.2.1 0, 6, .inl (fun _ => 0)))] := hD
  refine W.widen (k := 1) (n := 6) (Nat.le_of_ble_eq_true rfl) (Nat.le_of_ble_eq_true rfl) ?_
  refine rpF C0 hi hP hD hS vcl_0 ig_HI ty_HI nm_HI 0 (by decide) rfl rfl rfl gw_f_HI_9 rfl rfl (Nat.le_of_ble_eq_true rfl) (fs' := [.ref t0, .null, .null, .int 0]) rfl dd_HI_init_9 (fun H locs hP hD hS => ?_)
  refine lv_aload_n hx hb dd_HI_init_12 rfl (lv_at hl 0 rfl) ?_
  refine lv_bipush (v := 6) hx hb dd_HI_init_13 (by decide) ?_
  refine rnJ C0 hA hP hD hS 6 (by decide) (by decide) (by decide) (Nat.le_of_ble_eq_true rfl) (Nat.le_of_ble_eq_true rfl) dd_HI_init_15 (fun t1 H hP hD hS => ?_)
  have hP : va_P E.1 vcl [(h0, .inr (0, [.ref t0, .null, .null, .int 0])), (t0, .inl (E.2.1 0, 6, .inl (fun _ => 0))), (t1, .inl (E.2.1 3, 6, .inr (.inl (fun _ => 0))))] H := hP
  have hD : va_D A [(h0, .inr (0, [.ref t0, .null, .null, .int 0])), (t0, .inl (E.2.1 0, 6, .inl (fun _ => 0))), (t1, .inl (E.2.1 3, 6, .inr (.inl (fun _ => 0))))] := hD
  refine W.widen (k := 2) (n := 12) (Nat.le_of_ble_eq_true rfl) (Nat.le_of_ble_eq_true rfl) ?_
  refine rpF C0 hi hP hD hS vcl_0 ig_HI ty_HI nm_HI 1 (by decide) rfl rfl rfl gw_f_HI_15 rfl rfl (Nat.le_of_ble_eq_true rfl) (fs' := [.ref t0, .ref t1, .null, .int 0]) rfl dd_HI_init_17 (fun H locs hP hD hS => ?_)
  refine lv_aload_n hx hb dd_HI_init_20 rfl (lv_at hl 0 rfl) ?_
  refine lv_bipush (v := 6) hx hb dd_HI_init_21 (by decide) ?_
  refine rnI C0 hA hP hD hS 6 (by decide) (by decide) (by decide) (Nat.le_of_ble_eq_true rfl) (Nat.le_of_ble_eq_true rfl) dd_HI_init_23 (fun t2 H hP hD hS => ?_)
  have hP : va_P E.1 vcl [(h0, .inr (0, [.ref t0, .ref t1, .null, .int 0])), (t0, .inl (E.2.1 0, 6, .inl (fun _ => 0))), (t1, .inl (E.2.1 3, 6, .inr (.inl (fun _ => 0)))), (t2, .inl (E.2.1 0, 6, .inl (fun _ => 0)))] H := hP
  have hD : va_D A [(h0, .inr (0, [.ref t0, .ref t1, .null, .int 0])), (t0, .inl (E.2.1 0, 6, .inl (fun _ => 0))), (t1, .inl (E.2.1 3, 6, .inr (.inl (fun _ => 0)))), (t2, .inl (E.2.1 0, 6, .inl (fun _ => 0)))] := hD
  refine W.widen (k := 3) (n := 18) (Nat.le_of_ble_eq_true rfl) (Nat.le_of_ble_eq_true rfl) ?_
  refine rpF C0 hi hP hD hS vcl_0 ig_HI ty_HI nm_HI 2 (by decide) rfl rfl rfl gw_f_HI_19 rfl rfl (Nat.le_of_ble_eq_true rfl) (fs' := [.ref t0, .ref t1, .ref t2, .int 0]) rfl dd_HI_init_25 (fun H locs hP hD hS => ?_)
  exact rvI C0 ⟨adB 5 4 [h0, t0, t1, t2] ad0, rfl, fun q hq => if_neg hq, rfl⟩ hP hD hS (Nat.le_of_ble_eq_true rfl) (Nat.le_of_ble_eq_true rfl) dd_HI_init_28
theorem dd_OU_init_0 : decode bb_OU_init 0 = .ok (.aload_n 0, 1) := by decide +kernel
theorem dd_OU_init_1 : decode bb_OU_init 1 = .ok (.invokespecial 3, 3) := by decide +kernel
theorem dd_OU_init_4 : decode bb_OU_init 4 = .ok (.aload_n 0, 1) := by decide +kernel
theorem dd_OU_init_5 : decode bb_OU_init 5 = .ok (.bipush 100, 2) := by decide +kernel
theorem dd_OU_init_7 : decode bb_OU_init 7 = .ok (.newarray .int, 2) := by decide +kernel
theorem dd_OU_init_9 : decode bb_OU_init 9 = .ok (.putfield 9, 3) := by decide +kernel
theorem dd_OU_init_12 : decode bb_OU_init 12 = .ok (.aload_n 0, 1) := by decide +kernel
theorem dd_OU_init_13 : decode bb_OU_init 13 = .ok (.bipush 100, 2) := by decide +kernel
theorem dd_OU_init_15 : decode bb_OU_init 15 = .ok (.newarray .int, 2) := by decide +kernel
theorem dd_OU_init_17 : decode bb_OU_init 17 = .ok (.putfield 15, 3) := by decide +kernel
theorem dd_OU_init_20 : decode bb_OU_init 20 = .ok (.aload_n 0, 1) := by decide +kernel
theorem dd_OU_init_21 : decode bb_OU_init 21 = .ok (.bipush 100, 2) := by decide +kernel
theorem dd_OU_init_23 : decode bb_OU_init 23 = .ok (.newarray .int, 2) := by decide +kernel
theorem dd_OU_init_25 : decode bb_OU_init 25 = .ok (.putfield 18, 3) := by decide +kernel
theorem dd_OU_init_28 : decode bb_OU_init 28 = .ok (.aload_n 0, 1) := by decide +kernel
theorem dd_OU_init_29 : decode bb_OU_init 29 = .ok (.bipush 100, 2) := by decide +kernel
theorem dd_OU_init_31 : decode bb_OU_init 31 = .ok (.newarray .int, 2) := by decide +kernel
theorem dd_OU_init_33 : decode bb_OU_init 33 = .ok (.putfield 21, 3) := by decide +kernel
theorem dd_OU_init_36 : decode bb_OU_init 36 = .ok (.aload_n 0, 1) := by decide +kernel
theorem dd_OU_init_37 : decode bb_OU_init 37 = .ok (.bipush 100, 2) := by decide +kernel
theorem dd_OU_init_39 : decode bb_OU_init 39 = .ok (.newarray .long, 2) := by decide +kernel
theorem dd_OU_init_41 : decode bb_OU_init 41 = .ok (.putfield 24, 3) := by decide +kernel
theorem dd_OU_init_44 : decode bb_OU_init 44 = .ok (.aload_n 0, 1) := by decide +kernel
theorem dd_OU_init_45 : decode bb_OU_init 45 = .ok (.bipush 100, 2) := by decide +kernel
theorem dd_OU_init_47 : decode bb_OU_init 47 = .ok (.newarray .long, 2) := by decide +kernel
theorem dd_OU_init_49 : decode bb_OU_init 49 = .ok (.putfield 28, 3) := by decide +kernel
theorem dd_OU_init_52 : decode bb_OU_init 52 = .ok (.return_, 1) := by decide +kernel
def fsOU : List Value := [.null, .null, .null, .null, .null, .null]
abbrev rm_OU_init : Room := { frames := 1, cells := 6, slots := 600, locals := 21 }
def XOU (E : Ev) (h0 : Nat) (ad0 : Nat → Nat) (ws : va_W) : Prop := ∃ ad : Nat → Nat, ad 9 = h0 ∧ (∀ q, ¬ (9 ≤ q ∧ q < 16) → ad q = ad0 q) ∧ ws = wl E.2.1 ad (List.range' 9 7) c0
set_option maxHeartbeats 8000000 in
set_option maxRecDepth 100000 in
theorem cc_OU_init {l : Launch} {E : Ev} {h0 sz : Nat} (ad0 : Nat → Nat) : Met l yy_OU_init (Cond.code yy_OU_init bb_OU_init 1 none :: gtb) rm_OU_init (va_Pc [.ref h0] (PI E h0 2 fsOU sz)) (QI E (AI h0 2 fsOU sz) (XOU E h0 ad0)) 6 600 (AI h0 2 fsOU sz) := by
  refine enterI (As := []) (by decide) rfl (Nat.le_of_ble_eq_true rfl) (fun p e s m below meth c ls A C0 hKI hi hA hP hD hS hl => ?_)
  obtain ⟨hx, hb, hml, hr, hown, hts, hlk, hK⟩ := id C0
  have hl : lv_has ls 1 [(0, .ref h0)] := hl
  refine lv_aload_n hx hb dd_OU_init_0 rfl (lv_at hl 0 rfl) ?_
  refine oI C0 gw_oi_OU hl.1 (Nat.le_of_ble_eq_true rfl) (Nat.le_of_ble_eq_true rfl) dd_OU_init_1 ?_
  refine lv_aload_n hx hb dd_OU_init_4 rfl (lv_at hl 0 rfl) ?_
  refine lv_bipush (v := 100) hx hb dd_OU_init_5 (by decide) ?_
  refine rnI C0 hA hP hD hS 100 (by decide) (by decide) (by decide) (Nat.le_of_ble_eq_true rfl) (Nat.le_of_ble_eq_true rfl) dd_OU_init_7 (fun t0 H hP hD hS => ?_)
  have hP : va_P E.1 vcl [(h0, .inr (2, [.null, .null, .null, .null, .null, .null])), (t0, .inl (E.2.1 0, 100, .inl (fun _ => 0)))] H := hP
  have hD : va_D A [(h0, .inr (2, [.null, .null, .null, .null, .null, .null])), (t0, .inl (E.2.1 0, 100, .inl (fun _ => 0)))] := hD
  refine W.widen (k := 1) (n := 100) (Nat.le_of_ble_eq_true rfl) (Nat.le_of_ble_eq_true rfl) ?_
  refine rpF C0 hi hP hD hS vcl_2 ig_OU ty_OU nm_OU 0 (by decide) rfl rfl rfl gw_f_OU_9 rfl rfl (Nat.le_of_ble_eq_true rfl) (fs' := [.ref t0, .null, .null, .null, .null, .null]) rfl dd_OU_init_9 (fun H locs hP hD hS => ?_)
  refine lv_aload_n hx hb dd_OU_init_12 rfl (lv_at hl 0 rfl) ?_
  refine lv_bipush (v := 100) hx hb dd_OU_init_13 (by decide) ?_
  refine rnI C0 hA hP hD hS 100 (by decide) (by decide) (by decide) (Nat.le_of_ble_eq_true rfl) (Nat.le_of_ble_eq_true rfl) dd_OU_init_15 (fun t1 H hP hD hS => ?_)
  have hP : va_P E.1 vcl [(h0, .inr (2, [.ref t0, .null, .null, .null, .null, .null])), (t0, .inl (E.2.1 0, 100, .inl (fun _ => 0))), (t1, .inl (E.2.1 0, 100, .inl (fun _ => 0)))] H := hP
  have hD : va_D A [(h0, .inr (2, [.ref t0, .null, .null, .null, .null, .null])), (t0, .inl (E.2.1 0, 100, .inl (fun _ => 0))), (t1, .inl (E.2.1 0, 100, .inl (fun _ => 0)))] := hD
  refine W.widen (k := 2) (n := 200) (Nat.le_of_ble_eq_true rfl) (Nat.le_of_ble_eq_true rfl) ?_
  refine rpF C0 hi hP hD hS vcl_2 ig_OU ty_OU nm_OU 1 (by decide) rfl rfl rfl gw_f_OU_15 rfl rfl (Nat.le_of_ble_eq_true rfl) (fs' := [.ref t0, .ref t1, .null, .null, .null, .null]) rfl dd_OU_init_17 (fun H locs hP hD hS => ?_)
  refine lv_aload_n hx hb dd_OU_init_20 rfl (lv_at hl 0 rfl) ?_
  refine lv_bipush (v := 100) hx hb dd_OU_init_21 (by decide) ?_
  refine rnI C0 hA hP hD hS 100 (by decide) (by decide) (by decide) (Nat.le_of_ble_eq_true rfl) (Nat.le_of_ble_eq_true rfl) dd_OU_init_23 (fun t2 H hP hD hS => ?_)
  have hP : va_P E.1 vcl [(h0, .inr (2, [.ref t0, .ref t1, .null, .null, .null, .null])), (t0, .inl (E.2.1 0, 100, .inl (fun _ => 0))), (t1, .inl (E.2.1 0, 100, .inl (fun _ => 0))), (t2, .inl (E.2.1 0, 100, .inl (fun _ => 0)))] H := hP
  have hD : va_D A [(h0, .inr (2, [.ref t0, .ref t1, .null, .null, .null, .null])), (t0, .inl (E.2.1 0, 100, .inl (fun _ => 0))), (t1, .inl (E.2.1 0, 100, .inl (fun _ => 0))), (t2, .inl (E.2.1 0, 100, .inl (fun _ => 0)))] := hD
  refine W.widen (k := 3) (n := 300) (Nat.le_of_ble_eq_true rfl) (Nat.le_of_ble_eq_true rfl) ?_
  refine rpF C0 hi hP hD hS vcl_2 ig_OU ty_OU nm_OU 2 (by decide) rfl rfl rfl gw_f_OU_18 rfl rfl (Nat.le_of_ble_eq_true rfl) (fs' := [.ref t0, .ref t1, .ref t2, .null, .null, .null]) rfl dd_OU_init_25 (fun H locs hP hD hS => ?_)
  refine lv_aload_n hx hb dd_OU_init_28 rfl (lv_at hl 0 rfl) ?_
  refine lv_bipush (v := 100) hx hb dd_OU_init_29 (by decide) ?_
  refine rnI C0 hA hP hD hS 100 (by decide) (by decide) (by decide) (Nat.le_of_ble_eq_true rfl) (Nat.le_of_ble_eq_true rfl) dd_OU_init_31 (fun t3 H hP hD hS => ?_)
  have hP : va_P E.1 vcl [(h0, .inr (2, [.ref t0, .ref t1, .ref t2, .null, .null, .null])), (t0, .inl (E.2.1 0, 100, .inl (fun _ => 0))), (t1, .inl (E.2.1 0, 100, .inl (fun _ => 0))), (t2, .inl (E.2.1 0, 100, .inl (fun _ => 0))), (t3, .inl (E.2.1 0, 100, .inl (fun _ => 0)))] H := hP
  have hD : va_D A [(h0, .inr (2, [.ref t0, .ref t1, .ref t2, .null, .null, .null])), (t0, .inl (E.2.1 0, 100, .inl (fun _ => 0))), (t1, .inl (E.2.1 0, 100, .inl (fun _ => 0))), (t2, .inl (E.2.1 0, 100, .inl (fun _ => 0))), (t3, .inl (E.2.1 0, 100, .inl (fun _ => 0)))] := hD
  refine W.widen (k := 4) (n := 400) (Nat.le_of_ble_eq_true rfl) (Nat.le_of_ble_eq_true rfl) ?_
  refine rpF C0 hi hP hD hS vcl_2 ig_OU ty_OU nm_OU 3 (by decide) rfl rfl rfl gw_f_OU_21 rfl rfl (Nat.le_of_ble_eq_true rfl) (fs' := [.ref t0, .ref t1, .ref t2, .ref t3, .null, .null]) rfl dd_OU_init_33 (fun H locs hP hD hS => ?_)
  refine lv_aload_n hx hb dd_OU_init_36 rfl (lv_at hl 0 rfl) ?_
  refine lv_bipush (v := 100) hx hb dd_OU_init_37 (by decide) ?_
  refine rnJ C0 hA hP hD hS 100 (by decide) (by decide) (by decide) (Nat.le_of_ble_eq_true rfl) (Nat.le_of_ble_eq_true rfl) dd_OU_init_39 (fun t4 H hP hD hS => ?_)
  have hP : va_P E.1 vcl [(h0, .inr (2, [.ref t0, .ref t1, .ref t2, .ref t3, .null, .null])), (t0, .inl (E.2.1 0, 100, .inl (fun _ => 0))), (t1, .inl (E.2.1 0, 100, .inl (fun _ => 0))), (t2, .inl (E.2.1 0, 100, .inl (fun _ => 0))), (t3, .inl (E.2.1 0, 100, .inl (fun _ => 0))), (t4, .inl (E.2.1 3, 100, .inr (.inl (fun _ => 0))))] H := hP
  have hD : va_D A [(h0, .inr (2, [.ref t0, .ref t1, .ref t2, .ref t3, .null, .null])), (t0, .inl (E.2.1 0, 100, .inl (fun _ => 0))), (t1, .inl (E.2.1 0, 100, .inl (fun _ => 0))), (t2, .inl (E.2.1 0, 100, .inl (fun _ => 0))), (t3, .inl (E.2.1 0, 100, .inl (fun _ => 0))), (t4, .inl (E.2.1 3, 100, .inr (.inl (fun _ => 0))))] := hD
  refine W.widen (k := 5) (n := 500) (Nat.le_of_ble_eq_true rfl) (Nat.le_of_ble_eq_true rfl) ?_
  refine rpF C0 hi hP hD hS vcl_2 ig_OU ty_OU nm_OU 4 (by decide) rfl rfl rfl gw_f_OU_24 rfl rfl (Nat.le_of_ble_eq_true rfl) (fs' := [.ref t0, .ref t1, .ref t2, .ref t3, .ref t4, .null]) rfl dd_OU_init_41 (fun H locs hP hD hS => ?_)
  refine lv_aload_n hx hb dd_OU_init_44 rfl (lv_at hl 0 rfl) ?_
  refine lv_bipush (v := 100) hx hb dd_OU_init_45 (by decide) ?_
  refine rnJ C0 hA hP hD hS 100 (by decide) (by decide) (by decide) (Nat.le_of_ble_eq_true rfl) (Nat.le_of_ble_eq_true rfl) dd_OU_init_47 (fun t5 H hP hD hS => ?_)
  have hP : va_P E.1 vcl [(h0, .inr (2, [.ref t0, .ref t1, .ref t2, .ref t3, .ref t4, .null])), (t0, .inl (E.2.1 0, 100, .inl (fun _ => 0))), (t1, .inl (E.2.1 0, 100, .inl (fun _ => 0))), (t2, .inl (E.2.1 0, 100, .inl (fun _ => 0))), (t3, .inl (E.2.1 0, 100, .inl (fun _ => 0))), (t4, .inl (E.2.1 3, 100, .inr (.inl (fun _ => 0)))), (t5, .inl (E.2.1 3, 100, .inr (.inl (fun _ => 0))))] H := hP
  have hD : va_D A [(h0, .inr (2, [.ref t0, .ref t1, .ref t2, .ref t3, .ref t4, .null])), (t0, .inl (E.2.1 0, 100, .inl (fun _ => 0))), (t1, .inl (E.2.1 0, 100, .inl (fun _ => 0))), (t2, .inl (E.2.1 0, 100, .inl (fun _ => 0))), (t3, .inl (E.2.1 0, 100, .inl (fun _ => 0))), (t4, .inl (E.2.1 3, 100, .inr (.inl (fun _ => 0)))), (t5, .inl (E.2.1 3, 100, .inr (.inl (fun _ => 0))))] := hD
  refine W.widen (k := 6) (n := 600) (Nat.le_of_ble_eq_true rfl) (Nat.le_of_ble_eq_true rfl) ?_
  refine rpF C0 hi hP hD hS vcl_2 ig_OU ty_OU nm_OU 5 (by decide) rfl rfl rfl gw_f_OU_28 rfl rfl (Nat.le_of_ble_eq_true rfl) (fs' := [.ref t0, .ref t1, .ref t2, .ref t3, .ref t4, .ref t5]) rfl dd_OU_init_49 (fun H locs hP hD hS => ?_)
  exact rvI C0 ⟨adB 9 7 [h0, t0, t1, t2, t3, t4, t5] ad0, rfl, fun q hq => if_neg hq, rfl⟩ hP hD hS (Nat.le_of_ble_eq_true rfl) (Nat.le_of_ble_eq_true rfl) dd_OU_init_52
theorem dd_MO_init_0 : decode bb_MO_init 0 = .ok (.aload_n 0, 1) := by decide +kernel
theorem dd_MO_init_1 : decode bb_MO_init 1 = .ok (.invokespecial 1, 3) := by decide +kernel
theorem dd_MO_init_4 : decode bb_MO_init 4 = .ok (.aload_n 0, 1) := by decide +kernel
theorem dd_MO_init_5 : decode bb_MO_init 5 = .ok (.sipush 1260, 3) := by decide +kernel
theorem dd_MO_init_8 : decode bb_MO_init 8 = .ok (.newarray .int, 2) := by decide +kernel
theorem dd_MO_init_10 : decode bb_MO_init 10 = .ok (.putfield 7, 3) := by decide +kernel
theorem dd_MO_init_13 : decode bb_MO_init 13 = .ok (.aload_n 0, 1) := by decide +kernel
theorem dd_MO_init_14 : decode bb_MO_init 14 = .ok (.iconst 2, 1) := by decide +kernel
theorem dd_MO_init_15 : decode bb_MO_init 15 = .ok (.newarray .boolean, 2) := by decide +kernel
theorem dd_MO_init_17 : decode bb_MO_init 17 = .ok (.putfield 13, 3) := by decide +kernel
theorem dd_MO_init_20 : decode bb_MO_init 20 = .ok (.aload_n 0, 1) := by decide +kernel
theorem dd_MO_init_21 : decode bb_MO_init 21 = .ok (.iconst 3, 1) := by decide +kernel
theorem dd_MO_init_22 : decode bb_MO_init 22 = .ok (.newarray .int, 2) := by decide +kernel
theorem dd_MO_init_24 : decode bb_MO_init 24 = .ok (.putfield 17, 3) := by decide +kernel
theorem dd_MO_init_27 : decode bb_MO_init 27 = .ok (.aload_n 0, 1) := by decide +kernel
theorem dd_MO_init_28 : decode bb_MO_init 28 = .ok (.sipush 250, 3) := by decide +kernel
theorem dd_MO_init_31 : decode bb_MO_init 31 = .ok (.newarray .byte, 2) := by decide +kernel
theorem dd_MO_init_33 : decode bb_MO_init 33 = .ok (.putfield 20, 3) := by decide +kernel
theorem dd_MO_init_36 : decode bb_MO_init 36 = .ok (.aload_n 0, 1) := by decide +kernel
theorem dd_MO_init_37 : decode bb_MO_init 37 = .ok (.iconst (-1), 1) := by decide +kernel
theorem dd_MO_init_38 : decode bb_MO_init 38 = .ok (.putfield 24, 3) := by decide +kernel
theorem dd_MO_init_41 : decode bb_MO_init 41 = .ok (.aload_n 0, 1) := by decide +kernel
theorem dd_MO_init_42 : decode bb_MO_init 42 = .ok (.sipush 600, 3) := by decide +kernel
theorem dd_MO_init_45 : decode bb_MO_init 45 = .ok (.newarray .int, 2) := by decide +kernel
theorem dd_MO_init_47 : decode bb_MO_init 47 = .ok (.putfield 28, 3) := by decide +kernel
theorem dd_MO_init_50 : decode bb_MO_init 50 = .ok (.aload_n 0, 1) := by decide +kernel
theorem dd_MO_init_51 : decode bb_MO_init 51 = .ok (.bipush 6, 2) := by decide +kernel
theorem dd_MO_init_53 : decode bb_MO_init 53 = .ok (.newarray .int, 2) := by decide +kernel
theorem dd_MO_init_55 : decode bb_MO_init 55 = .ok (.putfield 31, 3) := by decide +kernel
theorem dd_MO_init_58 : decode bb_MO_init 58 = .ok (.aload_n 0, 1) := by decide +kernel
theorem dd_MO_init_59 : decode bb_MO_init 59 = .ok (.bipush 100, 2) := by decide +kernel
theorem dd_MO_init_61 : decode bb_MO_init 61 = .ok (.newarray .int, 2) := by decide +kernel
theorem dd_MO_init_63 : decode bb_MO_init 63 = .ok (.putfield 34, 3) := by decide +kernel
theorem dd_MO_init_66 : decode bb_MO_init 66 = .ok (.aload_n 0, 1) := by decide +kernel
theorem dd_MO_init_67 : decode bb_MO_init 67 = .ok (.bipush 100, 2) := by decide +kernel
theorem dd_MO_init_69 : decode bb_MO_init 69 = .ok (.newarray .int, 2) := by decide +kernel
theorem dd_MO_init_71 : decode bb_MO_init 71 = .ok (.putfield 37, 3) := by decide +kernel
theorem dd_MO_init_74 : decode bb_MO_init 74 = .ok (.aload_n 0, 1) := by decide +kernel
theorem dd_MO_init_75 : decode bb_MO_init 75 = .ok (.bipush 100, 2) := by decide +kernel
theorem dd_MO_init_77 : decode bb_MO_init 77 = .ok (.newarray .int, 2) := by decide +kernel
theorem dd_MO_init_79 : decode bb_MO_init 79 = .ok (.putfield 40, 3) := by decide +kernel
theorem dd_MO_init_82 : decode bb_MO_init 82 = .ok (.aload_n 0, 1) := by decide +kernel
theorem dd_MO_init_83 : decode bb_MO_init 83 = .ok (.bipush 100, 2) := by decide +kernel
theorem dd_MO_init_85 : decode bb_MO_init 85 = .ok (.newarray .long, 2) := by decide +kernel
theorem dd_MO_init_87 : decode bb_MO_init 87 = .ok (.putfield 43, 3) := by decide +kernel
theorem dd_MO_init_90 : decode bb_MO_init 90 = .ok (.aload_n 0, 1) := by decide +kernel
theorem dd_MO_init_91 : decode bb_MO_init 91 = .ok (.bipush 100, 2) := by decide +kernel
theorem dd_MO_init_93 : decode bb_MO_init 93 = .ok (.newarray .long, 2) := by decide +kernel
theorem dd_MO_init_95 : decode bb_MO_init 95 = .ok (.putfield 47, 3) := by decide +kernel
theorem dd_MO_init_98 : decode bb_MO_init 98 = .ok (.aload_n 0, 1) := by decide +kernel
theorem dd_MO_init_99 : decode bb_MO_init 99 = .ok (.bipush 6, 2) := by decide +kernel
theorem dd_MO_init_101 : decode bb_MO_init 101 = .ok (.newarray .int, 2) := by decide +kernel
theorem dd_MO_init_103 : decode bb_MO_init 103 = .ok (.putfield 50, 3) := by decide +kernel
theorem dd_MO_init_106 : decode bb_MO_init 106 = .ok (.aload_n 0, 1) := by decide +kernel
theorem dd_MO_init_107 : decode bb_MO_init 107 = .ok (.lconst 1, 1) := by decide +kernel
theorem dd_MO_init_108 : decode bb_MO_init 108 = .ok (.putfield 53, 3) := by decide +kernel
theorem dd_MO_init_111 : decode bb_MO_init 111 = .ok (.return_, 1) := by decide +kernel
def fsMO : List Value := [.null, .int 0, .null, .null, .long 0, .long 0, .null, .int 0, .int 0, .int 0, .int 0, .int 0, .int 0, .int 0, .null, .null, .null, .null, .null, .null, .null, .null, .long 0]
abbrev rm_MO_init : Room := { frames := 1, cells := 12, slots := 2627, locals := 21 }
def XMO (E : Ev) (h0 : Nat) (ad0 : Nat → Nat) (ws : va_W) : Prop := ∃ ad : Nat → Nat, ad 100 = h0 ∧ (∀ q, ¬ (100 ≤ q ∧ q < 113) → ad q = ad0 q) ∧ ws = wl E.2.1 ad (List.range' 100 13) m0
set_option maxHeartbeats 8000000 in
set_option maxRecDepth 100000 in
theorem cc_MO_init {l : Launch} {E : Ev} {h0 sz : Nat} (ad0 : Nat → Nat) : Met l yy_MO_init (Cond.code yy_MO_init bb_MO_init 1 none :: gtb) rm_MO_init (va_Pc [.ref h0] (PI E h0 6 fsMO sz)) (QI E (AI h0 6 fsMO sz) (XMO E h0 ad0)) 12 2627 (AI h0 6 fsMO sz) := by
  refine enterI (As := []) (by decide) rfl (Nat.le_of_ble_eq_true rfl) (fun p e s m below meth c ls A C0 hKI hi hA hP hD hS hl => ?_)
  obtain ⟨hx, hb, hml, hr, hown, hts, hlk, hK⟩ := id C0
  have hl : lv_has ls 1 [(0, .ref h0)] := hl
  refine lv_aload_n hx hb dd_MO_init_0 rfl (lv_at hl 0 rfl) ?_
  refine oI C0 gw_oi_MO hl.1 (Nat.le_of_ble_eq_true rfl) (Nat.le_of_ble_eq_true rfl) dd_MO_init_1 ?_
  refine lv_aload_n hx hb dd_MO_init_4 rfl (lv_at hl 0 rfl) ?_
  refine lv_sipush (v := 1260) hx hb dd_MO_init_5 (by decide) ?_
  refine rnI C0 hA hP hD hS 1260 (by decide) (by decide) (by decide) (Nat.le_of_ble_eq_true rfl) (Nat.le_of_ble_eq_true rfl) dd_MO_init_8 (fun t0 H hP hD hS => ?_)
  have hP : va_P E.1 vcl [(h0, .inr (6, [.null, .int 0, .null, .null, .long 0, .long 0, .null, .int 0, .int 0, .int 0, .int 0, .int 0, .int 0, .int 0, .null, .null, .null, .null, .null, .null, .null, .null, .long 0])), (t0, .inl (E.2.1 0, 1260, .inl (fun _ => 0)))] H := hP
  have hD : va_D A [(h0, .inr (6, [.null, .int 0, .null, .null, .long 0, .long 0, .null, .int 0, .int 0, .int 0, .int 0, .int 0, .int 0, .int 0, .null, .null, .null, .null, .null, .null, .null, .null, .long 0])), (t0, .inl (E.2.1 0, 1260, .inl (fun _ => 0)))] := hD
  refine W.widen (k := 1) (n := 1260) (Nat.le_of_ble_eq_true rfl) (Nat.le_of_ble_eq_true rfl) ?_
  refine rpF C0 hi hP hD hS vcl_6 ig_MO ty_MO nm_MO 0 (by decide) rfl rfl rfl gw_f_MO_7 rfl rfl (Nat.le_of_ble_eq_true rfl) (fs' := [.ref t0, .int 0, .null, .null, .long 0, .long 0, .null, .int 0, .int 0, .int 0, .int 0, .int 0, .int 0, .int 0, .null, .null, .null, .null, .null, .null, .null, .null, .long 0]) rfl dd_MO_init_10 (fun H locs hP hD hS => ?_)
  refine lv_aload_n hx hb dd_MO_init_13 rfl (lv_at hl 0 rfl) ?_
  refine lv_iconst (v := 2) hx hb dd_MO_init_14 (by decide) ?_
  refine rnZ C0 hA hP hD hS 2 (by decide) (by decide) (by decide) (Nat.le_of_ble_eq_true rfl) (Nat.le_of_ble_eq_true rfl) dd_MO_init_15 (fun t1 H hP hD hS => ?_)
  have hP : va_P E.1 vcl [(h0, .inr (6, [.ref t0, .int 0, .null, .null, .long 0, .long 0, .null, .int 0, .int 0, .int 0, .int 0, .int 0, .int 0, .int 0, .null, .null, .null, .null, .null, .null, .null, .null, .long 0])), (t0, .inl (E.2.1 0, 1260, .inl (fun _ => 0))), (t1, .inl (E.2.1 2, 2, .inl (fun _ => 0)))] H := hP
  have hD : va_D A [(h0, .inr (6, [.ref t0, .int 0, .null, .null, .long 0, .long 0, .null, .int 0, .int 0, .int 0, .int 0, .int 0, .int 0, .int 0, .null, .null, .null, .null, .null, .null, .null, .null, .long 0])), (t0, .inl (E.2.1 0, 1260, .inl (fun _ => 0))), (t1, .inl (E.2.1 2, 2, .inl (fun _ => 0)))] := hD
  refine W.widen (k := 2) (n := 1262) (Nat.le_of_ble_eq_true rfl) (Nat.le_of_ble_eq_true rfl) ?_
  refine rpF C0 hi hP hD hS vcl_6 ig_MO ty_MO nm_MO 2 (by decide) rfl rfl rfl gw_f_MO_13 rfl rfl (Nat.le_of_ble_eq_true rfl) (fs' := [.ref t0, .int 0, .ref t1, .null, .long 0, .long 0, .null, .int 0, .int 0, .int 0, .int 0, .int 0, .int 0, .int 0, .null, .null, .null, .null, .null, .null, .null, .null, .long 0]) rfl dd_MO_init_17 (fun H locs hP hD hS => ?_)
  refine lv_aload_n hx hb dd_MO_init_20 rfl (lv_at hl 0 rfl) ?_
  refine lv_iconst (v := 3) hx hb dd_MO_init_21 (by decide) ?_
  refine rnI C0 hA hP hD hS 3 (by decide) (by decide) (by decide) (Nat.le_of_ble_eq_true rfl) (Nat.le_of_ble_eq_true rfl) dd_MO_init_22 (fun t2 H hP hD hS => ?_)
  have hP : va_P E.1 vcl [(h0, .inr (6, [.ref t0, .int 0, .ref t1, .null, .long 0, .long 0, .null, .int 0, .int 0, .int 0, .int 0, .int 0, .int 0, .int 0, .null, .null, .null, .null, .null, .null, .null, .null, .long 0])), (t0, .inl (E.2.1 0, 1260, .inl (fun _ => 0))), (t1, .inl (E.2.1 2, 2, .inl (fun _ => 0))), (t2, .inl (E.2.1 0, 3, .inl (fun _ => 0)))] H := hP
  have hD : va_D A [(h0, .inr (6, [.ref t0, .int 0, .ref t1, .null, .long 0, .long 0, .null, .int 0, .int 0, .int 0, .int 0, .int 0, .int 0, .int 0, .null, .null, .null, .null, .null, .null, .null, .null, .long 0])), (t0, .inl (E.2.1 0, 1260, .inl (fun _ => 0))), (t1, .inl (E.2.1 2, 2, .inl (fun _ => 0))), (t2, .inl (E.2.1 0, 3, .inl (fun _ => 0)))] := hD
  refine W.widen (k := 3) (n := 1265) (Nat.le_of_ble_eq_true rfl) (Nat.le_of_ble_eq_true rfl) ?_
  refine rpF C0 hi hP hD hS vcl_6 ig_MO ty_MO nm_MO 3 (by decide) rfl rfl rfl gw_f_MO_17 rfl rfl (Nat.le_of_ble_eq_true rfl) (fs' := [.ref t0, .int 0, .ref t1, .ref t2, .long 0, .long 0, .null, .int 0, .int 0, .int 0, .int 0, .int 0, .int 0, .int 0, .null, .null, .null, .null, .null, .null, .null, .null, .long 0]) rfl dd_MO_init_24 (fun H locs hP hD hS => ?_)
  refine lv_aload_n hx hb dd_MO_init_27 rfl (lv_at hl 0 rfl) ?_
  refine lv_sipush (v := 250) hx hb dd_MO_init_28 (by decide) ?_
  refine rnB C0 hA hP hD hS 250 (by decide) (by decide) (by decide) (Nat.le_of_ble_eq_true rfl) (Nat.le_of_ble_eq_true rfl) dd_MO_init_31 (fun t3 H hP hD hS => ?_)
  have hP : va_P E.1 vcl [(h0, .inr (6, [.ref t0, .int 0, .ref t1, .ref t2, .long 0, .long 0, .null, .int 0, .int 0, .int 0, .int 0, .int 0, .int 0, .int 0, .null, .null, .null, .null, .null, .null, .null, .null, .long 0])), (t0, .inl (E.2.1 0, 1260, .inl (fun _ => 0))), (t1, .inl (E.2.1 2, 2, .inl (fun _ => 0))), (t2, .inl (E.2.1 0, 3, .inl (fun _ => 0))), (t3, .inl (E.2.1 1, 250, .inl (fun _ => 0)))] H := hP
  have hD : va_D A [(h0, .inr (6, [.ref t0, .int 0, .ref t1, .ref t2, .long 0, .long 0, .null, .int 0, .int 0, .int 0, .int 0, .int 0, .int 0, .int 0, .null, .null, .null, .null, .null, .null, .null, .null, .long 0])), (t0, .inl (E.2.1 0, 1260, .inl (fun _ => 0))), (t1, .inl (E.2.1 2, 2, .inl (fun _ => 0))), (t2, .inl (E.2.1 0, 3, .inl (fun _ => 0))), (t3, .inl (E.2.1 1, 250, .inl (fun _ => 0)))] := hD
  refine W.widen (k := 4) (n := 1515) (Nat.le_of_ble_eq_true rfl) (Nat.le_of_ble_eq_true rfl) ?_
  refine rpF C0 hi hP hD hS vcl_6 ig_MO ty_MO nm_MO 6 (by decide) rfl rfl rfl gw_f_MO_20 rfl rfl (Nat.le_of_ble_eq_true rfl) (fs' := [.ref t0, .int 0, .ref t1, .ref t2, .long 0, .long 0, .ref t3, .int 0, .int 0, .int 0, .int 0, .int 0, .int 0, .int 0, .null, .null, .null, .null, .null, .null, .null, .null, .long 0]) rfl dd_MO_init_33 (fun H locs hP hD hS => ?_)
  refine lv_aload_n hx hb dd_MO_init_36 rfl (lv_at hl 0 rfl) ?_
  refine lv_iconst (v := -1) hx hb dd_MO_init_37 (by decide) ?_
  refine rpV C0 hP hD hS vcl_6 ig_MO ty_MO nm_MO 13 (by decide) rfl rfl gw_f_MO_24 rfl rfl (Nat.le_of_ble_eq_true rfl) (fs' := [.ref t0, .int 0, .ref t1, .ref t2, .long 0, .long 0, .ref t3, .int 0, .int 0, .int 0, .int 0, .int 0, .int 0, .int (-1), .null, .null, .null, .null, .null, .null, .null, .null, .long 0]) rfl dd_MO_init_38 (fun H locs hP hD hS => ?_)
  refine lv_aload_n hx hb dd_MO_init_41 rfl (lv_at hl 0 rfl) ?_
  refine lv_sipush (v := 600) hx hb dd_MO_init_42 (by decide) ?_
  refine rnI C0 hA hP hD hS 600 (by decide) (by decide) (by decide) (Nat.le_of_ble_eq_true rfl) (Nat.le_of_ble_eq_true rfl) dd_MO_init_45 (fun t4 H hP hD hS => ?_)
  have hP : va_P E.1 vcl [(h0, .inr (6, [.ref t0, .int 0, .ref t1, .ref t2, .long 0, .long 0, .ref t3, .int 0, .int 0, .int 0, .int 0, .int 0, .int 0, .int (-1), .null, .null, .null, .null, .null, .null, .null, .null, .long 0])), (t0, .inl (E.2.1 0, 1260, .inl (fun _ => 0))), (t1, .inl (E.2.1 2, 2, .inl (fun _ => 0))), (t2, .inl (E.2.1 0, 3, .inl (fun _ => 0))), (t3, .inl (E.2.1 1, 250, .inl (fun _ => 0))), (t4, .inl (E.2.1 0, 600, .inl (fun _ => 0)))] H := hP
  have hD : va_D A [(h0, .inr (6, [.ref t0, .int 0, .ref t1, .ref t2, .long 0, .long 0, .ref t3, .int 0, .int 0, .int 0, .int 0, .int 0, .int 0, .int (-1), .null, .null, .null, .null, .null, .null, .null, .null, .long 0])), (t0, .inl (E.2.1 0, 1260, .inl (fun _ => 0))), (t1, .inl (E.2.1 2, 2, .inl (fun _ => 0))), (t2, .inl (E.2.1 0, 3, .inl (fun _ => 0))), (t3, .inl (E.2.1 1, 250, .inl (fun _ => 0))), (t4, .inl (E.2.1 0, 600, .inl (fun _ => 0)))] := hD
  refine W.widen (k := 5) (n := 2115) (Nat.le_of_ble_eq_true rfl) (Nat.le_of_ble_eq_true rfl) ?_
  refine rpF C0 hi hP hD hS vcl_6 ig_MO ty_MO nm_MO 14 (by decide) rfl rfl rfl gw_f_MO_28 rfl rfl (Nat.le_of_ble_eq_true rfl) (fs' := [.ref t0, .int 0, .ref t1, .ref t2, .long 0, .long 0, .ref t3, .int 0, .int 0, .int 0, .int 0, .int 0, .int 0, .int (-1), .ref t4, .null, .null, .null, .null, .null, .null, .null, .long 0]) rfl dd_MO_init_47 (fun H locs hP hD hS => ?_)
  refine lv_aload_n hx hb dd_MO_init_50 rfl (lv_at hl 0 rfl) ?_
  refine lv_bipush (v := 6) hx hb dd_MO_init_51 (by decide) ?_
  refine rnI C0 hA hP hD hS 6 (by decide) (by decide) (by decide) (Nat.le_of_ble_eq_true rfl) (Nat.le_of_ble_eq_true rfl) dd_MO_init_53 (fun t5 H hP hD hS => ?_)
  have hP : va_P E.1 vcl [(h0, .inr (6, [.ref t0, .int 0, .ref t1, .ref t2, .long 0, .long 0, .ref t3, .int 0, .int 0, .int 0, .int 0, .int 0, .int 0, .int (-1), .ref t4, .null, .null, .null, .null, .null, .null, .null, .long 0])), (t0, .inl (E.2.1 0, 1260, .inl (fun _ => 0))), (t1, .inl (E.2.1 2, 2, .inl (fun _ => 0))), (t2, .inl (E.2.1 0, 3, .inl (fun _ => 0))), (t3, .inl (E.2.1 1, 250, .inl (fun _ => 0))), (t4, .inl (E.2.1 0, 600, .inl (fun _ => 0))), (t5, .inl (E.2.1 0, 6, .inl (fun _ => 0)))] H := hP
  have hD : va_D A [(h0, .inr (6, [.ref t0, .int 0, .ref t1, .ref t2, .long 0, .long 0, .ref t3, .int 0, .int 0, .int 0, .int 0, .int 0, .int 0, .int (-1), .ref t4, .null, .null, .null, .null, .null, .null, .null, .long 0])), (t0, .inl (E.2.1 0, 1260, .inl (fun _ => 0))), (t1, .inl (E.2.1 2, 2, .inl (fun _ => 0))), (t2, .inl (E.2.1 0, 3, .inl (fun _ => 0))), (t3, .inl (E.2.1 1, 250, .inl (fun _ => 0))), (t4, .inl (E.2.1 0, 600, .inl (fun _ => 0))), (t5, .inl (E.2.1 0, 6, .inl (fun _ => 0)))] := hD
  refine W.widen (k := 6) (n := 2121) (Nat.le_of_ble_eq_true rfl) (Nat.le_of_ble_eq_true rfl) ?_
  refine rpF C0 hi hP hD hS vcl_6 ig_MO ty_MO nm_MO 15 (by decide) rfl rfl rfl gw_f_MO_31 rfl rfl (Nat.le_of_ble_eq_true rfl) (fs' := [.ref t0, .int 0, .ref t1, .ref t2, .long 0, .long 0, .ref t3, .int 0, .int 0, .int 0, .int 0, .int 0, .int 0, .int (-1), .ref t4, .ref t5, .null, .null, .null, .null, .null, .null, .long 0]) rfl dd_MO_init_55 (fun H locs hP hD hS => ?_)
  refine lv_aload_n hx hb dd_MO_init_58 rfl (lv_at hl 0 rfl) ?_
  refine lv_bipush (v := 100) hx hb dd_MO_init_59 (by decide) ?_
  refine rnI C0 hA hP hD hS 100 (by decide) (by decide) (by decide) (Nat.le_of_ble_eq_true rfl) (Nat.le_of_ble_eq_true rfl) dd_MO_init_61 (fun t6 H hP hD hS => ?_)
  have hP : va_P E.1 vcl [(h0, .inr (6, [.ref t0, .int 0, .ref t1, .ref t2, .long 0, .long 0, .ref t3, .int 0, .int 0, .int 0, .int 0, .int 0, .int 0, .int (-1), .ref t4, .ref t5, .null, .null, .null, .null, .null, .null, .long 0])), (t0, .inl (E.2.1 0, 1260, .inl (fun _ => 0))), (t1, .inl (E.2.1 2, 2, .inl (fun _ => 0))), (t2, .inl (E.2.1 0, 3, .inl (fun _ => 0))), (t3, .inl (E.2.1 1, 250, .inl (fun _ => 0))), (t4, .inl (E.2.1 0, 600, .inl (fun _ => 0))), (t5, .inl (E.2.1 0, 6, .inl (fun _ => 0))), (t6, .inl (E.2.1 0, 100, .inl (fun _ => 0)))] H := hP
  have hD : va_D A [(h0, .inr (6, [.ref t0, .int 0, .ref t1, .ref t2, .long 0, .long 0, .ref t3, .int 0, .int 0, .int 0, .int 0, .int 0, .int 0, .int (-1), .ref t4, .ref t5, .null, .null, .null, .null, .null, .null, .long 0])), (t0, .inl (E.2.1 0, 1260, .inl (fun _ => 0))), (t1, .inl (E.2.1 2, 2, .inl (fun _ => 0))), (t2, .inl (E.2.1 0, 3, .inl (fun _ => 0))), (t3, .inl (E.2.1 1, 250, .inl (fun _ => 0))), (t4, .inl (E.2.1 0, 600, .inl (fun _ => 0))), (t5, .inl (E.2.1 0, 6, .inl (fun _ => 0))), (t6, .inl (E.2.1 0, 100, .inl (fun _ => 0)))] := hD
  refine W.widen (k := 7) (n := 2221) (Nat.le_of_ble_eq_true rfl) (Nat.le_of_ble_eq_true rfl) ?_
  refine rpF C0 hi hP hD hS vcl_6 ig_MO ty_MO nm_MO 16 (by decide) rfl rfl rfl gw_f_MO_34 rfl rfl (Nat.le_of_ble_eq_true rfl) (fs' := [.ref t0, .int 0, .ref t1, .ref t2, .long 0, .long 0, .ref t3, .int 0, .int 0, .int 0, .int 0, .int 0, .int 0, .int (-1), .ref t4, .ref t5, .ref t6, .null, .null, .null, .null, .null, .long 0]) rfl dd_MO_init_63 (fun H locs hP hD hS => ?_)
  refine lv_aload_n hx hb dd_MO_init_66 rfl (lv_at hl 0 rfl) ?_
  refine lv_bipush (v := 100) hx hb dd_MO_init_67 (by decide) ?_
  refine rnI C0 hA hP hD hS 100 (by decide) (by decide) (by decide) (Nat.le_of_ble_eq_true rfl) (Nat.le_of_ble_eq_true rfl) dd_MO_init_69 (fun t7 H hP hD hS => ?_)
  have hP : va_P E.1 vcl [(h0, .inr (6, [.ref t0, .int 0, .ref t1, .ref t2, .long 0, .long 0, .ref t3, .int 0, .int 0, .int 0, .int 0, .int 0, .int 0, .int (-1), .ref t4, .ref t5, .ref t6, .null, .null, .null, .null, .null, .long 0])), (t0, .inl (E.2.1 0, 1260, .inl (fun _ => 0))), (t1, .inl (E.2.1 2, 2, .inl (fun _ => 0))), (t2, .inl (E.2.1 0, 3, .inl (fun _ => 0))), (t3, .inl (E.2.1 1, 250, .inl (fun _ => 0))), (t4, .inl (E.2.1 0, 600, .inl (fun _ => 0))), (t5, .inl (E.2.1 0, 6, .inl (fun _ => 0))), (t6, .inl (E.2.1 0, 100, .inl (fun _ => 0))), (t7, .inl (E.2.1 0, 100, .inl (fun _ => 0)))] H := hP
  have hD : va_D A [(h0, .inr (6, [.ref t0, .int 0, .ref t1, .ref t2, .long 0, .long 0, .ref t3, .int 0, .int 0, .int 0, .int 0, .int 0, .int 0, .int (-1), .ref t4, .ref t5, .ref t6, .null, .null, .null, .null, .null, .long 0])), (t0, .inl (E.2.1 0, 1260, .inl (fun _ => 0))), (t1, .inl (E.2.1 2, 2, .inl (fun _ => 0))), (t2, .inl (E.2.1 0, 3, .inl (fun _ => 0))), (t3, .inl (E.2.1 1, 250, .inl (fun _ => 0))), (t4, .inl (E.2.1 0, 600, .inl (fun _ => 0))), (t5, .inl (E.2.1 0, 6, .inl (fun _ => 0))), (t6, .inl (E.2.1 0, 100, .inl (fun _ => 0))), (t7, .inl (E.2.1 0, 100, .inl (fun _ => 0)))] := hD
  refine W.widen (k := 8) (n := 2321) (Nat.le_of_ble_eq_true rfl) (Nat.le_of_ble_eq_true rfl) ?_
  refine rpF C0 hi hP hD hS vcl_6 ig_MO ty_MO nm_MO 17 (by decide) rfl rfl rfl gw_f_MO_37 rfl rfl (Nat.le_of_ble_eq_true rfl) (fs' := [.ref t0, .int 0, .ref t1, .ref t2, .long 0, .long 0, .ref t3, .int 0, .int 0, .int 0, .int 0, .int 0, .int 0, .int (-1), .ref t4, .ref t5, .ref t6, .ref t7, .null, .null, .null, .null, .long 0]) rfl dd_MO_init_71 (fun H locs hP hD hS => ?_)
  refine lv_aload_n hx hb dd_MO_init_74 rfl (lv_at hl 0 rfl) ?_
  refine lv_bipush (v := 100) hx hb dd_MO_init_75 (by decide) ?_
  refine rnI C0 hA hP hD hS 100 (by decide) (by decide) (by decide) (Nat.le_of_ble_eq_true rfl) (Nat.le_of_ble_eq_true rfl) dd_MO_init_77 (fun t8 H hP hD hS => ?_)
  have hP : va_P E.1 vcl [(h0, .inr (6, [.ref t0, .int 0, .ref t1, .ref t2, .long 0, .long 0, .ref t3, .int 0, .int 0, .int 0, .int 0, .int 0, .int 0, .int (-1), .ref t4, .ref t5, .ref t6, .ref t7, .null, .null, .null, .null, .long 0])), (t0, .inl (E.2.1 0, 1260, .inl (fun _ => 0))), (t1, .inl (E.2.1 2, 2, .inl (fun _ => 0))), (t2, .inl (E.2.1 0, 3, .inl (fun _ => 0))), (t3, .inl (E.2.1 1, 250, .inl (fun _ => 0))), (t4, .inl (E.2.1 0, 600, .inl (fun _ => 0))), (t5, .inl (E.2.1 0, 6, .inl (fun _ => 0))), (t6, .inl (E.2.1 0, 100, .inl (fun _ => 0))), (t7, .inl (E.2.1 0, 100, .inl (fun _ => 0))), (t8, .inl (E.2.1 0, 100, .inl (fun _ => 0)))] H := hP
  have hD : va_D A [(h0, .inr (6, [.ref t0, .int 0, .ref t1, .ref t2, .long 0, .long 0, .ref t3, .int 0, .int 0, .int 0, .int 0, .int 0, .int 0, .int (-1), .ref t4, .ref t5, .ref t6, .ref t7, .null, .null, .null, .null, .long 0])), (t0, .inl (E.2.1 0, 1260, .inl (fun _ => 0))), (t1, .inl (E.2.1 2, 2, .inl (fun _ => 0))), (t2, .inl (E.2.1 0, 3, .inl (fun _ => 0))), (t3, .inl (E.2.1 1, 250, .inl (fun _ => 0))), (t4, .inl (E.2.1 0, 600, .inl (fun _ => 0))), (t5, .inl (E.2.1 0, 6, .inl (fun _ => 0))), (t6, .inl (E.2.1 0, 100, .inl (fun _ => 0))), (t7, .inl (E.2.1 0, 100, .inl (fun _ => 0))), (t8, .inl (E.2.1 0, 100, .inl (fun _ => 0)))] := hD
  refine W.widen (k := 9) (n := 2421) (Nat.le_of_ble_eq_true rfl) (Nat.le_of_ble_eq_true rfl) ?_
  refine rpF C0 hi hP hD hS vcl_6 ig_MO ty_MO nm_MO 18 (by decide) rfl rfl rfl gw_f_MO_40 rfl rfl (Nat.le_of_ble_eq_true rfl) (fs' := [.ref t0, .int 0, .ref t1, .ref t2, .long 0, .long 0, .ref t3, .int 0, .int 0, .int 0, .int 0, .int 0, .int 0, .int (-1), .ref t4, .ref t5, .ref t6, .ref t7, .ref t8, .null, .null, .null, .long 0]) rfl dd_MO_init_79 (fun H locs hP hD hS => ?_)
  refine lv_aload_n hx hb dd_MO_init_82 rfl (lv_at hl 0 rfl) ?_
  refine lv_bipush (v := 100) hx hb dd_MO_init_83 (by decide) ?_
  refine rnJ C0 hA hP hD hS 100 (by decide) (by decide) (by decide) (Nat.le_of_ble_eq_true rfl) (Nat.le_of_ble_eq_true rfl) dd_MO_init_85 (fun t9 H hP hD hS => ?_)
  have hP : va_P E.1 vcl [(h0, .inr (6, [.ref t0, .int 0, .ref t1, .ref t2, .long 0, .long 0, .ref t3, .int 0, .int 0, .int 0, .int 0, .int 0, .int 0, .int (-1), .ref t4, .ref t5, .ref t6, .ref t7, .ref t8, .null, .null, .null, .long 0])), (t0, .inl (E.2.1 0, 1260, .inl (fun _ => 0))), (t1, .inl (E.2.1 2, 2, .inl (fun _ => 0))), (t2, .inl (E.2.1 0, 3, .inl (fun _ => 0))), (t3, .inl (E.2.1 1, 250, .inl (fun _ => 0))), (t4, .inl (E.2.1 0, 600, .inl (fun _ => 0))), (t5, .inl (E.2.1 0, 6, .inl (fun _ => 0))), (t6, .inl (E.2.1 0, 100, .inl (fun _ => 0))), (t7, .inl (E.2.1 0, 100, .inl (fun _ => 0))), (t8, .inl (E.2.1 0, 100, .inl (fun _ => 0))), (t9, .inl (E.2.1 3, 100, .inr (.inl (fun _ => 0))))] H := hP
  have hD : va_D A [(h0, .inr (6, [.ref t0, .int 0, .ref t1, .ref t2, .long 0, .long 0, .ref t3, .int 0, .int 0, .int 0, .int 0, .int 0, .int 0, .int (-1), .ref t4, .ref t5, .ref t6, .ref t7, .ref t8, .null, .null, .null, .long 0])), (t0, .inl (E.2.1 0, 1260, .inl (fun _ => 0))), (t1, .inl (E.2.1 2, 2, .inl (fun _ => 0))), (t2, .inl (E.2.1 0, 3, .inl (fun _ => 0))), (t3, .inl (E.2.1 1, 250, .inl (fun _ => 0))), (t4, .inl (E.2.1 0, 600, .inl (fun _ => 0))), (t5, .inl (E.2.1 0, 6, .inl (fun _ => 0))), (t6, .inl (E.2.1 0, 100, .inl (fun _ => 0))), (t7, .inl (E.2.1 0, 100, .inl (fun _ => 0))), (t8, .inl (E.2.1 0, 100, .inl (fun _ => 0))), (t9, .inl (E.2.1 3, 100, .inr (.inl (fun _ => 0))))] := hD
  refine W.widen (k := 10) (n := 2521) (Nat.le_of_ble_eq_true rfl) (Nat.le_of_ble_eq_true rfl) ?_
  refine rpF C0 hi hP hD hS vcl_6 ig_MO ty_MO nm_MO 19 (by decide) rfl rfl rfl gw_f_MO_43 rfl rfl (Nat.le_of_ble_eq_true rfl) (fs' := [.ref t0, .int 0, .ref t1, .ref t2, .long 0, .long 0, .ref t3, .int 0, .int 0, .int 0, .int 0, .int 0, .int 0, .int (-1), .ref t4, .ref t5, .ref t6, .ref t7, .ref t8, .ref t9, .null, .null, .long 0]) rfl dd_MO_init_87 (fun H locs hP hD hS => ?_)
  refine lv_aload_n hx hb dd_MO_init_90 rfl (lv_at hl 0 rfl) ?_
  refine lv_bipush (v := 100) hx hb dd_MO_init_91 (by decide) ?_
  refine rnJ C0 hA hP hD hS 100 (by decide) (by decide) (by decide) (Nat.le_of_ble_eq_true rfl) (Nat.le_of_ble_eq_true rfl) dd_MO_init_93 (fun t10 H hP hD hS => ?_)
  have hP : va_P E.1 vcl [(h0, .inr (6, [.ref t0, .int 0, .ref t1, .ref t2, .long 0, .long 0, .ref t3, .int 0, .int 0, .int 0, .int 0, .int 0, .int 0, .int (-1), .ref t4, .ref t5, .ref t6, .ref t7, .ref t8, .ref t9, .null, .null, .long 0])), (t0, .inl (E.2.1 0, 1260, .inl (fun _ => 0))), (t1, .inl (E.2.1 2, 2, .inl (fun _ => 0))), (t2, .inl (E.2.1 0, 3, .inl (fun _ => 0))), (t3, .inl (E.2.1 1, 250, .inl (fun _ => 0))), (t4, .inl (E.2.1 0, 600, .inl (fun _ => 0))), (t5, .inl (E.2.1 0, 6, .inl (fun _ => 0))), (t6, .inl (E.2.1 0, 100, .inl (fun _ => 0))), (t7, .inl (E.2.1 0, 100, .inl (fun _ => 0))), (t8, .inl (E.2.1 0, 100, .inl (fun _ => 0))), (t9, .inl (E.2.1 3, 100, .inr (.inl (fun _ => 0)))), (t10, .inl (E.2.1 3, 100, .inr (.inl (fun _ => 0))))] H := hP
  have hD : va_D A [(h0, .inr (6, [.ref t0, .int 0, .ref t1, .ref t2, .long 0, .long 0, .ref t3, .int 0, .int 0, .int 0, .int 0, .int 0, .int 0, .int (-1), .ref t4, .ref t5, .ref t6, .ref t7, .ref t8, .ref t9, .null, .null, .long 0])), (t0, .inl (E.2.1 0, 1260, .inl (fun _ => 0))), (t1, .inl (E.2.1 2, 2, .inl (fun _ => 0))), (t2, .inl (E.2.1 0, 3, .inl (fun _ => 0))), (t3, .inl (E.2.1 1, 250, .inl (fun _ => 0))), (t4, .inl (E.2.1 0, 600, .inl (fun _ => 0))), (t5, .inl (E.2.1 0, 6, .inl (fun _ => 0))), (t6, .inl (E.2.1 0, 100, .inl (fun _ => 0))), (t7, .inl (E.2.1 0, 100, .inl (fun _ => 0))), (t8, .inl (E.2.1 0, 100, .inl (fun _ => 0))), (t9, .inl (E.2.1 3, 100, .inr (.inl (fun _ => 0)))), (t10, .inl (E.2.1 3, 100, .inr (.inl (fun _ => 0))))] := hD
  refine W.widen (k := 11) (n := 2621) (Nat.le_of_ble_eq_true rfl) (Nat.le_of_ble_eq_true rfl) ?_
  refine rpF C0 hi hP hD hS vcl_6 ig_MO ty_MO nm_MO 20 (by decide) rfl rfl rfl gw_f_MO_47 rfl rfl (Nat.le_of_ble_eq_true rfl) (fs' := [.ref t0, .int 0, .ref t1, .ref t2, .long 0, .long 0, .ref t3, .int 0, .int 0, .int 0, .int 0, .int 0, .int 0, .int (-1), .ref t4, .ref t5, .ref t6, .ref t7, .ref t8, .ref t9, .ref t10, .null, .long 0]) rfl dd_MO_init_95 (fun H locs hP hD hS => ?_)
  refine lv_aload_n hx hb dd_MO_init_98 rfl (lv_at hl 0 rfl) ?_
  refine lv_bipush (v := 6) hx hb dd_MO_init_99 (by decide) ?_
  refine rnI C0 hA hP hD hS 6 (by decide) (by decide) (by decide) (Nat.le_of_ble_eq_true rfl) (Nat.le_of_ble_eq_true rfl) dd_MO_init_101 (fun t11 H hP hD hS => ?_)
  have hP : va_P E.1 vcl [(h0, .inr (6, [.ref t0, .int 0, .ref t1, .ref t2, .long 0, .long 0, .ref t3, .int 0, .int 0, .int 0, .int 0, .int 0, .int 0, .int (-1), .ref t4, .ref t5, .ref t6, .ref t7, .ref t8, .ref t9, .ref t10, .null, .long 0])), (t0, .inl (E.2.1 0, 1260, .inl (fun _ => 0))), (t1, .inl (E.2.1 2, 2, .inl (fun _ => 0))), (t2, .inl (E.2.1 0, 3, .inl (fun _ => 0))), (t3, .inl (E.2.1 1, 250, .inl (fun _ => 0))), (t4, .inl (E.2.1 0, 600, .inl (fun _ => 0))), (t5, .inl (E.2.1 0, 6, .inl (fun _ => 0))), (t6, .inl (E.2.1 0, 100, .inl (fun _ => 0))), (t7, .inl (E.2.1 0, 100, .inl (fun _ => 0))), (t8, .inl (E.2.1 0, 100, .inl (fun _ => 0))), (t9, .inl (E.2.1 3, 100, .inr (.inl (fun _ => 0)))), (t10, .inl (E.2.1 3, 100, .inr (.inl (fun _ => 0)))), (t11, .inl (E.2.1 0, 6, .inl (fun _ => 0)))] H := hP
  have hD : va_D A [(h0, .inr (6, [.ref t0, .int 0, .ref t1, .ref t2, .long 0, .long 0, .ref t3, .int 0, .int 0, .int 0, .int 0, .int 0, .int 0, .int (-1), .ref t4, .ref t5, .ref t6, .ref t7, .ref t8, .ref t9, .ref t10, .null, .long 0])), (t0, .inl (E.2.1 0, 1260, .inl (fun _ => 0))), (t1, .inl (E.2.1 2, 2, .inl (fun _ => 0))), (t2, .inl (E.2.1 0, 3, .inl (fun _ => 0))), (t3, .inl (E.2.1 1, 250, .inl (fun _ => 0))), (t4, .inl (E.2.1 0, 600, .inl (fun _ => 0))), (t5, .inl (E.2.1 0, 6, .inl (fun _ => 0))), (t6, .inl (E.2.1 0, 100, .inl (fun _ => 0))), (t7, .inl (E.2.1 0, 100, .inl (fun _ => 0))), (t8, .inl (E.2.1 0, 100, .inl (fun _ => 0))), (t9, .inl (E.2.1 3, 100, .inr (.inl (fun _ => 0)))), (t10, .inl (E.2.1 3, 100, .inr (.inl (fun _ => 0)))), (t11, .inl (E.2.1 0, 6, .inl (fun _ => 0)))] := hD
  refine W.widen (k := 12) (n := 2627) (Nat.le_of_ble_eq_true rfl) (Nat.le_of_ble_eq_true rfl) ?_
  refine rpF C0 hi hP hD hS vcl_6 ig_MO ty_MO nm_MO 21 (by decide) rfl rfl rfl gw_f_MO_50 rfl rfl (Nat.le_of_ble_eq_true rfl) (fs' := [.ref t0, .int 0, .ref t1, .ref t2, .long 0, .long 0, .ref t3, .int 0, .int 0, .int 0, .int 0, .int 0, .int 0, .int (-1), .ref t4, .ref t5, .ref t6, .ref t7, .ref t8, .ref t9, .ref t10, .ref t11, .long 0]) rfl dd_MO_init_103 (fun H locs hP hD hS => ?_)
  refine lv_aload_n hx hb dd_MO_init_106 rfl (lv_at hl 0 rfl) ?_
  refine lv_lconst (v := 1) hx hb dd_MO_init_107 (by decide) ?_
  refine rpV C0 hP hD hS vcl_6 ig_MO ty_MO nm_MO 5 (by decide) rfl rfl gw_f_MO_53 rfl rfl (Nat.le_of_ble_eq_true rfl) (fs' := [.ref t0, .int 0, .ref t1, .ref t2, .long 0, .long 1, .ref t3, .int 0, .int 0, .int 0, .int 0, .int 0, .int 0, .int (-1), .ref t4, .ref t5, .ref t6, .ref t7, .ref t8, .ref t9, .ref t10, .ref t11, .long 0]) rfl dd_MO_init_108 (fun H locs hP hD hS => ?_)
  exact rvI C0 ⟨adB 100 13 [h0, t0, t1, t2, t3, t4, t5, t6, t7, t8, t9, t10, t11] ad0, rfl, fun q hq => if_neg hq, rfl⟩ hP hD hS (Nat.le_of_ble_eq_true rfl) (Nat.le_of_ble_eq_true rfl) dd_MO_init_111
