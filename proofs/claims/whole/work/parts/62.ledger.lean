theorem dd_LE_init_0 : decode bb_LE_init 0 = .ok (.aload_n 0, 1) := by decide +kernel
theorem dd_LE_init_1 : decode bb_LE_init 1 = .ok (.invokespecial 3, 3) := by decide +kernel
theorem dd_LE_init_4 : decode bb_LE_init 4 = .ok (.aload_n 0, 1) := by decide +kernel
theorem dd_LE_init_5 : decode bb_LE_init 5 = .ok (.iload_n 1, 1) := by decide +kernel
theorem dd_LE_init_6 : decode bb_LE_init 6 = .ok (.iconst 0, 1) := by decide +kernel
theorem dd_LE_init_7 : decode bb_LE_init 7 = .ok (.invokestatic 9, 3) := by decide +kernel
theorem dd_LE_init_10 : decode bb_LE_init 10 = .ok (.putfield 15, 3) := by decide +kernel
theorem dd_LE_init_13 : decode bb_LE_init 13 = .ok (.aload_n 0, 1) := by decide +kernel
theorem dd_LE_init_14 : decode bb_LE_init 14 = .ok (.iload_n 2, 1) := by decide +kernel
theorem dd_LE_init_15 : decode bb_LE_init 15 = .ok (.iconst 1, 1) := by decide +kernel
theorem dd_LE_init_16 : decode bb_LE_init 16 = .ok (.invokestatic 9, 3) := by decide +kernel
theorem dd_LE_init_19 : decode bb_LE_init 19 = .ok (.putfield 21, 3) := by decide +kernel
theorem dd_LE_init_22 : decode bb_LE_init 22 = .ok (.aload_n 0, 1) := by decide +kernel
theorem dd_LE_init_23 : decode bb_LE_init 23 = .ok (.aload_n 0, 1) := by decide +kernel
theorem dd_LE_init_24 : decode bb_LE_init 24 = .ok (.getfield 15, 3) := by decide +kernel
theorem dd_LE_init_27 : decode bb_LE_init 27 = .ok (.aload_n 0, 1) := by decide +kernel
theorem dd_LE_init_28 : decode bb_LE_init 28 = .ok (.getfield 21, 3) := by decide +kernel
theorem dd_LE_init_31 : decode bb_LE_init 31 = .ok (.imul, 1) := by decide +kernel
theorem dd_LE_init_32 : decode bb_LE_init 32 = .ok (.newarray .int, 2) := by decide +kernel
theorem dd_LE_init_34 : decode bb_LE_init 34 = .ok (.putfield 24, 3) := by decide +kernel
theorem dd_LE_init_37 : decode bb_LE_init 37 = .ok (.return_, 1) := by decide +kernel
def fsLE : List Value := [.int 0, .int 0, .null, .int 0]
def rm_LE_init (N : Nat) : Room := { frames := 1, cells := 1, slots := N, locals := 21 }
/-- what a ledger is at first -/
def XLE (E : Ev) (h0 L w : Nat) (ws : va_W) : Prop := ∃ a, ws = [(h0, .inr (1, [.int (nI L), .int (nI w), .ref a, .int 0])), (a, .inl (E.2.1 0, L * w, .inl (fun _ => 0)))]
set_option maxHeartbeats 4000000 in
set_option maxRecDepth 100000 in
theorem cc_LE_init {l : Launch} {E : Ev} {h0 sz L w : Nat} (hL : L < 100) (hw : w < 10) (hw1 : 1 ≤ w) : Met l yy_LE_init (Cond.code yy_LE_init bb_LE_init 3 none :: gtb) (rm_LE_init (L * w)) (va_Pc [.ref h0, .int (nI L), .int (nI w)] (PI E h0 1 fsLE sz)) (QI E (AI h0 1 fsLE sz) (XLE E h0 L w)) 1 (L * w) (AI h0 1 fsLE sz) := by
  refine enterI (by decide) rfl (Nat.le_of_ble_eq_true rfl) (fun p e s m below meth c ls A C0 hKI hi hA hP hD hS hl => ?_)
  obtain ⟨hx, hb, hml, hr, hown, hts, hlk, hK⟩ := id C0
  have hl : lv_has ls 3 [(0, .ref h0), (1, .int (nI L)), (2, .int (nI w))] := hl
  have hLw : L * w ≤ 100 * 10 := Nat.mul_le_mul (by omega) (by omega)
  refine lv_aload_n hx hb dd_LE_init_0 rfl (lv_at hl 0 rfl) ?_
  refine oI C0 gw_oi_LE hl.1 (Nat.le_of_ble_eq_true rfl) (Nat.le_of_ble_eq_true rfl) dd_LE_init_1 ?_
  refine lv_aload_n hx hb dd_LE_init_4 rfl (lv_at hl 0 rfl) ?_
  refine lv_iload_n hx hb dd_LE_init_5 rfl (lv_at hl 1 rfl) ?_
  refine lv_iconst (v := 0) hx hb dd_LE_init_6 (by decide) ?_
  refine rmax C0 hl.1 gw_m_LE_9 (Nat.le_of_ble_eq_true rfl) ⟨Nat.le_of_ble_eq_true rfl, Nat.le_of_ble_eq_true rfl⟩ ⟨Nat.zero_le _, Nat.zero_le _⟩ dd_LE_init_7 ?_
  rw [show imax (nI L) 0 = nI L from (imax_nI (b := 0) (by omega) (by decide)).trans (by rw [Nat.max_eq_left (Nat.zero_le _)])]
  refine rpF C0 hi hP hD hS vcl_1 ig_LE ty_LE nm_LE 0 (by decide) rfl rfl rfl gw_f_LE_15 rfl rfl (Nat.le_of_ble_eq_true rfl) (fs' := [.int (nI L), .int 0, .null, .int 0]) rfl dd_LE_init_10 (fun H locs hP hD hS => ?_)
  refine lv_aload_n hx hb dd_LE_init_13 rfl (lv_at hl 0 rfl) ?_
  refine lv_iload_n hx hb dd_LE_init_14 rfl (lv_at hl 2 rfl) ?_
  refine lv_iconst (v := 1) hx hb dd_LE_init_15 (by decide) ?_
  refine rmax C0 hl.1 gw_m_LE_9 (Nat.le_of_ble_eq_true rfl) ⟨Nat.le_of_ble_eq_true rfl, Nat.le_of_ble_eq_true rfl⟩ ⟨Nat.zero_le _, Nat.zero_le _⟩ dd_LE_init_16 ?_
  rw [show imax (nI w) 1 = nI w from (imax_nI (b := 1) (by omega) (by decide)).trans (by rw [Nat.max_eq_left hw1])]
  refine rpF C0 hi hP hD hS vcl_1 ig_LE ty_LE nm_LE 1 (by decide) rfl rfl rfl gw_f_LE_21 rfl rfl (Nat.le_of_ble_eq_true rfl) (fs' := [.int (nI L), .int (nI w), .null, .int 0]) rfl dd_LE_init_19 (fun H locs hP hD hS => ?_)
  refine lv_aload_n hx hb dd_LE_init_22 rfl (lv_at hl 0 rfl) ?_
  refine lv_aload_n hx hb dd_LE_init_23 rfl (lv_at hl 0 rfl) ?_
  refine rgH C0 hP vcl_1 ig_LE 0 (by decide) rfl gw_f_LE_15 (v := .int (nI L)) rfl dd_LE_init_24 ?_
  refine lv_aload_n hx hb dd_LE_init_27 rfl (lv_at hl 0 rfl) ?_
  refine rgH C0 hP vcl_1 ig_LE 1 (by decide) rfl gw_f_LE_21 (v := .int (nI w)) rfl dd_LE_init_28 ?_
  refine lv_imul hx hb dd_LE_init_31 ?_
  rw [pk_mul]
  refine rnI C0 hA hP hD hS (L * w) (nI_pos (by omega)) (nI_clamp (by omega)) (by omega) (Nat.le_of_ble_eq_true rfl) (by show 0 + L * w ≤ L * w; omega) dd_LE_init_32 (fun a H hP hD hS => ?_)
  refine rpF C0 hi hP hD hS vcl_1 ig_LE ty_LE nm_LE 2 (by decide) rfl rfl rfl gw_f_LE_24 rfl rfl (Nat.le_of_ble_eq_true rfl) (fs' := [.int (nI L), .int (nI w), .ref a, .int 0]) rfl dd_LE_init_34 (fun H locs hP hD hS => ?_)
  exact rvI C0 ⟨a, rfl⟩ hP hD hS (Nat.le_of_ble_eq_true rfl) (by omega) dd_LE_init_37
