theorem dd_RE_init_0 : decode bb_RE_init 0 = .ok (.aload_n 0, 1) := by decide +kernel
theorem dd_RE_init_1 : decode bb_RE_init 1 = .ok (.invokespecial 3, 3) := by decide +kernel
theorem dd_RE_init_4 : decode bb_RE_init 4 = .ok (.aload_n 0, 1) := by decide +kernel
theorem dd_RE_init_5 : decode bb_RE_init 5 = .ok (.sipush 250, 3) := by decide +kernel
theorem dd_RE_init_8 : decode bb_RE_init 8 = .ok (.newarray .int, 2) := by decide +kernel
theorem dd_RE_init_10 : decode bb_RE_init 10 = .ok (.putfield 9, 3) := by decide +kernel
theorem dd_RE_init_13 : decode bb_RE_init 13 = .ok (.aload_n 0, 1) := by decide +kernel
theorem dd_RE_init_14 : decode bb_RE_init 14 = .ok (.iconst (-1), 1) := by decide +kernel
theorem dd_RE_init_15 : decode bb_RE_init 15 = .ok (.putfield 15, 3) := by decide +kernel
theorem dd_RE_init_18 : decode bb_RE_init 18 = .ok (.aload_n 0, 1) := by decide +kernel
theorem dd_RE_init_19 : decode bb_RE_init 19 = .ok (.new 19, 3) := by decide +kernel
theorem dd_RE_init_22 : decode bb_RE_init 22 = .ok (.dup, 1) := by decide +kernel
theorem dd_RE_init_23 : decode bb_RE_init 23 = .ok (.invokespecial 21, 3) := by decide +kernel
theorem dd_RE_init_26 : decode bb_RE_init 26 = .ok (.putfield 22, 3) := by decide +kernel
theorem dd_RE_init_29 : decode bb_RE_init 29 = .ok (.return_, 1) := by decide +kernel
theorem dd_GG_init_0 : decode bb_GG_init 0 = .ok (.aload_n 0, 1) := by decide +kernel
theorem dd_GG_init_1 : decode bb_GG_init 1 = .ok (.invokespecial 3, 3) := by decide +kernel
theorem dd_GG_init_4 : decode bb_GG_init 4 = .ok (.aload_n 0, 1) := by decide +kernel
theorem dd_GG_init_5 : decode bb_GG_init 5 = .ok (.new 9, 3) := by decide +kernel
theorem dd_GG_init_8 : decode bb_GG_init 8 = .ok (.dup, 1) := by decide +kernel
theorem dd_GG_init_9 : decode bb_GG_init 9 = .ok (.invokespecial 11, 3) := by decide +kernel
theorem dd_GG_init_12 : decode bb_GG_init 12 = .ok (.putfield 12, 3) := by decide +kernel
theorem dd_GG_init_15 : decode bb_GG_init 15 = .ok (.aload_n 0, 1) := by decide +kernel
theorem dd_GG_init_16 : decode bb_GG_init 16 = .ok (.iconst 2, 1) := by decide +kernel
theorem dd_GG_init_17 : decode bb_GG_init 17 = .ok (.anewarray 9, 3) := by decide +kernel
theorem dd_GG_init_20 : decode bb_GG_init 20 = .ok (.dup, 1) := by decide +kernel
theorem dd_GG_init_21 : decode bb_GG_init 21 = .ok (.iconst 0, 1) := by decide +kernel
theorem dd_GG_init_22 : decode bb_GG_init 22 = .ok (.new 9, 3) := by decide +kernel
theorem dd_GG_init_25 : decode bb_GG_init 25 = .ok (.dup, 1) := by decide +kernel
theorem dd_GG_init_26 : decode bb_GG_init 26 = .ok (.invokespecial 11, 3) := by decide +kernel
theorem dd_GG_init_29 : decode bb_GG_init 29 = .ok (.aastore, 1) := by decide +kernel
theorem dd_GG_init_30 : decode bb_GG_init 30 = .ok (.dup, 1) := by decide +kernel
theorem dd_GG_init_31 : decode bb_GG_init 31 = .ok (.iconst 1, 1) := by decide +kernel
theorem dd_GG_init_32 : decode bb_GG_init 32 = .ok (.new 9, 3) := by decide +kernel
theorem dd_GG_init_35 : decode bb_GG_init 35 = .ok (.dup, 1) := by decide +kernel
theorem dd_GG_init_36 : decode bb_GG_init 36 = .ok (.invokespecial 11, 3) := by decide +kernel
theorem dd_GG_init_39 : decode bb_GG_init 39 = .ok (.aastore, 1) := by decide +kernel
theorem dd_GG_init_40 : decode bb_GG_init 40 = .ok (.putfield 16, 3) := by decide +kernel
theorem dd_GG_init_43 : decode bb_GG_init 43 = .ok (.aload_n 0, 1) := by decide +kernel
theorem dd_GG_init_44 : decode bb_GG_init 44 = .ok (.iconst 2, 1) := by decide +kernel
theorem dd_GG_init_45 : decode bb_GG_init 45 = .ok (.newarray .boolean, 2) := by decide +kernel
theorem dd_GG_init_47 : decode bb_GG_init 47 = .ok (.putfield 20, 3) := by decide +kernel
theorem dd_GG_init_50 : decode bb_GG_init 50 = .ok (.aload_n 0, 1) := by decide +kernel
theorem dd_GG_init_51 : decode bb_GG_init 51 = .ok (.new 24, 3) := by decide +kernel
theorem dd_GG_init_54 : decode bb_GG_init 54 = .ok (.dup, 1) := by decide +kernel
theorem dd_GG_init_55 : decode bb_GG_init 55 = .ok (.invokespecial 26, 3) := by decide +kernel
theorem dd_GG_init_58 : decode bb_GG_init 58 = .ok (.putfield 27, 3) := by decide +kernel
theorem dd_GG_init_61 : decode bb_GG_init 61 = .ok (.aload_n 0, 1) := by decide +kernel
theorem dd_GG_init_62 : decode bb_GG_init 62 = .ok (.new 31, 3) := by decide +kernel
theorem dd_GG_init_65 : decode bb_GG_init 65 = .ok (.dup, 1) := by decide +kernel
theorem dd_GG_init_66 : decode bb_GG_init 66 = .ok (.invokespecial 33, 3) := by decide +kernel
theorem dd_GG_init_69 : decode bb_GG_init 69 = .ok (.putfield 34, 3) := by decide +kernel
theorem dd_GG_init_72 : decode bb_GG_init 72 = .ok (.aload_n 0, 1) := by decide +kernel
theorem dd_GG_init_73 : decode bb_GG_init 73 = .ok (.new 38, 3) := by decide +kernel
theorem dd_GG_init_76 : decode bb_GG_init 76 = .ok (.dup, 1) := by decide +kernel
theorem dd_GG_init_77 : decode bb_GG_init 77 = .ok (.invokespecial 40, 3) := by decide +kernel
theorem dd_GG_init_80 : decode bb_GG_init 80 = .ok (.putfield 41, 3) := by decide +kernel
theorem dd_GG_init_83 : decode bb_GG_init 83 = .ok (.aload_n 0, 1) := by decide +kernel
theorem dd_GG_init_84 : decode bb_GG_init 84 = .ok (.lconst 1, 1) := by decide +kernel
theorem dd_GG_init_85 : decode bb_GG_init 85 = .ok (.putfield 45, 3) := by decide +kernel
theorem dd_GG_init_88 : decode bb_GG_init 88 = .ok (.return_, 1) := by decide +kernel
def fsRE : List Value := [.null, .int 0, .int 0, .int 0, .null, .int 0, .int 0, .int 0]
def fsGG : List Value := [.null, .null, .null, .null, .null, .null, .long 0, .long 0, .int 0, .int 0, .int 0]
abbrev rm_RE_init : Room := { frames := 3, cells := 21, slots := 1174, locals := 75 }
abbrev rm_GG_init : Room := { frames := 4, cells := 95, slots := 4586, locals := 100 }
def XRE (E : Ev) (h0 : Nat) (ad0 : Nat → Nat) (ws : va_W) : Prop := ∃ ad : Nat → Nat, ad 3 = h0 ∧ (∀ q, ¬ (q = 3 ∨ q = 4 ∨ (76 ≤ q ∧ q < 96)) → ad q = ad0 q) ∧ ws = wl E.2.1 ad [3, 4] c0 ++ wl E.2.1 ad (List.range' 76 20) c0
set_option maxHeartbeats 8000000 in
set_option maxRecDepth 100000 in
theorem cc_RE_init {l : Launch} {E : Ev} {h0 sz : Nat} (ad0 : Nat → Nat) : Met l yy_RE_init (Cond.code yy_RE_init bb_RE_init 1 none :: gtb) rm_RE_init (va_Pc [.ref h0] (PI E h0 3 fsRE sz)) (QI E (AI h0 3 fsRE sz) (XRE E h0 ad0)) 21 1174 (AI h0 3 fsRE sz) := by
  refine enterI (As := []) (by decide) rfl (Nat.le_of_ble_eq_true rfl) (fun p e s m below meth c ls A C0 hKI hi hA hP hD hS hl => ?_)
  obtain ⟨hx, hb, hml, hr, hown, hts, hlk, hK⟩ := id C0
  have hl : lv_has ls 1 [(0, .ref h0)] := hl
  refine lv_aload_n hx hb dd_RE_init_0 rfl (lv_at hl 0 rfl) ?_
  refine oI C0 gw_oi_RE hl.1 (Nat.le_of_ble_eq_true rfl) (Nat.le_of_ble_eq_true rfl) dd_RE_init_1 ?_
  refine lv_aload_n hx hb dd_RE_init_4 rfl (lv_at hl 0 rfl) ?_
  refine lv_sipush (v := 250) hx hb dd_RE_init_5 (by decide) ?_
  refine rnI C0 hA hP hD hS 250 (by decide) (by decide) (by decide) (Nat.le_of_ble_eq_true rfl) (Nat.le_of_ble_eq_true rfl) dd_RE_init_8 (fun t H hP hD hS => ?_)
  have hP : va_P E.1 vcl [(h0, .inr (3, [.null, .int 0, .int 0, .int 0, .null, .int 0, .int 0, .int 0])), (t, .inl (E.2.1 0, 250, .inl (fun _ => 0)))] H := hP
  have hD : va_D A [(h0, .inr (3, [.null, .int 0, .int 0, .int 0, .null, .int 0, .int 0, .int 0])), (t, .inl (E.2.1 0, 250, .inl (fun _ => 0)))] := hD
  refine W.widen (k := 1) (n := 250) (Nat.le_of_ble_eq_true rfl) (Nat.le_of_ble_eq_true rfl) ?_
  refine rpF C0 hi hP hD hS vcl_3 ig_RE ty_RE nm_RE 0 (by decide) rfl rfl rfl gw_f_RE_9 rfl rfl (Nat.le_of_ble_eq_true rfl) (fs' := [.ref t, .int 0, .int 0, .int 0, .null, .int 0, .int 0, .int 0]) rfl dd_RE_init_10 (fun H locs hP hD hS => ?_)
  refine lv_aload_n hx hb dd_RE_init_13 rfl (lv_at hl 0 rfl) ?_
  refine lv_iconst (v := -1) hx hb dd_RE_init_14 (by decide) ?_
  refine rpV C0 hP hD hS vcl_3 ig_RE ty_RE nm_RE 3 (by decide) rfl rfl gw_f_RE_15 rfl rfl (Nat.le_of_ble_eq_true rfl) (fs' := [.ref t, .int 0, .int 0, .int (-1), .null, .int 0, .int 0, .int 0]) rfl dd_RE_init_15 (fun H locs hP hD hS => ?_)
  refine lv_aload_n hx hb dd_RE_init_18 rfl (lv_at hl 0 rfl) ?_
  refine rnO (fs := fsSH) C0 hA hP hD hS vcl_4 ig_SH ty_SH gw_cl_RE_19 gw_is_SH gw_ini_SH (fun j hj => by rcases (show j = 0 ∨ j = 1 ∨ j = 2 ∨ j = 3 ∨ j = 4 ∨ j = 5 ∨ j = 6 ∨ j = 7 ∨ j = 8 ∨ j = 9 by omega) with rfl | rfl | rfl | rfl | rfl | rfl | rfl | rfl | rfl | rfl <;> rfl) (Nat.le_of_ble_eq_true rfl) (Nat.le_of_ble_eq_true rfl) dd_RE_init_19 (fun q H hP hD hS => ?_)
  refine W.widen (k := 2) (n := 260) (Nat.le_of_ble_eq_true rfl) (Nat.le_of_ble_eq_true rfl) ?_
  refine lv_dup hx hb dd_RE_init_22 rfl ?_
  refine rcI (As := []) (rest := [.ref q, .ref h0]) (n := 0) C0 hKI hA (cc_SH_init (s0 := 76) (by unfold sp; omega) (adB 3 2 [h0, t] ad0)) hP hD hS gw_code_SH_init gw_m_RE_21 gw_inst_SH_init gw_ini_SH rfl rfl rfl (by decide +kernel) rfl ⟨Nat.le_of_ble_eq_true rfl, Nat.le_of_ble_eq_true rfl⟩ hl.1 rfl (Nat.le_of_ble_eq_true rfl) dd_RE_init_23 ⟨Nat.le_of_ble_eq_true rfl, Nat.le_of_ble_eq_true rfl⟩ (fun w H locs hX hP hD hS => ?_)
  obtain ⟨ad, e76, hag, rfl⟩ := hX
  refine W.widen (k := 21) (n := 1174) (Nat.le_of_ble_eq_true rfl) (Nat.le_of_ble_eq_true rfl) ?_
  have hP : va_P E.1 vcl ((h0, .inr (3, [.ref t, .int 0, .int 0, .int (-1), .null, .int 0, .int 0, .int 0])) :: (t, .inl (E.2.1 0, 250, .inl (fun _ => 0))) :: wl E.2.1 ad (List.range' 76 20) c0) H := hP
  have hD : va_D A ((h0, .inr (3, [.ref t, .int 0, .int 0, .int (-1), .null, .int 0, .int 0, .int 0])) :: (t, .inl (E.2.1 0, 250, .inl (fun _ => 0))) :: wl E.2.1 ad (List.range' 76 20) c0) := hD
  refine rpF C0 hi hP hD hS vcl_3 ig_RE ty_RE nm_RE 4 (by decide) rfl rfl rfl gw_f_RE_22 rfl rfl (Nat.le_of_ble_eq_true rfl) (fs' := [.ref t, .int 0, .int 0, .int (-1), .ref q, .int 0, .int 0, .int 0]) rfl dd_RE_init_26 (fun H locs hP hD hS => ?_)
  have e3 : ad 3 = h0 := hag 3 (by omega)
  have e4 : ad 4 = t := hag 4 (by omega)
  refine rvI C0 ⟨ad, e3, fun z hz => (hag z (by omega)).trans (if_neg (by omega)), ?_⟩ hP hD hS (Nat.le_of_ble_eq_true rfl) (Nat.le_of_ble_eq_true rfl) dd_RE_init_29
  rw [show wl E.2.1 ad [3, 4] c0 = [(ad 3, .inr (3, [.ref (ad 4), .int 0, .int 0, .int (-1), .ref (ad 76), .int 0, .int 0, .int 0])), (ad 4, .inl (E.2.1 0, 250, .inl (fun _ => 0)))] from rfl, e3, e4, e76]
  rfl
/-! addresses may differ where nothing looks -/
theorem wl_cg {cA : Nat → ClassId} {ad ad' : Nat → Nat} {x : St} {js : List Nat} (h : ∀ q ∈ js, ad q = ad' q ∧ ∀ k, ad (rf q k) = ad' (rf q k)) : wl cA ad js x = wl cA ad' js x := by
  unfold wl
  apply List.map_congr_left
  intro q hq
  obtain ⟨h1, h2⟩ := h q hq
  have e3 : fv ad x q = fv ad' x q := by funext k; simp only [fv, h2 k]
  unfold ent
  simp only [h1, h2, e3]
theorem rf_far {q k : Nat} (hq : q < 96) (hk : 11 ≤ k) : rf q k = 0 := by
  have : ∀ q : Fin 96, (rfL.getD q.val []).length ≤ 11 := by decide +kernel
  unfold rf
  rw [List.getD_eq_getElem?_getD, List.getElem?_eq_none (Nat.le_trans (this ⟨q, hq⟩) hk)]; rfl
theorem rf_blk {q lo hi : Nat} (hq : q < 96) (h : ∀ k, k < 11 → rf q k = 0 ∨ (lo ≤ rf q k ∧ rf q k < hi)) (k : Nat) : rf q k = 0 ∨ (lo ≤ rf q k ∧ rf q k < hi) := by
  by_cases z : k < 11
  · exact h k z
  · exact Or.inl (rf_far hq (by omega))
theorem blk_16 : ∀ q ∈ List.range' 16 20, q < 96 ∧ ∀ k, k < 11 → rf q k = 0 ∨ (16 ≤ rf q k ∧ rf q k < 36) := by decide +kernel
theorem blk_36 : ∀ q ∈ List.range' 36 20, q < 96 ∧ ∀ k, k < 11 → rf q k = 0 ∨ (36 ≤ rf q k ∧ rf q k < 56) := by decide +kernel
theorem blk_56 : ∀ q ∈ List.range' 56 20, q < 96 ∧ ∀ k, k < 11 → rf q k = 0 ∨ (56 ≤ rf q k ∧ rf q k < 76) := by decide +kernel
theorem blk_76 : ∀ q ∈ List.range' 76 20, q < 96 ∧ ∀ k, k < 11 → rf q k = 0 ∨ (76 ≤ rf q k ∧ rf q k < 96) := by decide +kernel
theorem blk_5 : ∀ q ∈ List.range' 5 4, q < 96 ∧ ∀ k, k < 11 → rf q k = 0 ∨ (5 ≤ rf q k ∧ rf q k < 9) := by decide +kernel
theorem blk_3 : ∀ q ∈ [3, 4], q < 96 ∧ ∀ k, k < 11 → rf q k = 0 ∨ rf q k = 4 ∨ rf q k = 76 := by decide +kernel
