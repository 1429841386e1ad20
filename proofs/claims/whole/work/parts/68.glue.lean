section MakeRows2
variable {p : Program} {l : Launch} {e : Env} {R : Room} {s : State} {m : MethodId} {args : Array Value} {below : List Frame} {meth : Method} {c : Code} {H : Heap} {locs : List Loc} {cells slots : Nat} {Q : State → Prop}
variable {cc : ByteArray} {pc : Nat} {ls : Array Slot} {rest : List Value} {E : Ev} {A : Nat → Prop} {own : String} {nL : Nat} {rt : Option FieldType} {ws : va_W}
theorem rnS (C0 : Cx E A own cc nL rt p s m args meth c) (hKI : KI E A s) (hA : ∀ q, s.heap.size ≤ q → A q) (hP : va_P E.1 vcl ws H) (hD : va_D A ws) (hS : va_S A s.heap H locs) {index : Nat} (hcl : Cond.classLink own index RSH ∈ gtb) (hcells : cells + 1 ≤ R.cells) (hslots : slots + 2 ≤ R.slots) (hdg : decode cc pc = .ok (.anewarray index, 3))
    (kk : ∀ (q : Nat) (H1 : Heap), va_P E.1 vcl (ws ++ [(q, .inl (E.2.1 4, 2, .inr (.inr (.inr (.inr (fun _ => none))))))]) H1 → va_D A (ws ++ [(q, .inl (E.2.1 4, 2, .inr (.inr (.inr (.inr (fun _ => none))))))]) → va_S A s.heap H1 locs → W p l e R s m args below meth c H1 locs (cells + 1) (slots + 2) Q (F0 m (pc + 3) ls (.ref q :: rest))) : W p l e R s m args below meth c H locs cells slots Q (F0 m pc ls (.int 2 :: rest)) := by
  obtain ⟨hx, hb, -, -, hown, hts, -, hK⟩ := C0
  refine va_newq hx hb hown (hts _ hcl) hKI.2.2 hK.1 hP hD hS hA (n := 2) (N' := 2) (by decide) (by decide) (by decide) hcells hslots hdg (fun q cA H1 hK1 hP1 hD1 hS1 => ?_)
  obtain ⟨_, _, -, -, -, e1⟩ := (hK.1.2 4 (E.2.1 4, .object RSH) rfl).2
  obtain ⟨_, _, -, -, -, e2⟩ := (hK1.2 6 (cA, .object RSH) rfl).2
  cases e1.symm.trans e2
  exact kk q H1 hP1 hD1 hS1
end MakeRows2
theorem pm2 {x y : Nat × va_E} {a : va_W} : ((x :: a) ++ [y]).Perm (x :: y :: a) := List.Perm.cons _ List.perm_append_comm
set_option maxHeartbeats 16000000 in
set_option maxRecDepth 100000 in
theorem cc_GG_init {l : Launch} {E : Ev} {h0 sz : Nat} : Met l yy_GG_init (Cond.code yy_GG_init bb_GG_init 1 none :: gtb) rm_GG_init (va_Pc [.ref h0] (PI E h0 5 fsGG sz)) (QI E (AI h0 5 fsGG sz) (XGG E h0)) 95 4586 (AI h0 5 fsGG sz) := by
  refine enterI (As := []) (by decide) rfl (Nat.le_of_ble_eq_true rfl) (fun p e s m below meth c ls A C0 hKI hi hA hP hD hS hl => ?_)
  obtain ⟨hx, hb, hml, hr, hown, hts, hlk, hK⟩ := id C0
  have hl : lv_has ls 1 [(0, .ref h0)] := hl
  refine lv_aload_n hx hb dd_GG_init_0 rfl (lv_at hl 0 rfl) ?_
  refine oI C0 gw_oi_GG hl.1 (Nat.le_of_ble_eq_true rfl) (Nat.le_of_ble_eq_true rfl) dd_GG_init_1 ?_
  refine lv_aload_n hx hb dd_GG_init_4 rfl (lv_at hl 0 rfl) ?_
  refine rnO (fs := fsSH) C0 hA hP hD hS vcl_4 ig_SH ty_SH gw_cl_GG_9 gw_is_SH gw_ini_SH (fun j hj => by rcases (show j = 0 ∨ j = 1 ∨ j = 2 ∨ j = 3 ∨ j = 4 ∨ j = 5 ∨ j = 6 ∨ j = 7 ∨ j = 8 ∨ j = 9 by omega) with rfl | rfl | rfl | rfl | rfl | rfl | rfl | rfl | rfl | rfl <;> rfl) (Nat.le_of_ble_eq_true rfl) (Nat.le_of_ble_eq_true rfl) dd_GG_init_5 (fun q1 H hP hD hS => ?_)
  refine W.widen (k := 1) (n := 10) (Nat.le_of_ble_eq_true rfl) (Nat.le_of_ble_eq_true rfl) ?_
  refine lv_dup hx hb dd_GG_init_8 rfl ?_
  refine rcI (As := []) (rest := [.ref q1, .ref h0]) (n := 0) C0 hKI hA (cc_SH_init sp16 (fun _ => h0)) hP hD hS gw_code_SH_init gw_m_GG_11 gw_inst_SH_init gw_ini_SH rfl rfl rfl (by decide +kernel) rfl ⟨Nat.le_of_ble_eq_true rfl, Nat.le_of_ble_eq_true rfl⟩ hl.1 rfl (Nat.le_of_ble_eq_true rfl) dd_GG_init_9 ⟨Nat.le_of_ble_eq_true rfl, Nat.le_of_ble_eq_true rfl⟩ (fun w H locs hX hP hD hS => ?_)
  refine W.widen (k := 20) (n := 924) (Nat.le_of_ble_eq_true rfl) (Nat.le_of_ble_eq_true rfl) ?_
  obtain ⟨ad1, e1, hA1, rfl⟩ := hX
  have hP : va_P E.1 vcl ((h0, .inr (5, [.null, .null, .null, .null, .null, .null, .long 0, .long 0, .int 0, .int 0, .int 0])) :: wl E.2.1 ad1 (List.range' 16 20) c0) H := hP
  have hD : va_D A ((h0, .inr (5, [.null, .null, .null, .null, .null, .null, .long 0, .long 0, .int 0, .int 0, .int 0])) :: wl E.2.1 ad1 (List.range' 16 20) c0) := hD
  refine rpF C0 hi hP hD hS vcl_5 ig_GG ty_GG nm_GG 0 (by decide) rfl rfl rfl gw_f_GG_12 rfl rfl (Nat.le_of_ble_eq_true rfl) (fs' := [.ref q1, .null, .null, .null, .null, .null, .long 0, .long 0, .int 0, .int 0, .int 0]) rfl dd_GG_init_12 (fun H locs hP hD hS => ?_)
  refine lv_aload_n hx hb dd_GG_init_15 rfl (lv_at hl 0 rfl) ?_
  refine lv_iconst (v := 2) hx hb dd_GG_init_16 (by decide) ?_
  refine rnS C0 hKI hA hP hD hS gw_cl_GG_9 (Nat.le_of_ble_eq_true rfl) (Nat.le_of_ble_eq_true rfl) dd_GG_init_17 (fun im H hP hD hS => ?_)
  refine W.widen (k := 21) (n := 926) (Nat.le_of_ble_eq_true rfl) (Nat.le_of_ble_eq_true rfl) ?_
  have hP : va_P E.1 vcl ((h0, .inr (5, [.ref q1, .null, .null, .null, .null, .null, .long 0, .long 0, .int 0, .int 0, .int 0])) :: (im, .inl (E.2.1 4, 2, .inr (.inr (.inr (.inr (fun _ => none)))))) :: wl E.2.1 ad1 (List.range' 16 20) c0) H := P_perm hP pm2
  have hD : va_D A ((h0, .inr (5, [.ref q1, .null, .null, .null, .null, .null, .long 0, .long 0, .int 0, .int 0, .int 0])) :: (im, .inl (E.2.1 4, 2, .inr (.inr (.inr (.inr (fun _ => none)))))) :: wl E.2.1 ad1 (List.range' 16 20) c0) := D_perm hD pm2
  refine lv_dup hx hb dd_GG_init_20 rfl ?_
  refine lv_iconst (v := 0) hx hb dd_GG_init_21 (by decide) ?_
  refine rnO (fs := fsSH) C0 hA hP hD hS vcl_4 ig_SH ty_SH gw_cl_GG_9 gw_is_SH gw_ini_SH (fun j hj => by rcases (show j = 0 ∨ j = 1 ∨ j = 2 ∨ j = 3 ∨ j = 4 ∨ j = 5 ∨ j = 6 ∨ j = 7 ∨ j = 8 ∨ j = 9 by omega) with rfl | rfl | rfl | rfl | rfl | rfl | rfl | rfl | rfl | rfl <;> rfl) (Nat.le_of_ble_eq_true rfl) (Nat.le_of_ble_eq_true rfl) dd_GG_init_22 (fun q2 H hP hD hS => ?_)
  refine W.widen (k := 22) (n := 936) (Nat.le_of_ble_eq_true rfl) (Nat.le_of_ble_eq_true rfl) ?_
  refine lv_dup hx hb dd_GG_init_25 rfl ?_
  refine rcI (As := []) (rest := [.ref q2, .int 0, .ref im, .ref im, .ref h0]) (n := 0) C0 hKI hA (cc_SH_init sp36 (adB 1 1 [im] ad1)) hP hD hS gw_code_SH_init gw_m_GG_11 gw_inst_SH_init gw_ini_SH rfl rfl rfl (by decide +kernel) rfl ⟨Nat.le_of_ble_eq_true rfl, Nat.le_of_ble_eq_true rfl⟩ hl.1 rfl (Nat.le_of_ble_eq_true rfl) dd_GG_init_26 ⟨Nat.le_of_ble_eq_true rfl, Nat.le_of_ble_eq_true rfl⟩ (fun w H locs hX hP hD hS => ?_)
  refine W.widen (k := 41) (n := 1850) (Nat.le_of_ble_eq_true rfl) (Nat.le_of_ble_eq_true rfl) ?_
  obtain ⟨ad2, e2, hA2, rfl⟩ := hX
  have hP : va_P E.1 vcl ((h0, .inr (5, [.ref q1, .null, .null, .null, .null, .null, .long 0, .long 0, .int 0, .int 0, .int 0])) :: (im, .inl (E.2.1 4, 2, .inr (.inr (.inr (.inr (fun _ => none)))))) :: (wl E.2.1 ad1 (List.range' 16 20) c0 ++ wl E.2.1 ad2 (List.range' 36 20) c0)) H := hP
  have hD : va_D A ((h0, .inr (5, [.ref q1, .null, .null, .null, .null, .null, .long 0, .long 0, .int 0, .int 0, .int 0])) :: (im, .inl (E.2.1 4, 2, .inr (.inr (.inr (.inr (fun _ => none)))))) :: (wl E.2.1 ad1 (List.range' 16 20) c0 ++ wl E.2.1 ad2 (List.range' 36 20) c0)) := hD
  refine va_astq (D := E.1) (cl := vcl) (r := (RSH, TSH, 10)) (n := 2) hx hb hK.1 hP hD hS 1 4 22 4 rfl rfl (v := q2) (by rw [← e2]; rfl) vcl_4 (i := 0) (ixb_in (by decide)) dd_GG_init_29 (fun H locs hP hD hS => ?_)
  have hP : va_P E.1 vcl ((h0, .inr (5, [.ref q1, .null, .null, .null, .null, .null, .long 0, .long 0, .int 0, .int 0, .int 0])) :: (im, .inl (E.2.1 4, 2, .inr (.inr (.inr (.inr (va_up (fun _ => none) 0 (some q2))))))) :: (wl E.2.1 ad1 (List.range' 16 20) c0 ++ wl E.2.1 ad2 (List.range' 36 20) c0)) H := hP
  have hD : va_D A ((h0, .inr (5, [.ref q1, .null, .null, .null, .null, .null, .long 0, .long 0, .int 0, .int 0, .int 0])) :: (im, .inl (E.2.1 4, 2, .inr (.inr (.inr (.inr (va_up (fun _ => none) 0 (some q2))))))) :: (wl E.2.1 ad1 (List.range' 16 20) c0 ++ wl E.2.1 ad2 (List.range' 36 20) c0)) := hD
  refine lv_dup hx hb dd_GG_init_30 rfl ?_
  refine lv_iconst (v := 1) hx hb dd_GG_init_31 (by decide) ?_
  refine rnO (fs := fsSH) C0 hA hP hD hS vcl_4 ig_SH ty_SH gw_cl_GG_9 gw_is_SH gw_ini_SH (fun j hj => by rcases (show j = 0 ∨ j = 1 ∨ j = 2 ∨ j = 3 ∨ j = 4 ∨ j = 5 ∨ j = 6 ∨ j = 7 ∨ j = 8 ∨ j = 9 by omega) with rfl | rfl | rfl | rfl | rfl | rfl | rfl | rfl | rfl | rfl <;> rfl) (Nat.le_of_ble_eq_true rfl) (Nat.le_of_ble_eq_true rfl) dd_GG_init_32 (fun q3 H hP hD hS => ?_)
  refine W.widen (k := 42) (n := 1860) (Nat.le_of_ble_eq_true rfl) (Nat.le_of_ble_eq_true rfl) ?_
  refine lv_dup hx hb dd_GG_init_35 rfl ?_
  refine rcI (As := []) (rest := [.ref q3, .int 1, .ref im, .ref im, .ref h0]) (n := 0) C0 hKI hA (cc_SH_init sp56 ad2) hP hD hS gw_code_SH_init gw_m_GG_11 gw_inst_SH_init gw_ini_SH rfl rfl rfl (by decide +kernel) rfl ⟨Nat.le_of_ble_eq_true rfl, Nat.le_of_ble_eq_true rfl⟩ hl.1 rfl (Nat.le_of_ble_eq_true rfl) dd_GG_init_36 ⟨Nat.le_of_ble_eq_true rfl, Nat.le_of_ble_eq_true rfl⟩ (fun w H locs hX hP hD hS => ?_)
  refine W.widen (k := 61) (n := 2774) (Nat.le_of_ble_eq_true rfl) (Nat.le_of_ble_eq_true rfl) ?_
  obtain ⟨ad3, e3, hA3, rfl⟩ := hX
  have hP : va_P E.1 vcl ((h0, .inr (5, [.ref q1, .null, .null, .null, .null, .null, .long 0, .long 0, .int 0, .int 0, .int 0])) :: (im, .inl (E.2.1 4, 2, .inr (.inr (.inr (.inr (va_up (fun _ => none) 0 (some q2))))))) :: (wl E.2.1 ad1 (List.range' 16 20) c0 ++ (wl E.2.1 ad2 (List.range' 36 20) c0 ++ wl E.2.1 ad3 (List.range' 56 20) c0))) H := by rw [← List.append_assoc]; exact hP
  have hD : va_D A ((h0, .inr (5, [.ref q1, .null, .null, .null, .null, .null, .long 0, .long 0, .int 0, .int 0, .int 0])) :: (im, .inl (E.2.1 4, 2, .inr (.inr (.inr (.inr (va_up (fun _ => none) 0 (some q2))))))) :: (wl E.2.1 ad1 (List.range' 16 20) c0 ++ (wl E.2.1 ad2 (List.range' 36 20) c0 ++ wl E.2.1 ad3 (List.range' 56 20) c0))) := by rw [← List.append_assoc]; exact hD
  refine va_astq (D := E.1) (cl := vcl) (r := (RSH, TSH, 10)) (n := 2) hx hb hK.1 hP hD hS 1 4 42 4 rfl rfl (v := q3) (by rw [← e3]; rfl) vcl_4 (i := 1) (ixb_in (by decide)) dd_GG_init_39 (fun H locs hP hD hS => ?_)
  have hP : va_P E.1 vcl ((h0, .inr (5, [.ref q1, .null, .null, .null, .null, .null, .long 0, .long 0, .int 0, .int 0, .int 0])) :: (im, .inl (E.2.1 4, 2, .inr (.inr (.inr (.inr (va_up (va_up (fun _ => none) 0 (some q2)) 1 (some q3))))))) :: (wl E.2.1 ad1 (List.range' 16 20) c0 ++ (wl E.2.1 ad2 (List.range' 36 20) c0 ++ wl E.2.1 ad3 (List.range' 56 20) c0))) H := hP
  have hD : va_D A ((h0, .inr (5, [.ref q1, .null, .null, .null, .null, .null, .long 0, .long 0, .int 0, .int 0, .int 0])) :: (im, .inl (E.2.1 4, 2, .inr (.inr (.inr (.inr (va_up (va_up (fun _ => none) 0 (some q2)) 1 (some q3))))))) :: (wl E.2.1 ad1 (List.range' 16 20) c0 ++ (wl E.2.1 ad2 (List.range' 36 20) c0 ++ wl E.2.1 ad3 (List.range' 56 20) c0))) := hD
  refine rpF C0 hi hP hD hS vcl_5 ig_GG ty_GG nm_GG 1 (by decide) rfl rfl rfl gw_f_GG_16 rfl rfl (Nat.le_of_ble_eq_true rfl) (fs' := [.ref q1, .ref im, .null, .null, .null, .null, .long 0, .long 0, .int 0, .int 0, .int 0]) rfl dd_GG_init_40 (fun H locs hP hD hS => ?_)
  refine lv_aload_n hx hb dd_GG_init_43 rfl (lv_at hl 0 rfl) ?_
  refine lv_iconst (v := 2) hx hb dd_GG_init_44 (by decide) ?_
  refine rnZ C0 hA hP hD hS 2 (by decide) (by decide) (by decide) (Nat.le_of_ble_eq_true rfl) (Nat.le_of_ble_eq_true rfl) dd_GG_init_45 (fun kp H hP hD hS => ?_)
  refine W.widen (k := 62) (n := 2776) (Nat.le_of_ble_eq_true rfl) (Nat.le_of_ble_eq_true rfl) ?_
  have ea : ∀ {a b : va_W} {x y : Nat × va_E}, (x :: y :: a) ++ b = x :: y :: (a ++ b) := rfl
  rw [ea, List.append_assoc, List.append_assoc] at hP hD
  refine rpF C0 hi hP hD hS vcl_5 ig_GG ty_GG nm_GG 2 (by decide) rfl rfl rfl gw_f_GG_20 rfl rfl (Nat.le_of_ble_eq_true rfl) (fs' := [.ref q1, .ref im, .ref kp, .null, .null, .null, .long 0, .long 0, .int 0, .int 0, .int 0]) rfl dd_GG_init_47 (fun H locs hP hD hS => ?_)
  refine lv_aload_n hx hb dd_GG_init_50 rfl (lv_at hl 0 rfl) ?_
  refine rnO (fs := fsRE) C0 hA hP hD hS vcl_3 ig_RE ty_RE gw_cl_GG_24 gw_is_RE gw_ini_RE (fun j hj => by rcases (show j = 0 ∨ j = 1 ∨ j = 2 ∨ j = 3 ∨ j = 4 ∨ j = 5 ∨ j = 6 ∨ j = 7 by omega) with rfl | rfl | rfl | rfl | rfl | rfl | rfl | rfl <;> rfl) (Nat.le_of_ble_eq_true rfl) (Nat.le_of_ble_eq_true rfl) dd_GG_init_51 (fun q4 H hP hD hS => ?_)
  refine W.widen (k := 63) (n := 2784) (Nat.le_of_ble_eq_true rfl) (Nat.le_of_ble_eq_true rfl) ?_
  refine lv_dup hx hb dd_GG_init_54 rfl ?_
  refine rcIN (As := []) (rest := [.ref q4, .ref h0]) (n := 0) C0 hKI hA (cc_RE_init (adB 2 1 [kp] ad3)) hP hD hS gw_code_RE_init gw_m_GG_26 gw_inst_RE_init gw_ini_RE rfl rfl rfl (by decide +kernel) rfl ⟨Nat.le_of_ble_eq_true rfl, Nat.le_of_ble_eq_true rfl⟩ hl.1 rfl (Nat.le_of_ble_eq_true rfl) dd_GG_init_55 ⟨Nat.le_of_ble_eq_true rfl, Nat.le_of_ble_eq_true rfl⟩ (fun w H locs hX hP hD hS => ?_)
  refine W.widen (k := 84) (n := 3958) (Nat.le_of_ble_eq_true rfl) (Nat.le_of_ble_eq_true rfl) ?_
  obtain ⟨ad4, e4, hA4, rfl⟩ := hX
  have ea : ∀ {a b : va_W} {x y : Nat × va_E}, (x :: y :: a) ++ b = x :: y :: (a ++ b) := rfl
  rw [ea, List.append_assoc, List.append_assoc, List.append_assoc] at hP hD
  refine rpF C0 hi hP hD hS vcl_5 ig_GG ty_GG nm_GG 3 (by decide) rfl rfl rfl gw_f_GG_27 rfl rfl (Nat.le_of_ble_eq_true rfl) (fs' := [.ref q1, .ref im, .ref kp, .ref q4, .null, .null, .long 0, .long 0, .int 0, .int 0, .int 0]) rfl dd_GG_init_58 (fun H locs hP hD hS => ?_)
  refine lv_aload_n hx hb dd_GG_init_61 rfl (lv_at hl 0 rfl) ?_
  refine rnO (fs := fsHI) C0 hA hP hD hS vcl_0 ig_HI ty_HI gw_cl_GG_31 gw_is_HI gw_ini_HI (fun j hj => by rcases (show j = 0 ∨ j = 1 ∨ j = 2 ∨ j = 3 by omega) with rfl | rfl | rfl | rfl <;> rfl) (Nat.le_of_ble_eq_true rfl) (Nat.le_of_ble_eq_true rfl) dd_GG_init_62 (fun q5 H hP hD hS => ?_)
  refine W.widen (k := 85) (n := 3962) (Nat.le_of_ble_eq_true rfl) (Nat.le_of_ble_eq_true rfl) ?_
  refine lv_dup hx hb dd_GG_init_65 rfl ?_
  refine rcIN (As := []) (rest := [.ref q5, .ref h0]) (n := 0) C0 hKI hA (cc_HI_init ad4) hP hD hS gw_code_HI_init gw_m_GG_33 gw_inst_HI_init gw_ini_HI rfl rfl rfl (by decide +kernel) rfl ⟨Nat.le_of_ble_eq_true rfl, Nat.le_of_ble_eq_true rfl⟩ hl.1 rfl (Nat.le_of_ble_eq_true rfl) dd_GG_init_66 ⟨Nat.le_of_ble_eq_true rfl, Nat.le_of_ble_eq_true rfl⟩ (fun w H locs hX hP hD hS => ?_)
  refine W.widen (k := 88) (n := 3980) (Nat.le_of_ble_eq_true rfl) (Nat.le_of_ble_eq_true rfl) ?_
  obtain ⟨ad5, e5, hA5, rfl⟩ := hX
  have ea : ∀ {a b : va_W} {x y : Nat × va_E}, (x :: y :: a) ++ b = x :: y :: (a ++ b) := rfl
  rw [ea, List.append_assoc, List.append_assoc, List.append_assoc, List.append_assoc] at hP hD
  refine rpF C0 hi hP hD hS vcl_5 ig_GG ty_GG nm_GG 4 (by decide) rfl rfl rfl gw_f_GG_34 rfl rfl (Nat.le_of_ble_eq_true rfl) (fs' := [.ref q1, .ref im, .ref kp, .ref q4, .ref q5, .null, .long 0, .long 0, .int 0, .int 0, .int 0]) rfl dd_GG_init_69 (fun H locs hP hD hS => ?_)
  refine lv_aload_n hx hb dd_GG_init_72 rfl (lv_at hl 0 rfl) ?_
  refine rnO (fs := fsOU) C0 hA hP hD hS vcl_2 ig_OU ty_OU gw_cl_GG_38 gw_is_OU gw_ini_OU (fun j hj => by rcases (show j = 0 ∨ j = 1 ∨ j = 2 ∨ j = 3 ∨ j = 4 ∨ j = 5 by omega) with rfl | rfl | rfl | rfl | rfl | rfl <;> rfl) (Nat.le_of_ble_eq_true rfl) (Nat.le_of_ble_eq_true rfl) dd_GG_init_73 (fun q6 H hP hD hS => ?_)
  refine W.widen (k := 89) (n := 3986) (Nat.le_of_ble_eq_true rfl) (Nat.le_of_ble_eq_true rfl) ?_
  refine lv_dup hx hb dd_GG_init_76 rfl ?_
  refine rcIN (As := []) (rest := [.ref q6, .ref h0]) (n := 0) C0 hKI hA (cc_OU_init ad5) hP hD hS gw_code_OU_init gw_m_GG_40 gw_inst_OU_init gw_ini_OU rfl rfl rfl (by decide +kernel) rfl ⟨Nat.le_of_ble_eq_true rfl, Nat.le_of_ble_eq_true rfl⟩ hl.1 rfl (Nat.le_of_ble_eq_true rfl) dd_GG_init_77 ⟨Nat.le_of_ble_eq_true rfl, Nat.le_of_ble_eq_true rfl⟩ (fun w H locs hX hP hD hS => ?_)
  refine W.widen (k := 95) (n := 4586) (Nat.le_of_ble_eq_true rfl) (Nat.le_of_ble_eq_true rfl) ?_
  obtain ⟨ad6, e6, hA6, rfl⟩ := hX
  have ea : ∀ {a b : va_W} {x y : Nat × va_E}, (x :: y :: a) ++ b = x :: y :: (a ++ b) := rfl
  rw [ea, List.append_assoc, List.append_assoc, List.append_assoc, List.append_assoc, List.append_assoc] at hP hD
  refine rpF C0 hi hP hD hS vcl_5 ig_GG ty_GG nm_GG 5 (by decide) rfl rfl rfl gw_f_GG_41 rfl rfl (Nat.le_of_ble_eq_true rfl) (fs' := [.ref q1, .ref im, .ref kp, .ref q4, .ref q5, .ref q6, .long 0, .long 0, .int 0, .int 0, .int 0]) rfl dd_GG_init_80 (fun H locs hP hD hS => ?_)
  refine lv_aload_n hx hb dd_GG_init_83 rfl (lv_at hl 0 rfl) ?_
  refine lv_lconst (v := 1) hx hb dd_GG_init_84 (by decide) ?_
  refine rpV C0 hP hD hS vcl_5 ig_GG ty_GG nm_GG 7 (by decide) rfl rfl gw_f_GG_45 rfl rfl (Nat.le_of_ble_eq_true rfl) (fs' := [.ref q1, .ref im, .ref kp, .ref q4, .ref q5, .ref q6, .long 0, .long 1, .int 0, .int 0, .int 0]) rfl dd_GG_init_85 (fun H locs hP hD hS => ?_)
  rw [← e1, ← e2, ← e3, ← e4, ← e5, ← e6] at hP hD
  obtain ⟨z0, z1, z2⟩ := XGG_ok hA1 hA2 hA3 hA4 hA5 hA6 hP hD
  exact rvI C0 ⟨ad6, z0, rfl⟩ z1 z2 hS (Nat.le_of_ble_eq_true rfl) (Nat.le_of_ble_eq_true rfl) dd_GG_init_88
