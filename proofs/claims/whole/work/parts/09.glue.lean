abbrev rm_GG_refuseBad : Room := { frames := 0, cells := 0, slots := 0, locals := 0 }
theorem dd_GG_refuseBad_0 : decode bb_GG_refuseBad 0 = .ok (.aload_n 0, 1) := by decide +kernel
theorem dd_GG_refuseBad_1 : decode bb_GG_refuseBad 1 = .ok (.dup, 1) := by decide +kernel
theorem dd_GG_refuseBad_2 : decode bb_GG_refuseBad 2 = .ok (.getfield 207, 3) := by decide +kernel
theorem dd_GG_refuseBad_5 : decode bb_GG_refuseBad 5 = .ok (.iconst 1, 1) := by decide +kernel
theorem dd_GG_refuseBad_6 : decode bb_GG_refuseBad 6 = .ok (.iadd, 1) := by decide +kernel
theorem dd_GG_refuseBad_7 : decode bb_GG_refuseBad 7 = .ok (.putfield 207, 3) := by decide +kernel
theorem dd_GG_refuseBad_10 : decode bb_GG_refuseBad 10 = .ok (.bipush (-2), 2) := by decide +kernel
theorem dd_GG_refuseBad_12 : decode bb_GG_refuseBad 12 = .ok (.ireturn, 1) := by decide +kernel
def ff_GG_refuseBad  (x : St) (v0 : Nat) : Option (Int32 × St) := st (si x v0 8 ((gi x v0 8) + 1)) (fun x_1 => some ((-2), x_1))
set_option maxHeartbeats 4000000 in
set_option maxRecDepth 100000 in
theorem ww_GG_refuseBad {p : Program} {l : Launch} {e : Env} {s : State} {m : MethodId} {args : Array Value} {below : List Frame} {meth : Method} {c : Code} {E : Ev} {A : Nat → Prop} {ad : Nat → Nat} {r : Int32} {x' : St} (C0 : Cx E A RGG bb_GG_refuseBad 1 (some .int) p s m args meth c) (hap : Ap ad ixC A)  {x : St} {v0 : Nat} (ho_v0 : isO ixC v0 5) (hf : ff_GG_refuseBad x v0 = some (r, x')) {H : Heap} {locs : List Loc} {ls : Array Slot} (hP : Wd E ad ixC x H) (hS : va_S A s.heap H locs) (hl : lv_has ls 1 [(0, .ref (ad v0))]) : W p l e rm_GG_refuseBad s m args below meth c H locs 0 0 (MQ below (QX E ad ixC A (some (.int r)) x') args s 0 0 A) (F0 m 0 ls []) := by
  obtain ⟨hx, hb, hml, hr, hown, hts, hlk, hK⟩ := id C0
  have hf : st (si x v0 8 ((gi x v0 8) + 1)) (fun x_1 => some ((-2), x_1)) = some (r, x') := hf
  refine lv_aload_n hx hb dd_GG_refuseBad_0 rfl (lv_at hl 0 rfl) ?_
  refine lv_dup hx hb dd_GG_refuseBad_1 rfl ?_
  refine gf_GG_207 C0 hP ho_v0 dd_GG_refuseBad_2 ?_
  refine lv_iconst (v := 1) hx hb dd_GG_refuseBad_5 (by decide) ?_
  refine lv_iadd hx hb dd_GG_refuseBad_6 ?_
  obtain ⟨x_1, hx_1, hf⟩ := of_st hf
  refine pf_GG_207 C0 hap hP hS ho_v0 hx_1 dd_GG_refuseBad_7 (fun H locs hP hS => ?_)
  refine lv_bipush (v := -2) hx hb dd_GG_refuseBad_10 (by decide) ?_
  exact rrI C0 hP hS dd_GG_refuseBad_12 hf
theorem cc_GG_refuseBad {l : Launch} {E : Ev} {A : Nat → Prop} {ad : Nat → Nat} (hap : Ap ad ixC A) {x x' : St} {v0 : Nat} {r : Int32} (ho_v0 : isO ixC v0 5) (hf : ff_GG_refuseBad x v0 = some (r, x')) : Met l yy_GG_refuseBad (Cond.code yy_GG_refuseBad bb_GG_refuseBad 1 (some .int) :: gtb) rm_GG_refuseBad (va_Pc [.ref (ad v0)] (PB E A ad ixC x)) (QX E ad ixC A (some (.int r)) x') 0 0 A := by
  exact enter (by decide) (Nat.le_of_ble_eq_true rfl) (fun p e s m below meth c ls C0 hP hS hl => ww_GG_refuseBad C0 hap ho_v0 hf hP hS hl)
abbrev rm_GG_refuseFull : Room := { frames := 0, cells := 0, slots := 0, locals := 0 }
theorem dd_GG_refuseFull_0 : decode bb_GG_refuseFull 0 = .ok (.aload_n 0, 1) := by decide +kernel
theorem dd_GG_refuseFull_1 : decode bb_GG_refuseFull 1 = .ok (.dup, 1) := by decide +kernel
theorem dd_GG_refuseFull_2 : decode bb_GG_refuseFull 2 = .ok (.getfield 213, 3) := by decide +kernel
theorem dd_GG_refuseFull_5 : decode bb_GG_refuseFull 5 = .ok (.iconst 1, 1) := by decide +kernel
theorem dd_GG_refuseFull_6 : decode bb_GG_refuseFull 6 = .ok (.iadd, 1) := by decide +kernel
theorem dd_GG_refuseFull_7 : decode bb_GG_refuseFull 7 = .ok (.putfield 213, 3) := by decide +kernel
theorem dd_GG_refuseFull_10 : decode bb_GG_refuseFull 10 = .ok (.bipush (-4), 2) := by decide +kernel
theorem dd_GG_refuseFull_12 : decode bb_GG_refuseFull 12 = .ok (.ireturn, 1) := by decide +kernel
def ff_GG_refuseFull  (x : St) (v0 : Nat) : Option (Int32 × St) := st (si x v0 10 ((gi x v0 10) + 1)) (fun x_1 => some ((-4), x_1))
set_option maxHeartbeats 4000000 in
set_option maxRecDepth 100000 in
theorem ww_GG_refuseFull {p : Program} {l : Launch} {e : Env} {s : State} {m : MethodId} {args : Array Value} {below : List Frame} {meth : Method} {c : Code} {E : Ev} {A : Nat → Prop} {ad : Nat → Nat} {r : Int32} {x' : St} (C0 : Cx E A RGG bb_GG_refuseFull 1 (some .int) p s m args meth c) (hap : Ap ad ixC A)  {x : St} {v0 : Nat} (ho_v0 : isO ixC v0 5) (hf : ff_GG_refuseFull x v0 = some (r, x')) {H : Heap} {locs : List Loc} {ls : Array Slot} (hP : Wd E ad ixC x H) (hS : va_S A s.heap H locs) (hl : lv_has ls 1 [(0, .ref (ad v0))]) : W p l e rm_GG_refuseFull s m args below meth c H locs 0 0 (MQ below (QX E ad ixC A (some (.int r)) x') args s 0 0 A) (F0 m 0 ls []) := by
  obtain ⟨hx, hb, hml, hr, hown, hts, hlk, hK⟩ := id C0
  have hf : st (si x v0 10 ((gi x v0 10) + 1)) (fun x_1 => some ((-4), x_1)) = some (r, x') := hf
  refine lv_aload_n hx hb dd_GG_refuseFull_0 rfl (lv_at hl 0 rfl) ?_
  refine lv_dup hx hb dd_GG_refuseFull_1 rfl ?_
  refine gf_GG_213 C0 hP ho_v0 dd_GG_refuseFull_2 ?_
  refine lv_iconst (v := 1) hx hb dd_GG_refuseFull_5 (by decide) ?_
  refine lv_iadd hx hb dd_GG_refuseFull_6 ?_
  obtain ⟨x_1, hx_1, hf⟩ := of_st hf
  refine pf_GG_213 C0 hap hP hS ho_v0 hx_1 dd_GG_refuseFull_7 (fun H locs hP hS => ?_)
  refine lv_bipush (v := -4) hx hb dd_GG_refuseFull_10 (by decide) ?_
  exact rrI C0 hP hS dd_GG_refuseFull_12 hf
theorem cc_GG_refuseFull {l : Launch} {E : Ev} {A : Nat → Prop} {ad : Nat → Nat} (hap : Ap ad ixC A) {x x' : St} {v0 : Nat} {r : Int32} (ho_v0 : isO ixC v0 5) (hf : ff_GG_refuseFull x v0 = some (r, x')) : Met l yy_GG_refuseFull (Cond.code yy_GG_refuseFull bb_GG_refuseFull 1 (some .int) :: gtb) rm_GG_refuseFull (va_Pc [.ref (ad v0)] (PB E A ad ixC x)) (QX E ad ixC A (some (.int r)) x') 0 0 A := by
  exact enter (by decide) (Nat.le_of_ble_eq_true rfl) (fun p e s m below meth c ls C0 hP hS hl => ww_GG_refuseFull C0 hap ho_v0 hf hP hS hl)
theorem cl_GG_49 {p : Program} {l : Launch} {e : Env} {R : Room} {s : State} {m : MethodId} {args : Array Value} {below : List Frame} {meth : Method} {c : Code} {H : Heap} {locs : List Loc} {cells slots : Nat} {Q : State → Prop} {cc : ByteArray} {pc : Nat} {ls : Array Slot} {rest : List Value} {E : Ev} {A : Nat → Prop} {ad : Nat → Nat} {nL : Nat} {rt : Option FieldType} (C0 : Cx E A RGG cc nL rt p s m args meth c) (hap : Ap ad ixC A) {x x' : St} {v0 : Int32} {v1 : Int32} {v2 : Int32} {r : Int32}  (hc : ff_GG_isWithin x v0 v1 v2 = some (r, x')) (hP : Wd E ad ixC x H) (hS : va_S A s.heap H locs) (hR : rm_GG_isWithin.frames + 1 ≤ R.frames ∧ 8 + (3 + 11) + rm_GG_isWithin.locals ≤ R.locals) (hls : ls.size = nL) (hroom : (rest.map fun v => v.category).sum ≤ 8) (hdg : decode cc pc = .ok (.invokestatic 49, 3)) (hf : cells ≤ R.cells ∧ slots ≤ R.slots) (kk : ∀ H1 locs1, Wd E ad ixC x' H1 → va_S A s.heap H1 locs1 → W p l e R s m args below meth c H1 locs1 cells slots Q (F0 m (pc + 3) ls (.int r :: rest))) : W p l e R s m args below meth c H locs cells slots Q (F0 m pc ls (.int v2 :: .int v1 :: .int v0 :: rest)) :=
  rcS (n := 3) C0 (cc_GG_isWithin hap  hc) hP hS gw_code_GG_isWithin gw_m_GG_49 gw_static_GG_isWithin gw_ini_GG rfl rfl (by decide +kernel) rfl hR hls rfl hroom hdg hf (fun H1 locs1 a _ _ b => kk H1 locs1 a b)
theorem cl_GG_53 {p : Program} {l : Launch} {e : Env} {R : Room} {s : State} {m : MethodId} {args : Array Value} {below : List Frame} {meth : Method} {c : Code} {H : Heap} {locs : List Loc} {cells slots : Nat} {Q : State → Prop} {cc : ByteArray} {pc : Nat} {ls : Array Slot} {rest : List Value} {E : Ev} {A : Nat → Prop} {ad : Nat → Nat} {nL : Nat} {rt : Option FieldType} (C0 : Cx E A RGG cc nL rt p s m args meth c) (hap : Ap ad ixC A) {x x' : St} {v0 : Nat} {r : Int32} (ho_v0 : isO ixC v0 5) (hc : ff_GG_refuseBad x v0 = some (r, x')) (hP : Wd E ad ixC x H) (hS : va_S A s.heap H locs) (hR : rm_GG_refuseBad.frames + 1 ≤ R.frames ∧ 8 + (1 + 11) + rm_GG_refuseBad.locals ≤ R.locals) (hls : ls.size = nL) (hroom : (rest.map fun v => v.category).sum ≤ 8) (hdg : decode cc pc = .ok (.invokevirtual 53, 3)) (hf : cells ≤ R.cells ∧ slots ≤ R.slots) (kk : ∀ H1 locs1, Wd E ad ixC x' H1 → va_S A s.heap H1 locs1 → W p l e R s m args below meth c H1 locs1 cells slots Q (F0 m (pc + 3) ls (.int r :: rest))) : W p l e R s m args below meth c H locs cells slots Q (F0 m pc ls (.ref (ad v0) :: rest)) :=
  rcV (n := 0) C0 (cc_GG_refuseBad hap ho_v0 hc) hP hS ho_v0 vcl_5 (by decide) gw_code_GG_refuseBad gw_m_GG_53 gw_inst_GG_refuseBad gw_sel_GG_refuseBad gw_ini_GG rfl rfl (by decide +kernel) rfl hR hls rfl hroom hdg hf (fun H1 locs1 a _ _ b => kk H1 locs1 a b)
theorem cl_GG_61 {p : Program} {l : Launch} {e : Env} {R : Room} {s : State} {m : MethodId} {args : Array Value} {below : List Frame} {meth : Method} {c : Code} {H : Heap} {locs : List Loc} {cells slots : Nat} {Q : State → Prop} {cc : ByteArray} {pc : Nat} {ls : Array Slot} {rest : List Value} {E : Ev} {A : Nat → Prop} {ad : Nat → Nat} {nL : Nat} {rt : Option FieldType} (C0 : Cx E A RGG cc nL rt p s m args meth c) (hap : Ap ad ixC A) {x x' : St} {v0 : Nat} {r : Int32} (ho_v0 : isO ixC v0 1) (hc : ff_LE_isFull x v0 = some (r, x')) (hP : Wd E ad ixC x H) (hS : va_S A s.heap H locs) (hR : rm_LE_isFull.frames + 1 ≤ R.frames ∧ 8 + (1 + 11) + rm_LE_isFull.locals ≤ R.locals) (hls : ls.size = nL) (hroom : (rest.map fun v => v.category).sum ≤ 8) (hdg : decode cc pc = .ok (.invokevirtual 61, 3)) (hf : cells ≤ R.cells ∧ slots ≤ R.slots) (kk : ∀ H1 locs1, Wd E ad ixC x' H1 → va_S A s.heap H1 locs1 → W p l e R s m args below meth c H1 locs1 cells slots Q (F0 m (pc + 3) ls (.int r :: rest))) : W p l e R s m args below meth c H locs cells slots Q (F0 m pc ls (.ref (ad v0) :: rest)) :=
  rcV (n := 0) C0 (cc_LE_isFull hap ho_v0 hc) hP hS ho_v0 vcl_1 (by decide) gw_code_LE_isFull gw_m_GG_61 gw_inst_LE_isFull gw_sel_LE_isFull gw_ini_LE rfl rfl (by decide +kernel) rfl hR hls rfl hroom hdg hf (fun H1 locs1 a _ _ b => kk H1 locs1 a b)
theorem cl_GG_67 {p : Program} {l : Launch} {e : Env} {R : Room} {s : State} {m : MethodId} {args : Array Value} {below : List Frame} {meth : Method} {c : Code} {H : Heap} {locs : List Loc} {cells slots : Nat} {Q : State → Prop} {cc : ByteArray} {pc : Nat} {ls : Array Slot} {rest : List Value} {E : Ev} {A : Nat → Prop} {ad : Nat → Nat} {nL : Nat} {rt : Option FieldType} (C0 : Cx E A RGG cc nL rt p s m args meth c) (hap : Ap ad ixC A) {x x' : St} {v0 : Nat} {r : Int32} (ho_v0 : isO ixC v0 5) (hc : ff_GG_refuseFull x v0 = some (r, x')) (hP : Wd E ad ixC x H) (hS : va_S A s.heap H locs) (hR : rm_GG_refuseFull.frames + 1 ≤ R.frames ∧ 8 + (1 + 11) + rm_GG_refuseFull.locals ≤ R.locals) (hls : ls.size = nL) (hroom : (rest.map fun v => v.category).sum ≤ 8) (hdg : decode cc pc = .ok (.invokevirtual 67, 3)) (hf : cells ≤ R.cells ∧ slots ≤ R.slots) (kk : ∀ H1 locs1, Wd E ad ixC x' H1 → va_S A s.heap H1 locs1 → W p l e R s m args below meth c H1 locs1 cells slots Q (F0 m (pc + 3) ls (.int r :: rest))) : W p l e R s m args below meth c H locs cells slots Q (F0 m pc ls (.ref (ad v0) :: rest)) :=
  rcV (n := 0) C0 (cc_GG_refuseFull hap ho_v0 hc) hP hS ho_v0 vcl_5 (by decide) gw_code_GG_refuseFull gw_m_GG_67 gw_inst_GG_refuseFull gw_sel_GG_refuseFull gw_ini_GG rfl rfl (by decide +kernel) rfl hR hls rfl hroom hdg hf (fun H1 locs1 a _ _ b => kk H1 locs1 a b)
theorem cl_GG_70 {p : Program} {l : Launch} {e : Env} {R : Room} {s : State} {m : MethodId} {args : Array Value} {below : List Frame} {meth : Method} {c : Code} {H : Heap} {locs : List Loc} {cells slots : Nat} {Q : State → Prop} {cc : ByteArray} {pc : Nat} {ls : Array Slot} {rest : List Value} {E : Ev} {A : Nat → Prop} {ad : Nat → Nat} {nL : Nat} {rt : Option FieldType} (C0 : Cx E A RGG cc nL rt p s m args meth c) (hap : Ap ad ixC A) {x x' : St} {v0 : Nat} {v1 : Int32} {v2 : Int32} {v3 : Int32} {r : Int32} (ho_v0 : isO ixC v0 4) (hc : ff_SH_addMourner x v0 v1 v2 v3 = some (r, x')) (hP : Wd E ad ixC x H) (hS : va_S A s.heap H locs) (hR : rm_SH_addMourner.frames + 1 ≤ R.frames ∧ 8 + (5 + 11) + rm_SH_addMourner.locals ≤ R.locals) (hls : ls.size = nL) (hroom : (rest.map fun v => v.category).sum ≤ 8) (hdg : decode cc pc = .ok (.invokevirtual 70, 3)) (hf : cells ≤ R.cells ∧ slots ≤ R.slots) (kk : ∀ H1 locs1, Wd E ad ixC x' H1 → va_S A s.heap H1 locs1 → W p l e R s m args below meth c H1 locs1 cells slots Q (F0 m (pc + 3) ls (.int r :: rest))) : W p l e R s m args below meth c H locs cells slots Q (F0 m pc ls (.int v3 :: .int v2 :: .int v1 :: .ref (ad v0) :: rest)) :=
  rcV (n := 3) C0 (cc_SH_addMourner hap ho_v0 hc) hP hS ho_v0 vcl_4 (by decide) gw_code_SH_addMourner gw_m_GG_70 gw_inst_SH_addMourner gw_sel_SH_addMourner gw_ini_SH rfl rfl (by decide +kernel) rfl hR hls rfl hroom hdg hf (fun H1 locs1 a _ _ b => kk H1 locs1 a b)
abbrev rm_GG_mourner : Room := { frames := 6, cells := 0, slots := 0, locals := 138 }
theorem dd_GG_mourner_0 : decode bb_GG_mourner 0 = .ok (.iload_n 1, 1) := by decide +kernel
theorem dd_GG_mourner_1 : decode bb_GG_mourner 1 = .ok (.iconst 0, 1) := by decide +kernel
theorem dd_GG_mourner_2 : decode bb_GG_mourner 2 = .ok (.iconst 5, 1) := by decide +kernel
theorem dd_GG_mourner_3 : decode bb_GG_mourner 3 = .ok (.invokestatic 49, 3) := by decide +kernel
theorem dd_GG_mourner_6 : decode bb_GG_mourner 6 = .ok (.ifCond .eq 23, 3) := by decide +kernel
theorem dd_GG_mourner_9 : decode bb_GG_mourner 9 = .ok (.iload_n 2, 1) := by decide +kernel
theorem dd_GG_mourner_10 : decode bb_GG_mourner 10 = .ok (.iconst 0, 1) := by decide +kernel
theorem dd_GG_mourner_11 : decode bb_GG_mourner 11 = .ok (.bipush 99, 2) := by decide +kernel
theorem dd_GG_mourner_13 : decode bb_GG_mourner 13 = .ok (.invokestatic 49, 3) := by decide +kernel
theorem dd_GG_mourner_16 : decode bb_GG_mourner 16 = .ok (.ifCond .eq 13, 3) := by decide +kernel
theorem dd_GG_mourner_19 : decode bb_GG_mourner 19 = .ok (.iload_n 3, 1) := by decide +kernel
theorem dd_GG_mourner_20 : decode bb_GG_mourner 20 = .ok (.iconst 0, 1) := by decide +kernel
theorem dd_GG_mourner_21 : decode bb_GG_mourner 21 = .ok (.bipush 99, 2) := by decide +kernel
theorem dd_GG_mourner_23 : decode bb_GG_mourner 23 = .ok (.invokestatic 49, 3) := by decide +kernel
theorem dd_GG_mourner_26 : decode bb_GG_mourner 26 = .ok (.ifCond .ne 8, 3) := by decide +kernel
theorem dd_GG_mourner_29 : decode bb_GG_mourner 29 = .ok (.aload_n 0, 1) := by decide +kernel
theorem dd_GG_mourner_30 : decode bb_GG_mourner 30 = .ok (.invokevirtual 53, 3) := by decide +kernel
theorem dd_GG_mourner_33 : decode bb_GG_mourner 33 = .ok (.ireturn, 1) := by decide +kernel
theorem dd_GG_mourner_34 : decode bb_GG_mourner 34 = .ok (.aload_n 0, 1) := by decide +kernel
theorem dd_GG_mourner_35 : decode bb_GG_mourner 35 = .ok (.getfield 12, 3) := by decide +kernel
theorem dd_GG_mourner_38 : decode bb_GG_mourner 38 = .ok (.getfield 57, 3) := by decide +kernel
theorem dd_GG_mourner_41 : decode bb_GG_mourner 41 = .ok (.invokevirtual 61, 3) := by decide +kernel
theorem dd_GG_mourner_44 : decode bb_GG_mourner 44 = .ok (.ifCond .eq 8, 3) := by decide +kernel
theorem dd_GG_mourner_47 : decode bb_GG_mourner 47 = .ok (.aload_n 0, 1) := by decide +kernel
theorem dd_GG_mourner_48 : decode bb_GG_mourner 48 = .ok (.invokevirtual 67, 3) := by decide +kernel
theorem dd_GG_mourner_51 : decode bb_GG_mourner 51 = .ok (.ireturn, 1) := by decide +kernel
theorem dd_GG_mourner_52 : decode bb_GG_mourner 52 = .ok (.aload_n 0, 1) := by decide +kernel
theorem dd_GG_mourner_53 : decode bb_GG_mourner 53 = .ok (.getfield 12, 3) := by decide +kernel
theorem dd_GG_mourner_56 : decode bb_GG_mourner 56 = .ok (.iload_n 1, 1) := by decide +kernel
theorem dd_GG_mourner_57 : decode bb_GG_mourner 57 = .ok (.iload_n 2, 1) := by decide +kernel
theorem dd_GG_mourner_58 : decode bb_GG_mourner 58 = .ok (.iload_n 3, 1) := by decide +kernel
theorem dd_GG_mourner_59 : decode bb_GG_mourner 59 = .ok (.invokevirtual 70, 3) := by decide +kernel
theorem dd_GG_mourner_62 : decode bb_GG_mourner 62 = .ok (.ireturn, 1) := by decide +kernel
def ff_GG_mourner  (x : St) (v0 : Nat) (v1 : Int32) (v2 : Int32) (v3 : Int32) : Option (Int32 × St) := bnd (ff_GG_isWithin x v1 0 5) (fun r_1 x_2 => (if r_1 = 0 then bnd (ff_GG_refuseBad x_2 v0) (fun r_5 x_6 => some (r_5, x_6)) else bnd (ff_GG_isWithin x_2 v2 0 99) (fun r_8 x_9 => (if r_8 = 0 then bnd (ff_GG_refuseBad x_9 v0) (fun r_12 x_13 => some (r_12, x_13)) else bnd (ff_GG_isWithin x_9 v3 0 99) (fun r_15 x_16 => (if r_15 = 0 then bnd (ff_GG_refuseBad x_16 v0) (fun r_29 x_30 => some (r_29, x_30)) else bnd (ff_LE_isFull x_16 (rf (rf v0 0) 0)) (fun r_19 x_20 => (if r_19 = 0 then bnd (ff_SH_addMourner x_20 (rf v0 0) v1 v2 v3) (fun r_23 x_24 => some (r_23, x_24)) else bnd (ff_GG_refuseFull x_20 v0) (fun r_26 x_27 => some (r_26, x_27))))))))))
set_option maxHeartbeats 4000000 in
set_option maxRecDepth 100000 in
theorem ww_GG_mourner {p : Program} {l : Launch} {e : Env} {s : State} {m : MethodId} {args : Array Value} {below : List Frame} {meth : Method} {c : Code} {E : Ev} {A : Nat → Prop} {ad : Nat → Nat} {r : Int32} {x' : St} (C0 : Cx E A RGG bb_GG_mourner 4 (some .int) p s m args meth c) (hap : Ap ad ixC A)  {x : St} {v0 : Nat} {v1 : Int32} {v2 : Int32} {v3 : Int32} (ho_v0 : isO ixC v0 5) (hf : ff_GG_mourner x v0 v1 v2 v3 = some (r, x')) {H : Heap} {locs : List Loc} {ls : Array Slot} (hP : Wd E ad ixC x H) (hS : va_S A s.heap H locs) (hl : lv_has ls 4 [(0, .ref (ad v0)), (1, .int v1), (2, .int v2), (3, .int v3)]) : W p l e rm_GG_mourner s m args below meth c H locs 0 0 (MQ below (QX E ad ixC A (some (.int r)) x') args s 0 0 A) (F0 m 0 ls []) := by
  obtain ⟨hx, hb, hml, hr, hown, hts, hlk, hK⟩ := id C0
  have hf : bnd (ff_GG_isWithin x v1 0 5) (fun r_1 x_2 => (if r_1 = 0 then bnd (ff_GG_refuseBad x_2 v0) (fun r_5 x_6 => some (r_5, x_6)) else bnd (ff_GG_isWithin x_2 v2 0 99) (fun r_8 x_9 => (if r_8 = 0 then bnd (ff_GG_refuseBad x_9 v0) (fun r_12 x_13 => some (r_12, x_13)) else bnd (ff_GG_isWithin x_9 v3 0 99) (fun r_15 x_16 => (if r_15 = 0 then bnd (ff_GG_refuseBad x_16 v0) (fun r_29 x_30 => some (r_29, x_30)) else bnd (ff_LE_isFull x_16 (rf (rf v0 0) 0)) (fun r_19 x_20 => (if r_19 = 0 then bnd (ff_SH_addMourner x_20 (rf v0 0) v1 v2 v3) (fun r_23 x_24 => some (r_23, x_24)) else bnd (ff_GG_refuseFull x_20 v0) (fun r_26 x_27 => some (r_26, x_27)))))))))) = some (r, x') := hf
  refine lv_iload_n hx hb dd_GG_mourner_0 rfl (lv_at hl 1 rfl) ?_
  refine lv_iconst (v := 0) hx hb dd_GG_mourner_1 (by decide) ?_
  refine lv_iconst (v := 5) hx hb dd_GG_mourner_2 (by decide) ?_
  obtain ⟨r_1, x_2, c_3, hf⟩ := of_bnd hf
  refine cl_GG_49 C0 hap  c_3 hP hS ⟨Nat.le_of_ble_eq_true rfl, Nat.le_of_ble_eq_true rfl⟩ hl.1 (Nat.le_of_ble_eq_true rfl) dd_GG_mourner_3 ⟨Nat.le_refl _, Nat.le_refl _⟩ (fun H locs hP hS => ?_)
  refine lv_if_eq (tgt := 29) hx hb dd_GG_mourner_6 (by decide) (fun h_4 => ?_) (fun h_4 => ?_)
  · have hf := (if_pos h_4).symm.trans hf
    refine lv_aload_n hx hb dd_GG_mourner_29 rfl (lv_at hl 0 rfl) ?_
    obtain ⟨r_5, x_6, c_7, hf⟩ := of_bnd hf
    refine cl_GG_53 C0 hap ho_v0 c_7 hP hS ⟨Nat.le_of_ble_eq_true rfl, Nat.le_of_ble_eq_true rfl⟩ hl.1 (Nat.le_of_ble_eq_true rfl) dd_GG_mourner_30 ⟨Nat.le_refl _, Nat.le_refl _⟩ (fun H locs hP hS => ?_)
    exact rrI C0 hP hS dd_GG_mourner_33 hf
  · have hf := (if_neg h_4).symm.trans hf
    refine lv_iload_n hx hb dd_GG_mourner_9 rfl (lv_at hl 2 rfl) ?_
    refine lv_iconst (v := 0) hx hb dd_GG_mourner_10 (by decide) ?_
    refine lv_bipush (v := 99) hx hb dd_GG_mourner_11 (by decide) ?_
    obtain ⟨r_8, x_9, c_10, hf⟩ := of_bnd hf
    refine cl_GG_49 C0 hap  c_10 hP hS ⟨Nat.le_of_ble_eq_true rfl, Nat.le_of_ble_eq_true rfl⟩ hl.1 (Nat.le_of_ble_eq_true rfl) dd_GG_mourner_13 ⟨Nat.le_refl _, Nat.le_refl _⟩ (fun H locs hP hS => ?_)
    refine lv_if_eq (tgt := 29) hx hb dd_GG_mourner_16 (by decide) (fun h_11 => ?_) (fun h_11 => ?_)
    · have hf := (if_pos h_11).symm.trans hf
      refine lv_aload_n hx hb dd_GG_mourner_29 rfl (lv_at hl 0 rfl) ?_
      obtain ⟨r_12, x_13, c_14, hf⟩ := of_bnd hf
      refine cl_GG_53 C0 hap ho_v0 c_14 hP hS ⟨Nat.le_of_ble_eq_true rfl, Nat.le_of_ble_eq_true rfl⟩ hl.1 (Nat.le_of_ble_eq_true rfl) dd_GG_mourner_30 ⟨Nat.le_refl _, Nat.le_refl _⟩ (fun H locs hP hS => ?_)
      exact rrI C0 hP hS dd_GG_mourner_33 hf
    · have hf := (if_neg h_11).symm.trans hf
      refine lv_iload_n hx hb dd_GG_mourner_19 rfl (lv_at hl 3 rfl) ?_
      refine lv_iconst (v := 0) hx hb dd_GG_mourner_20 (by decide) ?_
      refine lv_bipush (v := 99) hx hb dd_GG_mourner_21 (by decide) ?_
      obtain ⟨r_15, x_16, c_17, hf⟩ := of_bnd hf
      refine cl_GG_49 C0 hap  c_17 hP hS ⟨Nat.le_of_ble_eq_true rfl, Nat.le_of_ble_eq_true rfl⟩ hl.1 (Nat.le_of_ble_eq_true rfl) dd_GG_mourner_23 ⟨Nat.le_refl _, Nat.le_refl _⟩ (fun H locs hP hS => ?_)
      refine lv_if_ne (tgt := 34) hx hb dd_GG_mourner_26 (by decide) (fun h_18 => ?_) (fun h_18 => ?_)
      · have hf := (if_neg h_18).symm.trans hf
        refine lv_aload_n hx hb dd_GG_mourner_34 rfl (lv_at hl 0 rfl) ?_
        refine gf_GG_12 C0 hP ho_v0 dd_GG_mourner_35 ?_
        refine gf_GG_57 C0 hP (tp_5_0 ho_v0) dd_GG_mourner_38 ?_
        obtain ⟨r_19, x_20, c_21, hf⟩ := of_bnd hf
        refine cl_GG_61 C0 hap (tp_4_0 (tp_5_0 ho_v0)) c_21 hP hS ⟨Nat.le_of_ble_eq_true rfl, Nat.le_of_ble_eq_true rfl⟩ hl.1 (Nat.le_of_ble_eq_true rfl) dd_GG_mourner_41 ⟨Nat.le_refl _, Nat.le_refl _⟩ (fun H locs hP hS => ?_)
        refine lv_if_eq (tgt := 52) hx hb dd_GG_mourner_44 (by decide) (fun h_22 => ?_) (fun h_22 => ?_)
        · have hf := (if_pos h_22).symm.trans hf
          refine lv_aload_n hx hb dd_GG_mourner_52 rfl (lv_at hl 0 rfl) ?_
          refine gf_GG_12 C0 hP ho_v0 dd_GG_mourner_53 ?_
          refine lv_iload_n hx hb dd_GG_mourner_56 rfl (lv_at hl 1 rfl) ?_
          refine lv_iload_n hx hb dd_GG_mourner_57 rfl (lv_at hl 2 rfl) ?_
          refine lv_iload_n hx hb dd_GG_mourner_58 rfl (lv_at hl 3 rfl) ?_
          obtain ⟨r_23, x_24, c_25, hf⟩ := of_bnd hf
          refine cl_GG_70 C0 hap (tp_5_0 ho_v0) c_25 hP hS ⟨Nat.le_of_ble_eq_true rfl, Nat.le_of_ble_eq_true rfl⟩ hl.1 (Nat.le_of_ble_eq_true rfl) dd_GG_mourner_59 ⟨Nat.le_refl _, Nat.le_refl _⟩ (fun H locs hP hS => ?_)
          exact rrI C0 hP hS dd_GG_mourner_62 hf
        · have hf := (if_neg h_22).symm.trans hf
          refine lv_aload_n hx hb dd_GG_mourner_47 rfl (lv_at hl 0 rfl) ?_
          obtain ⟨r_26, x_27, c_28, hf⟩ := of_bnd hf
          refine cl_GG_67 C0 hap ho_v0 c_28 hP hS ⟨Nat.le_of_ble_eq_true rfl, Nat.le_of_ble_eq_true rfl⟩ hl.1 (Nat.le_of_ble_eq_true rfl) dd_GG_mourner_48 ⟨Nat.le_refl _, Nat.le_refl _⟩ (fun H locs hP hS => ?_)
          exact rrI C0 hP hS dd_GG_mourner_51 hf
      · have hf := (if_pos h_18).symm.trans hf
        refine lv_aload_n hx hb dd_GG_mourner_29 rfl (lv_at hl 0 rfl) ?_
        obtain ⟨r_29, x_30, c_31, hf⟩ := of_bnd hf
        refine cl_GG_53 C0 hap ho_v0 c_31 hP hS ⟨Nat.le_of_ble_eq_true rfl, Nat.le_of_ble_eq_true rfl⟩ hl.1 (Nat.le_of_ble_eq_true rfl) dd_GG_mourner_30 ⟨Nat.le_refl _, Nat.le_refl _⟩ (fun H locs hP hS => ?_)
        exact rrI C0 hP hS dd_GG_mourner_33 hf
theorem cc_GG_mourner {l : Launch} {E : Ev} {A : Nat → Prop} {ad : Nat → Nat} (hap : Ap ad ixC A) {x x' : St} {v0 : Nat} {v1 : Int32} {v2 : Int32} {v3 : Int32} {r : Int32} (ho_v0 : isO ixC v0 5) (hf : ff_GG_mourner x v0 v1 v2 v3 = some (r, x')) : Met l yy_GG_mourner (Cond.code yy_GG_mourner bb_GG_mourner 4 (some .int) :: gtb) rm_GG_mourner (va_Pc [.ref (ad v0), .int v1, .int v2, .int v3] (PB E A ad ixC x)) (QX E ad ixC A (some (.int r)) x') 0 0 A := by
  exact enter (by decide) (Nat.le_of_ble_eq_true rfl) (fun p e s m below meth c ls C0 hP hS hl => ww_GG_mourner C0 hap ho_v0 hf hP hS hl)
theorem cl_GG_77 {p : Program} {l : Launch} {e : Env} {R : Room} {s : State} {m : MethodId} {args : Array Value} {below : List Frame} {meth : Method} {c : Code} {H : Heap} {locs : List Loc} {cells slots : Nat} {Q : State → Prop} {cc : ByteArray} {pc : Nat} {ls : Array Slot} {rest : List Value} {E : Ev} {A : Nat → Prop} {ad : Nat → Nat} {nL : Nat} {rt : Option FieldType} (C0 : Cx E A RGG cc nL rt p s m args meth c) (hap : Ap ad ixC A) {x x' : St} {v0 : Nat} {v1 : Int32} {v2 : Int32} {v3 : Int32} {r : Int32} (ho_v0 : isO ixC v0 1) (hc : ff_LE_add x v0 v1 v2 v3 = some (r, x')) (hP : Wd E ad ixC x H) (hS : va_S A s.heap H locs) (hR : rm_LE_add.frames + 1 ≤ R.frames ∧ 8 + (5 + 11) + rm_LE_add.locals ≤ R.locals) (hls : ls.size = nL) (hroom : (rest.map fun v => v.category).sum ≤ 8) (hdg : decode cc pc = .ok (.invokevirtual 77, 3)) (hf : cells ≤ R.cells ∧ slots ≤ R.slots) (kk : ∀ H1 locs1, Wd E ad ixC x' H1 → va_S A s.heap H1 locs1 → W p l e R s m args below meth c H1 locs1 cells slots Q (F0 m (pc + 3) ls (.int r :: rest))) : W p l e R s m args below meth c H locs cells slots Q (F0 m pc ls (.int v3 :: .int v2 :: .int v1 :: .ref (ad v0) :: rest)) :=
  rcV (n := 3) C0 (cc_LE_add hap ho_v0 hc) hP hS ho_v0 vcl_1 (by decide) gw_code_LE_add gw_m_GG_77 gw_inst_LE_add gw_sel_LE_add gw_ini_LE rfl rfl (by decide +kernel) rfl hR hls rfl hroom hdg hf (fun H1 locs1 a _ _ b => kk H1 locs1 a b)
abbrev rm_GG_joint : Room := { frames := 2, cells := 0, slots := 0, locals := 44 }
theorem dd_GG_joint_0 : decode bb_GG_joint 0 = .ok (.iload_n 1, 1) := by decide +kernel
theorem dd_GG_joint_1 : decode bb_GG_joint 1 = .ok (.iconst 0, 1) := by decide +kernel
theorem dd_GG_joint_2 : decode bb_GG_joint 2 = .ok (.bipush 99, 2) := by decide +kernel
theorem dd_GG_joint_4 : decode bb_GG_joint 4 = .ok (.invokestatic 49, 3) := by decide +kernel
theorem dd_GG_joint_7 : decode bb_GG_joint 7 = .ok (.ifCond .ne 8, 3) := by decide +kernel
theorem dd_GG_joint_10 : decode bb_GG_joint 10 = .ok (.aload_n 0, 1) := by decide +kernel
theorem dd_GG_joint_11 : decode bb_GG_joint 11 = .ok (.invokevirtual 53, 3) := by decide +kernel
theorem dd_GG_joint_14 : decode bb_GG_joint 14 = .ok (.ireturn, 1) := by decide +kernel
theorem dd_GG_joint_15 : decode bb_GG_joint 15 = .ok (.aload_n 0, 1) := by decide +kernel
theorem dd_GG_joint_16 : decode bb_GG_joint 16 = .ok (.getfield 12, 3) := by decide +kernel
theorem dd_GG_joint_19 : decode bb_GG_joint 19 = .ok (.getfield 74, 3) := by decide +kernel
theorem dd_GG_joint_22 : decode bb_GG_joint 22 = .ok (.invokevirtual 61, 3) := by decide +kernel
theorem dd_GG_joint_25 : decode bb_GG_joint 25 = .ok (.ifCond .eq 8, 3) := by decide +kernel
theorem dd_GG_joint_28 : decode bb_GG_joint 28 = .ok (.aload_n 0, 1) := by decide +kernel
theorem dd_GG_joint_29 : decode bb_GG_joint 29 = .ok (.invokevirtual 67, 3) := by decide +kernel
theorem dd_GG_joint_32 : decode bb_GG_joint 32 = .ok (.ireturn, 1) := by decide +kernel
theorem dd_GG_joint_33 : decode bb_GG_joint 33 = .ok (.aload_n 0, 1) := by decide +kernel
theorem dd_GG_joint_34 : decode bb_GG_joint 34 = .ok (.getfield 12, 3) := by decide +kernel
theorem dd_GG_joint_37 : decode bb_GG_joint 37 = .ok (.getfield 74, 3) := by decide +kernel
theorem dd_GG_joint_40 : decode bb_GG_joint 40 = .ok (.iload_n 1, 1) := by decide +kernel
theorem dd_GG_joint_41 : decode bb_GG_joint 41 = .ok (.iconst 0, 1) := by decide +kernel
theorem dd_GG_joint_42 : decode bb_GG_joint 42 = .ok (.iconst 0, 1) := by decide +kernel
theorem dd_GG_joint_43 : decode bb_GG_joint 43 = .ok (.invokevirtual 77, 3) := by decide +kernel
theorem dd_GG_joint_46 : decode bb_GG_joint 46 = .ok (.ireturn, 1) := by decide +kernel
def ff_GG_joint  (x : St) (v0 : Nat) (v1 : Int32) : Option (Int32 × St) := bnd (ff_GG_isWithin x v1 0 99) (fun r_1 x_2 => (if r_1 = 0 then bnd (ff_GG_refuseBad x_2 v0) (fun r_15 x_16 => some (r_15, x_16)) else bnd (ff_LE_isFull x_2 (rf (rf v0 0) 1)) (fun r_5 x_6 => (if r_5 = 0 then bnd (ff_LE_add x_6 (rf (rf v0 0) 1) v1 0 0) (fun r_9 x_10 => some (r_9, x_10)) else bnd (ff_GG_refuseFull x_6 v0) (fun r_12 x_13 => some (r_12, x_13))))))
set_option maxHeartbeats 4000000 in
set_option maxRecDepth 100000 in
theorem ww_GG_joint {p : Program} {l : Launch} {e : Env} {s : State} {m : MethodId} {args : Array Value} {below : List Frame} {meth : Method} {c : Code} {E : Ev} {A : Nat → Prop} {ad : Nat → Nat} {r : Int32} {x' : St} (C0 : Cx E A RGG bb_GG_joint 2 (some .int) p s m args meth c) (hap : Ap ad ixC A)  {x : St} {v0 : Nat} {v1 : Int32} (ho_v0 : isO ixC v0 5) (hf : ff_GG_joint x v0 v1 = some (r, x')) {H : Heap} {locs : List Loc} {ls : Array Slot} (hP : Wd E ad ixC x H) (hS : va_S A s.heap H locs) (hl : lv_has ls 2 [(0, .ref (ad v0)), (1, .int v1)]) : W p l e rm_GG_joint s m args below meth c H locs 0 0 (MQ below (QX E ad ixC A (some (.int r)) x') args s 0 0 A) (F0 m 0 ls []) := by
  obtain ⟨hx, hb, hml, hr, hown, hts, hlk, hK⟩ := id C0
  have hf : bnd (ff_GG_isWithin x v1 0 99) (fun r_1 x_2 => (if r_1 = 0 then bnd (ff_GG_refuseBad x_2 v0) (fun r_15 x_16 => some (r_15, x_16)) else bnd (ff_LE_isFull x_2 (rf (rf v0 0) 1)) (fun r_5 x_6 => (if r_5 = 0 then bnd (ff_LE_add x_6 (rf (rf v0 0) 1) v1 0 0) (fun r_9 x_10 => some (r_9, x_10)) else bnd (ff_GG_refuseFull x_6 v0) (fun r_12 x_13 => some (r_12, x_13)))))) = some (r, x') := hf
  refine lv_iload_n hx hb dd_GG_joint_0 rfl (lv_at hl 1 rfl) ?_
  refine lv_iconst (v := 0) hx hb dd_GG_joint_1 (by decide) ?_
  refine lv_bipush (v := 99) hx hb dd_GG_joint_2 (by decide) ?_
  obtain ⟨r_1, x_2, c_3, hf⟩ := of_bnd hf
  refine cl_GG_49 C0 hap  c_3 hP hS ⟨Nat.le_of_ble_eq_true rfl, Nat.le_of_ble_eq_true rfl⟩ hl.1 (Nat.le_of_ble_eq_true rfl) dd_GG_joint_4 ⟨Nat.le_refl _, Nat.le_refl _⟩ (fun H locs hP hS => ?_)
  refine lv_if_ne (tgt := 15) hx hb dd_GG_joint_7 (by decide) (fun h_4 => ?_) (fun h_4 => ?_)
  · have hf := (if_neg h_4).symm.trans hf
    refine lv_aload_n hx hb dd_GG_joint_15 rfl (lv_at hl 0 rfl) ?_
    refine gf_GG_12 C0 hP ho_v0 dd_GG_joint_16 ?_
    refine gf_GG_74 C0 hP (tp_5_0 ho_v0) dd_GG_joint_19 ?_
    obtain ⟨r_5, x_6, c_7, hf⟩ := of_bnd hf
    refine cl_GG_61 C0 hap (tp_4_1 (tp_5_0 ho_v0)) c_7 hP hS ⟨Nat.le_of_ble_eq_true rfl, Nat.le_of_ble_eq_true rfl⟩ hl.1 (Nat.le_of_ble_eq_true rfl) dd_GG_joint_22 ⟨Nat.le_refl _, Nat.le_refl _⟩ (fun H locs hP hS => ?_)
    refine lv_if_eq (tgt := 33) hx hb dd_GG_joint_25 (by decide) (fun h_8 => ?_) (fun h_8 => ?_)
    · have hf := (if_pos h_8).symm.trans hf
      refine lv_aload_n hx hb dd_GG_joint_33 rfl (lv_at hl 0 rfl) ?_
      refine gf_GG_12 C0 hP ho_v0 dd_GG_joint_34 ?_
      refine gf_GG_74 C0 hP (tp_5_0 ho_v0) dd_GG_joint_37 ?_
      refine lv_iload_n hx hb dd_GG_joint_40 rfl (lv_at hl 1 rfl) ?_
      refine lv_iconst (v := 0) hx hb dd_GG_joint_41 (by decide) ?_
      refine lv_iconst (v := 0) hx hb dd_GG_joint_42 (by decide) ?_
      obtain ⟨r_9, x_10, c_11, hf⟩ := of_bnd hf
      refine cl_GG_77 C0 hap (tp_4_1 (tp_5_0 ho_v0)) c_11 hP hS ⟨Nat.le_of_ble_eq_true rfl, Nat.le_of_ble_eq_true rfl⟩ hl.1 (Nat.le_of_ble_eq_true rfl) dd_GG_joint_43 ⟨Nat.le_refl _, Nat.le_refl _⟩ (fun H locs hP hS => ?_)
      exact rrI C0 hP hS dd_GG_joint_46 hf
    · have hf := (if_neg h_8).symm.trans hf
      refine lv_aload_n hx hb dd_GG_joint_28 rfl (lv_at hl 0 rfl) ?_
      obtain ⟨r_12, x_13, c_14, hf⟩ := of_bnd hf
      refine cl_GG_67 C0 hap ho_v0 c_14 hP hS ⟨Nat.le_of_ble_eq_true rfl, Nat.le_of_ble_eq_true rfl⟩ hl.1 (Nat.le_of_ble_eq_true rfl) dd_GG_joint_29 ⟨Nat.le_refl _, Nat.le_refl _⟩ (fun H locs hP hS => ?_)
      exact rrI C0 hP hS dd_GG_joint_32 hf
  · have hf := (if_pos h_4).symm.trans hf
    refine lv_aload_n hx hb dd_GG_joint_10 rfl (lv_at hl 0 rfl) ?_
    obtain ⟨r_15, x_16, c_17, hf⟩ := of_bnd hf
    refine cl_GG_53 C0 hap ho_v0 c_17 hP hS ⟨Nat.le_of_ble_eq_true rfl, Nat.le_of_ble_eq_true rfl⟩ hl.1 (Nat.le_of_ble_eq_true rfl) dd_GG_joint_11 ⟨Nat.le_refl _, Nat.le_refl _⟩ (fun H locs hP hS => ?_)
    exact rrI C0 hP hS dd_GG_joint_14 hf
theorem cc_GG_joint {l : Launch} {E : Ev} {A : Nat → Prop} {ad : Nat → Nat} (hap : Ap ad ixC A) {x x' : St} {v0 : Nat} {v1 : Int32} {r : Int32} (ho_v0 : isO ixC v0 5) (hf : ff_GG_joint x v0 v1 = some (r, x')) : Met l yy_GG_joint (Cond.code yy_GG_joint bb_GG_joint 2 (some .int) :: gtb) rm_GG_joint (va_Pc [.ref (ad v0), .int v1] (PB E A ad ixC x)) (QX E ad ixC A (some (.int r)) x') 0 0 A := by
  exact enter (by decide) (Nat.le_of_ble_eq_true rfl) (fun p e s m below meth c ls C0 hP hS hl => ww_GG_joint C0 hap ho_v0 hf hP hS hl)
theorem cl_GG_80 {p : Program} {l : Launch} {e : Env} {R : Room} {s : State} {m : MethodId} {args : Array Value} {below : List Frame} {meth : Method} {c : Code} {H : Heap} {locs : List Loc} {cells slots : Nat} {Q : State → Prop} {cc : ByteArray} {pc : Nat} {ls : Array Slot} {rest : List Value} {E : Ev} {A : Nat → Prop} {ad : Nat → Nat} {nL : Nat} {rt : Option FieldType} (C0 : Cx E A RGG cc nL rt p s m args meth c) (hap : Ap ad ixC A) {x x' : St} {v0 : Nat} {r : Int32} (ho_v0 : isO ixC v0 4) (hc : ff_SH_allJoints x v0 = some (r, x')) (hP : Wd E ad ixC x H) (hS : va_S A s.heap H locs) (hR : rm_SH_allJoints.frames + 1 ≤ R.frames ∧ 8 + (1 + 11) + rm_SH_allJoints.locals ≤ R.locals) (hls : ls.size = nL) (hroom : (rest.map fun v => v.category).sum ≤ 8) (hdg : decode cc pc = .ok (.invokevirtual 80, 3)) (hf : cells ≤ R.cells ∧ slots ≤ R.slots) (kk : ∀ H1 locs1, Wd E ad ixC x' H1 → va_S A s.heap H1 locs1 → W p l e R s m args below meth c H1 locs1 cells slots Q (F0 m (pc + 3) ls (.int r :: rest))) : W p l e R s m args below meth c H locs cells slots Q (F0 m pc ls (.ref (ad v0) :: rest)) :=
  rcV (n := 0) C0 (cc_SH_allJoints hap ho_v0 hc) hP hS ho_v0 vcl_4 (by decide) gw_code_SH_allJoints gw_m_GG_80 gw_inst_SH_allJoints gw_sel_SH_allJoints gw_ini_SH rfl rfl (by decide +kernel) rfl hR hls rfl hroom hdg hf (fun H1 locs1 a _ _ b => kk H1 locs1 a b)
abbrev rm_GG_piece : Room := { frames := 2, cells := 0, slots := 0, locals := 44 }
theorem dd_GG_piece_0 : decode bb_GG_piece 0 = .ok (.iload_n 1, 1) := by decide +kernel
theorem dd_GG_piece_1 : decode bb_GG_piece 1 = .ok (.iconst 1, 1) := by decide +kernel
theorem dd_GG_piece_2 : decode bb_GG_piece 2 = .ok (.aload_n 0, 1) := by decide +kernel
theorem dd_GG_piece_3 : decode bb_GG_piece 3 = .ok (.getfield 12, 3) := by decide +kernel
theorem dd_GG_piece_6 : decode bb_GG_piece 6 = .ok (.invokevirtual 80, 3) := by decide +kernel
theorem dd_GG_piece_9 : decode bb_GG_piece 9 = .ok (.invokestatic 49, 3) := by decide +kernel
theorem dd_GG_piece_12 : decode bb_GG_piece 12 = .ok (.ifCond .eq 13, 3) := by decide +kernel
theorem dd_GG_piece_15 : decode bb_GG_piece 15 = .ok (.iload_n 2, 1) := by decide +kernel
theorem dd_GG_piece_16 : decode bb_GG_piece 16 = .ok (.iconst 0, 1) := by decide +kernel
theorem dd_GG_piece_17 : decode bb_GG_piece 17 = .ok (.bipush 99, 2) := by decide +kernel
theorem dd_GG_piece_19 : decode bb_GG_piece 19 = .ok (.invokestatic 49, 3) := by decide +kernel
theorem dd_GG_piece_22 : decode bb_GG_piece 22 = .ok (.ifCond .ne 8, 3) := by decide +kernel
theorem dd_GG_piece_25 : decode bb_GG_piece 25 = .ok (.aload_n 0, 1) := by decide +kernel
theorem dd_GG_piece_26 : decode bb_GG_piece 26 = .ok (.invokevirtual 53, 3) := by decide +kernel
theorem dd_GG_piece_29 : decode bb_GG_piece 29 = .ok (.ireturn, 1) := by decide +kernel
theorem dd_GG_piece_30 : decode bb_GG_piece 30 = .ok (.aload_n 0, 1) := by decide +kernel
theorem dd_GG_piece_31 : decode bb_GG_piece 31 = .ok (.getfield 12, 3) := by decide +kernel
theorem dd_GG_piece_34 : decode bb_GG_piece 34 = .ok (.getfield 83, 3) := by decide +kernel
theorem dd_GG_piece_37 : decode bb_GG_piece 37 = .ok (.invokevirtual 61, 3) := by decide +kernel
theorem dd_GG_piece_40 : decode bb_GG_piece 40 = .ok (.ifCond .eq 8, 3) := by decide +kernel
theorem dd_GG_piece_43 : decode bb_GG_piece 43 = .ok (.aload_n 0, 1) := by decide +kernel
theorem dd_GG_piece_44 : decode bb_GG_piece 44 = .ok (.invokevirtual 67, 3) := by decide +kernel
theorem dd_GG_piece_47 : decode bb_GG_piece 47 = .ok (.ireturn, 1) := by decide +kernel
theorem dd_GG_piece_48 : decode bb_GG_piece 48 = .ok (.aload_n 0, 1) := by decide +kernel
theorem dd_GG_piece_49 : decode bb_GG_piece 49 = .ok (.getfield 12, 3) := by decide +kernel
theorem dd_GG_piece_52 : decode bb_GG_piece 52 = .ok (.getfield 83, 3) := by decide +kernel
theorem dd_GG_piece_55 : decode bb_GG_piece 55 = .ok (.iload_n 1, 1) := by decide +kernel
theorem dd_GG_piece_56 : decode bb_GG_piece 56 = .ok (.iload_n 2, 1) := by decide +kernel
theorem dd_GG_piece_57 : decode bb_GG_piece 57 = .ok (.iconst 0, 1) := by decide +kernel
theorem dd_GG_piece_58 : decode bb_GG_piece 58 = .ok (.invokevirtual 77, 3) := by decide +kernel
theorem dd_GG_piece_61 : decode bb_GG_piece 61 = .ok (.ireturn, 1) := by decide +kernel
def ff_GG_piece  (x : St) (v0 : Nat) (v1 : Int32) (v2 : Int32) : Option (Int32 × St) := bnd (ff_SH_allJoints x (rf v0 0)) (fun r_1 x_2 => bnd (ff_GG_isWithin x_2 v1 1 r_1) (fun r_4 x_5 => (if r_4 = 0 then bnd (ff_GG_refuseBad x_5 v0) (fun r_8 x_9 => some (r_8, x_9)) else bnd (ff_GG_isWithin x_5 v2 0 99) (fun r_11 x_12 => (if r_11 = 0 then bnd (ff_GG_refuseBad x_12 v0) (fun r_25 x_26 => some (r_25, x_26)) else bnd (ff_LE_isFull x_12 (rf (rf v0 0) 2)) (fun r_15 x_16 => (if r_15 = 0 then bnd (ff_LE_add x_16 (rf (rf v0 0) 2) v1 v2 0) (fun r_19 x_20 => some (r_19, x_20)) else bnd (ff_GG_refuseFull x_16 v0) (fun r_22 x_23 => some (r_22, x_23)))))))))
set_option maxHeartbeats 4000000 in
set_option maxRecDepth 100000 in
theorem ww_GG_piece {p : Program} {l : Launch} {e : Env} {s : State} {m : MethodId} {args : Array Value} {below : List Frame} {meth : Method} {c : Code} {E : Ev} {A : Nat → Prop} {ad : Nat → Nat} {r : Int32} {x' : St} (C0 : Cx E A RGG bb_GG_piece 3 (some .int) p s m args meth c) (hap : Ap ad ixC A)  {x : St} {v0 : Nat} {v1 : Int32} {v2 : Int32} (ho_v0 : isO ixC v0 5) (hf : ff_GG_piece x v0 v1 v2 = some (r, x')) {H : Heap} {locs : List Loc} {ls : Array Slot} (hP : Wd E ad ixC x H) (hS : va_S A s.heap H locs) (hl : lv_has ls 3 [(0, .ref (ad v0)), (1, .int v1), (2, .int v2)]) : W p l e rm_GG_piece s m args below meth c H locs 0 0 (MQ below (QX E ad ixC A (some (.int r)) x') args s 0 0 A) (F0 m 0 ls []) := by
  obtain ⟨hx, hb, hml, hr, hown, hts, hlk, hK⟩ := id C0
  have hf : bnd (ff_SH_allJoints x (rf v0 0)) (fun r_1 x_2 => bnd (ff_GG_isWithin x_2 v1 1 r_1) (fun r_4 x_5 => (if r_4 = 0 then bnd (ff_GG_refuseBad x_5 v0) (fun r_8 x_9 => some (r_8, x_9)) else bnd (ff_GG_isWithin x_5 v2 0 99) (fun r_11 x_12 => (if r_11 = 0 then bnd (ff_GG_refuseBad x_12 v0) (fun r_25 x_26 => some (r_25, x_26)) else bnd (ff_LE_isFull x_12 (rf (rf v0 0) 2)) (fun r_15 x_16 => (if r_15 = 0 then bnd (ff_LE_add x_16 (rf (rf v0 0) 2) v1 v2 0) (fun r_19 x_20 => some (r_19, x_20)) else bnd (ff_GG_refuseFull x_16 v0) (fun r_22 x_23 => some (r_22, x_23))))))))) = some (r, x') := hf
  refine lv_iload_n hx hb dd_GG_piece_0 rfl (lv_at hl 1 rfl) ?_
  refine lv_iconst (v := 1) hx hb dd_GG_piece_1 (by decide) ?_
  refine lv_aload_n hx hb dd_GG_piece_2 rfl (lv_at hl 0 rfl) ?_
  refine gf_GG_12 C0 hP ho_v0 dd_GG_piece_3 ?_
  obtain ⟨r_1, x_2, c_3, hf⟩ := of_bnd hf
  refine cl_GG_80 C0 hap (tp_5_0 ho_v0) c_3 hP hS ⟨Nat.le_of_ble_eq_true rfl, Nat.le_of_ble_eq_true rfl⟩ hl.1 (Nat.le_of_ble_eq_true rfl) dd_GG_piece_6 ⟨Nat.le_refl _, Nat.le_refl _⟩ (fun H locs hP hS => ?_)
  obtain ⟨r_4, x_5, c_6, hf⟩ := of_bnd hf
  refine cl_GG_49 C0 hap  c_6 hP hS ⟨Nat.le_of_ble_eq_true rfl, Nat.le_of_ble_eq_true rfl⟩ hl.1 (Nat.le_of_ble_eq_true rfl) dd_GG_piece_9 ⟨Nat.le_refl _, Nat.le_refl _⟩ (fun H locs hP hS => ?_)
  refine lv_if_eq (tgt := 25) hx hb dd_GG_piece_12 (by decide) (fun h_7 => ?_) (fun h_7 => ?_)
  · have hf := (if_pos h_7).symm.trans hf
    refine lv_aload_n hx hb dd_GG_piece_25 rfl (lv_at hl 0 rfl) ?_
    obtain ⟨r_8, x_9, c_10, hf⟩ := of_bnd hf
    refine cl_GG_53 C0 hap ho_v0 c_10 hP hS ⟨Nat.le_of_ble_eq_true rfl, Nat.le_of_ble_eq_true rfl⟩ hl.1 (Nat.le_of_ble_eq_true rfl) dd_GG_piece_26 ⟨Nat.le_refl _, Nat.le_refl _⟩ (fun H locs hP hS => ?_)
    exact rrI C0 hP hS dd_GG_piece_29 hf
  · have hf := (if_neg h_7).symm.trans hf
    refine lv_iload_n hx hb dd_GG_piece_15 rfl (lv_at hl 2 rfl) ?_
    refine lv_iconst (v := 0) hx hb dd_GG_piece_16 (by decide) ?_
    refine lv_bipush (v := 99) hx hb dd_GG_piece_17 (by decide) ?_
    obtain ⟨r_11, x_12, c_13, hf⟩ := of_bnd hf
    refine cl_GG_49 C0 hap  c_13 hP hS ⟨Nat.le_of_ble_eq_true rfl, Nat.le_of_ble_eq_true rfl⟩ hl.1 (Nat.le_of_ble_eq_true rfl) dd_GG_piece_19 ⟨Nat.le_refl _, Nat.le_refl _⟩ (fun H locs hP hS => ?_)
    refine lv_if_ne (tgt := 30) hx hb dd_GG_piece_22 (by decide) (fun h_14 => ?_) (fun h_14 => ?_)
    · have hf := (if_neg h_14).symm.trans hf
      refine lv_aload_n hx hb dd_GG_piece_30 rfl (lv_at hl 0 rfl) ?_
      refine gf_GG_12 C0 hP ho_v0 dd_GG_piece_31 ?_
      refine gf_GG_83 C0 hP (tp_5_0 ho_v0) dd_GG_piece_34 ?_
      obtain ⟨r_15, x_16, c_17, hf⟩ := of_bnd hf
      refine cl_GG_61 C0 hap (tp_4_2 (tp_5_0 ho_v0)) c_17 hP hS ⟨Nat.le_of_ble_eq_true rfl, Nat.le_of_ble_eq_true rfl⟩ hl.1 (Nat.le_of_ble_eq_true rfl) dd_GG_piece_37 ⟨Nat.le_refl _, Nat.le_refl _⟩ (fun H locs hP hS => ?_)
      refine lv_if_eq (tgt := 48) hx hb dd_GG_piece_40 (by decide) (fun h_18 => ?_) (fun h_18 => ?_)
      · have hf := (if_pos h_18).symm.trans hf
        refine lv_aload_n hx hb dd_GG_piece_48 rfl (lv_at hl 0 rfl) ?_
        refine gf_GG_12 C0 hP ho_v0 dd_GG_piece_49 ?_
        refine gf_GG_83 C0 hP (tp_5_0 ho_v0) dd_GG_piece_52 ?_
        refine lv_iload_n hx hb dd_GG_piece_55 rfl (lv_at hl 1 rfl) ?_
        refine lv_iload_n hx hb dd_GG_piece_56 rfl (lv_at hl 2 rfl) ?_
        refine lv_iconst (v := 0) hx hb dd_GG_piece_57 (by decide) ?_
        obtain ⟨r_19, x_20, c_21, hf⟩ := of_bnd hf
        refine cl_GG_77 C0 hap (tp_4_2 (tp_5_0 ho_v0)) c_21 hP hS ⟨Nat.le_of_ble_eq_true rfl, Nat.le_of_ble_eq_true rfl⟩ hl.1 (Nat.le_of_ble_eq_true rfl) dd_GG_piece_58 ⟨Nat.le_refl _, Nat.le_refl _⟩ (fun H locs hP hS => ?_)
        exact rrI C0 hP hS dd_GG_piece_61 hf
      · have hf := (if_neg h_18).symm.trans hf
        refine lv_aload_n hx hb dd_GG_piece_43 rfl (lv_at hl 0 rfl) ?_
        obtain ⟨r_22, x_23, c_24, hf⟩ := of_bnd hf
        refine cl_GG_67 C0 hap ho_v0 c_24 hP hS ⟨Nat.le_of_ble_eq_true rfl, Nat.le_of_ble_eq_true rfl⟩ hl.1 (Nat.le_of_ble_eq_true rfl) dd_GG_piece_44 ⟨Nat.le_refl _, Nat.le_refl _⟩ (fun H locs hP hS => ?_)
        exact rrI C0 hP hS dd_GG_piece_47 hf
    · have hf := (if_pos h_14).symm.trans hf
      refine lv_aload_n hx hb dd_GG_piece_25 rfl (lv_at hl 0 rfl) ?_
      obtain ⟨r_25, x_26, c_27, hf⟩ := of_bnd hf
      refine cl_GG_53 C0 hap ho_v0 c_27 hP hS ⟨Nat.le_of_ble_eq_true rfl, Nat.le_of_ble_eq_true rfl⟩ hl.1 (Nat.le_of_ble_eq_true rfl) dd_GG_piece_26 ⟨Nat.le_refl _, Nat.le_refl _⟩ (fun H locs hP hS => ?_)
      exact rrI C0 hP hS dd_GG_piece_29 hf
theorem cc_GG_piece {l : Launch} {E : Ev} {A : Nat → Prop} {ad : Nat → Nat} (hap : Ap ad ixC A) {x x' : St} {v0 : Nat} {v1 : Int32} {v2 : Int32} {r : Int32} (ho_v0 : isO ixC v0 5) (hf : ff_GG_piece x v0 v1 v2 = some (r, x')) : Met l yy_GG_piece (Cond.code yy_GG_piece bb_GG_piece 3 (some .int) :: gtb) rm_GG_piece (va_Pc [.ref (ad v0), .int v1, .int v2] (PB E A ad ixC x)) (QX E ad ixC A (some (.int r)) x') 0 0 A := by
  exact enter (by decide) (Nat.le_of_ble_eq_true rfl) (fun p e s m below meth c ls C0 hP hS hl => ww_GG_piece C0 hap ho_v0 hf hP hS hl)
theorem cl_GG_86 {p : Program} {l : Launch} {e : Env} {R : Room} {s : State} {m : MethodId} {args : Array Value} {below : List Frame} {meth : Method} {c : Code} {H : Heap} {locs : List Loc} {cells slots : Nat} {Q : State → Prop} {cc : ByteArray} {pc : Nat} {ls : Array Slot} {rest : List Value} {E : Ev} {A : Nat → Prop} {ad : Nat → Nat} {nL : Nat} {rt : Option FieldType} (C0 : Cx E A RGG cc nL rt p s m args meth c) (hap : Ap ad ixC A) {x x' : St} {v0 : Nat} {v1 : Int32} {r : Int32} (ho_v0 : isO ixC v0 1) (hc : ff_LE_has x v0 v1 = some (r, x')) (hP : Wd E ad ixC x H) (hS : va_S A s.heap H locs) (hR : rm_LE_has.frames + 1 ≤ R.frames ∧ 8 + (2 + 11) + rm_LE_has.locals ≤ R.locals) (hls : ls.size = nL) (hroom : (rest.map fun v => v.category).sum ≤ 8) (hdg : decode cc pc = .ok (.invokevirtual 86, 3)) (hf : cells ≤ R.cells ∧ slots ≤ R.slots) (kk : ∀ H1 locs1, Wd E ad ixC x' H1 → va_S A s.heap H1 locs1 → W p l e R s m args below meth c H1 locs1 cells slots Q (F0 m (pc + 3) ls (.int r :: rest))) : W p l e R s m args below meth c H locs cells slots Q (F0 m pc ls (.int v1 :: .ref (ad v0) :: rest)) :=
  rcV (n := 1) C0 (cc_LE_has hap ho_v0 hc) hP hS ho_v0 vcl_1 (by decide) gw_code_LE_has gw_m_GG_86 gw_inst_LE_has gw_sel_LE_has gw_ini_LE rfl rfl (by decide +kernel) rfl hR hls rfl hroom hdg hf (fun H1 locs1 a _ _ b => kk H1 locs1 a b)
theorem cl_GG_93 {p : Program} {l : Launch} {e : Env} {R : Room} {s : State} {m : MethodId} {args : Array Value} {below : List Frame} {meth : Method} {c : Code} {H : Heap} {locs : List Loc} {cells slots : Nat} {Q : State → Prop} {cc : ByteArray} {pc : Nat} {ls : Array Slot} {rest : List Value} {E : Ev} {A : Nat → Prop} {ad : Nat → Nat} {nL : Nat} {rt : Option FieldType} (C0 : Cx E A RGG cc nL rt p s m args meth c) (hap : Ap ad ixC A) {x x' : St} {v0 : Nat} {v1 : Int32} {v2 : Int32} {v3 : Int32} {r : Int32} (ho_v0 : isO ixC v0 4) (hc : ff_SH_addFeast x v0 v1 v2 v3 = some (r, x')) (hP : Wd E ad ixC x H) (hS : va_S A s.heap H locs) (hR : rm_SH_addFeast.frames + 1 ≤ R.frames ∧ 8 + (5 + 11) + rm_SH_addFeast.locals ≤ R.locals) (hls : ls.size = nL) (hroom : (rest.map fun v => v.category).sum ≤ 8) (hdg : decode cc pc = .ok (.invokevirtual 93, 3)) (hf : cells ≤ R.cells ∧ slots ≤ R.slots) (kk : ∀ H1 locs1, Wd E ad ixC x' H1 → va_S A s.heap H1 locs1 → W p l e R s m args below meth c H1 locs1 cells slots Q (F0 m (pc + 3) ls (.int r :: rest))) : W p l e R s m args below meth c H locs cells slots Q (F0 m pc ls (.int v3 :: .int v2 :: .int v1 :: .ref (ad v0) :: rest)) :=
  rcV (n := 3) C0 (cc_SH_addFeast hap ho_v0 hc) hP hS ho_v0 vcl_4 (by decide) gw_code_SH_addFeast gw_m_GG_93 gw_inst_SH_addFeast gw_sel_SH_addFeast gw_ini_SH rfl rfl (by decide +kernel) rfl hR hls rfl hroom hdg hf (fun H1 locs1 a _ _ b => kk H1 locs1 a b)
abbrev rm_GG_feast : Room := { frames := 6, cells := 0, slots := 0, locals := 138 }
theorem dd_GG_feast_0 : decode bb_GG_feast 0 = .ok (.iload_n 1, 1) := by decide +kernel
theorem dd_GG_feast_1 : decode bb_GG_feast 1 = .ok (.iconst 0, 1) := by decide +kernel
theorem dd_GG_feast_2 : decode bb_GG_feast 2 = .ok (.iconst 1, 1) := by decide +kernel
theorem dd_GG_feast_3 : decode bb_GG_feast 3 = .ok (.invokestatic 49, 3) := by decide +kernel
theorem dd_GG_feast_6 : decode bb_GG_feast 6 = .ok (.ifCond .eq 27, 3) := by decide +kernel
theorem dd_GG_feast_9 : decode bb_GG_feast 9 = .ok (.iload_n 2, 1) := by decide +kernel
theorem dd_GG_feast_10 : decode bb_GG_feast 10 = .ok (.iconst 1, 1) := by decide +kernel
theorem dd_GG_feast_11 : decode bb_GG_feast 11 = .ok (.bipush 99, 2) := by decide +kernel
theorem dd_GG_feast_13 : decode bb_GG_feast 13 = .ok (.invokestatic 49, 3) := by decide +kernel
theorem dd_GG_feast_16 : decode bb_GG_feast 16 = .ok (.ifCond .eq 17, 3) := by decide +kernel
theorem dd_GG_feast_19 : decode bb_GG_feast 19 = .ok (.aload_n 0, 1) := by decide +kernel
theorem dd_GG_feast_20 : decode bb_GG_feast 20 = .ok (.getfield 12, 3) := by decide +kernel
theorem dd_GG_feast_23 : decode bb_GG_feast 23 = .ok (.getfield 57, 3) := by decide +kernel
theorem dd_GG_feast_26 : decode bb_GG_feast 26 = .ok (.iload_n 3, 1) := by decide +kernel
theorem dd_GG_feast_27 : decode bb_GG_feast 27 = .ok (.invokevirtual 86, 3) := by decide +kernel
theorem dd_GG_feast_30 : decode bb_GG_feast 30 = .ok (.ifCond .ne 8, 3) := by decide +kernel
theorem dd_GG_feast_33 : decode bb_GG_feast 33 = .ok (.aload_n 0, 1) := by decide +kernel
theorem dd_GG_feast_34 : decode bb_GG_feast 34 = .ok (.invokevirtual 53, 3) := by decide +kernel
theorem dd_GG_feast_37 : decode bb_GG_feast 37 = .ok (.ireturn, 1) := by decide +kernel
theorem dd_GG_feast_38 : decode bb_GG_feast 38 = .ok (.aload_n 0, 1) := by decide +kernel
theorem dd_GG_feast_39 : decode bb_GG_feast 39 = .ok (.getfield 12, 3) := by decide +kernel
theorem dd_GG_feast_42 : decode bb_GG_feast 42 = .ok (.getfield 90, 3) := by decide +kernel
theorem dd_GG_feast_45 : decode bb_GG_feast 45 = .ok (.invokevirtual 61, 3) := by decide +kernel
theorem dd_GG_feast_48 : decode bb_GG_feast 48 = .ok (.ifCond .eq 8, 3) := by decide +kernel
theorem dd_GG_feast_51 : decode bb_GG_feast 51 = .ok (.aload_n 0, 1) := by decide +kernel
theorem dd_GG_feast_52 : decode bb_GG_feast 52 = .ok (.invokevirtual 67, 3) := by decide +kernel
theorem dd_GG_feast_55 : decode bb_GG_feast 55 = .ok (.ireturn, 1) := by decide +kernel
theorem dd_GG_feast_56 : decode bb_GG_feast 56 = .ok (.aload_n 0, 1) := by decide +kernel
theorem dd_GG_feast_57 : decode bb_GG_feast 57 = .ok (.getfield 12, 3) := by decide +kernel
theorem dd_GG_feast_60 : decode bb_GG_feast 60 = .ok (.iload_n 1, 1) := by decide +kernel
theorem dd_GG_feast_61 : decode bb_GG_feast 61 = .ok (.iload_n 2, 1) := by decide +kernel
theorem dd_GG_feast_62 : decode bb_GG_feast 62 = .ok (.iload_n 3, 1) := by decide +kernel
theorem dd_GG_feast_63 : decode bb_GG_feast 63 = .ok (.invokevirtual 93, 3) := by decide +kernel
theorem dd_GG_feast_66 : decode bb_GG_feast 66 = .ok (.ireturn, 1) := by decide +kernel
def ff_GG_feast  (x : St) (v0 : Nat) (v1 : Int32) (v2 : Int32) (v3 : Int32) : Option (Int32 × St) := bnd (ff_GG_isWithin x v1 0 1) (fun r_1 x_2 => (if r_1 = 0 then bnd (ff_GG_refuseBad x_2 v0) (fun r_5 x_6 => some (r_5, x_6)) else bnd (ff_GG_isWithin x_2 v2 1 99) (fun r_8 x_9 => (if r_8 = 0 then bnd (ff_GG_refuseBad x_9 v0) (fun r_12 x_13 => some (r_12, x_13)) else bnd (ff_LE_has x_9 (rf (rf v0 0) 0) v3) (fun r_15 x_16 => (if r_15 = 0 then bnd (ff_GG_refuseBad x_16 v0) (fun r_29 x_30 => some (r_29, x_30)) else bnd (ff_LE_isFull x_16 (rf (rf v0 0) 3)) (fun r_19 x_20 => (if r_19 = 0 then bnd (ff_SH_addFeast x_20 (rf v0 0) v1 v2 v3) (fun r_23 x_24 => some (r_23, x_24)) else bnd (ff_GG_refuseFull x_20 v0) (fun r_26 x_27 => some (r_26, x_27))))))))))
set_option maxHeartbeats 4000000 in
set_option maxRecDepth 100000 in
theorem ww_GG_feast {p : Program} {l : Launch} {e : Env} {s : State} {m : MethodId} {args : Array Value} {below : List Frame} {meth : Method} {c : Code} {E : Ev} {A : Nat → Prop} {ad : Nat → Nat} {r : Int32} {x' : St} (C0 : Cx E A RGG bb_GG_feast 4 (some .int) p s m args meth c) (hap : Ap ad ixC A)  {x : St} {v0 : Nat} {v1 : Int32} {v2 : Int32} {v3 : Int32} (ho_v0 : isO ixC v0 5) (hf : ff_GG_feast x v0 v1 v2 v3 = some (r, x')) {H : Heap} {locs : List Loc} {ls : Array Slot} (hP : Wd E ad ixC x H) (hS : va_S A s.heap H locs) (hl : lv_has ls 4 [(0, .ref (ad v0)), (1, .int v1), (2, .int v2), (3, .int v3)]) : W p l e rm_GG_feast s m args below meth c H locs 0 0 (MQ below (QX E ad ixC A (some (.int r)) x') args s 0 0 A) (F0 m 0 ls []) := by
  obtain ⟨hx, hb, hml, hr, hown, hts, hlk, hK⟩ := id C0
  have hf : bnd (ff_GG_isWithin x v1 0 1) (fun r_1 x_2 => (if r_1 = 0 then bnd (ff_GG_refuseBad x_2 v0) (fun r_5 x_6 => some (r_5, x_6)) else bnd (ff_GG_isWithin x_2 v2 1 99) (fun r_8 x_9 => (if r_8 = 0 then bnd (ff_GG_refuseBad x_9 v0) (fun r_12 x_13 => some (r_12, x_13)) else bnd (ff_LE_has x_9 (rf (rf v0 0) 0) v3) (fun r_15 x_16 => (if r_15 = 0 then bnd (ff_GG_refuseBad x_16 v0) (fun r_29 x_30 => some (r_29, x_30)) else bnd (ff_LE_isFull x_16 (rf (rf v0 0) 3)) (fun r_19 x_20 => (if r_19 = 0 then bnd (ff_SH_addFeast x_20 (rf v0 0) v1 v2 v3) (fun r_23 x_24 => some (r_23, x_24)) else bnd (ff_GG_refuseFull x_20 v0) (fun r_26 x_27 => some (r_26, x_27)))))))))) = some (r, x') := hf
  refine lv_iload_n hx hb dd_GG_feast_0 rfl (lv_at hl 1 rfl) ?_
  refine lv_iconst (v := 0) hx hb dd_GG_feast_1 (by decide) ?_
  refine lv_iconst (v := 1) hx hb dd_GG_feast_2 (by decide) ?_
  obtain ⟨r_1, x_2, c_3, hf⟩ := of_bnd hf
  refine cl_GG_49 C0 hap  c_3 hP hS ⟨Nat.le_of_ble_eq_true rfl, Nat.le_of_ble_eq_true rfl⟩ hl.1 (Nat.le_of_ble_eq_true rfl) dd_GG_feast_3 ⟨Nat.le_refl _, Nat.le_refl _⟩ (fun H locs hP hS => ?_)
  refine lv_if_eq (tgt := 33) hx hb dd_GG_feast_6 (by decide) (fun h_4 => ?_) (fun h_4 => ?_)
  · have hf := (if_pos h_4).symm.trans hf
    refine lv_aload_n hx hb dd_GG_feast_33 rfl (lv_at hl 0 rfl) ?_
    obtain ⟨r_5, x_6, c_7, hf⟩ := of_bnd hf
    refine cl_GG_53 C0 hap ho_v0 c_7 hP hS ⟨Nat.le_of_ble_eq_true rfl, Nat.le_of_ble_eq_true rfl⟩ hl.1 (Nat.le_of_ble_eq_true rfl) dd_GG_feast_34 ⟨Nat.le_refl _, Nat.le_refl _⟩ (fun H locs hP hS => ?_)
    exact rrI C0 hP hS dd_GG_feast_37 hf
  · have hf := (if_neg h_4).symm.trans hf
    refine lv_iload_n hx hb dd_GG_feast_9 rfl (lv_at hl 2 rfl) ?_
    refine lv_iconst (v := 1) hx hb dd_GG_feast_10 (by decide) ?_
    refine lv_bipush (v := 99) hx hb dd_GG_feast_11 (by decide) ?_
    obtain ⟨r_8, x_9, c_10, hf⟩ := of_bnd hf
    refine cl_GG_49 C0 hap  c_10 hP hS ⟨Nat.le_of_ble_eq_true rfl, Nat.le_of_ble_eq_true rfl⟩ hl.1 (Nat.le_of_ble_eq_true rfl) dd_GG_feast_13 ⟨Nat.le_refl _, Nat.le_refl _⟩ (fun H locs hP hS => ?_)
    refine lv_if_eq (tgt := 33) hx hb dd_GG_feast_16 (by decide) (fun h_11 => ?_) (fun h_11 => ?_)
    · have hf := (if_pos h_11).symm.trans hf
      refine lv_aload_n hx hb dd_GG_feast_33 rfl (lv_at hl 0 rfl) ?_
      obtain ⟨r_12, x_13, c_14, hf⟩ := of_bnd hf
      refine cl_GG_53 C0 hap ho_v0 c_14 hP hS ⟨Nat.le_of_ble_eq_true rfl, Nat.le_of_ble_eq_true rfl⟩ hl.1 (Nat.le_of_ble_eq_true rfl) dd_GG_feast_34 ⟨Nat.le_refl _, Nat.le_refl _⟩ (fun H locs hP hS => ?_)
      exact rrI C0 hP hS dd_GG_feast_37 hf
    · have hf := (if_neg h_11).symm.trans hf
      refine lv_aload_n hx hb dd_GG_feast_19 rfl (lv_at hl 0 rfl) ?_
      refine gf_GG_12 C0 hP ho_v0 dd_GG_feast_20 ?_
      refine gf_GG_57 C0 hP (tp_5_0 ho_v0) dd_GG_feast_23 ?_
      refine lv_iload_n hx hb dd_GG_feast_26 rfl (lv_at hl 3 rfl) ?_
      obtain ⟨r_15, x_16, c_17, hf⟩ := of_bnd hf
      refine cl_GG_86 C0 hap (tp_4_0 (tp_5_0 ho_v0)) c_17 hP hS ⟨Nat.le_of_ble_eq_true rfl, Nat.le_of_ble_eq_true rfl⟩ hl.1 (Nat.le_of_ble_eq_true rfl) dd_GG_feast_27 ⟨Nat.le_refl _, Nat.le_refl _⟩ (fun H locs hP hS => ?_)
      refine lv_if_ne (tgt := 38) hx hb dd_GG_feast_30 (by decide) (fun h_18 => ?_) (fun h_18 => ?_)
      · have hf := (if_neg h_18).symm.trans hf
        refine lv_aload_n hx hb dd_GG_feast_38 rfl (lv_at hl 0 rfl) ?_
        refine gf_GG_12 C0 hP ho_v0 dd_GG_feast_39 ?_
        refine gf_GG_90 C0 hP (tp_5_0 ho_v0) dd_GG_feast_42 ?_
        obtain ⟨r_19, x_20, c_21, hf⟩ := of_bnd hf
        refine cl_GG_61 C0 hap (tp_4_3 (tp_5_0 ho_v0)) c_21 hP hS ⟨Nat.le_of_ble_eq_true rfl, Nat.le_of_ble_eq_true rfl⟩ hl.1 (Nat.le_of_ble_eq_true rfl) dd_GG_feast_45 ⟨Nat.le_refl _, Nat.le_refl _⟩ (fun H locs hP hS => ?_)
        refine lv_if_eq (tgt := 56) hx hb dd_GG_feast_48 (by decide) (fun h_22 => ?_) (fun h_22 => ?_)
        · have hf := (if_pos h_22).symm.trans hf
          refine lv_aload_n hx hb dd_GG_feast_56 rfl (lv_at hl 0 rfl) ?_
          refine gf_GG_12 C0 hP ho_v0 dd_GG_feast_57 ?_
          refine lv_iload_n hx hb dd_GG_feast_60 rfl (lv_at hl 1 rfl) ?_
          refine lv_iload_n hx hb dd_GG_feast_61 rfl (lv_at hl 2 rfl) ?_
          refine lv_iload_n hx hb dd_GG_feast_62 rfl (lv_at hl 3 rfl) ?_
          obtain ⟨r_23, x_24, c_25, hf⟩ := of_bnd hf
          refine cl_GG_93 C0 hap (tp_5_0 ho_v0) c_25 hP hS ⟨Nat.le_of_ble_eq_true rfl, Nat.le_of_ble_eq_true rfl⟩ hl.1 (Nat.le_of_ble_eq_true rfl) dd_GG_feast_63 ⟨Nat.le_refl _, Nat.le_refl _⟩ (fun H locs hP hS => ?_)
          exact rrI C0 hP hS dd_GG_feast_66 hf
        · have hf := (if_neg h_22).symm.trans hf
          refine lv_aload_n hx hb dd_GG_feast_51 rfl (lv_at hl 0 rfl) ?_
          obtain ⟨r_26, x_27, c_28, hf⟩ := of_bnd hf
          refine cl_GG_67 C0 hap ho_v0 c_28 hP hS ⟨Nat.le_of_ble_eq_true rfl, Nat.le_of_ble_eq_true rfl⟩ hl.1 (Nat.le_of_ble_eq_true rfl) dd_GG_feast_52 ⟨Nat.le_refl _, Nat.le_refl _⟩ (fun H locs hP hS => ?_)
          exact rrI C0 hP hS dd_GG_feast_55 hf
      · have hf := (if_pos h_18).symm.trans hf
        refine lv_aload_n hx hb dd_GG_feast_33 rfl (lv_at hl 0 rfl) ?_
        obtain ⟨r_29, x_30, c_31, hf⟩ := of_bnd hf
        refine cl_GG_53 C0 hap ho_v0 c_31 hP hS ⟨Nat.le_of_ble_eq_true rfl, Nat.le_of_ble_eq_true rfl⟩ hl.1 (Nat.le_of_ble_eq_true rfl) dd_GG_feast_34 ⟨Nat.le_refl _, Nat.le_refl _⟩ (fun H locs hP hS => ?_)
        exact rrI C0 hP hS dd_GG_feast_37 hf
theorem cc_GG_feast {l : Launch} {E : Ev} {A : Nat → Prop} {ad : Nat → Nat} (hap : Ap ad ixC A) {x x' : St} {v0 : Nat} {v1 : Int32} {v2 : Int32} {v3 : Int32} {r : Int32} (ho_v0 : isO ixC v0 5) (hf : ff_GG_feast x v0 v1 v2 v3 = some (r, x')) : Met l yy_GG_feast (Cond.code yy_GG_feast bb_GG_feast 4 (some .int) :: gtb) rm_GG_feast (va_Pc [.ref (ad v0), .int v1, .int v2, .int v3] (PB E A ad ixC x)) (QX E ad ixC A (some (.int r)) x') 0 0 A := by
  exact enter (by decide) (Nat.le_of_ble_eq_true rfl) (fun p e s m below meth c ls C0 hP hS hl => ww_GG_feast C0 hap ho_v0 hf hP hS hl)
abbrev rm_GG_refuseNo : Room := { frames := 0, cells := 0, slots := 0, locals := 0 }
theorem dd_GG_refuseNo_0 : decode bb_GG_refuseNo 0 = .ok (.aload_n 0, 1) := by decide +kernel
theorem dd_GG_refuseNo_1 : decode bb_GG_refuseNo 1 = .ok (.dup, 1) := by decide +kernel
theorem dd_GG_refuseNo_2 : decode bb_GG_refuseNo 2 = .ok (.getfield 210, 3) := by decide +kernel
theorem dd_GG_refuseNo_5 : decode bb_GG_refuseNo 5 = .ok (.iconst 1, 1) := by decide +kernel
theorem dd_GG_refuseNo_6 : decode bb_GG_refuseNo 6 = .ok (.iadd, 1) := by decide +kernel
theorem dd_GG_refuseNo_7 : decode bb_GG_refuseNo 7 = .ok (.putfield 210, 3) := by decide +kernel
theorem dd_GG_refuseNo_10 : decode bb_GG_refuseNo 10 = .ok (.bipush (-3), 2) := by decide +kernel
theorem dd_GG_refuseNo_12 : decode bb_GG_refuseNo 12 = .ok (.ireturn, 1) := by decide +kernel
def ff_GG_refuseNo  (x : St) (v0 : Nat) : Option (Int32 × St) := st (si x v0 9 ((gi x v0 9) + 1)) (fun x_1 => some ((-3), x_1))
set_option maxHeartbeats 4000000 in
set_option maxRecDepth 100000 in
theorem ww_GG_refuseNo {p : Program} {l : Launch} {e : Env} {s : State} {m : MethodId} {args : Array Value} {below : List Frame} {meth : Method} {c : Code} {E : Ev} {A : Nat → Prop} {ad : Nat → Nat} {r : Int32} {x' : St} (C0 : Cx E A RGG bb_GG_refuseNo 1 (some .int) p s m args meth c) (hap : Ap ad ixC A)  {x : St} {v0 : Nat} (ho_v0 : isO ixC v0 5) (hf : ff_GG_refuseNo x v0 = some (r, x')) {H : Heap} {locs : List Loc} {ls : Array Slot} (hP : Wd E ad ixC x H) (hS : va_S A s.heap H locs) (hl : lv_has ls 1 [(0, .ref (ad v0))]) : W p l e rm_GG_refuseNo s m args below meth c H locs 0 0 (MQ below (QX E ad ixC A (some (.int r)) x') args s 0 0 A) (F0 m 0 ls []) := by
  obtain ⟨hx, hb, hml, hr, hown, hts, hlk, hK⟩ := id C0
  have hf : st (si x v0 9 ((gi x v0 9) + 1)) (fun x_1 => some ((-3), x_1)) = some (r, x') := hf
  refine lv_aload_n hx hb dd_GG_refuseNo_0 rfl (lv_at hl 0 rfl) ?_
  refine lv_dup hx hb dd_GG_refuseNo_1 rfl ?_
  refine gf_GG_210 C0 hP ho_v0 dd_GG_refuseNo_2 ?_
  refine lv_iconst (v := 1) hx hb dd_GG_refuseNo_5 (by decide) ?_
  refine lv_iadd hx hb dd_GG_refuseNo_6 ?_
  obtain ⟨x_1, hx_1, hf⟩ := of_st hf
  refine pf_GG_210 C0 hap hP hS ho_v0 hx_1 dd_GG_refuseNo_7 (fun H locs hP hS => ?_)
  refine lv_bipush (v := -3) hx hb dd_GG_refuseNo_10 (by decide) ?_
  exact rrI C0 hP hS dd_GG_refuseNo_12 hf
theorem cc_GG_refuseNo {l : Launch} {E : Ev} {A : Nat → Prop} {ad : Nat → Nat} (hap : Ap ad ixC A) {x x' : St} {v0 : Nat} {r : Int32} (ho_v0 : isO ixC v0 5) (hf : ff_GG_refuseNo x v0 = some (r, x')) : Met l yy_GG_refuseNo (Cond.code yy_GG_refuseNo bb_GG_refuseNo 1 (some .int) :: gtb) rm_GG_refuseNo (va_Pc [.ref (ad v0)] (PB E A ad ixC x)) (QX E ad ixC A (some (.int r)) x') 0 0 A := by
  exact enter (by decide) (Nat.le_of_ble_eq_true rfl) (fun p e s m below meth c ls C0 hP hS hl => ww_GG_refuseNo C0 hap ho_v0 hf hP hS hl)
theorem cl_GG_100 {p : Program} {l : Launch} {e : Env} {R : Room} {s : State} {m : MethodId} {args : Array Value} {below : List Frame} {meth : Method} {c : Code} {H : Heap} {locs : List Loc} {cells slots : Nat} {Q : State → Prop} {cc : ByteArray} {pc : Nat} {ls : Array Slot} {rest : List Value} {E : Ev} {A : Nat → Prop} {ad : Nat → Nat} {nL : Nat} {rt : Option FieldType} (C0 : Cx E A RGG cc nL rt p s m args meth c) (hap : Ap ad ixC A) {x x' : St} {v0 : Nat} {r : Int32} (ho_v0 : isO ixC v0 5) (hc : ff_GG_refuseNo x v0 = some (r, x')) (hP : Wd E ad ixC x H) (hS : va_S A s.heap H locs) (hR : rm_GG_refuseNo.frames + 1 ≤ R.frames ∧ 8 + (1 + 11) + rm_GG_refuseNo.locals ≤ R.locals) (hls : ls.size = nL) (hroom : (rest.map fun v => v.category).sum ≤ 8) (hdg : decode cc pc = .ok (.invokevirtual 100, 3)) (hf : cells ≤ R.cells ∧ slots ≤ R.slots) (kk : ∀ H1 locs1, Wd E ad ixC x' H1 → va_S A s.heap H1 locs1 → W p l e R s m args below meth c H1 locs1 cells slots Q (F0 m (pc + 3) ls (.int r :: rest))) : W p l e R s m args below meth c H locs cells slots Q (F0 m pc ls (.ref (ad v0) :: rest)) :=
  rcV (n := 0) C0 (cc_GG_refuseNo hap ho_v0 hc) hP hS ho_v0 vcl_5 (by decide) gw_code_GG_refuseNo gw_m_GG_100 gw_inst_GG_refuseNo gw_sel_GG_refuseNo gw_ini_GG rfl rfl (by decide +kernel) rfl hR hls rfl hroom hdg hf (fun H1 locs1 a _ _ b => kk H1 locs1 a b)
theorem cl_GG_103 {p : Program} {l : Launch} {e : Env} {R : Room} {s : State} {m : MethodId} {args : Array Value} {below : List Frame} {meth : Method} {c : Code} {H : Heap} {locs : List Loc} {cells slots : Nat} {Q : State → Prop} {cc : ByteArray} {pc : Nat} {ls : Array Slot} {rest : List Value} {E : Ev} {A : Nat → Prop} {ad : Nat → Nat} {nL : Nat} {rt : Option FieldType} (C0 : Cx E A RGG cc nL rt p s m args meth c) (hap : Ap ad ixC A) {x x' : St} {v0 : Nat} {r : Unit} (ho_v0 : isO ixC v0 4) (hc : ff_SH_dropFeast x v0 = some (r, x')) (hP : Wd E ad ixC x H) (hS : va_S A s.heap H locs) (hR : rm_SH_dropFeast.frames + 1 ≤ R.frames ∧ 8 + (2 + 11) + rm_SH_dropFeast.locals ≤ R.locals) (hls : ls.size = nL) (hroom : (rest.map fun v => v.category).sum ≤ 8) (hdg : decode cc pc = .ok (.invokevirtual 103, 3)) (hf : cells ≤ R.cells ∧ slots ≤ R.slots) (kk : ∀ H1 locs1, Wd E ad ixC x' H1 → va_S A s.heap H1 locs1 → W p l e R s m args below meth c H1 locs1 cells slots Q (F0 m (pc + 3) ls (rest))) : W p l e R s m args below meth c H locs cells slots Q (F0 m pc ls (.ref (ad v0) :: rest)) :=
  rcV (n := 0) C0 (cc_SH_dropFeast hap ho_v0 hc) hP hS ho_v0 vcl_4 (by decide) gw_code_SH_dropFeast gw_m_GG_103 gw_inst_SH_dropFeast gw_sel_SH_dropFeast gw_ini_SH rfl rfl (by decide +kernel) rfl hR hls rfl hroom hdg hf (fun H1 locs1 a _ _ b => kk H1 locs1 a b)
abbrev rm_GG_skip : Room := { frames := 6, cells := 0, slots := 0, locals := 135 }
theorem dd_GG_skip_0 : decode bb_GG_skip 0 = .ok (.aload_n 0, 1) := by decide +kernel
theorem dd_GG_skip_1 : decode bb_GG_skip 1 = .ok (.getfield 12, 3) := by decide +kernel
theorem dd_GG_skip_4 : decode bb_GG_skip 4 = .ok (.getfield 90, 3) := by decide +kernel
theorem dd_GG_skip_7 : decode bb_GG_skip 7 = .ok (.getfield 96, 3) := by decide +kernel
theorem dd_GG_skip_10 : decode bb_GG_skip 10 = .ok (.ifCond .ne 8, 3) := by decide +kernel
theorem dd_GG_skip_13 : decode bb_GG_skip 13 = .ok (.aload_n 0, 1) := by decide +kernel
theorem dd_GG_skip_14 : decode bb_GG_skip 14 = .ok (.invokevirtual 100, 3) := by decide +kernel
theorem dd_GG_skip_17 : decode bb_GG_skip 17 = .ok (.ireturn, 1) := by decide +kernel
theorem dd_GG_skip_18 : decode bb_GG_skip 18 = .ok (.aload_n 0, 1) := by decide +kernel
theorem dd_GG_skip_19 : decode bb_GG_skip 19 = .ok (.getfield 12, 3) := by decide +kernel
theorem dd_GG_skip_22 : decode bb_GG_skip 22 = .ok (.invokevirtual 103, 3) := by decide +kernel
theorem dd_GG_skip_25 : decode bb_GG_skip 25 = .ok (.aload_n 0, 1) := by decide +kernel
theorem dd_GG_skip_26 : decode bb_GG_skip 26 = .ok (.getfield 12, 3) := by decide +kernel
theorem dd_GG_skip_29 : decode bb_GG_skip 29 = .ok (.getfield 90, 3) := by decide +kernel
theorem dd_GG_skip_32 : decode bb_GG_skip 32 = .ok (.getfield 96, 3) := by decide +kernel
theorem dd_GG_skip_35 : decode bb_GG_skip 35 = .ok (.ireturn, 1) := by decide +kernel
def ff_GG_skip  (x : St) (v0 : Nat) : Option (Int32 × St) := (if (gi x (rf (rf v0 0) 3) 3) = 0 then bnd (ff_GG_refuseNo x v0) (fun r_5 x_6 => some (r_5, x_6)) else bnd (ff_SH_dropFeast x (rf v0 0)) (fun _ x_3 => some (gi x_3 (rf (rf v0 0) 3) 3, x_3)))
set_option maxHeartbeats 4000000 in
set_option maxRecDepth 100000 in
theorem ww_GG_skip {p : Program} {l : Launch} {e : Env} {s : State} {m : MethodId} {args : Array Value} {below : List Frame} {meth : Method} {c : Code} {E : Ev} {A : Nat → Prop} {ad : Nat → Nat} {r : Int32} {x' : St} (C0 : Cx E A RGG bb_GG_skip 1 (some .int) p s m args meth c) (hap : Ap ad ixC A)  {x : St} {v0 : Nat} (ho_v0 : isO ixC v0 5) (hf : ff_GG_skip x v0 = some (r, x')) {H : Heap} {locs : List Loc} {ls : Array Slot} (hP : Wd E ad ixC x H) (hS : va_S A s.heap H locs) (hl : lv_has ls 1 [(0, .ref (ad v0))]) : W p l e rm_GG_skip s m args below meth c H locs 0 0 (MQ below (QX E ad ixC A (some (.int r)) x') args s 0 0 A) (F0 m 0 ls []) := by
  obtain ⟨hx, hb, hml, hr, hown, hts, hlk, hK⟩ := id C0
  have hf : (if (gi x (rf (rf v0 0) 3) 3) = 0 then bnd (ff_GG_refuseNo x v0) (fun r_5 x_6 => some (r_5, x_6)) else bnd (ff_SH_dropFeast x (rf v0 0)) (fun _ x_3 => some (gi x_3 (rf (rf v0 0) 3) 3, x_3))) = some (r, x') := hf
  refine lv_aload_n hx hb dd_GG_skip_0 rfl (lv_at hl 0 rfl) ?_
  refine gf_GG_12 C0 hP ho_v0 dd_GG_skip_1 ?_
  refine gf_GG_90 C0 hP (tp_5_0 ho_v0) dd_GG_skip_4 ?_
  refine gf_GG_96 C0 hP (tp_4_3 (tp_5_0 ho_v0)) dd_GG_skip_7 ?_
  refine lv_if_ne (tgt := 18) hx hb dd_GG_skip_10 (by decide) (fun h_1 => ?_) (fun h_1 => ?_)
  · have hf := (if_neg h_1).symm.trans hf
    refine lv_aload_n hx hb dd_GG_skip_18 rfl (lv_at hl 0 rfl) ?_
    refine gf_GG_12 C0 hP ho_v0 dd_GG_skip_19 ?_
    obtain ⟨_, x_3, c_4, hf⟩ := of_bnd hf
    refine cl_GG_103 C0 hap (tp_5_0 ho_v0) c_4 hP hS ⟨Nat.le_of_ble_eq_true rfl, Nat.le_of_ble_eq_true rfl⟩ hl.1 (Nat.le_of_ble_eq_true rfl) dd_GG_skip_22 ⟨Nat.le_refl _, Nat.le_refl _⟩ (fun H locs hP hS => ?_)
    refine lv_aload_n hx hb dd_GG_skip_25 rfl (lv_at hl 0 rfl) ?_
    refine gf_GG_12 C0 hP ho_v0 dd_GG_skip_26 ?_
    refine gf_GG_90 C0 hP (tp_5_0 ho_v0) dd_GG_skip_29 ?_
    refine gf_GG_96 C0 hP (tp_4_3 (tp_5_0 ho_v0)) dd_GG_skip_32 ?_
    exact rrI C0 hP hS dd_GG_skip_35 hf
  · have hf := (if_pos h_1).symm.trans hf
    refine lv_aload_n hx hb dd_GG_skip_13 rfl (lv_at hl 0 rfl) ?_
    obtain ⟨r_5, x_6, c_7, hf⟩ := of_bnd hf
    refine cl_GG_100 C0 hap ho_v0 c_7 hP hS ⟨Nat.le_of_ble_eq_true rfl, Nat.le_of_ble_eq_true rfl⟩ hl.1 (Nat.le_of_ble_eq_true rfl) dd_GG_skip_14 ⟨Nat.le_refl _, Nat.le_refl _⟩ (fun H locs hP hS => ?_)
    exact rrI C0 hP hS dd_GG_skip_17 hf
theorem cc_GG_skip {l : Launch} {E : Ev} {A : Nat → Prop} {ad : Nat → Nat} (hap : Ap ad ixC A) {x x' : St} {v0 : Nat} {r : Int32} (ho_v0 : isO ixC v0 5) (hf : ff_GG_skip x v0 = some (r, x')) : Met l yy_GG_skip (Cond.code yy_GG_skip bb_GG_skip 1 (some .int) :: gtb) rm_GG_skip (va_Pc [.ref (ad v0)] (PB E A ad ixC x)) (QX E ad ixC A (some (.int r)) x') 0 0 A := by
  exact enter (by decide) (Nat.le_of_ble_eq_true rfl) (fun p e s m below meth c ls C0 hP hS hl => ww_GG_skip C0 hap ho_v0 hf hP hS hl)
theorem cl_GG_106 {p : Program} {l : Launch} {e : Env} {R : Room} {s : State} {m : MethodId} {args : Array Value} {below : List Frame} {meth : Method} {c : Code} {H : Heap} {locs : List Loc} {cells slots : Nat} {Q : State → Prop} {cc : ByteArray} {pc : Nat} {ls : Array Slot} {rest : List Value} {E : Ev} {A : Nat → Prop} {ad : Nat → Nat} {nL : Nat} {rt : Option FieldType} (C0 : Cx E A RGG cc nL rt p s m args meth c) (hap : Ap ad ixC A) {x x' : St} {v0 : Nat} {r : Unit} (ho_v0 : isO ixC v0 4) (hc : ff_SH_keepPast x v0 = some (r, x')) (hP : Wd E ad ixC x H) (hS : va_S A s.heap H locs) (hR : rm_SH_keepPast.frames + 1 ≤ R.frames ∧ 8 + (1 + 11) + rm_SH_keepPast.locals ≤ R.locals) (hls : ls.size = nL) (hroom : (rest.map fun v => v.category).sum ≤ 8) (hdg : decode cc pc = .ok (.invokevirtual 106, 3)) (hf : cells ≤ R.cells ∧ slots ≤ R.slots) (kk : ∀ H1 locs1, Wd E ad ixC x' H1 → va_S A s.heap H1 locs1 → W p l e R s m args below meth c H1 locs1 cells slots Q (F0 m (pc + 3) ls (rest))) : W p l e R s m args below meth c H locs cells slots Q (F0 m pc ls (.ref (ad v0) :: rest)) :=
  rcV (n := 0) C0 (cc_SH_keepPast hap ho_v0 hc) hP hS ho_v0 vcl_4 (by decide) gw_code_SH_keepPast gw_m_GG_106 gw_inst_SH_keepPast gw_sel_SH_keepPast gw_ini_SH rfl rfl (by decide +kernel) rfl hR hls rfl hroom hdg hf (fun H1 locs1 a _ _ b => kk H1 locs1 a b)
theorem cl_GG_109 {p : Program} {l : Launch} {e : Env} {R : Room} {s : State} {m : MethodId} {args : Array Value} {below : List Frame} {meth : Method} {c : Code} {H : Heap} {locs : List Loc} {cells slots : Nat} {Q : State → Prop} {cc : ByteArray} {pc : Nat} {ls : Array Slot} {rest : List Value} {E : Ev} {A : Nat → Prop} {ad : Nat → Nat} {nL : Nat} {rt : Option FieldType} (C0 : Cx E A RGG cc nL rt p s m args meth c) (hap : Ap ad ixC A) {x x' : St} {v0 : Nat} {v1 : Int32} {v2 : Int32} {v3 : Int32} {r : Unit} (ho_v0 : isO ixC v0 4) (hc : ff_SH_boilNow x v0 v1 v2 v3 = some (r, x')) (hP : Wd E ad ixC x H) (hS : va_S A s.heap H locs) (hR : rm_SH_boilNow.frames + 1 ≤ R.frames ∧ 8 + (4 + 11) + rm_SH_boilNow.locals ≤ R.locals) (hls : ls.size = nL) (hroom : (rest.map fun v => v.category).sum ≤ 8) (hdg : decode cc pc = .ok (.invokevirtual 109, 3)) (hf : cells ≤ R.cells ∧ slots ≤ R.slots) (kk : ∀ H1 locs1, Wd E ad ixC x' H1 → va_S A s.heap H1 locs1 → W p l e R s m args below meth c H1 locs1 cells slots Q (F0 m (pc + 3) ls (rest))) : W p l e R s m args below meth c H locs cells slots Q (F0 m pc ls (.int v3 :: .int v2 :: .int v1 :: .ref (ad v0) :: rest)) :=
  rcV (n := 3) C0 (cc_SH_boilNow hap ho_v0 hc) hP hS ho_v0 vcl_4 (by decide) gw_code_SH_boilNow gw_m_GG_109 gw_inst_SH_boilNow gw_sel_SH_boilNow gw_ini_SH rfl rfl (by decide +kernel) rfl hR hls rfl hroom hdg hf (fun H1 locs1 a _ _ b => kk H1 locs1 a b)
theorem cl_GG_113 {p : Program} {l : Launch} {e : Env} {R : Room} {s : State} {m : MethodId} {args : Array Value} {below : List Frame} {meth : Method} {c : Code} {H : Heap} {locs : List Loc} {cells slots : Nat} {Q : State → Prop} {cc : ByteArray} {pc : Nat} {ls : Array Slot} {rest : List Value} {E : Ev} {A : Nat → Prop} {ad : Nat → Nat} {nL : Nat} {rt : Option FieldType} (C0 : Cx E A RGG cc nL rt p s m args meth c) (hap : Ap ad ixC A) {x x' : St} {v0 : Nat} {v1 : Int32} {r : Int32} (ho_v0 : isO ixC v0 4) (hc : ff_SH_openingOf x v0 v1 = some (r, x')) (hP : Wd E ad ixC x H) (hS : va_S A s.heap H locs) (hR : rm_SH_openingOf.frames + 1 ≤ R.frames ∧ 8 + (5 + 11) + rm_SH_openingOf.locals ≤ R.locals) (hls : ls.size = nL) (hroom : (rest.map fun v => v.category).sum ≤ 8) (hdg : decode cc pc = .ok (.invokevirtual 113, 3)) (hf : cells ≤ R.cells ∧ slots ≤ R.slots) (kk : ∀ H1 locs1, Wd E ad ixC x' H1 → va_S A s.heap H1 locs1 → W p l e R s m args below meth c H1 locs1 cells slots Q (F0 m (pc + 3) ls (.int r :: rest))) : W p l e R s m args below meth c H locs cells slots Q (F0 m pc ls (.int v1 :: .ref (ad v0) :: rest)) :=
  rcV (n := 1) C0 (cc_SH_openingOf hap ho_v0 hc) hP hS ho_v0 vcl_4 (by decide) gw_code_SH_openingOf gw_m_GG_113 gw_inst_SH_openingOf gw_sel_SH_openingOf gw_ini_SH rfl rfl (by decide +kernel) rfl hR hls rfl hroom hdg hf (fun H1 locs1 a _ _ b => kk H1 locs1 a b)
abbrev rm_GG_boil : Room := { frames := 3, cells := 0, slots := 0, locals := 71 }
theorem dd_GG_boil_0 : decode bb_GG_boil 0 = .ok (.aload_n 0, 1) := by decide +kernel
theorem dd_GG_boil_1 : decode bb_GG_boil 1 = .ok (.getfield 12, 3) := by decide +kernel
theorem dd_GG_boil_4 : decode bb_GG_boil 4 = .ok (.getfield 74, 3) := by decide +kernel
theorem dd_GG_boil_7 : decode bb_GG_boil 7 = .ok (.iload_n 1, 1) := by decide +kernel
theorem dd_GG_boil_8 : decode bb_GG_boil 8 = .ok (.invokevirtual 86, 3) := by decide +kernel
theorem dd_GG_boil_11 : decode bb_GG_boil 11 = .ok (.ifCond .eq 17, 3) := by decide +kernel
theorem dd_GG_boil_14 : decode bb_GG_boil 14 = .ok (.aload_n 0, 1) := by decide +kernel
theorem dd_GG_boil_15 : decode bb_GG_boil 15 = .ok (.getfield 12, 3) := by decide +kernel
theorem dd_GG_boil_18 : decode bb_GG_boil 18 = .ok (.getfield 57, 3) := by decide +kernel
theorem dd_GG_boil_21 : decode bb_GG_boil 21 = .ok (.iload_n 2, 1) := by decide +kernel
theorem dd_GG_boil_22 : decode bb_GG_boil 22 = .ok (.invokevirtual 86, 3) := by decide +kernel
theorem dd_GG_boil_25 : decode bb_GG_boil 25 = .ok (.ifCond .ne 8, 3) := by decide +kernel
theorem dd_GG_boil_28 : decode bb_GG_boil 28 = .ok (.aload_n 0, 1) := by decide +kernel
theorem dd_GG_boil_29 : decode bb_GG_boil 29 = .ok (.invokevirtual 53, 3) := by decide +kernel
theorem dd_GG_boil_32 : decode bb_GG_boil 32 = .ok (.ireturn, 1) := by decide +kernel
theorem dd_GG_boil_33 : decode bb_GG_boil 33 = .ok (.iload_n 3, 1) := by decide +kernel
theorem dd_GG_boil_34 : decode bb_GG_boil 34 = .ok (.iconst (-1), 1) := by decide +kernel
theorem dd_GG_boil_35 : decode bb_GG_boil 35 = .ok (.if_icmp .eq 27, 3) := by decide +kernel
theorem dd_GG_boil_38 : decode bb_GG_boil 38 = .ok (.aload_n 0, 1) := by decide +kernel
theorem dd_GG_boil_39 : decode bb_GG_boil 39 = .ok (.getfield 12, 3) := by decide +kernel
theorem dd_GG_boil_42 : decode bb_GG_boil 42 = .ok (.getfield 57, 3) := by decide +kernel
theorem dd_GG_boil_45 : decode bb_GG_boil 45 = .ok (.iload_n 3, 1) := by decide +kernel
theorem dd_GG_boil_46 : decode bb_GG_boil 46 = .ok (.invokevirtual 86, 3) := by decide +kernel
theorem dd_GG_boil_49 : decode bb_GG_boil 49 = .ok (.ifCond .eq 8, 3) := by decide +kernel
theorem dd_GG_boil_52 : decode bb_GG_boil 52 = .ok (.iload_n 3, 1) := by decide +kernel
theorem dd_GG_boil_53 : decode bb_GG_boil 53 = .ok (.iload_n 2, 1) := by decide +kernel
theorem dd_GG_boil_54 : decode bb_GG_boil 54 = .ok (.if_icmp .ne 8, 3) := by decide +kernel
theorem dd_GG_boil_57 : decode bb_GG_boil 57 = .ok (.aload_n 0, 1) := by decide +kernel
theorem dd_GG_boil_58 : decode bb_GG_boil 58 = .ok (.invokevirtual 53, 3) := by decide +kernel
theorem dd_GG_boil_61 : decode bb_GG_boil 61 = .ok (.ireturn, 1) := by decide +kernel
theorem dd_GG_boil_62 : decode bb_GG_boil 62 = .ok (.aload_n 0, 1) := by decide +kernel
theorem dd_GG_boil_63 : decode bb_GG_boil 63 = .ok (.getfield 12, 3) := by decide +kernel
theorem dd_GG_boil_66 : decode bb_GG_boil 66 = .ok (.invokevirtual 106, 3) := by decide +kernel
theorem dd_GG_boil_69 : decode bb_GG_boil 69 = .ok (.aload_n 0, 1) := by decide +kernel
theorem dd_GG_boil_70 : decode bb_GG_boil 70 = .ok (.getfield 12, 3) := by decide +kernel
theorem dd_GG_boil_73 : decode bb_GG_boil 73 = .ok (.iload_n 1, 1) := by decide +kernel
theorem dd_GG_boil_74 : decode bb_GG_boil 74 = .ok (.iload_n 2, 1) := by decide +kernel
theorem dd_GG_boil_75 : decode bb_GG_boil 75 = .ok (.iload_n 3, 1) := by decide +kernel
theorem dd_GG_boil_76 : decode bb_GG_boil 76 = .ok (.invokevirtual 109, 3) := by decide +kernel
theorem dd_GG_boil_79 : decode bb_GG_boil 79 = .ok (.aload_n 0, 1) := by decide +kernel
theorem dd_GG_boil_80 : decode bb_GG_boil 80 = .ok (.getfield 12, 3) := by decide +kernel
theorem dd_GG_boil_83 : decode bb_GG_boil 83 = .ok (.iload_n 1, 1) := by decide +kernel
theorem dd_GG_boil_84 : decode bb_GG_boil 84 = .ok (.invokevirtual 113, 3) := by decide +kernel
theorem dd_GG_boil_87 : decode bb_GG_boil 87 = .ok (.ireturn, 1) := by decide +kernel
def ff_GG_boil_62  (x : St) (v0 : Nat) (v1 : Int32) (v2 : Int32) (v3 : Int32) : Option (Int32 × St) := bnd (ff_SH_keepPast x (rf v0 0)) (fun _ x_14 => bnd (ff_SH_boilNow x_14 (rf v0 0) v1 v2 v3) (fun _ x_17 => bnd (ff_SH_openingOf x_17 (rf v0 0) v1) (fun r_19 x_20 => some (r_19, x_20))))
def ff_GG_boil  (x : St) (v0 : Nat) (v1 : Int32) (v2 : Int32) (v3 : Int32) : Option (Int32 × St) := bnd (ff_LE_has x (rf (rf v0 0) 1) v1) (fun r_1 x_2 => (if r_1 = 0 then bnd (ff_GG_refuseBad x_2 v0) (fun r_5 x_6 => some (r_5, x_6)) else bnd (ff_LE_has x_2 (rf (rf v0 0) 0) v2) (fun r_8 x_9 => (if r_8 = 0 then bnd (ff_GG_refuseBad x_9 v0) (fun r_33 x_34 => some (r_33, x_34)) else (if v3 = (-1) then ff_GG_boil_62 x_9 v0 v1 v2 v3 else bnd (ff_LE_has x_9 (rf (rf v0 0) 0) v3) (fun r_22 x_23 => (if r_22 = 0 then bnd (ff_GG_refuseBad x_23 v0) (fun r_26 x_27 => some (r_26, x_27)) else (if v3 = v2 then bnd (ff_GG_refuseBad x_23 v0) (fun r_30 x_31 => some (r_30, x_31)) else ff_GG_boil_62 x_23 v0 v1 v2 v3))))))))
set_option maxHeartbeats 4000000 in
set_option maxRecDepth 100000 in
theorem ww_GG_boil_62 {p : Program} {l : Launch} {e : Env} {s : State} {m : MethodId} {args : Array Value} {below : List Frame} {meth : Method} {c : Code} {E : Ev} {A : Nat → Prop} {ad : Nat → Nat} {r : Int32} {x' : St} (C0 : Cx E A RGG bb_GG_boil 4 (some .int) p s m args meth c) (hap : Ap ad ixC A)  {x : St} {v0 : Nat} {v1 : Int32} {v2 : Int32} {v3 : Int32} (ho_v0 : isO ixC v0 5) (hf : ff_GG_boil_62 x v0 v1 v2 v3 = some (r, x')) {H : Heap} {locs : List Loc} {ls : Array Slot} (hP : Wd E ad ixC x H) (hS : va_S A s.heap H locs) (hl : lv_has ls 4 [(0, .ref (ad v0)), (1, .int v1), (2, .int v2), (3, .int v3)]) : W p l e rm_GG_boil s m args below meth c H locs 0 0 (MQ below (QX E ad ixC A (some (.int r)) x') args s 0 0 A) (F0 m 62 ls []) := by
  obtain ⟨hx, hb, hml, hr, hown, hts, hlk, hK⟩ := id C0
  have hf : bnd (ff_SH_keepPast x (rf v0 0)) (fun _ x_14 => bnd (ff_SH_boilNow x_14 (rf v0 0) v1 v2 v3) (fun _ x_17 => bnd (ff_SH_openingOf x_17 (rf v0 0) v1) (fun r_19 x_20 => some (r_19, x_20)))) = some (r, x') := hf
  refine lv_aload_n hx hb dd_GG_boil_62 rfl (lv_at hl 0 rfl) ?_
  refine gf_GG_12 C0 hP ho_v0 dd_GG_boil_63 ?_
  obtain ⟨_, x_14, c_15, hf⟩ := of_bnd hf
  refine cl_GG_106 C0 hap (tp_5_0 ho_v0) c_15 hP hS ⟨Nat.le_of_ble_eq_true rfl, Nat.le_of_ble_eq_true rfl⟩ hl.1 (Nat.le_of_ble_eq_true rfl) dd_GG_boil_66 ⟨Nat.le_refl _, Nat.le_refl _⟩ (fun H locs hP hS => ?_)
  refine lv_aload_n hx hb dd_GG_boil_69 rfl (lv_at hl 0 rfl) ?_
  refine gf_GG_12 C0 hP ho_v0 dd_GG_boil_70 ?_
  refine lv_iload_n hx hb dd_GG_boil_73 rfl (lv_at hl 1 rfl) ?_
  refine lv_iload_n hx hb dd_GG_boil_74 rfl (lv_at hl 2 rfl) ?_
  refine lv_iload_n hx hb dd_GG_boil_75 rfl (lv_at hl 3 rfl) ?_
  obtain ⟨_, x_17, c_18, hf⟩ := of_bnd hf
  refine cl_GG_109 C0 hap (tp_5_0 ho_v0) c_18 hP hS ⟨Nat.le_of_ble_eq_true rfl, Nat.le_of_ble_eq_true rfl⟩ hl.1 (Nat.le_of_ble_eq_true rfl) dd_GG_boil_76 ⟨Nat.le_refl _, Nat.le_refl _⟩ (fun H locs hP hS => ?_)
  refine lv_aload_n hx hb dd_GG_boil_79 rfl (lv_at hl 0 rfl) ?_
  refine gf_GG_12 C0 hP ho_v0 dd_GG_boil_80 ?_
  refine lv_iload_n hx hb dd_GG_boil_83 rfl (lv_at hl 1 rfl) ?_
  obtain ⟨r_19, x_20, c_21, hf⟩ := of_bnd hf
  refine cl_GG_113 C0 hap (tp_5_0 ho_v0) c_21 hP hS ⟨Nat.le_of_ble_eq_true rfl, Nat.le_of_ble_eq_true rfl⟩ hl.1 (Nat.le_of_ble_eq_true rfl) dd_GG_boil_84 ⟨Nat.le_refl _, Nat.le_refl _⟩ (fun H locs hP hS => ?_)
  exact rrI C0 hP hS dd_GG_boil_87 hf
set_option maxHeartbeats 4000000 in
set_option maxRecDepth 100000 in
theorem ww_GG_boil {p : Program} {l : Launch} {e : Env} {s : State} {m : MethodId} {args : Array Value} {below : List Frame} {meth : Method} {c : Code} {E : Ev} {A : Nat → Prop} {ad : Nat → Nat} {r : Int32} {x' : St} (C0 : Cx E A RGG bb_GG_boil 4 (some .int) p s m args meth c) (hap : Ap ad ixC A)  {x : St} {v0 : Nat} {v1 : Int32} {v2 : Int32} {v3 : Int32} (ho_v0 : isO ixC v0 5) (hf : ff_GG_boil x v0 v1 v2 v3 = some (r, x')) {H : Heap} {locs : List Loc} {ls : Array Slot} (hP : Wd E ad ixC x H) (hS : va_S A s.heap H locs) (hl : lv_has ls 4 [(0, .ref (ad v0)), (1, .int v1), (2, .int v2), (3, .int v3)]) : W p l e rm_GG_boil s m args below meth c H locs 0 0 (MQ below (QX E ad ixC A (some (.int r)) x') args s 0 0 A) (F0 m 0 ls []) := by
  obtain ⟨hx, hb, hml, hr, hown, hts, hlk, hK⟩ := id C0
  have hf : bnd (ff_LE_has x (rf (rf v0 0) 1) v1) (fun r_1 x_2 => (if r_1 = 0 then bnd (ff_GG_refuseBad x_2 v0) (fun r_5 x_6 => some (r_5, x_6)) else bnd (ff_LE_has x_2 (rf (rf v0 0) 0) v2) (fun r_8 x_9 => (if r_8 = 0 then bnd (ff_GG_refuseBad x_9 v0) (fun r_33 x_34 => some (r_33, x_34)) else (if v3 = (-1) then ff_GG_boil_62 x_9 v0 v1 v2 v3 else bnd (ff_LE_has x_9 (rf (rf v0 0) 0) v3) (fun r_22 x_23 => (if r_22 = 0 then bnd (ff_GG_refuseBad x_23 v0) (fun r_26 x_27 => some (r_26, x_27)) else (if v3 = v2 then bnd (ff_GG_refuseBad x_23 v0) (fun r_30 x_31 => some (r_30, x_31)) else ff_GG_boil_62 x_23 v0 v1 v2 v3)))))))) = some (r, x') := hf
  refine lv_aload_n hx hb dd_GG_boil_0 rfl (lv_at hl 0 rfl) ?_
  refine gf_GG_12 C0 hP ho_v0 dd_GG_boil_1 ?_
  refine gf_GG_74 C0 hP (tp_5_0 ho_v0) dd_GG_boil_4 ?_
  refine lv_iload_n hx hb dd_GG_boil_7 rfl (lv_at hl 1 rfl) ?_
  obtain ⟨r_1, x_2, c_3, hf⟩ := of_bnd hf
  refine cl_GG_86 C0 hap (tp_4_1 (tp_5_0 ho_v0)) c_3 hP hS ⟨Nat.le_of_ble_eq_true rfl, Nat.le_of_ble_eq_true rfl⟩ hl.1 (Nat.le_of_ble_eq_true rfl) dd_GG_boil_8 ⟨Nat.le_refl _, Nat.le_refl _⟩ (fun H locs hP hS => ?_)
  refine lv_if_eq (tgt := 28) hx hb dd_GG_boil_11 (by decide) (fun h_4 => ?_) (fun h_4 => ?_)
  · have hf := (if_pos h_4).symm.trans hf
    refine lv_aload_n hx hb dd_GG_boil_28 rfl (lv_at hl 0 rfl) ?_
    obtain ⟨r_5, x_6, c_7, hf⟩ := of_bnd hf
    refine cl_GG_53 C0 hap ho_v0 c_7 hP hS ⟨Nat.le_of_ble_eq_true rfl, Nat.le_of_ble_eq_true rfl⟩ hl.1 (Nat.le_of_ble_eq_true rfl) dd_GG_boil_29 ⟨Nat.le_refl _, Nat.le_refl _⟩ (fun H locs hP hS => ?_)
    exact rrI C0 hP hS dd_GG_boil_32 hf
  · have hf := (if_neg h_4).symm.trans hf
    refine lv_aload_n hx hb dd_GG_boil_14 rfl (lv_at hl 0 rfl) ?_
    refine gf_GG_12 C0 hP ho_v0 dd_GG_boil_15 ?_
    refine gf_GG_57 C0 hP (tp_5_0 ho_v0) dd_GG_boil_18 ?_
    refine lv_iload_n hx hb dd_GG_boil_21 rfl (lv_at hl 2 rfl) ?_
    obtain ⟨r_8, x_9, c_10, hf⟩ := of_bnd hf
    refine cl_GG_86 C0 hap (tp_4_0 (tp_5_0 ho_v0)) c_10 hP hS ⟨Nat.le_of_ble_eq_true rfl, Nat.le_of_ble_eq_true rfl⟩ hl.1 (Nat.le_of_ble_eq_true rfl) dd_GG_boil_22 ⟨Nat.le_refl _, Nat.le_refl _⟩ (fun H locs hP hS => ?_)
    refine lv_if_ne (tgt := 33) hx hb dd_GG_boil_25 (by decide) (fun h_11 => ?_) (fun h_11 => ?_)
    · have hf := (if_neg h_11).symm.trans hf
      refine lv_iload_n hx hb dd_GG_boil_33 rfl (lv_at hl 3 rfl) ?_
      refine lv_iconst (v := -1) hx hb dd_GG_boil_34 (by decide) ?_
      refine lv_icmp_eq (tgt := 62) hx hb dd_GG_boil_35 (by decide) (fun h_12 => ?_) (fun h_12 => ?_)
      · have hf := (if_pos h_12).symm.trans hf
        exact ww_GG_boil_62 C0 hap  ho_v0 hf hP hS (lv_sub hl [0, 1, 2, 3] rfl)
      · have hf := (if_neg h_12).symm.trans hf
        refine lv_aload_n hx hb dd_GG_boil_38 rfl (lv_at hl 0 rfl) ?_
        refine gf_GG_12 C0 hP ho_v0 dd_GG_boil_39 ?_
        refine gf_GG_57 C0 hP (tp_5_0 ho_v0) dd_GG_boil_42 ?_
        refine lv_iload_n hx hb dd_GG_boil_45 rfl (lv_at hl 3 rfl) ?_
        obtain ⟨r_22, x_23, c_24, hf⟩ := of_bnd hf
        refine cl_GG_86 C0 hap (tp_4_0 (tp_5_0 ho_v0)) c_24 hP hS ⟨Nat.le_of_ble_eq_true rfl, Nat.le_of_ble_eq_true rfl⟩ hl.1 (Nat.le_of_ble_eq_true rfl) dd_GG_boil_46 ⟨Nat.le_refl _, Nat.le_refl _⟩ (fun H locs hP hS => ?_)
        refine lv_if_eq (tgt := 57) hx hb dd_GG_boil_49 (by decide) (fun h_25 => ?_) (fun h_25 => ?_)
        · have hf := (if_pos h_25).symm.trans hf
          refine lv_aload_n hx hb dd_GG_boil_57 rfl (lv_at hl 0 rfl) ?_
          obtain ⟨r_26, x_27, c_28, hf⟩ := of_bnd hf
          refine cl_GG_53 C0 hap ho_v0 c_28 hP hS ⟨Nat.le_of_ble_eq_true rfl, Nat.le_of_ble_eq_true rfl⟩ hl.1 (Nat.le_of_ble_eq_true rfl) dd_GG_boil_58 ⟨Nat.le_refl _, Nat.le_refl _⟩ (fun H locs hP hS => ?_)
          exact rrI C0 hP hS dd_GG_boil_61 hf
        · have hf := (if_neg h_25).symm.trans hf
          refine lv_iload_n hx hb dd_GG_boil_52 rfl (lv_at hl 3 rfl) ?_
          refine lv_iload_n hx hb dd_GG_boil_53 rfl (lv_at hl 2 rfl) ?_
          refine lv_icmp_ne (tgt := 62) hx hb dd_GG_boil_54 (by decide) (fun h_29 => ?_) (fun h_29 => ?_)
          · have hf := (if_neg h_29).symm.trans hf
            exact ww_GG_boil_62 C0 hap  ho_v0 hf hP hS (lv_sub hl [0, 1, 2, 3] rfl)
          · have hf := (if_pos h_29).symm.trans hf
            refine lv_aload_n hx hb dd_GG_boil_57 rfl (lv_at hl 0 rfl) ?_
            obtain ⟨r_30, x_31, c_32, hf⟩ := of_bnd hf
            refine cl_GG_53 C0 hap ho_v0 c_32 hP hS ⟨Nat.le_of_ble_eq_true rfl, Nat.le_of_ble_eq_true rfl⟩ hl.1 (Nat.le_of_ble_eq_true rfl) dd_GG_boil_58 ⟨Nat.le_refl _, Nat.le_refl _⟩ (fun H locs hP hS => ?_)
            exact rrI C0 hP hS dd_GG_boil_61 hf
    · have hf := (if_pos h_11).symm.trans hf
      refine lv_aload_n hx hb dd_GG_boil_28 rfl (lv_at hl 0 rfl) ?_
      obtain ⟨r_33, x_34, c_35, hf⟩ := of_bnd hf
      refine cl_GG_53 C0 hap ho_v0 c_35 hP hS ⟨Nat.le_of_ble_eq_true rfl, Nat.le_of_ble_eq_true rfl⟩ hl.1 (Nat.le_of_ble_eq_true rfl) dd_GG_boil_29 ⟨Nat.le_refl _, Nat.le_refl _⟩ (fun H locs hP hS => ?_)
      exact rrI C0 hP hS dd_GG_boil_32 hf
theorem cc_GG_boil {l : Launch} {E : Ev} {A : Nat → Prop} {ad : Nat → Nat} (hap : Ap ad ixC A) {x x' : St} {v0 : Nat} {v1 : Int32} {v2 : Int32} {v3 : Int32} {r : Int32} (ho_v0 : isO ixC v0 5) (hf : ff_GG_boil x v0 v1 v2 v3 = some (r, x')) : Met l yy_GG_boil (Cond.code yy_GG_boil bb_GG_boil 4 (some .int) :: gtb) rm_GG_boil (va_Pc [.ref (ad v0), .int v1, .int v2, .int v3] (PB E A ad ixC x)) (QX E ad ixC A (some (.int r)) x') 0 0 A := by
  exact enter (by decide) (Nat.le_of_ble_eq_true rfl) (fun p e s m below meth c ls C0 hP hS hl => ww_GG_boil C0 hap ho_v0 hf hP hS hl)
theorem cl_GG_120 {p : Program} {l : Launch} {e : Env} {R : Room} {s : State} {m : MethodId} {args : Array Value} {below : List Frame} {meth : Method} {c : Code} {H : Heap} {locs : List Loc} {cells slots : Nat} {Q : State → Prop} {cc : ByteArray} {pc : Nat} {ls : Array Slot} {rest : List Value} {E : Ev} {A : Nat → Prop} {ad : Nat → Nat} {nL : Nat} {rt : Option FieldType} (C0 : Cx E A RGG cc nL rt p s m args meth c) (hap : Ap ad ixC A) {x x' : St} {v0 : Nat} {r : Int32} (ho_v0 : isO ixC v0 4) (hc : ff_SH_openJoints x v0 = some (r, x')) (hP : Wd E ad ixC x H) (hS : va_S A s.heap H locs) (hR : rm_SH_openJoints.frames + 1 ≤ R.frames ∧ 8 + (3 + 11) + rm_SH_openJoints.locals ≤ R.locals) (hls : ls.size = nL) (hroom : (rest.map fun v => v.category).sum ≤ 8) (hdg : decode cc pc = .ok (.invokevirtual 120, 3)) (hf : cells ≤ R.cells ∧ slots ≤ R.slots) (kk : ∀ H1 locs1, Wd E ad ixC x' H1 → va_S A s.heap H1 locs1 → W p l e R s m args below meth c H1 locs1 cells slots Q (F0 m (pc + 3) ls (.int r :: rest))) : W p l e R s m args below meth c H locs cells slots Q (F0 m pc ls (.ref (ad v0) :: rest)) :=
  rcV (n := 0) C0 (cc_SH_openJoints hap ho_v0 hc) hP hS ho_v0 vcl_4 (by decide) gw_code_SH_openJoints gw_m_GG_120 gw_inst_SH_openJoints gw_sel_SH_openJoints gw_ini_SH rfl rfl (by decide +kernel) rfl hR hls rfl hroom hdg hf (fun H1 locs1 a _ _ b => kk H1 locs1 a b)
theorem cl_GG_123 {p : Program} {l : Launch} {e : Env} {R : Room} {s : State} {m : MethodId} {args : Array Value} {below : List Frame} {meth : Method} {c : Code} {H : Heap} {locs : List Loc} {cells slots : Nat} {Q : State → Prop} {cc : ByteArray} {pc : Nat} {ls : Array Slot} {rest : List Value} {E : Ev} {A : Nat → Prop} {ad : Nat → Nat} {nL : Nat} {rt : Option FieldType} (C0 : Cx E A RGG cc nL rt p s m args meth c) (hap : Ap ad ixC A) {x x' : St} {v0 : Int32} {r : Int32}  (hc : ff_IN_bitCount x v0 = some (r, x')) (hP : Wd E ad ixC x H) (hS : va_S A s.heap H locs) (hR : rm_IN_bitCount.frames + 1 ≤ R.frames ∧ 8 + (1 + 11) + rm_IN_bitCount.locals ≤ R.locals) (hls : ls.size = nL) (hroom : (rest.map fun v => v.category).sum ≤ 8) (hdg : decode cc pc = .ok (.invokestatic 123, 3)) (hf : cells ≤ R.cells ∧ slots ≤ R.slots) (kk : ∀ H1 locs1, Wd E ad ixC x' H1 → va_S A s.heap H1 locs1 → W p l e R s m args below meth c H1 locs1 cells slots Q (F0 m (pc + 3) ls (.int r :: rest))) : W p l e R s m args below meth c H locs cells slots Q (F0 m pc ls (.int v0 :: rest)) :=
  rcS (n := 1) C0 (cc_IN_bitCount hap  hc) hP hS gw_code_IN_bitCount gw_m_GG_123 gw_static_IN_bitCount gw_ini_IN rfl rfl (by decide +kernel) rfl hR hls rfl hroom hdg hf (fun H1 locs1 a _ _ b => kk H1 locs1 a b)
abbrev rm_GG_day : Room := { frames := 4, cells := 0, slots := 0, locals := 93 }
theorem dd_GG_day_0 : decode bb_GG_day 0 = .ok (.iload_n 1, 1) := by decide +kernel
theorem dd_GG_day_1 : decode bb_GG_day 1 = .ok (.aload_n 0, 1) := by decide +kernel
theorem dd_GG_day_2 : decode bb_GG_day 2 = .ok (.getfield 12, 3) := by decide +kernel
theorem dd_GG_day_5 : decode bb_GG_day 5 = .ok (.getfield 117, 3) := by decide +kernel
theorem dd_GG_day_8 : decode bb_GG_day 8 = .ok (.bipush 99, 2) := by decide +kernel
theorem dd_GG_day_10 : decode bb_GG_day 10 = .ok (.invokestatic 49, 3) := by decide +kernel
theorem dd_GG_day_13 : decode bb_GG_day 13 = .ok (.ifCond .ne 8, 3) := by decide +kernel
theorem dd_GG_day_16 : decode bb_GG_day 16 = .ok (.aload_n 0, 1) := by decide +kernel
theorem dd_GG_day_17 : decode bb_GG_day 17 = .ok (.invokevirtual 53, 3) := by decide +kernel
theorem dd_GG_day_20 : decode bb_GG_day 20 = .ok (.ireturn, 1) := by decide +kernel
theorem dd_GG_day_21 : decode bb_GG_day 21 = .ok (.aload_n 0, 1) := by decide +kernel
theorem dd_GG_day_22 : decode bb_GG_day 22 = .ok (.getfield 12, 3) := by decide +kernel
theorem dd_GG_day_25 : decode bb_GG_day 25 = .ok (.invokevirtual 106, 3) := by decide +kernel
theorem dd_GG_day_28 : decode bb_GG_day 28 = .ok (.aload_n 0, 1) := by decide +kernel
theorem dd_GG_day_29 : decode bb_GG_day 29 = .ok (.getfield 12, 3) := by decide +kernel
theorem dd_GG_day_32 : decode bb_GG_day 32 = .ok (.iload_n 1, 1) := by decide +kernel
theorem dd_GG_day_33 : decode bb_GG_day 33 = .ok (.putfield 117, 3) := by decide +kernel
theorem dd_GG_day_36 : decode bb_GG_day 36 = .ok (.aload_n 0, 1) := by decide +kernel
theorem dd_GG_day_37 : decode bb_GG_day 37 = .ok (.getfield 12, 3) := by decide +kernel
theorem dd_GG_day_40 : decode bb_GG_day 40 = .ok (.invokevirtual 120, 3) := by decide +kernel
theorem dd_GG_day_43 : decode bb_GG_day 43 = .ok (.invokestatic 123, 3) := by decide +kernel
theorem dd_GG_day_46 : decode bb_GG_day 46 = .ok (.ireturn, 1) := by decide +kernel
def ff_GG_day  (x : St) (v0 : Nat) (v1 : Int32) : Option (Int32 × St) := bnd (ff_GG_isWithin x v1 (gi x (rf v0 0) 9) 99) (fun r_1 x_2 => (if r_1 = 0 then bnd (ff_GG_refuseBad x_2 v0) (fun r_15 x_16 => some (r_15, x_16)) else bnd (ff_SH_keepPast x_2 (rf v0 0)) (fun _ x_6 => st (si x_6 (rf v0 0) 9 v1) (fun x_8 => bnd (ff_SH_openJoints x_8 (rf v0 0)) (fun r_9 x_10 => bnd (ff_IN_bitCount x_10 r_9) (fun r_12 x_13 => some (r_12, x_13)))))))
set_option maxHeartbeats 4000000 in
set_option maxRecDepth 100000 in
theorem ww_GG_day {p : Program} {l : Launch} {e : Env} {s : State} {m : MethodId} {args : Array Value} {below : List Frame} {meth : Method} {c : Code} {E : Ev} {A : Nat → Prop} {ad : Nat → Nat} {r : Int32} {x' : St} (C0 : Cx E A RGG bb_GG_day 2 (some .int) p s m args meth c) (hap : Ap ad ixC A)  {x : St} {v0 : Nat} {v1 : Int32} (ho_v0 : isO ixC v0 5) (hf : ff_GG_day x v0 v1 = some (r, x')) {H : Heap} {locs : List Loc} {ls : Array Slot} (hP : Wd E ad ixC x H) (hS : va_S A s.heap H locs) (hl : lv_has ls 2 [(0, .ref (ad v0)), (1, .int v1)]) : W p l e rm_GG_day s m args below meth c H locs 0 0 (MQ below (QX E ad ixC A (some (.int r)) x') args s 0 0 A) (F0 m 0 ls []) := by
  obtain ⟨hx, hb, hml, hr, hown, hts, hlk, hK⟩ := id C0
  have hf : bnd (ff_GG_isWithin x v1 (gi x (rf v0 0) 9) 99) (fun r_1 x_2 => (if r_1 = 0 then bnd (ff_GG_refuseBad x_2 v0) (fun r_15 x_16 => some (r_15, x_16)) else bnd (ff_SH_keepPast x_2 (rf v0 0)) (fun _ x_6 => st (si x_6 (rf v0 0) 9 v1) (fun x_8 => bnd (ff_SH_openJoints x_8 (rf v0 0)) (fun r_9 x_10 => bnd (ff_IN_bitCount x_10 r_9) (fun r_12 x_13 => some (r_12, x_13))))))) = some (r, x') := hf
  refine lv_iload_n hx hb dd_GG_day_0 rfl (lv_at hl 1 rfl) ?_
  refine lv_aload_n hx hb dd_GG_day_1 rfl (lv_at hl 0 rfl) ?_
  refine gf_GG_12 C0 hP ho_v0 dd_GG_day_2 ?_
  refine gf_GG_117 C0 hP (tp_5_0 ho_v0) dd_GG_day_5 ?_
  refine lv_bipush (v := 99) hx hb dd_GG_day_8 (by decide) ?_
  obtain ⟨r_1, x_2, c_3, hf⟩ := of_bnd hf
  refine cl_GG_49 C0 hap  c_3 hP hS ⟨Nat.le_of_ble_eq_true rfl, Nat.le_of_ble_eq_true rfl⟩ hl.1 (Nat.le_of_ble_eq_true rfl) dd_GG_day_10 ⟨Nat.le_refl _, Nat.le_refl _⟩ (fun H locs hP hS => ?_)
  refine lv_if_ne (tgt := 21) hx hb dd_GG_day_13 (by decide) (fun h_4 => ?_) (fun h_4 => ?_)
  · have hf := (if_neg h_4).symm.trans hf
    refine lv_aload_n hx hb dd_GG_day_21 rfl (lv_at hl 0 rfl) ?_
    refine gf_GG_12 C0 hP ho_v0 dd_GG_day_22 ?_
    obtain ⟨_, x_6, c_7, hf⟩ := of_bnd hf
    refine cl_GG_106 C0 hap (tp_5_0 ho_v0) c_7 hP hS ⟨Nat.le_of_ble_eq_true rfl, Nat.le_of_ble_eq_true rfl⟩ hl.1 (Nat.le_of_ble_eq_true rfl) dd_GG_day_25 ⟨Nat.le_refl _, Nat.le_refl _⟩ (fun H locs hP hS => ?_)
    refine lv_aload_n hx hb dd_GG_day_28 rfl (lv_at hl 0 rfl) ?_
    refine gf_GG_12 C0 hP ho_v0 dd_GG_day_29 ?_
    refine lv_iload_n hx hb dd_GG_day_32 rfl (lv_at hl 1 rfl) ?_
    obtain ⟨x_8, hx_8, hf⟩ := of_st hf
    refine pf_GG_117 C0 hap hP hS (tp_5_0 ho_v0) hx_8 dd_GG_day_33 (fun H locs hP hS => ?_)
    refine lv_aload_n hx hb dd_GG_day_36 rfl (lv_at hl 0 rfl) ?_
    refine gf_GG_12 C0 hP ho_v0 dd_GG_day_37 ?_
    obtain ⟨r_9, x_10, c_11, hf⟩ := of_bnd hf
    refine cl_GG_120 C0 hap (tp_5_0 ho_v0) c_11 hP hS ⟨Nat.le_of_ble_eq_true rfl, Nat.le_of_ble_eq_true rfl⟩ hl.1 (Nat.le_of_ble_eq_true rfl) dd_GG_day_40 ⟨Nat.le_refl _, Nat.le_refl _⟩ (fun H locs hP hS => ?_)
    obtain ⟨r_12, x_13, c_14, hf⟩ := of_bnd hf
    refine cl_GG_123 C0 hap  c_14 hP hS ⟨Nat.le_of_ble_eq_true rfl, Nat.le_of_ble_eq_true rfl⟩ hl.1 (Nat.le_of_ble_eq_true rfl) dd_GG_day_43 ⟨Nat.le_refl _, Nat.le_refl _⟩ (fun H locs hP hS => ?_)
    exact rrI C0 hP hS dd_GG_day_46 hf
  · have hf := (if_pos h_4).symm.trans hf
    refine lv_aload_n hx hb dd_GG_day_16 rfl (lv_at hl 0 rfl) ?_
    obtain ⟨r_15, x_16, c_17, hf⟩ := of_bnd hf
    refine cl_GG_53 C0 hap ho_v0 c_17 hP hS ⟨Nat.le_of_ble_eq_true rfl, Nat.le_of_ble_eq_true rfl⟩ hl.1 (Nat.le_of_ble_eq_true rfl) dd_GG_day_17 ⟨Nat.le_refl _, Nat.le_refl _⟩ (fun H locs hP hS => ?_)
    exact rrI C0 hP hS dd_GG_day_20 hf
theorem cc_GG_day {l : Launch} {E : Ev} {A : Nat → Prop} {ad : Nat → Nat} (hap : Ap ad ixC A) {x x' : St} {v0 : Nat} {v1 : Int32} {r : Int32} (ho_v0 : isO ixC v0 5) (hf : ff_GG_day x v0 v1 = some (r, x')) : Met l yy_GG_day (Cond.code yy_GG_day bb_GG_day 2 (some .int) :: gtb) rm_GG_day (va_Pc [.ref (ad v0), .int v1] (PB E A ad ixC x)) (QX E ad ixC A (some (.int r)) x') 0 0 A := by
  exact enter (by decide) (Nat.le_of_ble_eq_true rfl) (fun p e s m below meth c ls C0 hP hS hl => ww_GG_day C0 hap ho_v0 hf hP hS hl)
theorem cl_GG_131 {p : Program} {l : Launch} {e : Env} {R : Room} {s : State} {m : MethodId} {args : Array Value} {below : List Frame} {meth : Method} {c : Code} {H : Heap} {locs : List Loc} {cells slots : Nat} {Q : State → Prop} {cc : ByteArray} {pc : Nat} {ls : Array Slot} {rest : List Value} {E : Ev} {A : Nat → Prop} {ad : Nat → Nat} {nL : Nat} {rt : Option FieldType} (C0 : Cx E A RGG cc nL rt p s m args meth c) (hap : Ap ad ixC A) {x x' : St} {v0 : Nat} {r : Unit} (ho_v0 : isO ixC v0 4) (hc : ff_SH_goBack x v0 = some (r, x')) (hP : Wd E ad ixC x H) (hS : va_S A s.heap H locs) (hR : rm_SH_goBack.frames + 1 ≤ R.frames ∧ 8 + (1 + 11) + rm_SH_goBack.locals ≤ R.locals) (hls : ls.size = nL) (hroom : (rest.map fun v => v.category).sum ≤ 8) (hdg : decode cc pc = .ok (.invokevirtual 131, 3)) (hf : cells ≤ R.cells ∧ slots ≤ R.slots) (kk : ∀ H1 locs1, Wd E ad ixC x' H1 → va_S A s.heap H1 locs1 → W p l e R s m args below meth c H1 locs1 cells slots Q (F0 m (pc + 3) ls (rest))) : W p l e R s m args below meth c H locs cells slots Q (F0 m pc ls (.ref (ad v0) :: rest)) :=
  rcV (n := 0) C0 (cc_SH_goBack hap ho_v0 hc) hP hS ho_v0 vcl_4 (by decide) gw_code_SH_goBack gw_m_GG_131 gw_inst_SH_goBack gw_sel_SH_goBack gw_ini_SH rfl rfl (by decide +kernel) rfl hR hls rfl hroom hdg hf (fun H1 locs1 a _ _ b => kk H1 locs1 a b)
abbrev rm_GG_undo : Room := { frames := 2, cells := 0, slots := 0, locals := 46 }
theorem dd_GG_undo_0 : decode bb_GG_undo 0 = .ok (.aload_n 0, 1) := by decide +kernel
theorem dd_GG_undo_1 : decode bb_GG_undo 1 = .ok (.getfield 12, 3) := by decide +kernel
theorem dd_GG_undo_4 : decode bb_GG_undo 4 = .ok (.getfield 128, 3) := by decide +kernel
theorem dd_GG_undo_7 : decode bb_GG_undo 7 = .ok (.ifCond .ne 8, 3) := by decide +kernel
theorem dd_GG_undo_10 : decode bb_GG_undo 10 = .ok (.aload_n 0, 1) := by decide +kernel
theorem dd_GG_undo_11 : decode bb_GG_undo 11 = .ok (.invokevirtual 100, 3) := by decide +kernel
theorem dd_GG_undo_14 : decode bb_GG_undo 14 = .ok (.ireturn, 1) := by decide +kernel
theorem dd_GG_undo_15 : decode bb_GG_undo 15 = .ok (.aload_n 0, 1) := by decide +kernel
theorem dd_GG_undo_16 : decode bb_GG_undo 16 = .ok (.getfield 12, 3) := by decide +kernel
theorem dd_GG_undo_19 : decode bb_GG_undo 19 = .ok (.invokevirtual 131, 3) := by decide +kernel
theorem dd_GG_undo_22 : decode bb_GG_undo 22 = .ok (.iconst 1, 1) := by decide +kernel
theorem dd_GG_undo_23 : decode bb_GG_undo 23 = .ok (.ireturn, 1) := by decide +kernel
def ff_GG_undo  (x : St) (v0 : Nat) : Option (Int32 × St) := (if (gi x (rf v0 0) 8) = 0 then bnd (ff_GG_refuseNo x v0) (fun r_5 x_6 => some (r_5, x_6)) else bnd (ff_SH_goBack x (rf v0 0)) (fun _ x_3 => some (1, x_3)))
set_option maxHeartbeats 4000000 in
set_option maxRecDepth 100000 in
theorem ww_GG_undo {p : Program} {l : Launch} {e : Env} {s : State} {m : MethodId} {args : Array Value} {below : List Frame} {meth : Method} {c : Code} {E : Ev} {A : Nat → Prop} {ad : Nat → Nat} {r : Int32} {x' : St} (C0 : Cx E A RGG bb_GG_undo 1 (some .int) p s m args meth c) (hap : Ap ad ixC A)  {x : St} {v0 : Nat} (ho_v0 : isO ixC v0 5) (hf : ff_GG_undo x v0 = some (r, x')) {H : Heap} {locs : List Loc} {ls : Array Slot} (hP : Wd E ad ixC x H) (hS : va_S A s.heap H locs) (hl : lv_has ls 1 [(0, .ref (ad v0))]) : W p l e rm_GG_undo s m args below meth c H locs 0 0 (MQ below (QX E ad ixC A (some (.int r)) x') args s 0 0 A) (F0 m 0 ls []) := by
  obtain ⟨hx, hb, hml, hr, hown, hts, hlk, hK⟩ := id C0
  have hf : (if (gi x (rf v0 0) 8) = 0 then bnd (ff_GG_refuseNo x v0) (fun r_5 x_6 => some (r_5, x_6)) else bnd (ff_SH_goBack x (rf v0 0)) (fun _ x_3 => some (1, x_3))) = some (r, x') := hf
  refine lv_aload_n hx hb dd_GG_undo_0 rfl (lv_at hl 0 rfl) ?_
  refine gf_GG_12 C0 hP ho_v0 dd_GG_undo_1 ?_
  refine gf_GG_128 C0 hP (tp_5_0 ho_v0) dd_GG_undo_4 ?_
  refine lv_if_ne (tgt := 15) hx hb dd_GG_undo_7 (by decide) (fun h_1 => ?_) (fun h_1 => ?_)
  · have hf := (if_neg h_1).symm.trans hf
    refine lv_aload_n hx hb dd_GG_undo_15 rfl (lv_at hl 0 rfl) ?_
    refine gf_GG_12 C0 hP ho_v0 dd_GG_undo_16 ?_
    obtain ⟨_, x_3, c_4, hf⟩ := of_bnd hf
    refine cl_GG_131 C0 hap (tp_5_0 ho_v0) c_4 hP hS ⟨Nat.le_of_ble_eq_true rfl, Nat.le_of_ble_eq_true rfl⟩ hl.1 (Nat.le_of_ble_eq_true rfl) dd_GG_undo_19 ⟨Nat.le_refl _, Nat.le_refl _⟩ (fun H locs hP hS => ?_)
    refine lv_iconst (v := 1) hx hb dd_GG_undo_22 (by decide) ?_
    exact rrI C0 hP hS dd_GG_undo_23 hf
  · have hf := (if_pos h_1).symm.trans hf
    refine lv_aload_n hx hb dd_GG_undo_10 rfl (lv_at hl 0 rfl) ?_
    obtain ⟨r_5, x_6, c_7, hf⟩ := of_bnd hf
    refine cl_GG_100 C0 hap ho_v0 c_7 hP hS ⟨Nat.le_of_ble_eq_true rfl, Nat.le_of_ble_eq_true rfl⟩ hl.1 (Nat.le_of_ble_eq_true rfl) dd_GG_undo_11 ⟨Nat.le_refl _, Nat.le_refl _⟩ (fun H locs hP hS => ?_)
    exact rrI C0 hP hS dd_GG_undo_14 hf
theorem cc_GG_undo {l : Launch} {E : Ev} {A : Nat → Prop} {ad : Nat → Nat} (hap : Ap ad ixC A) {x x' : St} {v0 : Nat} {r : Int32} (ho_v0 : isO ixC v0 5) (hf : ff_GG_undo x v0 = some (r, x')) : Met l yy_GG_undo (Cond.code yy_GG_undo bb_GG_undo 1 (some .int) :: gtb) rm_GG_undo (va_Pc [.ref (ad v0)] (PB E A ad ixC x)) (QX E ad ixC A (some (.int r)) x') 0 0 A := by
  exact enter (by decide) (Nat.le_of_ble_eq_true rfl) (fun p e s m below meth c ls C0 hP hS hl => ww_GG_undo C0 hap ho_v0 hf hP hS hl)
theorem cl_GG_137 {p : Program} {l : Launch} {e : Env} {R : Room} {s : State} {m : MethodId} {args : Array Value} {below : List Frame} {meth : Method} {c : Code} {H : Heap} {locs : List Loc} {cells slots : Nat} {Q : State → Prop} {cc : ByteArray} {pc : Nat} {ls : Array Slot} {rest : List Value} {E : Ev} {A : Nat → Prop} {ad : Nat → Nat} {nL : Nat} {rt : Option FieldType} (C0 : Cx E A RGG cc nL rt p s m args meth c) (hap : Ap ad ixC A) {x x' : St} {v0 : Nat} {v1 : Int32} {r : Unit} (ho_v0 : isO ixC v0 3) (hc : ff_RE_addByte x v0 v1 = some (r, x')) (hP : Wd E ad ixC x H) (hS : va_S A s.heap H locs) (hR : rm_RE_addByte.frames + 1 ≤ R.frames ∧ 8 + (2 + 11) + rm_RE_addByte.locals ≤ R.locals) (hls : ls.size = nL) (hroom : (rest.map fun v => v.category).sum ≤ 8) (hdg : decode cc pc = .ok (.invokevirtual 137, 3)) (hf : cells ≤ R.cells ∧ slots ≤ R.slots) (kk : ∀ H1 locs1, Wd E ad ixC x' H1 → va_S A s.heap H1 locs1 → W p l e R s m args below meth c H1 locs1 cells slots Q (F0 m (pc + 3) ls (rest))) : W p l e R s m args below meth c H locs cells slots Q (F0 m pc ls (.int v1 :: .ref (ad v0) :: rest)) :=
  rcV (n := 1) C0 (cc_RE_addByte hap ho_v0 hc) hP hS ho_v0 vcl_3 (by decide) gw_code_RE_addByte gw_m_GG_137 gw_inst_RE_addByte gw_sel_RE_addByte gw_ini_RE rfl rfl (by decide +kernel) rfl hR hls rfl hroom hdg hf (fun H1 locs1 a _ _ b => kk H1 locs1 a b)
abbrev rm_GG_type : Room := { frames := 1, cells := 0, slots := 0, locals := 22 }
theorem dd_GG_type_0 : decode bb_GG_type 0 = .ok (.iload_n 3, 1) := by decide +kernel
theorem dd_GG_type_1 : decode bb_GG_type 1 = .ok (.iconst 1, 1) := by decide +kernel
theorem dd_GG_type_2 : decode bb_GG_type 2 = .ok (.bipush 8, 2) := by decide +kernel
theorem dd_GG_type_4 : decode bb_GG_type 4 = .ok (.invokestatic 49, 3) := by decide +kernel
theorem dd_GG_type_7 : decode bb_GG_type 7 = .ok (.ifCond .ne 8, 3) := by decide +kernel
theorem dd_GG_type_10 : decode bb_GG_type 10 = .ok (.aload_n 0, 1) := by decide +kernel
theorem dd_GG_type_11 : decode bb_GG_type 11 = .ok (.invokevirtual 53, 3) := by decide +kernel
theorem dd_GG_type_14 : decode bb_GG_type 14 = .ok (.ireturn, 1) := by decide +kernel
theorem dd_GG_type_15 : decode bb_GG_type 15 = .ok (.aload_n 0, 1) := by decide +kernel
theorem dd_GG_type_16 : decode bb_GG_type 16 = .ok (.getfield 27, 3) := by decide +kernel
theorem dd_GG_type_19 : decode bb_GG_type 19 = .ok (.getfield 134, 3) := by decide +kernel
theorem dd_GG_type_22 : decode bb_GG_type 22 = .ok (.iload_n 3, 1) := by decide +kernel
theorem dd_GG_type_23 : decode bb_GG_type 23 = .ok (.iadd, 1) := by decide +kernel
theorem dd_GG_type_24 : decode bb_GG_type 24 = .ok (.sipush 250, 3) := by decide +kernel
theorem dd_GG_type_27 : decode bb_GG_type 27 = .ok (.if_icmp .le 8, 3) := by decide +kernel
theorem dd_GG_type_30 : decode bb_GG_type 30 = .ok (.aload_n 0, 1) := by decide +kernel
theorem dd_GG_type_31 : decode bb_GG_type 31 = .ok (.invokevirtual 67, 3) := by decide +kernel
theorem dd_GG_type_34 : decode bb_GG_type 34 = .ok (.ireturn, 1) := by decide +kernel
theorem dd_GG_type_35 : decode bb_GG_type 35 = .ok (.iload_n 3, 1) := by decide +kernel
theorem dd_GG_type_36 : decode bb_GG_type 36 = .ok (.iconst 1, 1) := by decide +kernel
theorem dd_GG_type_37 : decode bb_GG_type 37 = .ok (.isub, 1) := by decide +kernel
theorem dd_GG_type_38 : decode bb_GG_type 38 = .ok (.istore 4, 2) := by decide +kernel
theorem dd_GG_type_40 : decode bb_GG_type 40 = .ok (.iload 4, 2) := by decide +kernel
theorem dd_GG_type_42 : decode bb_GG_type 42 = .ok (.ifCond .lt 28, 3) := by decide +kernel
theorem dd_GG_type_45 : decode bb_GG_type 45 = .ok (.aload_n 0, 1) := by decide +kernel
theorem dd_GG_type_46 : decode bb_GG_type 46 = .ok (.getfield 27, 3) := by decide +kernel
theorem dd_GG_type_49 : decode bb_GG_type 49 = .ok (.lload_n 1, 1) := by decide +kernel
theorem dd_GG_type_50 : decode bb_GG_type 50 = .ok (.bipush 8, 2) := by decide +kernel
theorem dd_GG_type_52 : decode bb_GG_type 52 = .ok (.iload 4, 2) := by decide +kernel
theorem dd_GG_type_54 : decode bb_GG_type 54 = .ok (.imul, 1) := by decide +kernel
theorem dd_GG_type_55 : decode bb_GG_type 55 = .ok (.lushr, 1) := by decide +kernel
theorem dd_GG_type_56 : decode bb_GG_type 56 = .ok (.l2i, 1) := by decide +kernel
theorem dd_GG_type_57 : decode bb_GG_type 57 = .ok (.sipush 255, 3) := by decide +kernel
theorem dd_GG_type_60 : decode bb_GG_type 60 = .ok (.iand, 1) := by decide +kernel
theorem dd_GG_type_61 : decode bb_GG_type 61 = .ok (.invokevirtual 137, 3) := by decide +kernel
theorem dd_GG_type_64 : decode bb_GG_type 64 = .ok (.iinc 4 (-1), 3) := by decide +kernel
theorem dd_GG_type_67 : decode bb_GG_type 67 = .ok (.goto (-27), 3) := by decide +kernel
theorem dd_GG_type_70 : decode bb_GG_type 70 = .ok (.aload_n 0, 1) := by decide +kernel
theorem dd_GG_type_71 : decode bb_GG_type 71 = .ok (.getfield 27, 3) := by decide +kernel
theorem dd_GG_type_74 : decode bb_GG_type 74 = .ok (.getfield 134, 3) := by decide +kernel
theorem dd_GG_type_77 : decode bb_GG_type 77 = .ok (.ireturn, 1) := by decide +kernel
def ff_GG_type_40  : Nat → St → Nat → Int64 → Int32 → Option (Int32 × St)
  | 0, _, _, _, _ => none
  | n + 1, x, v0, v1, v4 => (if v4 < 0 then some (gi x (rf v0 3) 1, x) else bnd (ff_RE_addByte x (rf v0 3) ((((v1.toUInt64 >>> ((8 * v4 : Int32).toInt64.toUInt64 &&& Int64.toUInt64 63)).toInt64).toInt32) &&& 255)) (fun _ x_8 => ff_GG_type_40 n x_8 v0 v1 (v4 + (-1))))
def ff_GG_type  (x : St) (v0 : Nat) (v1 : Int64) (v3 : Int32) : Option (Int32 × St) := bnd (ff_GG_isWithin x v3 1 8) (fun r_1 x_2 => (if r_1 = 0 then bnd (ff_GG_refuseBad x_2 v0) (fun r_13 x_14 => some (r_13, x_14)) else (if ((gi x_2 (rf v0 3) 1) + v3) ≤ 250 then ff_GG_type_40 FU x_2 v0 v1 (v3 - 1) else bnd (ff_GG_refuseFull x_2 v0) (fun r_10 x_11 => some (r_10, x_11)))))
set_option maxHeartbeats 4000000 in
set_option maxRecDepth 100000 in
theorem ww_GG_type_40 {p : Program} {l : Launch} {e : Env} {s : State} {m : MethodId} {args : Array Value} {below : List Frame} {meth : Method} {c : Code} {E : Ev} {A : Nat → Prop} {ad : Nat → Nat} {r : Int32} {x' : St} (C0 : Cx E A RGG bb_GG_type 5 (some .int) p s m args meth c) (hap : Ap ad ixC A)  : ∀ (n : Nat), ∀ (x : St) (v0 : Nat) (v1 : Int64) (v4 : Int32), (isO ixC v0 5) → ff_GG_type_40 n x v0 v1 v4 = some (r, x') → ∀ (H : Heap) (locs : List Loc) (ls : Array Slot), Wd E ad ixC x H → va_S A s.heap H locs → lv_has ls 5 [(0, .ref (ad v0)), (1, .long v1), (4, .int v4)] → W p l e rm_GG_type s m args below meth c H locs 0 0 (MQ below (QX E ad ixC A (some (.int r)) x') args s 0 0 A) (F0 m 40 ls []) := by
  obtain ⟨hx, hb, hml, hr, hown, hts, hlk, hK⟩ := id C0
  intro n
  induction n with
  | zero => intro x v0 v1 v4 ho_v0 hf; exact of_no hf
  | succ n ih =>
    intro x v0 v1 v4 ho_v0 hf H locs ls hP hS hl
    have hf : (if v4 < 0 then some (gi x (rf v0 3) 1, x) else bnd (ff_RE_addByte x (rf v0 3) ((((v1.toUInt64 >>> ((8 * v4 : Int32).toInt64.toUInt64 &&& Int64.toUInt64 63)).toInt64).toInt32) &&& 255)) (fun _ x_8 => ff_GG_type_40 n x_8 v0 v1 (v4 + (-1)))) = some (r, x') := hf
    refine lv_iload hx hb dd_GG_type_40 (lv_at hl 2 rfl) ?_
    refine lv_if_lt (tgt := 70) hx hb dd_GG_type_42 (by decide) (fun h_6 => ?_) (fun h_6 => ?_)
    · have hf := (if_pos h_6).symm.trans hf
      refine lv_aload_n hx hb dd_GG_type_70 rfl (lv_at hl 0 rfl) ?_
      refine gf_GG_27 C0 hP ho_v0 dd_GG_type_71 ?_
      refine gf_GG_134 C0 hP (tp_5_3 ho_v0) dd_GG_type_74 ?_
      exact rrI C0 hP hS dd_GG_type_77 hf
    · have hf := (if_neg h_6).symm.trans hf
      refine lv_aload_n hx hb dd_GG_type_45 rfl (lv_at hl 0 rfl) ?_
      refine gf_GG_27 C0 hP ho_v0 dd_GG_type_46 ?_
      refine lv_lload_n hx hb dd_GG_type_49 rfl (lv_at hl 1 rfl) ?_
      refine lv_bipush (v := 8) hx hb dd_GG_type_50 (by decide) ?_
      refine lv_iload hx hb dd_GG_type_52 (lv_at hl 2 rfl) ?_
      refine lv_imul hx hb dd_GG_type_54 ?_
      refine lv_lushr hx hb dd_GG_type_55 rfl ?_
      refine lv_l2i hx hb dd_GG_type_56 rfl ?_
      refine lv_sipush (v := 255) hx hb dd_GG_type_57 (by decide) ?_
      refine lv_iand hx hb dd_GG_type_60 ?_
      obtain ⟨_, x_8, c_9, hf⟩ := of_bnd hf
      refine cl_GG_137 C0 hap (tp_5_3 ho_v0) c_9 hP hS ⟨Nat.le_of_ble_eq_true rfl, Nat.le_of_ble_eq_true rfl⟩ hl.1 (Nat.le_of_ble_eq_true rfl) dd_GG_type_61 ⟨Nat.le_refl _, Nat.le_refl _⟩ (fun H locs hP hS => ?_)
      refine lv_iinc (v := v4 + (-1)) (lv' := [(4, .int (v4 + (-1))), (0, .ref (ad v0)), (1, .long v1)]) hx hb dd_GG_type_64 hl (k := 2) rfl rfl (by decide) rfl (fun ls hl => ?_)
      refine lv_goto (tgt := 40) hx hb dd_GG_type_67 (by decide) ?_
      exact ih x_8 v0 v1 (v4 + (-1)) ho_v0 hf _ _ _ hP hS (lv_sub hl [1, 2, 0] rfl)
set_option maxHeartbeats 4000000 in
set_option maxRecDepth 100000 in
theorem ww_GG_type {p : Program} {l : Launch} {e : Env} {s : State} {m : MethodId} {args : Array Value} {below : List Frame} {meth : Method} {c : Code} {E : Ev} {A : Nat → Prop} {ad : Nat → Nat} {r : Int32} {x' : St} (C0 : Cx E A RGG bb_GG_type 5 (some .int) p s m args meth c) (hap : Ap ad ixC A)  {x : St} {v0 : Nat} {v1 : Int64} {v3 : Int32} (ho_v0 : isO ixC v0 5) (hf : ff_GG_type x v0 v1 v3 = some (r, x')) {H : Heap} {locs : List Loc} {ls : Array Slot} (hP : Wd E ad ixC x H) (hS : va_S A s.heap H locs) (hl : lv_has ls 5 [(0, .ref (ad v0)), (1, .long v1), (3, .int v3)]) : W p l e rm_GG_type s m args below meth c H locs 0 0 (MQ below (QX E ad ixC A (some (.int r)) x') args s 0 0 A) (F0 m 0 ls []) := by
  obtain ⟨hx, hb, hml, hr, hown, hts, hlk, hK⟩ := id C0
  have hf : bnd (ff_GG_isWithin x v3 1 8) (fun r_1 x_2 => (if r_1 = 0 then bnd (ff_GG_refuseBad x_2 v0) (fun r_13 x_14 => some (r_13, x_14)) else (if ((gi x_2 (rf v0 3) 1) + v3) ≤ 250 then ff_GG_type_40 FU x_2 v0 v1 (v3 - 1) else bnd (ff_GG_refuseFull x_2 v0) (fun r_10 x_11 => some (r_10, x_11))))) = some (r, x') := hf
  refine lv_iload_n hx hb dd_GG_type_0 rfl (lv_at hl 2 rfl) ?_
  refine lv_iconst (v := 1) hx hb dd_GG_type_1 (by decide) ?_
  refine lv_bipush (v := 8) hx hb dd_GG_type_2 (by decide) ?_
  obtain ⟨r_1, x_2, c_3, hf⟩ := of_bnd hf
  refine cl_GG_49 C0 hap  c_3 hP hS ⟨Nat.le_of_ble_eq_true rfl, Nat.le_of_ble_eq_true rfl⟩ hl.1 (Nat.le_of_ble_eq_true rfl) dd_GG_type_4 ⟨Nat.le_refl _, Nat.le_refl _⟩ (fun H locs hP hS => ?_)
  refine lv_if_ne (tgt := 15) hx hb dd_GG_type_7 (by decide) (fun h_4 => ?_) (fun h_4 => ?_)
  · have hf := (if_neg h_4).symm.trans hf
    refine lv_aload_n hx hb dd_GG_type_15 rfl (lv_at hl 0 rfl) ?_
    refine gf_GG_27 C0 hP ho_v0 dd_GG_type_16 ?_
    refine gf_GG_134 C0 hP (tp_5_3 ho_v0) dd_GG_type_19 ?_
    refine lv_iload_n hx hb dd_GG_type_22 rfl (lv_at hl 2 rfl) ?_
    refine lv_iadd hx hb dd_GG_type_23 ?_
    refine lv_sipush (v := 250) hx hb dd_GG_type_24 (by decide) ?_
    refine lv_icmp_le (tgt := 35) hx hb dd_GG_type_27 (by decide) (fun h_5 => ?_) (fun h_5 => ?_)
    · have hf := (if_pos h_5).symm.trans hf
      refine lv_iload_n hx hb dd_GG_type_35 rfl (lv_at hl 2 rfl) ?_
      refine lv_iconst (v := 1) hx hb dd_GG_type_36 (by decide) ?_
      refine lv_isub hx hb dd_GG_type_37 ?_
      refine lv_istore (lv' := [(4, .int (v3 - 1)), (0, .ref (ad v0)), (1, .long v1), (3, .int v3)]) hx hb dd_GG_type_38 hl (by decide) rfl (fun ls hl => ?_)
      exact ww_GG_type_40 C0 hap  FU x_2 v0 v1 (v3 - 1) ho_v0 hf _ _ _ hP hS (lv_sub hl [1, 2, 0] rfl)
    · have hf := (if_neg h_5).symm.trans hf
      refine lv_aload_n hx hb dd_GG_type_30 rfl (lv_at hl 0 rfl) ?_
      obtain ⟨r_10, x_11, c_12, hf⟩ := of_bnd hf
      refine cl_GG_67 C0 hap ho_v0 c_12 hP hS ⟨Nat.le_of_ble_eq_true rfl, Nat.le_of_ble_eq_true rfl⟩ hl.1 (Nat.le_of_ble_eq_true rfl) dd_GG_type_31 ⟨Nat.le_refl _, Nat.le_refl _⟩ (fun H locs hP hS => ?_)
      exact rrI C0 hP hS dd_GG_type_34 hf
  · have hf := (if_pos h_4).symm.trans hf
    refine lv_aload_n hx hb dd_GG_type_10 rfl (lv_at hl 0 rfl) ?_
    obtain ⟨r_13, x_14, c_15, hf⟩ := of_bnd hf
    refine cl_GG_53 C0 hap ho_v0 c_15 hP hS ⟨Nat.le_of_ble_eq_true rfl, Nat.le_of_ble_eq_true rfl⟩ hl.1 (Nat.le_of_ble_eq_true rfl) dd_GG_type_11 ⟨Nat.le_refl _, Nat.le_refl _⟩ (fun H locs hP hS => ?_)
    exact rrI C0 hP hS dd_GG_type_14 hf
theorem cc_GG_type {l : Launch} {E : Ev} {A : Nat → Prop} {ad : Nat → Nat} (hap : Ap ad ixC A) {x x' : St} {v0 : Nat} {v1 : Int64} {v3 : Int32} {r : Int32} (ho_v0 : isO ixC v0 5) (hf : ff_GG_type x v0 v1 v3 = some (r, x')) : Met l yy_GG_type (Cond.code yy_GG_type bb_GG_type 5 (some .int) :: gtb) rm_GG_type (va_Pc [.ref (ad v0), .long v1, .int v3] (PB E A ad ixC x)) (QX E ad ixC A (some (.int r)) x') 0 0 A := by
  exact enter (by decide) (Nat.le_of_ble_eq_true rfl) (fun p e s m below meth c ls C0 hP hS hl => ww_GG_type C0 hap ho_v0 hf hP hS hl)
abbrev rm_GG_clear : Room := { frames := 0, cells := 0, slots := 0, locals := 0 }
theorem dd_GG_clear_0 : decode bb_GG_clear 0 = .ok (.aload_n 0, 1) := by decide +kernel
theorem dd_GG_clear_1 : decode bb_GG_clear 1 = .ok (.getfield 27, 3) := by decide +kernel
theorem dd_GG_clear_4 : decode bb_GG_clear 4 = .ok (.getfield 134, 3) := by decide +kernel
theorem dd_GG_clear_7 : decode bb_GG_clear 7 = .ok (.istore_n 1, 1) := by decide +kernel
theorem dd_GG_clear_8 : decode bb_GG_clear 8 = .ok (.aload_n 0, 1) := by decide +kernel
theorem dd_GG_clear_9 : decode bb_GG_clear 9 = .ok (.getfield 27, 3) := by decide +kernel
theorem dd_GG_clear_12 : decode bb_GG_clear 12 = .ok (.iconst 0, 1) := by decide +kernel
theorem dd_GG_clear_13 : decode bb_GG_clear 13 = .ok (.putfield 134, 3) := by decide +kernel
theorem dd_GG_clear_16 : decode bb_GG_clear 16 = .ok (.iload_n 1, 1) := by decide +kernel
theorem dd_GG_clear_17 : decode bb_GG_clear 17 = .ok (.ireturn, 1) := by decide +kernel
def ff_GG_clear  (x : St) (v0 : Nat) : Option (Int32 × St) := st (si x (rf v0 3) 1 0) (fun x_1 => some (gi x (rf v0 3) 1, x_1))
set_option maxHeartbeats 4000000 in
set_option maxRecDepth 100000 in
theorem ww_GG_clear {p : Program} {l : Launch} {e : Env} {s : State} {m : MethodId} {args : Array Value} {below : List Frame} {meth : Method} {c : Code} {E : Ev} {A : Nat → Prop} {ad : Nat → Nat} {r : Int32} {x' : St} (C0 : Cx E A RGG bb_GG_clear 2 (some .int) p s m args meth c) (hap : Ap ad ixC A)  {x : St} {v0 : Nat} (ho_v0 : isO ixC v0 5) (hf : ff_GG_clear x v0 = some (r, x')) {H : Heap} {locs : List Loc} {ls : Array Slot} (hP : Wd E ad ixC x H) (hS : va_S A s.heap H locs) (hl : lv_has ls 2 [(0, .ref (ad v0))]) : W p l e rm_GG_clear s m args below meth c H locs 0 0 (MQ below (QX E ad ixC A (some (.int r)) x') args s 0 0 A) (F0 m 0 ls []) := by
  obtain ⟨hx, hb, hml, hr, hown, hts, hlk, hK⟩ := id C0
  have hf : st (si x (rf v0 3) 1 0) (fun x_1 => some (gi x (rf v0 3) 1, x_1)) = some (r, x') := hf
  refine lv_aload_n hx hb dd_GG_clear_0 rfl (lv_at hl 0 rfl) ?_
  refine gf_GG_27 C0 hP ho_v0 dd_GG_clear_1 ?_
  refine gf_GG_134 C0 hP (tp_5_3 ho_v0) dd_GG_clear_4 ?_
  refine lv_istore_n (lv' := [(1, .int (gi x (rf v0 3) 1)), (0, .ref (ad v0))]) hx hb dd_GG_clear_7 rfl hl (by decide) rfl (fun ls hl => ?_)
  refine lv_aload_n hx hb dd_GG_clear_8 rfl (lv_at hl 1 rfl) ?_
  refine gf_GG_27 C0 hP ho_v0 dd_GG_clear_9 ?_
  refine lv_iconst (v := 0) hx hb dd_GG_clear_12 (by decide) ?_
  obtain ⟨x_1, hx_1, hf⟩ := of_st hf
  refine pf_GG_134 C0 hap hP hS (tp_5_3 ho_v0) hx_1 dd_GG_clear_13 (fun H locs hP hS => ?_)
  refine lv_iload_n hx hb dd_GG_clear_16 rfl (lv_at hl 0 rfl) ?_
  exact rrI C0 hP hS dd_GG_clear_17 hf
theorem cc_GG_clear {l : Launch} {E : Ev} {A : Nat → Prop} {ad : Nat → Nat} (hap : Ap ad ixC A) {x x' : St} {v0 : Nat} {r : Int32} (ho_v0 : isO ixC v0 5) (hf : ff_GG_clear x v0 = some (r, x')) : Met l yy_GG_clear (Cond.code yy_GG_clear bb_GG_clear 2 (some .int) :: gtb) rm_GG_clear (va_Pc [.ref (ad v0)] (PB E A ad ixC x)) (QX E ad ixC A (some (.int r)) x') 0 0 A := by
  exact enter (by decide) (Nat.le_of_ble_eq_true rfl) (fun p e s m below meth c ls C0 hP hS hl => ww_GG_clear C0 hap ho_v0 hf hP hS hl)
theorem cl_GG_141 {p : Program} {l : Launch} {e : Env} {R : Room} {s : State} {m : MethodId} {args : Array Value} {below : List Frame} {meth : Method} {c : Code} {H : Heap} {locs : List Loc} {cells slots : Nat} {Q : State → Prop} {cc : ByteArray} {pc : Nat} {ls : Array Slot} {rest : List Value} {E : Ev} {A : Nat → Prop} {ad : Nat → Nat} {nL : Nat} {rt : Option FieldType} (C0 : Cx E A RGG cc nL rt p s m args meth c) (hap : Ap ad ixC A) {x x' : St} {v0 : Nat} {r : Int32} (ho_v0 : isO ixC v0 3) (hc : ff_RE_readItems x v0 = some (r, x')) (hP : Wd E ad ixC x H) (hS : va_S A s.heap H locs) (hR : rm_RE_readItems.frames + 1 ≤ R.frames ∧ 8 + (3 + 11) + rm_RE_readItems.locals ≤ R.locals) (hls : ls.size = nL) (hroom : (rest.map fun v => v.category).sum ≤ 8) (hdg : decode cc pc = .ok (.invokevirtual 141, 3)) (hf : cells ≤ R.cells ∧ slots ≤ R.slots) (kk : ∀ H1 locs1, Wd E ad ixC x' H1 → va_S A s.heap H1 locs1 → W p l e R s m args below meth c H1 locs1 cells slots Q (F0 m (pc + 3) ls (.int r :: rest))) : W p l e R s m args below meth c H locs cells slots Q (F0 m pc ls (.ref (ad v0) :: rest)) :=
  rcV (n := 0) C0 (cc_RE_readItems hap ho_v0 hc) hP hS ho_v0 vcl_3 (by decide) gw_code_RE_readItems gw_m_GG_141 gw_inst_RE_readItems gw_sel_RE_readItems gw_ini_RE rfl rfl (by decide +kernel) rfl hR hls rfl hroom hdg hf (fun H1 locs1 a _ _ b => kk H1 locs1 a b)
theorem cl_GG_148 {p : Program} {l : Launch} {e : Env} {R : Room} {s : State} {m : MethodId} {args : Array Value} {below : List Frame} {meth : Method} {c : Code} {H : Heap} {locs : List Loc} {cells slots : Nat} {Q : State → Prop} {cc : ByteArray} {pc : Nat} {ls : Array Slot} {rest : List Value} {E : Ev} {A : Nat → Prop} {ad : Nat → Nat} {nL : Nat} {rt : Option FieldType} (C0 : Cx E A RGG cc nL rt p s m args meth c) (hap : Ap ad ixC A) {x x' : St} {v0 : Nat} {v1 : Nat} {r : Unit} (ho_v0 : isO ixC v0 4) (ho_v1 : isO ixC v1 4) (hc : ff_SH_copyFrom x v0 v1 = some (r, x')) (hP : Wd E ad ixC x H) (hS : va_S A s.heap H locs) (hR : rm_SH_copyFrom.frames + 1 ≤ R.frames ∧ 8 + (3 + 11) + rm_SH_copyFrom.locals ≤ R.locals) (hls : ls.size = nL) (hroom : (rest.map fun v => v.category).sum ≤ 8) (hdg : decode cc pc = .ok (.invokevirtual 148, 3)) (hf : cells ≤ R.cells ∧ slots ≤ R.slots) (kk : ∀ H1 locs1, Wd E ad ixC x' H1 → va_S A s.heap H1 locs1 → W p l e R s m args below meth c H1 locs1 cells slots Q (F0 m (pc + 3) ls (rest))) : W p l e R s m args below meth c H locs cells slots Q (F0 m pc ls (.ref (ad v1) :: .ref (ad v0) :: rest)) :=
  rcV (n := 1) C0 (cc_SH_copyFrom hap ho_v0 ho_v1 hc) hP hS ho_v0 vcl_4 (by decide) gw_code_SH_copyFrom gw_m_GG_148 gw_inst_SH_copyFrom gw_sel_SH_copyFrom gw_ini_SH rfl rfl (by decide +kernel) rfl hR hls rfl hroom hdg hf (fun H1 locs1 a _ _ b => kk H1 locs1 a b)
theorem cl_GG_152 {p : Program} {l : Launch} {e : Env} {R : Room} {s : State} {m : MethodId} {args : Array Value} {below : List Frame} {meth : Method} {c : Code} {H : Heap} {locs : List Loc} {cells slots : Nat} {Q : State → Prop} {cc : ByteArray} {pc : Nat} {ls : Array Slot} {rest : List Value} {E : Ev} {A : Nat → Prop} {ad : Nat → Nat} {nL : Nat} {rt : Option FieldType} (C0 : Cx E A RGG cc nL rt p s m args meth c) (hap : Ap ad ixC A) {x x' : St} {v0 : Nat} {r : Unit} (ho_v0 : isO ixC v0 4) (hc : ff_SH_renewAllGriefs x v0 = some (r, x')) (hP : Wd E ad ixC x H) (hS : va_S A s.heap H locs) (hR : rm_SH_renewAllGriefs.frames + 1 ≤ R.frames ∧ 8 + (2 + 11) + rm_SH_renewAllGriefs.locals ≤ R.locals) (hls : ls.size = nL) (hroom : (rest.map fun v => v.category).sum ≤ 8) (hdg : decode cc pc = .ok (.invokevirtual 152, 3)) (hf : cells ≤ R.cells ∧ slots ≤ R.slots) (kk : ∀ H1 locs1, Wd E ad ixC x' H1 → va_S A s.heap H1 locs1 → W p l e R s m args below meth c H1 locs1 cells slots Q (F0 m (pc + 3) ls (rest))) : W p l e R s m args below meth c H locs cells slots Q (F0 m pc ls (.ref (ad v0) :: rest)) :=
  rcV (n := 0) C0 (cc_SH_renewAllGriefs hap ho_v0 hc) hP hS ho_v0 vcl_4 (by decide) gw_code_SH_renewAllGriefs gw_m_GG_152 gw_inst_SH_renewAllGriefs gw_sel_SH_renewAllGriefs gw_ini_SH rfl rfl (by decide +kernel) rfl hR hls rfl hroom hdg hf (fun H1 locs1 a _ _ b => kk H1 locs1 a b)
abbrev rm_GG_read : Room := { frames := 6, cells := 0, slots := 0, locals := 135 }
theorem dd_GG_read_0 : decode bb_GG_read 0 = .ok (.aload_n 0, 1) := by decide +kernel
theorem dd_GG_read_1 : decode bb_GG_read 1 = .ok (.getfield 27, 3) := by decide +kernel
theorem dd_GG_read_4 : decode bb_GG_read 4 = .ok (.invokevirtual 141, 3) := by decide +kernel
theorem dd_GG_read_7 : decode bb_GG_read 7 = .ok (.istore_n 1, 1) := by decide +kernel
theorem dd_GG_read_8 : decode bb_GG_read 8 = .ok (.aload_n 0, 1) := by decide +kernel
theorem dd_GG_read_9 : decode bb_GG_read 9 = .ok (.getfield 27, 3) := by decide +kernel
theorem dd_GG_read_12 : decode bb_GG_read 12 = .ok (.getfield 144, 3) := by decide +kernel
theorem dd_GG_read_15 : decode bb_GG_read 15 = .ok (.iconst (-1), 1) := by decide +kernel
theorem dd_GG_read_16 : decode bb_GG_read 16 = .ok (.if_icmp .eq 14, 3) := by decide +kernel
theorem dd_GG_read_19 : decode bb_GG_read 19 = .ok (.bipush (-10), 2) := by decide +kernel
theorem dd_GG_read_21 : decode bb_GG_read 21 = .ok (.aload_n 0, 1) := by decide +kernel
theorem dd_GG_read_22 : decode bb_GG_read 22 = .ok (.getfield 27, 3) := by decide +kernel
theorem dd_GG_read_25 : decode bb_GG_read 25 = .ok (.getfield 144, 3) := by decide +kernel
theorem dd_GG_read_28 : decode bb_GG_read 28 = .ok (.isub, 1) := by decide +kernel
theorem dd_GG_read_29 : decode bb_GG_read 29 = .ok (.ireturn, 1) := by decide +kernel
theorem dd_GG_read_30 : decode bb_GG_read 30 = .ok (.aload_n 0, 1) := by decide +kernel
theorem dd_GG_read_31 : decode bb_GG_read 31 = .ok (.getfield 12, 3) := by decide +kernel
theorem dd_GG_read_34 : decode bb_GG_read 34 = .ok (.aload_n 0, 1) := by decide +kernel
theorem dd_GG_read_35 : decode bb_GG_read 35 = .ok (.getfield 27, 3) := by decide +kernel
theorem dd_GG_read_38 : decode bb_GG_read 38 = .ok (.getfield 147, 3) := by decide +kernel
theorem dd_GG_read_41 : decode bb_GG_read 41 = .ok (.invokevirtual 148, 3) := by decide +kernel
theorem dd_GG_read_44 : decode bb_GG_read 44 = .ok (.aload_n 0, 1) := by decide +kernel
theorem dd_GG_read_45 : decode bb_GG_read 45 = .ok (.getfield 12, 3) := by decide +kernel
theorem dd_GG_read_48 : decode bb_GG_read 48 = .ok (.invokevirtual 152, 3) := by decide +kernel
theorem dd_GG_read_51 : decode bb_GG_read 51 = .ok (.iload_n 1, 1) := by decide +kernel
theorem dd_GG_read_52 : decode bb_GG_read 52 = .ok (.ireturn, 1) := by decide +kernel
def ff_GG_read  (x : St) (v0 : Nat) : Option (Int32 × St) := bnd (ff_RE_readItems x (rf v0 3)) (fun r_1 x_2 => (if (gi x_2 (rf v0 3) 3) = (-1) then bnd (ff_SH_copyFrom x_2 (rf v0 0) (rf (rf v0 3) 4)) (fun _ x_6 => bnd (ff_SH_renewAllGriefs x_6 (rf v0 0)) (fun _ x_9 => some (r_1, x_9))) else some ((-10) - (gi x_2 (rf v0 3) 3), x_2)))
set_option maxHeartbeats 4000000 in
set_option maxRecDepth 100000 in
theorem ww_GG_read {p : Program} {l : Launch} {e : Env} {s : State} {m : MethodId} {args : Array Value} {below : List Frame} {meth : Method} {c : Code} {E : Ev} {A : Nat → Prop} {ad : Nat → Nat} {r : Int32} {x' : St} (C0 : Cx E A RGG bb_GG_read 2 (some .int) p s m args meth c) (hap : Ap ad ixC A)  {x : St} {v0 : Nat} (ho_v0 : isO ixC v0 5) (hf : ff_GG_read x v0 = some (r, x')) {H : Heap} {locs : List Loc} {ls : Array Slot} (hP : Wd E ad ixC x H) (hS : va_S A s.heap H locs) (hl : lv_has ls 2 [(0, .ref (ad v0))]) : W p l e rm_GG_read s m args below meth c H locs 0 0 (MQ below (QX E ad ixC A (some (.int r)) x') args s 0 0 A) (F0 m 0 ls []) := by
  obtain ⟨hx, hb, hml, hr, hown, hts, hlk, hK⟩ := id C0
  have hf : bnd (ff_RE_readItems x (rf v0 3)) (fun r_1 x_2 => (if (gi x_2 (rf v0 3) 3) = (-1) then bnd (ff_SH_copyFrom x_2 (rf v0 0) (rf (rf v0 3) 4)) (fun _ x_6 => bnd (ff_SH_renewAllGriefs x_6 (rf v0 0)) (fun _ x_9 => some (r_1, x_9))) else some ((-10) - (gi x_2 (rf v0 3) 3), x_2))) = some (r, x') := hf
  refine lv_aload_n hx hb dd_GG_read_0 rfl (lv_at hl 0 rfl) ?_
  refine gf_GG_27 C0 hP ho_v0 dd_GG_read_1 ?_
  obtain ⟨r_1, x_2, c_3, hf⟩ := of_bnd hf
  refine cl_GG_141 C0 hap (tp_5_3 ho_v0) c_3 hP hS ⟨Nat.le_of_ble_eq_true rfl, Nat.le_of_ble_eq_true rfl⟩ hl.1 (Nat.le_of_ble_eq_true rfl) dd_GG_read_4 ⟨Nat.le_refl _, Nat.le_refl _⟩ (fun H locs hP hS => ?_)
  refine lv_istore_n (lv' := [(1, .int r_1), (0, .ref (ad v0))]) hx hb dd_GG_read_7 rfl hl (by decide) rfl (fun ls hl => ?_)
  refine lv_aload_n hx hb dd_GG_read_8 rfl (lv_at hl 1 rfl) ?_
  refine gf_GG_27 C0 hP ho_v0 dd_GG_read_9 ?_
  refine gf_GG_144 C0 hP (tp_5_3 ho_v0) dd_GG_read_12 ?_
  refine lv_iconst (v := -1) hx hb dd_GG_read_15 (by decide) ?_
  refine lv_icmp_eq (tgt := 30) hx hb dd_GG_read_16 (by decide) (fun h_4 => ?_) (fun h_4 => ?_)
  · have hf := (if_pos h_4).symm.trans hf
    refine lv_aload_n hx hb dd_GG_read_30 rfl (lv_at hl 1 rfl) ?_
    refine gf_GG_12 C0 hP ho_v0 dd_GG_read_31 ?_
    refine lv_aload_n hx hb dd_GG_read_34 rfl (lv_at hl 1 rfl) ?_
    refine gf_GG_27 C0 hP ho_v0 dd_GG_read_35 ?_
    refine gf_GG_147 C0 hP (tp_5_3 ho_v0) dd_GG_read_38 ?_
    obtain ⟨_, x_6, c_7, hf⟩ := of_bnd hf
    refine cl_GG_148 C0 hap (tp_5_0 ho_v0) (tp_3_4 (tp_5_3 ho_v0)) c_7 hP hS ⟨Nat.le_of_ble_eq_true rfl, Nat.le_of_ble_eq_true rfl⟩ hl.1 (Nat.le_of_ble_eq_true rfl) dd_GG_read_41 ⟨Nat.le_refl _, Nat.le_refl _⟩ (fun H locs hP hS => ?_)
    refine lv_aload_n hx hb dd_GG_read_44 rfl (lv_at hl 1 rfl) ?_
    refine gf_GG_12 C0 hP ho_v0 dd_GG_read_45 ?_
    obtain ⟨_, x_9, c_10, hf⟩ := of_bnd hf
    refine cl_GG_152 C0 hap (tp_5_0 ho_v0) c_10 hP hS ⟨Nat.le_of_ble_eq_true rfl, Nat.le_of_ble_eq_true rfl⟩ hl.1 (Nat.le_of_ble_eq_true rfl) dd_GG_read_48 ⟨Nat.le_refl _, Nat.le_refl _⟩ (fun H locs hP hS => ?_)
    refine lv_iload_n hx hb dd_GG_read_51 rfl (lv_at hl 0 rfl) ?_
    exact rrI C0 hP hS dd_GG_read_52 hf
  · have hf := (if_neg h_4).symm.trans hf
    refine lv_bipush (v := -10) hx hb dd_GG_read_19 (by decide) ?_
    refine lv_aload_n hx hb dd_GG_read_21 rfl (lv_at hl 1 rfl) ?_
    refine gf_GG_27 C0 hP ho_v0 dd_GG_read_22 ?_
    refine gf_GG_144 C0 hP (tp_5_3 ho_v0) dd_GG_read_25 ?_
    refine lv_isub hx hb dd_GG_read_28 ?_
    exact rrI C0 hP hS dd_GG_read_29 hf
theorem cc_GG_read {l : Launch} {E : Ev} {A : Nat → Prop} {ad : Nat → Nat} (hap : Ap ad ixC A) {x x' : St} {v0 : Nat} {r : Int32} (ho_v0 : isO ixC v0 5) (hf : ff_GG_read x v0 = some (r, x')) : Met l yy_GG_read (Cond.code yy_GG_read bb_GG_read 2 (some .int) :: gtb) rm_GG_read (va_Pc [.ref (ad v0)] (PB E A ad ixC x)) (QX E ad ixC A (some (.int r)) x') 0 0 A := by
  exact enter (by decide) (Nat.le_of_ble_eq_true rfl) (fun p e s m below meth c ls C0 hP hS hl => ww_GG_read C0 hap ho_v0 hf hP hS hl)
theorem cl_GG_155 {p : Program} {l : Launch} {e : Env} {R : Room} {s : State} {m : MethodId} {args : Array Value} {below : List Frame} {meth : Method} {c : Code} {H : Heap} {locs : List Loc} {cells slots : Nat} {Q : State → Prop} {cc : ByteArray} {pc : Nat} {ls : Array Slot} {rest : List Value} {E : Ev} {A : Nat → Prop} {ad : Nat → Nat} {nL : Nat} {rt : Option FieldType} (C0 : Cx E A RGG cc nL rt p s m args meth c) (hap : Ap ad ixC A) {x x' : St} {v0 : Nat} {v1 : Int32} {v2 : Int32} {r : Int32} (ho_v0 : isO ixC v0 4) (hc : ff_SH_griefOn x v0 v1 v2 = some (r, x')) (hP : Wd E ad ixC x H) (hS : va_S A s.heap H locs) (hR : rm_SH_griefOn.frames + 1 ≤ R.frames ∧ 8 + (3 + 11) + rm_SH_griefOn.locals ≤ R.locals) (hls : ls.size = nL) (hroom : (rest.map fun v => v.category).sum ≤ 8) (hdg : decode cc pc = .ok (.invokevirtual 155, 3)) (hf : cells ≤ R.cells ∧ slots ≤ R.slots) (kk : ∀ H1 locs1, Wd E ad ixC x' H1 → va_S A s.heap H1 locs1 → W p l e R s m args below meth c H1 locs1 cells slots Q (F0 m (pc + 3) ls (.int r :: rest))) : W p l e R s m args below meth c H locs cells slots Q (F0 m pc ls (.int v2 :: .int v1 :: .ref (ad v0) :: rest)) :=
  rcV (n := 2) C0 (cc_SH_griefOn hap ho_v0 hc) hP hS ho_v0 vcl_4 (by decide) gw_code_SH_griefOn gw_m_GG_155 gw_inst_SH_griefOn gw_sel_SH_griefOn gw_ini_SH rfl rfl (by decide +kernel) rfl hR hls rfl hroom hdg hf (fun H1 locs1 a _ _ b => kk H1 locs1 a b)
abbrev rm_GG_grief : Room := { frames := 2, cells := 0, slots := 0, locals := 44 }
theorem dd_GG_grief_0 : decode bb_GG_grief 0 = .ok (.aload_n 0, 1) := by decide +kernel
theorem dd_GG_grief_1 : decode bb_GG_grief 1 = .ok (.getfield 12, 3) := by decide +kernel
theorem dd_GG_grief_4 : decode bb_GG_grief 4 = .ok (.getfield 57, 3) := by decide +kernel
theorem dd_GG_grief_7 : decode bb_GG_grief 7 = .ok (.iload_n 1, 1) := by decide +kernel
theorem dd_GG_grief_8 : decode bb_GG_grief 8 = .ok (.invokevirtual 86, 3) := by decide +kernel
theorem dd_GG_grief_11 : decode bb_GG_grief 11 = .ok (.ifCond .eq 13, 3) := by decide +kernel
theorem dd_GG_grief_14 : decode bb_GG_grief 14 = .ok (.iload_n 2, 1) := by decide +kernel
theorem dd_GG_grief_15 : decode bb_GG_grief 15 = .ok (.iconst 0, 1) := by decide +kernel
theorem dd_GG_grief_16 : decode bb_GG_grief 16 = .ok (.bipush 99, 2) := by decide +kernel
theorem dd_GG_grief_18 : decode bb_GG_grief 18 = .ok (.invokestatic 49, 3) := by decide +kernel
theorem dd_GG_grief_21 : decode bb_GG_grief 21 = .ok (.ifCond .ne 8, 3) := by decide +kernel
theorem dd_GG_grief_24 : decode bb_GG_grief 24 = .ok (.aload_n 0, 1) := by decide +kernel
theorem dd_GG_grief_25 : decode bb_GG_grief 25 = .ok (.invokevirtual 53, 3) := by decide +kernel
theorem dd_GG_grief_28 : decode bb_GG_grief 28 = .ok (.ireturn, 1) := by decide +kernel
theorem dd_GG_grief_29 : decode bb_GG_grief 29 = .ok (.aload_n 0, 1) := by decide +kernel
theorem dd_GG_grief_30 : decode bb_GG_grief 30 = .ok (.getfield 12, 3) := by decide +kernel
theorem dd_GG_grief_33 : decode bb_GG_grief 33 = .ok (.iload_n 1, 1) := by decide +kernel
theorem dd_GG_grief_34 : decode bb_GG_grief 34 = .ok (.iload_n 2, 1) := by decide +kernel
theorem dd_GG_grief_35 : decode bb_GG_grief 35 = .ok (.invokevirtual 155, 3) := by decide +kernel
theorem dd_GG_grief_38 : decode bb_GG_grief 38 = .ok (.ireturn, 1) := by decide +kernel
def ff_GG_grief  (x : St) (v0 : Nat) (v1 : Int32) (v2 : Int32) : Option (Int32 × St) := bnd (ff_LE_has x (rf (rf v0 0) 0) v1) (fun r_1 x_2 => (if r_1 = 0 then bnd (ff_GG_refuseBad x_2 v0) (fun r_5 x_6 => some (r_5, x_6)) else bnd (ff_GG_isWithin x_2 v2 0 99) (fun r_8 x_9 => (if r_8 = 0 then bnd (ff_GG_refuseBad x_9 v0) (fun r_15 x_16 => some (r_15, x_16)) else bnd (ff_SH_griefOn x_9 (rf v0 0) v1 v2) (fun r_12 x_13 => some (r_12, x_13))))))
set_option maxHeartbeats 4000000 in
set_option maxRecDepth 100000 in
theorem ww_GG_grief {p : Program} {l : Launch} {e : Env} {s : State} {m : MethodId} {args : Array Value} {below : List Frame} {meth : Method} {c : Code} {E : Ev} {A : Nat → Prop} {ad : Nat → Nat} {r : Int32} {x' : St} (C0 : Cx E A RGG bb_GG_grief 3 (some .int) p s m args meth c) (hap : Ap ad ixC A)  {x : St} {v0 : Nat} {v1 : Int32} {v2 : Int32} (ho_v0 : isO ixC v0 5) (hf : ff_GG_grief x v0 v1 v2 = some (r, x')) {H : Heap} {locs : List Loc} {ls : Array Slot} (hP : Wd E ad ixC x H) (hS : va_S A s.heap H locs) (hl : lv_has ls 3 [(0, .ref (ad v0)), (1, .int v1), (2, .int v2)]) : W p l e rm_GG_grief s m args below meth c H locs 0 0 (MQ below (QX E ad ixC A (some (.int r)) x') args s 0 0 A) (F0 m 0 ls []) := by
  obtain ⟨hx, hb, hml, hr, hown, hts, hlk, hK⟩ := id C0
  have hf : bnd (ff_LE_has x (rf (rf v0 0) 0) v1) (fun r_1 x_2 => (if r_1 = 0 then bnd (ff_GG_refuseBad x_2 v0) (fun r_5 x_6 => some (r_5, x_6)) else bnd (ff_GG_isWithin x_2 v2 0 99) (fun r_8 x_9 => (if r_8 = 0 then bnd (ff_GG_refuseBad x_9 v0) (fun r_15 x_16 => some (r_15, x_16)) else bnd (ff_SH_griefOn x_9 (rf v0 0) v1 v2) (fun r_12 x_13 => some (r_12, x_13)))))) = some (r, x') := hf
  refine lv_aload_n hx hb dd_GG_grief_0 rfl (lv_at hl 0 rfl) ?_
  refine gf_GG_12 C0 hP ho_v0 dd_GG_grief_1 ?_
  refine gf_GG_57 C0 hP (tp_5_0 ho_v0) dd_GG_grief_4 ?_
  refine lv_iload_n hx hb dd_GG_grief_7 rfl (lv_at hl 1 rfl) ?_
  obtain ⟨r_1, x_2, c_3, hf⟩ := of_bnd hf
  refine cl_GG_86 C0 hap (tp_4_0 (tp_5_0 ho_v0)) c_3 hP hS ⟨Nat.le_of_ble_eq_true rfl, Nat.le_of_ble_eq_true rfl⟩ hl.1 (Nat.le_of_ble_eq_true rfl) dd_GG_grief_8 ⟨Nat.le_refl _, Nat.le_refl _⟩ (fun H locs hP hS => ?_)
  refine lv_if_eq (tgt := 24) hx hb dd_GG_grief_11 (by decide) (fun h_4 => ?_) (fun h_4 => ?_)
  · have hf := (if_pos h_4).symm.trans hf
    refine lv_aload_n hx hb dd_GG_grief_24 rfl (lv_at hl 0 rfl) ?_
    obtain ⟨r_5, x_6, c_7, hf⟩ := of_bnd hf
    refine cl_GG_53 C0 hap ho_v0 c_7 hP hS ⟨Nat.le_of_ble_eq_true rfl, Nat.le_of_ble_eq_true rfl⟩ hl.1 (Nat.le_of_ble_eq_true rfl) dd_GG_grief_25 ⟨Nat.le_refl _, Nat.le_refl _⟩ (fun H locs hP hS => ?_)
    exact rrI C0 hP hS dd_GG_grief_28 hf
  · have hf := (if_neg h_4).symm.trans hf
    refine lv_iload_n hx hb dd_GG_grief_14 rfl (lv_at hl 2 rfl) ?_
    refine lv_iconst (v := 0) hx hb dd_GG_grief_15 (by decide) ?_
    refine lv_bipush (v := 99) hx hb dd_GG_grief_16 (by decide) ?_
    obtain ⟨r_8, x_9, c_10, hf⟩ := of_bnd hf
    refine cl_GG_49 C0 hap  c_10 hP hS ⟨Nat.le_of_ble_eq_true rfl, Nat.le_of_ble_eq_true rfl⟩ hl.1 (Nat.le_of_ble_eq_true rfl) dd_GG_grief_18 ⟨Nat.le_refl _, Nat.le_refl _⟩ (fun H locs hP hS => ?_)
    refine lv_if_ne (tgt := 29) hx hb dd_GG_grief_21 (by decide) (fun h_11 => ?_) (fun h_11 => ?_)
    · have hf := (if_neg h_11).symm.trans hf
      refine lv_aload_n hx hb dd_GG_grief_29 rfl (lv_at hl 0 rfl) ?_
      refine gf_GG_12 C0 hP ho_v0 dd_GG_grief_30 ?_
      refine lv_iload_n hx hb dd_GG_grief_33 rfl (lv_at hl 1 rfl) ?_
      refine lv_iload_n hx hb dd_GG_grief_34 rfl (lv_at hl 2 rfl) ?_
      obtain ⟨r_12, x_13, c_14, hf⟩ := of_bnd hf
      refine cl_GG_155 C0 hap (tp_5_0 ho_v0) c_14 hP hS ⟨Nat.le_of_ble_eq_true rfl, Nat.le_of_ble_eq_true rfl⟩ hl.1 (Nat.le_of_ble_eq_true rfl) dd_GG_grief_35 ⟨Nat.le_refl _, Nat.le_refl _⟩ (fun H locs hP hS => ?_)
      exact rrI C0 hP hS dd_GG_grief_38 hf
    · have hf := (if_pos h_11).symm.trans hf
      refine lv_aload_n hx hb dd_GG_grief_24 rfl (lv_at hl 0 rfl) ?_
      obtain ⟨r_15, x_16, c_17, hf⟩ := of_bnd hf
      refine cl_GG_53 C0 hap ho_v0 c_17 hP hS ⟨Nat.le_of_ble_eq_true rfl, Nat.le_of_ble_eq_true rfl⟩ hl.1 (Nat.le_of_ble_eq_true rfl) dd_GG_grief_25 ⟨Nat.le_refl _, Nat.le_refl _⟩ (fun H locs hP hS => ?_)
      exact rrI C0 hP hS dd_GG_grief_28 hf
theorem cc_GG_grief {l : Launch} {E : Ev} {A : Nat → Prop} {ad : Nat → Nat} (hap : Ap ad ixC A) {x x' : St} {v0 : Nat} {v1 : Int32} {v2 : Int32} {r : Int32} (ho_v0 : isO ixC v0 5) (hf : ff_GG_grief x v0 v1 v2 = some (r, x')) : Met l yy_GG_grief (Cond.code yy_GG_grief bb_GG_grief 3 (some .int) :: gtb) rm_GG_grief (va_Pc [.ref (ad v0), .int v1, .int v2] (PB E A ad ixC x)) (QX E ad ixC A (some (.int r)) x') 0 0 A := by
  exact enter (by decide) (Nat.le_of_ble_eq_true rfl) (fun p e s m below meth c ls C0 hP hS hl => ww_GG_grief C0 hap ho_v0 hf hP hS hl)
abbrev rm_GG_opens : Room := { frames := 3, cells := 0, slots := 0, locals := 71 }
theorem dd_GG_opens_0 : decode bb_GG_opens 0 = .ok (.aload_n 0, 1) := by decide +kernel
theorem dd_GG_opens_1 : decode bb_GG_opens 1 = .ok (.getfield 12, 3) := by decide +kernel
theorem dd_GG_opens_4 : decode bb_GG_opens 4 = .ok (.getfield 74, 3) := by decide +kernel
theorem dd_GG_opens_7 : decode bb_GG_opens 7 = .ok (.iload_n 1, 1) := by decide +kernel
theorem dd_GG_opens_8 : decode bb_GG_opens 8 = .ok (.invokevirtual 86, 3) := by decide +kernel
theorem dd_GG_opens_11 : decode bb_GG_opens 11 = .ok (.ifCond .ne 8, 3) := by decide +kernel
theorem dd_GG_opens_14 : decode bb_GG_opens 14 = .ok (.aload_n 0, 1) := by decide +kernel
theorem dd_GG_opens_15 : decode bb_GG_opens 15 = .ok (.invokevirtual 53, 3) := by decide +kernel
theorem dd_GG_opens_18 : decode bb_GG_opens 18 = .ok (.ireturn, 1) := by decide +kernel
theorem dd_GG_opens_19 : decode bb_GG_opens 19 = .ok (.aload_n 0, 1) := by decide +kernel
theorem dd_GG_opens_20 : decode bb_GG_opens 20 = .ok (.getfield 12, 3) := by decide +kernel
theorem dd_GG_opens_23 : decode bb_GG_opens 23 = .ok (.iload_n 1, 1) := by decide +kernel
theorem dd_GG_opens_24 : decode bb_GG_opens 24 = .ok (.invokevirtual 113, 3) := by decide +kernel
theorem dd_GG_opens_27 : decode bb_GG_opens 27 = .ok (.ireturn, 1) := by decide +kernel
def ff_GG_opens  (x : St) (v0 : Nat) (v1 : Int32) : Option (Int32 × St) := bnd (ff_LE_has x (rf (rf v0 0) 1) v1) (fun r_1 x_2 => (if r_1 = 0 then bnd (ff_GG_refuseBad x_2 v0) (fun r_8 x_9 => some (r_8, x_9)) else bnd (ff_SH_openingOf x_2 (rf v0 0) v1) (fun r_5 x_6 => some (r_5, x_6))))
set_option maxHeartbeats 4000000 in
set_option maxRecDepth 100000 in
theorem ww_GG_opens {p : Program} {l : Launch} {e : Env} {s : State} {m : MethodId} {args : Array Value} {below : List Frame} {meth : Method} {c : Code} {E : Ev} {A : Nat → Prop} {ad : Nat → Nat} {r : Int32} {x' : St} (C0 : Cx E A RGG bb_GG_opens 2 (some .int) p s m args meth c) (hap : Ap ad ixC A)  {x : St} {v0 : Nat} {v1 : Int32} (ho_v0 : isO ixC v0 5) (hf : ff_GG_opens x v0 v1 = some (r, x')) {H : Heap} {locs : List Loc} {ls : Array Slot} (hP : Wd E ad ixC x H) (hS : va_S A s.heap H locs) (hl : lv_has ls 2 [(0, .ref (ad v0)), (1, .int v1)]) : W p l e rm_GG_opens s m args below meth c H locs 0 0 (MQ below (QX E ad ixC A (some (.int r)) x') args s 0 0 A) (F0 m 0 ls []) := by
  obtain ⟨hx, hb, hml, hr, hown, hts, hlk, hK⟩ := id C0
  have hf : bnd (ff_LE_has x (rf (rf v0 0) 1) v1) (fun r_1 x_2 => (if r_1 = 0 then bnd (ff_GG_refuseBad x_2 v0) (fun r_8 x_9 => some (r_8, x_9)) else bnd (ff_SH_openingOf x_2 (rf v0 0) v1) (fun r_5 x_6 => some (r_5, x_6)))) = some (r, x') := hf
  refine lv_aload_n hx hb dd_GG_opens_0 rfl (lv_at hl 0 rfl) ?_
  refine gf_GG_12 C0 hP ho_v0 dd_GG_opens_1 ?_
  refine gf_GG_74 C0 hP (tp_5_0 ho_v0) dd_GG_opens_4 ?_
  refine lv_iload_n hx hb dd_GG_opens_7 rfl (lv_at hl 1 rfl) ?_
  obtain ⟨r_1, x_2, c_3, hf⟩ := of_bnd hf
  refine cl_GG_86 C0 hap (tp_4_1 (tp_5_0 ho_v0)) c_3 hP hS ⟨Nat.le_of_ble_eq_true rfl, Nat.le_of_ble_eq_true rfl⟩ hl.1 (Nat.le_of_ble_eq_true rfl) dd_GG_opens_8 ⟨Nat.le_refl _, Nat.le_refl _⟩ (fun H locs hP hS => ?_)
  refine lv_if_ne (tgt := 19) hx hb dd_GG_opens_11 (by decide) (fun h_4 => ?_) (fun h_4 => ?_)
  · have hf := (if_neg h_4).symm.trans hf
    refine lv_aload_n hx hb dd_GG_opens_19 rfl (lv_at hl 0 rfl) ?_
    refine gf_GG_12 C0 hP ho_v0 dd_GG_opens_20 ?_
    refine lv_iload_n hx hb dd_GG_opens_23 rfl (lv_at hl 1 rfl) ?_
    obtain ⟨r_5, x_6, c_7, hf⟩ := of_bnd hf
    refine cl_GG_113 C0 hap (tp_5_0 ho_v0) c_7 hP hS ⟨Nat.le_of_ble_eq_true rfl, Nat.le_of_ble_eq_true rfl⟩ hl.1 (Nat.le_of_ble_eq_true rfl) dd_GG_opens_24 ⟨Nat.le_refl _, Nat.le_refl _⟩ (fun H locs hP hS => ?_)
    exact rrI C0 hP hS dd_GG_opens_27 hf
  · have hf := (if_pos h_4).symm.trans hf
    refine lv_aload_n hx hb dd_GG_opens_14 rfl (lv_at hl 0 rfl) ?_
    obtain ⟨r_8, x_9, c_10, hf⟩ := of_bnd hf
    refine cl_GG_53 C0 hap ho_v0 c_10 hP hS ⟨Nat.le_of_ble_eq_true rfl, Nat.le_of_ble_eq_true rfl⟩ hl.1 (Nat.le_of_ble_eq_true rfl) dd_GG_opens_15 ⟨Nat.le_refl _, Nat.le_refl _⟩ (fun H locs hP hS => ?_)
    exact rrI C0 hP hS dd_GG_opens_18 hf
theorem cc_GG_opens {l : Launch} {E : Ev} {A : Nat → Prop} {ad : Nat → Nat} (hap : Ap ad ixC A) {x x' : St} {v0 : Nat} {v1 : Int32} {r : Int32} (ho_v0 : isO ixC v0 5) (hf : ff_GG_opens x v0 v1 = some (r, x')) : Met l yy_GG_opens (Cond.code yy_GG_opens bb_GG_opens 2 (some .int) :: gtb) rm_GG_opens (va_Pc [.ref (ad v0), .int v1] (PB E A ad ixC x)) (QX E ad ixC A (some (.int r)) x') 0 0 A := by
  exact enter (by decide) (Nat.le_of_ble_eq_true rfl) (fun p e s m below meth c ls C0 hP hS hl => ww_GG_opens C0 hap ho_v0 hf hP hS hl)
theorem cl_GG_159 {p : Program} {l : Launch} {e : Env} {R : Room} {s : State} {m : MethodId} {args : Array Value} {below : List Frame} {meth : Method} {c : Code} {H : Heap} {locs : List Loc} {cells slots : Nat} {Q : State → Prop} {cc : ByteArray} {pc : Nat} {ls : Array Slot} {rest : List Value} {E : Ev} {A : Nat → Prop} {ad : Nat → Nat} {nL : Nat} {rt : Option FieldType} (C0 : Cx E A RGG cc nL rt p s m args meth c) (hap : Ap ad ixC A) {x x' : St} {v0 : Nat} {v1 : Int32} {r : Int32} (ho_v0 : isO ixC v0 4) (hc : ff_SH_isLasting x v0 v1 = some (r, x')) (hP : Wd E ad ixC x H) (hS : va_S A s.heap H locs) (hR : rm_SH_isLasting.frames + 1 ≤ R.frames ∧ 8 + (4 + 11) + rm_SH_isLasting.locals ≤ R.locals) (hls : ls.size = nL) (hroom : (rest.map fun v => v.category).sum ≤ 8) (hdg : decode cc pc = .ok (.invokevirtual 159, 3)) (hf : cells ≤ R.cells ∧ slots ≤ R.slots) (kk : ∀ H1 locs1, Wd E ad ixC x' H1 → va_S A s.heap H1 locs1 → W p l e R s m args below meth c H1 locs1 cells slots Q (F0 m (pc + 3) ls (.int r :: rest))) : W p l e R s m args below meth c H locs cells slots Q (F0 m pc ls (.int v1 :: .ref (ad v0) :: rest)) :=
  rcV (n := 1) C0 (cc_SH_isLasting hap ho_v0 hc) hP hS ho_v0 vcl_4 (by decide) gw_code_SH_isLasting gw_m_GG_159 gw_inst_SH_isLasting gw_sel_SH_isLasting gw_ini_SH rfl rfl (by decide +kernel) rfl hR hls rfl hroom hdg hf (fun H1 locs1 a _ _ b => kk H1 locs1 a b)
abbrev rm_GG_lasts : Room := { frames := 4, cells := 0, slots := 0, locals := 94 }
theorem dd_GG_lasts_0 : decode bb_GG_lasts 0 = .ok (.aload_n 0, 1) := by decide +kernel
theorem dd_GG_lasts_1 : decode bb_GG_lasts 1 = .ok (.getfield 12, 3) := by decide +kernel
theorem dd_GG_lasts_4 : decode bb_GG_lasts 4 = .ok (.getfield 83, 3) := by decide +kernel
theorem dd_GG_lasts_7 : decode bb_GG_lasts 7 = .ok (.iload_n 1, 1) := by decide +kernel
theorem dd_GG_lasts_8 : decode bb_GG_lasts 8 = .ok (.invokevirtual 86, 3) := by decide +kernel
theorem dd_GG_lasts_11 : decode bb_GG_lasts 11 = .ok (.ifCond .ne 8, 3) := by decide +kernel
theorem dd_GG_lasts_14 : decode bb_GG_lasts 14 = .ok (.aload_n 0, 1) := by decide +kernel
theorem dd_GG_lasts_15 : decode bb_GG_lasts 15 = .ok (.invokevirtual 53, 3) := by decide +kernel
theorem dd_GG_lasts_18 : decode bb_GG_lasts 18 = .ok (.ireturn, 1) := by decide +kernel
theorem dd_GG_lasts_19 : decode bb_GG_lasts 19 = .ok (.aload_n 0, 1) := by decide +kernel
theorem dd_GG_lasts_20 : decode bb_GG_lasts 20 = .ok (.getfield 12, 3) := by decide +kernel
theorem dd_GG_lasts_23 : decode bb_GG_lasts 23 = .ok (.iload_n 1, 1) := by decide +kernel
theorem dd_GG_lasts_24 : decode bb_GG_lasts 24 = .ok (.invokevirtual 159, 3) := by decide +kernel
theorem dd_GG_lasts_27 : decode bb_GG_lasts 27 = .ok (.ifCond .eq 7, 3) := by decide +kernel
theorem dd_GG_lasts_30 : decode bb_GG_lasts 30 = .ok (.iconst 1, 1) := by decide +kernel
theorem dd_GG_lasts_31 : decode bb_GG_lasts 31 = .ok (.goto 4, 3) := by decide +kernel
theorem dd_GG_lasts_34 : decode bb_GG_lasts 34 = .ok (.iconst 0, 1) := by decide +kernel
theorem dd_GG_lasts_35 : decode bb_GG_lasts 35 = .ok (.ireturn, 1) := by decide +kernel
def ff_GG_lasts  (x : St) (v0 : Nat) (v1 : Int32) : Option (Int32 × St) := bnd (ff_LE_has x (rf (rf v0 0) 2) v1) (fun r_1 x_2 => (if r_1 = 0 then bnd (ff_GG_refuseBad x_2 v0) (fun r_9 x_10 => some (r_9, x_10)) else bnd (ff_SH_isLasting x_2 (rf v0 0) v1) (fun r_5 x_6 => (if r_5 = 0 then some (0, x_6) else some (1, x_6)))))
set_option maxHeartbeats 4000000 in
set_option maxRecDepth 100000 in
theorem ww_GG_lasts {p : Program} {l : Launch} {e : Env} {s : State} {m : MethodId} {args : Array Value} {below : List Frame} {meth : Method} {c : Code} {E : Ev} {A : Nat → Prop} {ad : Nat → Nat} {r : Int32} {x' : St} (C0 : Cx E A RGG bb_GG_lasts 2 (some .int) p s m args meth c) (hap : Ap ad ixC A)  {x : St} {v0 : Nat} {v1 : Int32} (ho_v0 : isO ixC v0 5) (hf : ff_GG_lasts x v0 v1 = some (r, x')) {H : Heap} {locs : List Loc} {ls : Array Slot} (hP : Wd E ad ixC x H) (hS : va_S A s.heap H locs) (hl : lv_has ls 2 [(0, .ref (ad v0)), (1, .int v1)]) : W p l e rm_GG_lasts s m args below meth c H locs 0 0 (MQ below (QX E ad ixC A (some (.int r)) x') args s 0 0 A) (F0 m 0 ls []) := by
  obtain ⟨hx, hb, hml, hr, hown, hts, hlk, hK⟩ := id C0
  have hf : bnd (ff_LE_has x (rf (rf v0 0) 2) v1) (fun r_1 x_2 => (if r_1 = 0 then bnd (ff_GG_refuseBad x_2 v0) (fun r_9 x_10 => some (r_9, x_10)) else bnd (ff_SH_isLasting x_2 (rf v0 0) v1) (fun r_5 x_6 => (if r_5 = 0 then some (0, x_6) else some (1, x_6))))) = some (r, x') := hf
  refine lv_aload_n hx hb dd_GG_lasts_0 rfl (lv_at hl 0 rfl) ?_
  refine gf_GG_12 C0 hP ho_v0 dd_GG_lasts_1 ?_
  refine gf_GG_83 C0 hP (tp_5_0 ho_v0) dd_GG_lasts_4 ?_
  refine lv_iload_n hx hb dd_GG_lasts_7 rfl (lv_at hl 1 rfl) ?_
  obtain ⟨r_1, x_2, c_3, hf⟩ := of_bnd hf
  refine cl_GG_86 C0 hap (tp_4_2 (tp_5_0 ho_v0)) c_3 hP hS ⟨Nat.le_of_ble_eq_true rfl, Nat.le_of_ble_eq_true rfl⟩ hl.1 (Nat.le_of_ble_eq_true rfl) dd_GG_lasts_8 ⟨Nat.le_refl _, Nat.le_refl _⟩ (fun H locs hP hS => ?_)
  refine lv_if_ne (tgt := 19) hx hb dd_GG_lasts_11 (by decide) (fun h_4 => ?_) (fun h_4 => ?_)
  · have hf := (if_neg h_4).symm.trans hf
    refine lv_aload_n hx hb dd_GG_lasts_19 rfl (lv_at hl 0 rfl) ?_
    refine gf_GG_12 C0 hP ho_v0 dd_GG_lasts_20 ?_
    refine lv_iload_n hx hb dd_GG_lasts_23 rfl (lv_at hl 1 rfl) ?_
    obtain ⟨r_5, x_6, c_7, hf⟩ := of_bnd hf
    refine cl_GG_159 C0 hap (tp_5_0 ho_v0) c_7 hP hS ⟨Nat.le_of_ble_eq_true rfl, Nat.le_of_ble_eq_true rfl⟩ hl.1 (Nat.le_of_ble_eq_true rfl) dd_GG_lasts_24 ⟨Nat.le_refl _, Nat.le_refl _⟩ (fun H locs hP hS => ?_)
    refine lv_if_eq (tgt := 34) hx hb dd_GG_lasts_27 (by decide) (fun h_8 => ?_) (fun h_8 => ?_)
    · have hf := (if_pos h_8).symm.trans hf
      refine lv_iconst (v := 0) hx hb dd_GG_lasts_34 (by decide) ?_
      exact rrI C0 hP hS dd_GG_lasts_35 hf
    · have hf := (if_neg h_8).symm.trans hf
      refine lv_iconst (v := 1) hx hb dd_GG_lasts_30 (by decide) ?_
      refine lv_goto (tgt := 35) hx hb dd_GG_lasts_31 (by decide) ?_
      exact rrI C0 hP hS dd_GG_lasts_35 hf
  · have hf := (if_pos h_4).symm.trans hf
    refine lv_aload_n hx hb dd_GG_lasts_14 rfl (lv_at hl 0 rfl) ?_
    obtain ⟨r_9, x_10, c_11, hf⟩ := of_bnd hf
    refine cl_GG_53 C0 hap ho_v0 c_11 hP hS ⟨Nat.le_of_ble_eq_true rfl, Nat.le_of_ble_eq_true rfl⟩ hl.1 (Nat.le_of_ble_eq_true rfl) dd_GG_lasts_15 ⟨Nat.le_refl _, Nat.le_refl _⟩ (fun H locs hP hS => ?_)
    exact rrI C0 hP hS dd_GG_lasts_18 hf
theorem cc_GG_lasts {l : Launch} {E : Ev} {A : Nat → Prop} {ad : Nat → Nat} (hap : Ap ad ixC A) {x x' : St} {v0 : Nat} {v1 : Int32} {r : Int32} (ho_v0 : isO ixC v0 5) (hf : ff_GG_lasts x v0 v1 = some (r, x')) : Met l yy_GG_lasts (Cond.code yy_GG_lasts bb_GG_lasts 2 (some .int) :: gtb) rm_GG_lasts (va_Pc [.ref (ad v0), .int v1] (PB E A ad ixC x)) (QX E ad ixC A (some (.int r)) x') 0 0 A := by
  exact enter (by decide) (Nat.le_of_ble_eq_true rfl) (fun p e s m below meth c ls C0 hP hS hl => ww_GG_lasts C0 hap ho_v0 hf hP hS hl)
abbrev rm_GG_open : Room := { frames := 4, cells := 0, slots := 0, locals := 93 }
theorem dd_GG_open_0 : decode bb_GG_open 0 = .ok (.aload_n 0, 1) := by decide +kernel
theorem dd_GG_open_1 : decode bb_GG_open 1 = .ok (.getfield 12, 3) := by decide +kernel
theorem dd_GG_open_4 : decode bb_GG_open 4 = .ok (.invokevirtual 120, 3) := by decide +kernel
theorem dd_GG_open_7 : decode bb_GG_open 7 = .ok (.ireturn, 1) := by decide +kernel
def ff_GG_open  (x : St) (v0 : Nat) : Option (Int32 × St) := bnd (ff_SH_openJoints x (rf v0 0)) (fun r_1 x_2 => some (r_1, x_2))
set_option maxHeartbeats 4000000 in
set_option maxRecDepth 100000 in
theorem ww_GG_open {p : Program} {l : Launch} {e : Env} {s : State} {m : MethodId} {args : Array Value} {below : List Frame} {meth : Method} {c : Code} {E : Ev} {A : Nat → Prop} {ad : Nat → Nat} {r : Int32} {x' : St} (C0 : Cx E A RGG bb_GG_open 1 (some .int) p s m args meth c) (hap : Ap ad ixC A)  {x : St} {v0 : Nat} (ho_v0 : isO ixC v0 5) (hf : ff_GG_open x v0 = some (r, x')) {H : Heap} {locs : List Loc} {ls : Array Slot} (hP : Wd E ad ixC x H) (hS : va_S A s.heap H locs) (hl : lv_has ls 1 [(0, .ref (ad v0))]) : W p l e rm_GG_open s m args below meth c H locs 0 0 (MQ below (QX E ad ixC A (some (.int r)) x') args s 0 0 A) (F0 m 0 ls []) := by
  obtain ⟨hx, hb, hml, hr, hown, hts, hlk, hK⟩ := id C0
  have hf : bnd (ff_SH_openJoints x (rf v0 0)) (fun r_1 x_2 => some (r_1, x_2)) = some (r, x') := hf
  refine lv_aload_n hx hb dd_GG_open_0 rfl (lv_at hl 0 rfl) ?_
  refine gf_GG_12 C0 hP ho_v0 dd_GG_open_1 ?_
  obtain ⟨r_1, x_2, c_3, hf⟩ := of_bnd hf
  refine cl_GG_120 C0 hap (tp_5_0 ho_v0) c_3 hP hS ⟨Nat.le_of_ble_eq_true rfl, Nat.le_of_ble_eq_true rfl⟩ hl.1 (Nat.le_of_ble_eq_true rfl) dd_GG_open_4 ⟨Nat.le_refl _, Nat.le_refl _⟩ (fun H locs hP hS => ?_)
  exact rrI C0 hP hS dd_GG_open_7 hf
theorem cc_GG_open {l : Launch} {E : Ev} {A : Nat → Prop} {ad : Nat → Nat} (hap : Ap ad ixC A) {x x' : St} {v0 : Nat} {r : Int32} (ho_v0 : isO ixC v0 5) (hf : ff_GG_open x v0 = some (r, x')) : Met l yy_GG_open (Cond.code yy_GG_open bb_GG_open 1 (some .int) :: gtb) rm_GG_open (va_Pc [.ref (ad v0)] (PB E A ad ixC x)) (QX E ad ixC A (some (.int r)) x') 0 0 A := by
  exact enter (by decide) (Nat.le_of_ble_eq_true rfl) (fun p e s m below meth c ls C0 hP hS hl => ww_GG_open C0 hap ho_v0 hf hP hS hl)
theorem cl_GG_162 {p : Program} {l : Launch} {e : Env} {R : Room} {s : State} {m : MethodId} {args : Array Value} {below : List Frame} {meth : Method} {c : Code} {H : Heap} {locs : List Loc} {cells slots : Nat} {Q : State → Prop} {cc : ByteArray} {pc : Nat} {ls : Array Slot} {rest : List Value} {E : Ev} {A : Nat → Prop} {ad : Nat → Nat} {nL : Nat} {rt : Option FieldType} (C0 : Cx E A RGG cc nL rt p s m args meth c) (hap : Ap ad ixC A) {x x' : St} {v0 : Nat} {v1 : Nat} {r : Unit} (ho_v0 : isO ixC v0 0) (ho_v1 : isO ixC v1 4) (hc : ff_HI_lookAt x v0 v1 = some (r, x')) (hP : Wd E ad ixC x H) (hS : va_S A s.heap H locs) (hR : rm_HI_lookAt.frames + 1 ≤ R.frames ∧ 8 + (3 + 11) + rm_HI_lookAt.locals ≤ R.locals) (hls : ls.size = nL) (hroom : (rest.map fun v => v.category).sum ≤ 8) (hdg : decode cc pc = .ok (.invokevirtual 162, 3)) (hf : cells ≤ R.cells ∧ slots ≤ R.slots) (kk : ∀ H1 locs1, Wd E ad ixC x' H1 → va_S A s.heap H1 locs1 → W p l e R s m args below meth c H1 locs1 cells slots Q (F0 m (pc + 3) ls (rest))) : W p l e R s m args below meth c H locs cells slots Q (F0 m pc ls (.ref (ad v1) :: .ref (ad v0) :: rest)) :=
  rcV (n := 1) C0 (cc_HI_lookAt hap ho_v0 ho_v1 hc) hP hS ho_v0 vcl_0 (by decide) gw_code_HI_lookAt gw_m_GG_162 gw_inst_HI_lookAt gw_sel_HI_lookAt gw_ini_HI rfl rfl (by decide +kernel) rfl hR hls rfl hroom hdg hf (fun H1 locs1 a _ _ b => kk H1 locs1 a b)
theorem cl_GG_165 {p : Program} {l : Launch} {e : Env} {R : Room} {s : State} {m : MethodId} {args : Array Value} {below : List Frame} {meth : Method} {c : Code} {H : Heap} {locs : List Loc} {cells slots : Nat} {Q : State → Prop} {cc : ByteArray} {pc : Nat} {ls : Array Slot} {rest : List Value} {E : Ev} {A : Nat → Prop} {ad : Nat → Nat} {nL : Nat} {rt : Option FieldType} (C0 : Cx E A RGG cc nL rt p s m args meth c) (hap : Ap ad ixC A) {x x' : St} {v0 : Nat} {v1 : Int32} {r : Int32} (ho_v0 : isO ixC v0 0) (hc : ff_HI_cheapest x v0 v1 = some (r, x')) (hP : Wd E ad ixC x H) (hS : va_S A s.heap H locs) (hR : rm_HI_cheapest.frames + 1 ≤ R.frames ∧ 8 + (6 + 11) + rm_HI_cheapest.locals ≤ R.locals) (hls : ls.size = nL) (hroom : (rest.map fun v => v.category).sum ≤ 8) (hdg : decode cc pc = .ok (.invokevirtual 165, 3)) (hf : cells ≤ R.cells ∧ slots ≤ R.slots) (kk : ∀ H1 locs1, Wd E ad ixC x' H1 → va_S A s.heap H1 locs1 → W p l e R s m args below meth c H1 locs1 cells slots Q (F0 m (pc + 3) ls (.int r :: rest))) : W p l e R s m args below meth c H locs cells slots Q (F0 m pc ls (.int v1 :: .ref (ad v0) :: rest)) :=
  rcV (n := 1) C0 (cc_HI_cheapest hap ho_v0 hc) hP hS ho_v0 vcl_0 (by decide) gw_code_HI_cheapest gw_m_GG_165 gw_inst_HI_cheapest gw_sel_HI_cheapest gw_ini_HI rfl rfl (by decide +kernel) rfl hR hls rfl hroom hdg hf (fun H1 locs1 a _ _ b => kk H1 locs1 a b)
theorem cl_GG_168 {p : Program} {l : Launch} {e : Env} {R : Room} {s : State} {m : MethodId} {args : Array Value} {below : List Frame} {meth : Method} {c : Code} {H : Heap} {locs : List Loc} {cells slots : Nat} {Q : State → Prop} {cc : ByteArray} {pc : Nat} {ls : Array Slot} {rest : List Value} {E : Ev} {A : Nat → Prop} {ad : Nat → Nat} {nL : Nat} {rt : Option FieldType} (C0 : Cx E A RGG cc nL rt p s m args meth c) (hap : Ap ad ixC A) {x x' : St} {v0 : Nat} {v1 : Int32} {r : Int32} (ho_v0 : isO ixC v0 0) (hc : ff_HI_priceOf x v0 v1 = some (r, x')) (hP : Wd E ad ixC x H) (hS : va_S A s.heap H locs) (hR : rm_HI_priceOf.frames + 1 ≤ R.frames ∧ 8 + (4 + 11) + rm_HI_priceOf.locals ≤ R.locals) (hls : ls.size = nL) (hroom : (rest.map fun v => v.category).sum ≤ 8) (hdg : decode cc pc = .ok (.invokevirtual 168, 3)) (hf : cells ≤ R.cells ∧ slots ≤ R.slots) (kk : ∀ H1 locs1, Wd E ad ixC x' H1 → va_S A s.heap H1 locs1 → W p l e R s m args below meth c H1 locs1 cells slots Q (F0 m (pc + 3) ls (.int r :: rest))) : W p l e R s m args below meth c H locs cells slots Q (F0 m pc ls (.int v1 :: .ref (ad v0) :: rest)) :=
  rcV (n := 1) C0 (cc_HI_priceOf hap ho_v0 hc) hP hS ho_v0 vcl_0 (by decide) gw_code_HI_priceOf gw_m_GG_168 gw_inst_HI_priceOf gw_sel_HI_priceOf gw_ini_HI rfl rfl (by decide +kernel) rfl hR hls rfl hroom hdg hf (fun H1 locs1 a _ _ b => kk H1 locs1 a b)
abbrev rm_GG_hire : Room := { frames := 6, cells := 0, slots := 0, locals := 140 }
theorem dd_GG_hire_0 : decode bb_GG_hire 0 = .ok (.iload_n 1, 1) := by decide +kernel
theorem dd_GG_hire_1 : decode bb_GG_hire 1 = .ok (.iconst 0, 1) := by decide +kernel
theorem dd_GG_hire_2 : decode bb_GG_hire 2 = .ok (.iconst 1, 1) := by decide +kernel
theorem dd_GG_hire_3 : decode bb_GG_hire 3 = .ok (.invokestatic 49, 3) := by decide +kernel
theorem dd_GG_hire_6 : decode bb_GG_hire 6 = .ok (.ifCond .ne 8, 3) := by decide +kernel
theorem dd_GG_hire_9 : decode bb_GG_hire 9 = .ok (.aload_n 0, 1) := by decide +kernel
theorem dd_GG_hire_10 : decode bb_GG_hire 10 = .ok (.invokevirtual 53, 3) := by decide +kernel
theorem dd_GG_hire_13 : decode bb_GG_hire 13 = .ok (.ireturn, 1) := by decide +kernel
theorem dd_GG_hire_14 : decode bb_GG_hire 14 = .ok (.aload_n 0, 1) := by decide +kernel
theorem dd_GG_hire_15 : decode bb_GG_hire 15 = .ok (.getfield 34, 3) := by decide +kernel
theorem dd_GG_hire_18 : decode bb_GG_hire 18 = .ok (.aload_n 0, 1) := by decide +kernel
theorem dd_GG_hire_19 : decode bb_GG_hire 19 = .ok (.getfield 12, 3) := by decide +kernel
theorem dd_GG_hire_22 : decode bb_GG_hire 22 = .ok (.invokevirtual 162, 3) := by decide +kernel
theorem dd_GG_hire_25 : decode bb_GG_hire 25 = .ok (.aload_n 0, 1) := by decide +kernel
theorem dd_GG_hire_26 : decode bb_GG_hire 26 = .ok (.getfield 34, 3) := by decide +kernel
theorem dd_GG_hire_29 : decode bb_GG_hire 29 = .ok (.iconst (-1), 1) := by decide +kernel
theorem dd_GG_hire_30 : decode bb_GG_hire 30 = .ok (.invokevirtual 165, 3) := by decide +kernel
theorem dd_GG_hire_33 : decode bb_GG_hire 33 = .ok (.istore_n 2, 1) := by decide +kernel
theorem dd_GG_hire_34 : decode bb_GG_hire 34 = .ok (.iload_n 2, 1) := by decide +kernel
theorem dd_GG_hire_35 : decode bb_GG_hire 35 = .ok (.iconst (-1), 1) := by decide +kernel
theorem dd_GG_hire_36 : decode bb_GG_hire 36 = .ok (.if_icmp .eq 8, 3) := by decide +kernel
theorem dd_GG_hire_39 : decode bb_GG_hire 39 = .ok (.iload_n 1, 1) := by decide +kernel
theorem dd_GG_hire_40 : decode bb_GG_hire 40 = .ok (.iconst 1, 1) := by decide +kernel
theorem dd_GG_hire_41 : decode bb_GG_hire 41 = .ok (.if_icmp .ne 5, 3) := by decide +kernel
theorem dd_GG_hire_44 : decode bb_GG_hire 44 = .ok (.iload_n 2, 1) := by decide +kernel
theorem dd_GG_hire_45 : decode bb_GG_hire 45 = .ok (.ireturn, 1) := by decide +kernel
theorem dd_GG_hire_46 : decode bb_GG_hire 46 = .ok (.aload_n 0, 1) := by decide +kernel
theorem dd_GG_hire_47 : decode bb_GG_hire 47 = .ok (.getfield 34, 3) := by decide +kernel
theorem dd_GG_hire_50 : decode bb_GG_hire 50 = .ok (.iload_n 2, 1) := by decide +kernel
theorem dd_GG_hire_51 : decode bb_GG_hire 51 = .ok (.invokevirtual 168, 3) := by decide +kernel
theorem dd_GG_hire_54 : decode bb_GG_hire 54 = .ok (.ireturn, 1) := by decide +kernel
def ff_GG_hire  (x : St) (v0 : Nat) (v1 : Int32) : Option (Int32 × St) := bnd (ff_GG_isWithin x v1 0 1) (fun r_1 x_2 => (if r_1 = 0 then bnd (ff_GG_refuseBad x_2 v0) (fun r_16 x_17 => some (r_16, x_17)) else bnd (ff_HI_lookAt x_2 (rf v0 4) (rf v0 0)) (fun _ x_6 => bnd (ff_HI_cheapest x_6 (rf v0 4) (-1)) (fun r_8 x_9 => (if r_8 = (-1) then some (r_8, x_9) else (if v1 = 1 then some (r_8, x_9) else bnd (ff_HI_priceOf x_9 (rf v0 4) r_8) (fun r_13 x_14 => some (r_13, x_14))))))))
set_option maxHeartbeats 4000000 in
set_option maxRecDepth 100000 in
theorem ww_GG_hire {p : Program} {l : Launch} {e : Env} {s : State} {m : MethodId} {args : Array Value} {below : List Frame} {meth : Method} {c : Code} {E : Ev} {A : Nat → Prop} {ad : Nat → Nat} {r : Int32} {x' : St} (C0 : Cx E A RGG bb_GG_hire 3 (some .int) p s m args meth c) (hap : Ap ad ixC A)  {x : St} {v0 : Nat} {v1 : Int32} (ho_v0 : isO ixC v0 5) (hf : ff_GG_hire x v0 v1 = some (r, x')) {H : Heap} {locs : List Loc} {ls : Array Slot} (hP : Wd E ad ixC x H) (hS : va_S A s.heap H locs) (hl : lv_has ls 3 [(0, .ref (ad v0)), (1, .int v1)]) : W p l e rm_GG_hire s m args below meth c H locs 0 0 (MQ below (QX E ad ixC A (some (.int r)) x') args s 0 0 A) (F0 m 0 ls []) := by
  obtain ⟨hx, hb, hml, hr, hown, hts, hlk, hK⟩ := id C0
  have hf : bnd (ff_GG_isWithin x v1 0 1) (fun r_1 x_2 => (if r_1 = 0 then bnd (ff_GG_refuseBad x_2 v0) (fun r_16 x_17 => some (r_16, x_17)) else bnd (ff_HI_lookAt x_2 (rf v0 4) (rf v0 0)) (fun _ x_6 => bnd (ff_HI_cheapest x_6 (rf v0 4) (-1)) (fun r_8 x_9 => (if r_8 = (-1) then some (r_8, x_9) else (if v1 = 1 then some (r_8, x_9) else bnd (ff_HI_priceOf x_9 (rf v0 4) r_8) (fun r_13 x_14 => some (r_13, x_14)))))))) = some (r, x') := hf
  refine lv_iload_n hx hb dd_GG_hire_0 rfl (lv_at hl 1 rfl) ?_
  refine lv_iconst (v := 0) hx hb dd_GG_hire_1 (by decide) ?_
  refine lv_iconst (v := 1) hx hb dd_GG_hire_2 (by decide) ?_
  obtain ⟨r_1, x_2, c_3, hf⟩ := of_bnd hf
  refine cl_GG_49 C0 hap  c_3 hP hS ⟨Nat.le_of_ble_eq_true rfl, Nat.le_of_ble_eq_true rfl⟩ hl.1 (Nat.le_of_ble_eq_true rfl) dd_GG_hire_3 ⟨Nat.le_refl _, Nat.le_refl _⟩ (fun H locs hP hS => ?_)
  refine lv_if_ne (tgt := 14) hx hb dd_GG_hire_6 (by decide) (fun h_4 => ?_) (fun h_4 => ?_)
  · have hf := (if_neg h_4).symm.trans hf
    refine lv_aload_n hx hb dd_GG_hire_14 rfl (lv_at hl 0 rfl) ?_
    refine gf_GG_34 C0 hP ho_v0 dd_GG_hire_15 ?_
    refine lv_aload_n hx hb dd_GG_hire_18 rfl (lv_at hl 0 rfl) ?_
    refine gf_GG_12 C0 hP ho_v0 dd_GG_hire_19 ?_
    obtain ⟨_, x_6, c_7, hf⟩ := of_bnd hf
    refine cl_GG_162 C0 hap (tp_5_4 ho_v0) (tp_5_0 ho_v0) c_7 hP hS ⟨Nat.le_of_ble_eq_true rfl, Nat.le_of_ble_eq_true rfl⟩ hl.1 (Nat.le_of_ble_eq_true rfl) dd_GG_hire_22 ⟨Nat.le_refl _, Nat.le_refl _⟩ (fun H locs hP hS => ?_)
    refine lv_aload_n hx hb dd_GG_hire_25 rfl (lv_at hl 0 rfl) ?_
    refine gf_GG_34 C0 hP ho_v0 dd_GG_hire_26 ?_
    refine lv_iconst (v := -1) hx hb dd_GG_hire_29 (by decide) ?_
    obtain ⟨r_8, x_9, c_10, hf⟩ := of_bnd hf
    refine cl_GG_165 C0 hap (tp_5_4 ho_v0) c_10 hP hS ⟨Nat.le_of_ble_eq_true rfl, Nat.le_of_ble_eq_true rfl⟩ hl.1 (Nat.le_of_ble_eq_true rfl) dd_GG_hire_30 ⟨Nat.le_refl _, Nat.le_refl _⟩ (fun H locs hP hS => ?_)
    refine lv_istore_n (lv' := [(2, .int r_8), (0, .ref (ad v0)), (1, .int v1)]) hx hb dd_GG_hire_33 rfl hl (by decide) rfl (fun ls hl => ?_)
    refine lv_iload_n hx hb dd_GG_hire_34 rfl (lv_at hl 0 rfl) ?_
    refine lv_iconst (v := -1) hx hb dd_GG_hire_35 (by decide) ?_
    refine lv_icmp_eq (tgt := 44) hx hb dd_GG_hire_36 (by decide) (fun h_11 => ?_) (fun h_11 => ?_)
    · have hf := (if_pos h_11).symm.trans hf
      refine lv_iload_n hx hb dd_GG_hire_44 rfl (lv_at hl 0 rfl) ?_
      exact rrI C0 hP hS dd_GG_hire_45 hf
    · have hf := (if_neg h_11).symm.trans hf
      refine lv_iload_n hx hb dd_GG_hire_39 rfl (lv_at hl 2 rfl) ?_
      refine lv_iconst (v := 1) hx hb dd_GG_hire_40 (by decide) ?_
      refine lv_icmp_ne (tgt := 46) hx hb dd_GG_hire_41 (by decide) (fun h_12 => ?_) (fun h_12 => ?_)
      · have hf := (if_neg h_12).symm.trans hf
        refine lv_aload_n hx hb dd_GG_hire_46 rfl (lv_at hl 1 rfl) ?_
        refine gf_GG_34 C0 hP ho_v0 dd_GG_hire_47 ?_
        refine lv_iload_n hx hb dd_GG_hire_50 rfl (lv_at hl 0 rfl) ?_
        obtain ⟨r_13, x_14, c_15, hf⟩ := of_bnd hf
        refine cl_GG_168 C0 hap (tp_5_4 ho_v0) c_15 hP hS ⟨Nat.le_of_ble_eq_true rfl, Nat.le_of_ble_eq_true rfl⟩ hl.1 (Nat.le_of_ble_eq_true rfl) dd_GG_hire_51 ⟨Nat.le_refl _, Nat.le_refl _⟩ (fun H locs hP hS => ?_)
        exact rrI C0 hP hS dd_GG_hire_54 hf
      · have hf := (if_pos h_12).symm.trans hf
        refine lv_iload_n hx hb dd_GG_hire_44 rfl (lv_at hl 0 rfl) ?_
        exact rrI C0 hP hS dd_GG_hire_45 hf
  · have hf := (if_pos h_4).symm.trans hf
    refine lv_aload_n hx hb dd_GG_hire_9 rfl (lv_at hl 0 rfl) ?_
    obtain ⟨r_16, x_17, c_18, hf⟩ := of_bnd hf
    refine cl_GG_53 C0 hap ho_v0 c_18 hP hS ⟨Nat.le_of_ble_eq_true rfl, Nat.le_of_ble_eq_true rfl⟩ hl.1 (Nat.le_of_ble_eq_true rfl) dd_GG_hire_10 ⟨Nat.le_refl _, Nat.le_refl _⟩ (fun H locs hP hS => ?_)
    exact rrI C0 hP hS dd_GG_hire_13 hf
theorem cc_GG_hire {l : Launch} {E : Ev} {A : Nat → Prop} {ad : Nat → Nat} (hap : Ap ad ixC A) {x x' : St} {v0 : Nat} {v1 : Int32} {r : Int32} (ho_v0 : isO ixC v0 5) (hf : ff_GG_hire x v0 v1 = some (r, x')) : Met l yy_GG_hire (Cond.code yy_GG_hire bb_GG_hire 3 (some .int) :: gtb) rm_GG_hire (va_Pc [.ref (ad v0), .int v1] (PB E A ad ixC x)) (QX E ad ixC A (some (.int r)) x') 0 0 A := by
  exact enter (by decide) (Nat.le_of_ble_eq_true rfl) (fun p e s m below meth c ls C0 hP hS hl => ww_GG_hire C0 hap ho_v0 hf hP hS hl)
theorem cl_GG_171 {p : Program} {l : Launch} {e : Env} {R : Room} {s : State} {m : MethodId} {args : Array Value} {below : List Frame} {meth : Method} {c : Code} {H : Heap} {locs : List Loc} {cells slots : Nat} {Q : State → Prop} {cc : ByteArray} {pc : Nat} {ls : Array Slot} {rest : List Value} {E : Ev} {A : Nat → Prop} {ad : Nat → Nat} {nL : Nat} {rt : Option FieldType} (C0 : Cx E A RGG cc nL rt p s m args meth c) (hap : Ap ad ixC A) {x x' : St} {v0 : Nat} {v1 : Int32} {r : Int32} (ho_v0 : isO ixC v0 0) (hc : ff_HI_isNeedy x v0 v1 = some (r, x')) (hP : Wd E ad ixC x H) (hS : va_S A s.heap H locs) (hR : rm_HI_isNeedy.frames + 1 ≤ R.frames ∧ 8 + (2 + 11) + rm_HI_isNeedy.locals ≤ R.locals) (hls : ls.size = nL) (hroom : (rest.map fun v => v.category).sum ≤ 8) (hdg : decode cc pc = .ok (.invokevirtual 171, 3)) (hf : cells ≤ R.cells ∧ slots ≤ R.slots) (kk : ∀ H1 locs1, Wd E ad ixC x' H1 → va_S A s.heap H1 locs1 → W p l e R s m args below meth c H1 locs1 cells slots Q (F0 m (pc + 3) ls (.int r :: rest))) : W p l e R s m args below meth c H locs cells slots Q (F0 m pc ls (.int v1 :: .ref (ad v0) :: rest)) :=
  rcV (n := 1) C0 (cc_HI_isNeedy hap ho_v0 hc) hP hS ho_v0 vcl_0 (by decide) gw_code_HI_isNeedy gw_m_GG_171 gw_inst_HI_isNeedy gw_sel_HI_isNeedy gw_ini_HI rfl rfl (by decide +kernel) rfl hR hls rfl hroom hdg hf (fun H1 locs1 a _ _ b => kk H1 locs1 a b)
theorem cl_GG_174 {p : Program} {l : Launch} {e : Env} {R : Room} {s : State} {m : MethodId} {args : Array Value} {below : List Frame} {meth : Method} {c : Code} {H : Heap} {locs : List Loc} {cells slots : Nat} {Q : State → Prop} {cc : ByteArray} {pc : Nat} {ls : Array Slot} {rest : List Value} {E : Ev} {A : Nat → Prop} {ad : Nat → Nat} {nL : Nat} {rt : Option FieldType} (C0 : Cx E A RGG cc nL rt p s m args meth c) (hap : Ap ad ixC A) {x x' : St} {v0 : Nat} {v1 : Int32} {v2 : Int32} {r : Int32} (ho_v0 : isO ixC v0 0) (hc : ff_HI_boilersFor x v0 v1 v2 = some (r, x')) (hP : Wd E ad ixC x H) (hS : va_S A s.heap H locs) (hR : rm_HI_boilersFor.frames + 1 ≤ R.frames ∧ 8 + (5 + 11) + rm_HI_boilersFor.locals ≤ R.locals) (hls : ls.size = nL) (hroom : (rest.map fun v => v.category).sum ≤ 8) (hdg : decode cc pc = .ok (.invokevirtual 174, 3)) (hf : cells ≤ R.cells ∧ slots ≤ R.slots) (kk : ∀ H1 locs1, Wd E ad ixC x' H1 → va_S A s.heap H1 locs1 → W p l e R s m args below meth c H1 locs1 cells slots Q (F0 m (pc + 3) ls (.int r :: rest))) : W p l e R s m args below meth c H locs cells slots Q (F0 m pc ls (.int v2 :: .int v1 :: .ref (ad v0) :: rest)) :=
  rcV (n := 2) C0 (cc_HI_boilersFor hap ho_v0 hc) hP hS ho_v0 vcl_0 (by decide) gw_code_HI_boilersFor gw_m_GG_174 gw_inst_HI_boilersFor gw_sel_HI_boilersFor gw_ini_HI rfl rfl (by decide +kernel) rfl hR hls rfl hroom hdg hf (fun H1 locs1 a _ _ b => kk H1 locs1 a b)
abbrev rm_GG_who : Room := { frames := 6, cells := 0, slots := 0, locals := 140 }
theorem dd_GG_who_0 : decode bb_GG_who 0 = .ok (.aload_n 0, 1) := by decide +kernel
theorem dd_GG_who_1 : decode bb_GG_who 1 = .ok (.getfield 12, 3) := by decide +kernel
theorem dd_GG_who_4 : decode bb_GG_who 4 = .ok (.getfield 74, 3) := by decide +kernel
theorem dd_GG_who_7 : decode bb_GG_who 7 = .ok (.iload_n 1, 1) := by decide +kernel
theorem dd_GG_who_8 : decode bb_GG_who 8 = .ok (.invokevirtual 86, 3) := by decide +kernel
theorem dd_GG_who_11 : decode bb_GG_who 11 = .ok (.ifCond .ne 8, 3) := by decide +kernel
theorem dd_GG_who_14 : decode bb_GG_who 14 = .ok (.aload_n 0, 1) := by decide +kernel
theorem dd_GG_who_15 : decode bb_GG_who 15 = .ok (.invokevirtual 53, 3) := by decide +kernel
theorem dd_GG_who_18 : decode bb_GG_who 18 = .ok (.ireturn, 1) := by decide +kernel
theorem dd_GG_who_19 : decode bb_GG_who 19 = .ok (.aload_n 0, 1) := by decide +kernel
theorem dd_GG_who_20 : decode bb_GG_who 20 = .ok (.getfield 34, 3) := by decide +kernel
theorem dd_GG_who_23 : decode bb_GG_who 23 = .ok (.aload_n 0, 1) := by decide +kernel
theorem dd_GG_who_24 : decode bb_GG_who 24 = .ok (.getfield 12, 3) := by decide +kernel
theorem dd_GG_who_27 : decode bb_GG_who 27 = .ok (.invokevirtual 162, 3) := by decide +kernel
theorem dd_GG_who_30 : decode bb_GG_who 30 = .ok (.aload_n 0, 1) := by decide +kernel
theorem dd_GG_who_31 : decode bb_GG_who 31 = .ok (.getfield 34, 3) := by decide +kernel
theorem dd_GG_who_34 : decode bb_GG_who 34 = .ok (.iconst (-1), 1) := by decide +kernel
theorem dd_GG_who_35 : decode bb_GG_who 35 = .ok (.invokevirtual 165, 3) := by decide +kernel
theorem dd_GG_who_38 : decode bb_GG_who 38 = .ok (.istore_n 2, 1) := by decide +kernel
theorem dd_GG_who_39 : decode bb_GG_who 39 = .ok (.iload_n 2, 1) := by decide +kernel
theorem dd_GG_who_40 : decode bb_GG_who 40 = .ok (.iconst (-1), 1) := by decide +kernel
theorem dd_GG_who_41 : decode bb_GG_who 41 = .ok (.if_icmp .eq 14, 3) := by decide +kernel
theorem dd_GG_who_44 : decode bb_GG_who 44 = .ok (.aload_n 0, 1) := by decide +kernel
theorem dd_GG_who_45 : decode bb_GG_who 45 = .ok (.getfield 34, 3) := by decide +kernel
theorem dd_GG_who_48 : decode bb_GG_who 48 = .ok (.iload_n 1, 1) := by decide +kernel
theorem dd_GG_who_49 : decode bb_GG_who 49 = .ok (.invokevirtual 171, 3) := by decide +kernel
theorem dd_GG_who_52 : decode bb_GG_who 52 = .ok (.ifCond .ne 5, 3) := by decide +kernel
theorem dd_GG_who_55 : decode bb_GG_who 55 = .ok (.iconst (-1), 1) := by decide +kernel
theorem dd_GG_who_56 : decode bb_GG_who 56 = .ok (.ireturn, 1) := by decide +kernel
theorem dd_GG_who_57 : decode bb_GG_who 57 = .ok (.aload_n 0, 1) := by decide +kernel
theorem dd_GG_who_58 : decode bb_GG_who 58 = .ok (.getfield 34, 3) := by decide +kernel
theorem dd_GG_who_61 : decode bb_GG_who 61 = .ok (.iload_n 1, 1) := by decide +kernel
theorem dd_GG_who_62 : decode bb_GG_who 62 = .ok (.iload_n 2, 1) := by decide +kernel
theorem dd_GG_who_63 : decode bb_GG_who 63 = .ok (.invokevirtual 174, 3) := by decide +kernel
theorem dd_GG_who_66 : decode bb_GG_who 66 = .ok (.ireturn, 1) := by decide +kernel
def ff_GG_who  (x : St) (v0 : Nat) (v1 : Int32) : Option (Int32 × St) := bnd (ff_LE_has x (rf (rf v0 0) 1) v1) (fun r_1 x_2 => (if r_1 = 0 then bnd (ff_GG_refuseBad x_2 v0) (fun r_19 x_20 => some (r_19, x_20)) else bnd (ff_HI_lookAt x_2 (rf v0 4) (rf v0 0)) (fun _ x_6 => bnd (ff_HI_cheapest x_6 (rf v0 4) (-1)) (fun r_8 x_9 => (if r_8 = (-1) then some ((-1), x_9) else bnd (ff_HI_isNeedy x_9 (rf v0 4) v1) (fun r_12 x_13 => (if r_12 = 0 then some ((-1), x_13) else bnd (ff_HI_boilersFor x_13 (rf v0 4) v1 r_8) (fun r_16 x_17 => some (r_16, x_17)))))))))
set_option maxHeartbeats 4000000 in
set_option maxRecDepth 100000 in
theorem ww_GG_who {p : Program} {l : Launch} {e : Env} {s : State} {m : MethodId} {args : Array Value} {below : List Frame} {meth : Method} {c : Code} {E : Ev} {A : Nat → Prop} {ad : Nat → Nat} {r : Int32} {x' : St} (C0 : Cx E A RGG bb_GG_who 3 (some .int) p s m args meth c) (hap : Ap ad ixC A)  {x : St} {v0 : Nat} {v1 : Int32} (ho_v0 : isO ixC v0 5) (hf : ff_GG_who x v0 v1 = some (r, x')) {H : Heap} {locs : List Loc} {ls : Array Slot} (hP : Wd E ad ixC x H) (hS : va_S A s.heap H locs) (hl : lv_has ls 3 [(0, .ref (ad v0)), (1, .int v1)]) : W p l e rm_GG_who s m args below meth c H locs 0 0 (MQ below (QX E ad ixC A (some (.int r)) x') args s 0 0 A) (F0 m 0 ls []) := by
  obtain ⟨hx, hb, hml, hr, hown, hts, hlk, hK⟩ := id C0
  have hf : bnd (ff_LE_has x (rf (rf v0 0) 1) v1) (fun r_1 x_2 => (if r_1 = 0 then bnd (ff_GG_refuseBad x_2 v0) (fun r_19 x_20 => some (r_19, x_20)) else bnd (ff_HI_lookAt x_2 (rf v0 4) (rf v0 0)) (fun _ x_6 => bnd (ff_HI_cheapest x_6 (rf v0 4) (-1)) (fun r_8 x_9 => (if r_8 = (-1) then some ((-1), x_9) else bnd (ff_HI_isNeedy x_9 (rf v0 4) v1) (fun r_12 x_13 => (if r_12 = 0 then some ((-1), x_13) else bnd (ff_HI_boilersFor x_13 (rf v0 4) v1 r_8) (fun r_16 x_17 => some (r_16, x_17))))))))) = some (r, x') := hf
  refine lv_aload_n hx hb dd_GG_who_0 rfl (lv_at hl 0 rfl) ?_
  refine gf_GG_12 C0 hP ho_v0 dd_GG_who_1 ?_
  refine gf_GG_74 C0 hP (tp_5_0 ho_v0) dd_GG_who_4 ?_
  refine lv_iload_n hx hb dd_GG_who_7 rfl (lv_at hl 1 rfl) ?_
  obtain ⟨r_1, x_2, c_3, hf⟩ := of_bnd hf
  refine cl_GG_86 C0 hap (tp_4_1 (tp_5_0 ho_v0)) c_3 hP hS ⟨Nat.le_of_ble_eq_true rfl, Nat.le_of_ble_eq_true rfl⟩ hl.1 (Nat.le_of_ble_eq_true rfl) dd_GG_who_8 ⟨Nat.le_refl _, Nat.le_refl _⟩ (fun H locs hP hS => ?_)
  refine lv_if_ne (tgt := 19) hx hb dd_GG_who_11 (by decide) (fun h_4 => ?_) (fun h_4 => ?_)
  · have hf := (if_neg h_4).symm.trans hf
    refine lv_aload_n hx hb dd_GG_who_19 rfl (lv_at hl 0 rfl) ?_
    refine gf_GG_34 C0 hP ho_v0 dd_GG_who_20 ?_
    refine lv_aload_n hx hb dd_GG_who_23 rfl (lv_at hl 0 rfl) ?_
    refine gf_GG_12 C0 hP ho_v0 dd_GG_who_24 ?_
    obtain ⟨_, x_6, c_7, hf⟩ := of_bnd hf
    refine cl_GG_162 C0 hap (tp_5_4 ho_v0) (tp_5_0 ho_v0) c_7 hP hS ⟨Nat.le_of_ble_eq_true rfl, Nat.le_of_ble_eq_true rfl⟩ hl.1 (Nat.le_of_ble_eq_true rfl) dd_GG_who_27 ⟨Nat.le_refl _, Nat.le_refl _⟩ (fun H locs hP hS => ?_)
    refine lv_aload_n hx hb dd_GG_who_30 rfl (lv_at hl 0 rfl) ?_
    refine gf_GG_34 C0 hP ho_v0 dd_GG_who_31 ?_
    refine lv_iconst (v := -1) hx hb dd_GG_who_34 (by decide) ?_
    obtain ⟨r_8, x_9, c_10, hf⟩ := of_bnd hf
    refine cl_GG_165 C0 hap (tp_5_4 ho_v0) c_10 hP hS ⟨Nat.le_of_ble_eq_true rfl, Nat.le_of_ble_eq_true rfl⟩ hl.1 (Nat.le_of_ble_eq_true rfl) dd_GG_who_35 ⟨Nat.le_refl _, Nat.le_refl _⟩ (fun H locs hP hS => ?_)
    refine lv_istore_n (lv' := [(2, .int r_8), (0, .ref (ad v0)), (1, .int v1)]) hx hb dd_GG_who_38 rfl hl (by decide) rfl (fun ls hl => ?_)
    refine lv_iload_n hx hb dd_GG_who_39 rfl (lv_at hl 0 rfl) ?_
    refine lv_iconst (v := -1) hx hb dd_GG_who_40 (by decide) ?_
    refine lv_icmp_eq (tgt := 55) hx hb dd_GG_who_41 (by decide) (fun h_11 => ?_) (fun h_11 => ?_)
    · have hf := (if_pos h_11).symm.trans hf
      refine lv_iconst (v := -1) hx hb dd_GG_who_55 (by decide) ?_
      exact rrI C0 hP hS dd_GG_who_56 hf
    · have hf := (if_neg h_11).symm.trans hf
      refine lv_aload_n hx hb dd_GG_who_44 rfl (lv_at hl 1 rfl) ?_
      refine gf_GG_34 C0 hP ho_v0 dd_GG_who_45 ?_
      refine lv_iload_n hx hb dd_GG_who_48 rfl (lv_at hl 2 rfl) ?_
      obtain ⟨r_12, x_13, c_14, hf⟩ := of_bnd hf
      refine cl_GG_171 C0 hap (tp_5_4 ho_v0) c_14 hP hS ⟨Nat.le_of_ble_eq_true rfl, Nat.le_of_ble_eq_true rfl⟩ hl.1 (Nat.le_of_ble_eq_true rfl) dd_GG_who_49 ⟨Nat.le_refl _, Nat.le_refl _⟩ (fun H locs hP hS => ?_)
      refine lv_if_ne (tgt := 57) hx hb dd_GG_who_52 (by decide) (fun h_15 => ?_) (fun h_15 => ?_)
      · have hf := (if_neg h_15).symm.trans hf
        refine lv_aload_n hx hb dd_GG_who_57 rfl (lv_at hl 1 rfl) ?_
        refine gf_GG_34 C0 hP ho_v0 dd_GG_who_58 ?_
        refine lv_iload_n hx hb dd_GG_who_61 rfl (lv_at hl 2 rfl) ?_
        refine lv_iload_n hx hb dd_GG_who_62 rfl (lv_at hl 0 rfl) ?_
        obtain ⟨r_16, x_17, c_18, hf⟩ := of_bnd hf
        refine cl_GG_174 C0 hap (tp_5_4 ho_v0) c_18 hP hS ⟨Nat.le_of_ble_eq_true rfl, Nat.le_of_ble_eq_true rfl⟩ hl.1 (Nat.le_of_ble_eq_true rfl) dd_GG_who_63 ⟨Nat.le_refl _, Nat.le_refl _⟩ (fun H locs hP hS => ?_)
        exact rrI C0 hP hS dd_GG_who_66 hf
      · have hf := (if_pos h_15).symm.trans hf
        refine lv_iconst (v := -1) hx hb dd_GG_who_55 (by decide) ?_
        exact rrI C0 hP hS dd_GG_who_56 hf
  · have hf := (if_pos h_4).symm.trans hf
    refine lv_aload_n hx hb dd_GG_who_14 rfl (lv_at hl 0 rfl) ?_
    obtain ⟨r_19, x_20, c_21, hf⟩ := of_bnd hf
    refine cl_GG_53 C0 hap ho_v0 c_21 hP hS ⟨Nat.le_of_ble_eq_true rfl, Nat.le_of_ble_eq_true rfl⟩ hl.1 (Nat.le_of_ble_eq_true rfl) dd_GG_who_15 ⟨Nat.le_refl _, Nat.le_refl _⟩ (fun H locs hP hS => ?_)
    exact rrI C0 hP hS dd_GG_who_18 hf
theorem cc_GG_who {l : Launch} {E : Ev} {A : Nat → Prop} {ad : Nat → Nat} (hap : Ap ad ixC A) {x x' : St} {v0 : Nat} {v1 : Int32} {r : Int32} (ho_v0 : isO ixC v0 5) (hf : ff_GG_who x v0 v1 = some (r, x')) : Met l yy_GG_who (Cond.code yy_GG_who bb_GG_who 3 (some .int) :: gtb) rm_GG_who (va_Pc [.ref (ad v0), .int v1] (PB E A ad ixC x)) (QX E ad ixC A (some (.int r)) x') 0 0 A := by
  exact enter (by decide) (Nat.le_of_ble_eq_true rfl) (fun p e s m below meth c ls C0 hP hS hl => ww_GG_who C0 hap ho_v0 hf hP hS hl)
abbrev rm_GG_saves : Room := { frames := 6, cells := 0, slots := 0, locals := 140 }
theorem dd_GG_saves_0 : decode bb_GG_saves 0 = .ok (.aload_n 0, 1) := by decide +kernel
theorem dd_GG_saves_1 : decode bb_GG_saves 1 = .ok (.getfield 12, 3) := by decide +kernel
theorem dd_GG_saves_4 : decode bb_GG_saves 4 = .ok (.getfield 57, 3) := by decide +kernel
theorem dd_GG_saves_7 : decode bb_GG_saves 7 = .ok (.iload_n 1, 1) := by decide +kernel
theorem dd_GG_saves_8 : decode bb_GG_saves 8 = .ok (.invokevirtual 86, 3) := by decide +kernel
theorem dd_GG_saves_11 : decode bb_GG_saves 11 = .ok (.ifCond .ne 8, 3) := by decide +kernel
theorem dd_GG_saves_14 : decode bb_GG_saves 14 = .ok (.aload_n 0, 1) := by decide +kernel
theorem dd_GG_saves_15 : decode bb_GG_saves 15 = .ok (.invokevirtual 53, 3) := by decide +kernel
theorem dd_GG_saves_18 : decode bb_GG_saves 18 = .ok (.ireturn, 1) := by decide +kernel
theorem dd_GG_saves_19 : decode bb_GG_saves 19 = .ok (.aload_n 0, 1) := by decide +kernel
theorem dd_GG_saves_20 : decode bb_GG_saves 20 = .ok (.getfield 34, 3) := by decide +kernel
theorem dd_GG_saves_23 : decode bb_GG_saves 23 = .ok (.aload_n 0, 1) := by decide +kernel
theorem dd_GG_saves_24 : decode bb_GG_saves 24 = .ok (.getfield 12, 3) := by decide +kernel
theorem dd_GG_saves_27 : decode bb_GG_saves 27 = .ok (.invokevirtual 162, 3) := by decide +kernel
theorem dd_GG_saves_30 : decode bb_GG_saves 30 = .ok (.aload_n 0, 1) := by decide +kernel
theorem dd_GG_saves_31 : decode bb_GG_saves 31 = .ok (.getfield 34, 3) := by decide +kernel
theorem dd_GG_saves_34 : decode bb_GG_saves 34 = .ok (.iconst (-1), 1) := by decide +kernel
theorem dd_GG_saves_35 : decode bb_GG_saves 35 = .ok (.invokevirtual 165, 3) := by decide +kernel
theorem dd_GG_saves_38 : decode bb_GG_saves 38 = .ok (.istore_n 2, 1) := by decide +kernel
theorem dd_GG_saves_39 : decode bb_GG_saves 39 = .ok (.aload_n 0, 1) := by decide +kernel
theorem dd_GG_saves_40 : decode bb_GG_saves 40 = .ok (.getfield 34, 3) := by decide +kernel
theorem dd_GG_saves_43 : decode bb_GG_saves 43 = .ok (.iload_n 1, 1) := by decide +kernel
theorem dd_GG_saves_44 : decode bb_GG_saves 44 = .ok (.invokevirtual 165, 3) := by decide +kernel
theorem dd_GG_saves_47 : decode bb_GG_saves 47 = .ok (.istore_n 3, 1) := by decide +kernel
theorem dd_GG_saves_48 : decode bb_GG_saves 48 = .ok (.iload_n 2, 1) := by decide +kernel
theorem dd_GG_saves_49 : decode bb_GG_saves 49 = .ok (.iconst (-1), 1) := by decide +kernel
theorem dd_GG_saves_50 : decode bb_GG_saves 50 = .ok (.if_icmp .eq 8, 3) := by decide +kernel
theorem dd_GG_saves_53 : decode bb_GG_saves 53 = .ok (.iload_n 3, 1) := by decide +kernel
theorem dd_GG_saves_54 : decode bb_GG_saves 54 = .ok (.iconst (-1), 1) := by decide +kernel
theorem dd_GG_saves_55 : decode bb_GG_saves 55 = .ok (.if_icmp .ne 5, 3) := by decide +kernel
theorem dd_GG_saves_58 : decode bb_GG_saves 58 = .ok (.iconst (-1), 1) := by decide +kernel
theorem dd_GG_saves_59 : decode bb_GG_saves 59 = .ok (.ireturn, 1) := by decide +kernel
theorem dd_GG_saves_60 : decode bb_GG_saves 60 = .ok (.aload_n 0, 1) := by decide +kernel
theorem dd_GG_saves_61 : decode bb_GG_saves 61 = .ok (.getfield 34, 3) := by decide +kernel
theorem dd_GG_saves_64 : decode bb_GG_saves 64 = .ok (.iload_n 3, 1) := by decide +kernel
theorem dd_GG_saves_65 : decode bb_GG_saves 65 = .ok (.invokevirtual 168, 3) := by decide +kernel
theorem dd_GG_saves_68 : decode bb_GG_saves 68 = .ok (.aload_n 0, 1) := by decide +kernel
theorem dd_GG_saves_69 : decode bb_GG_saves 69 = .ok (.getfield 34, 3) := by decide +kernel
theorem dd_GG_saves_72 : decode bb_GG_saves 72 = .ok (.iload_n 2, 1) := by decide +kernel
theorem dd_GG_saves_73 : decode bb_GG_saves 73 = .ok (.invokevirtual 168, 3) := by decide +kernel
theorem dd_GG_saves_76 : decode bb_GG_saves 76 = .ok (.isub, 1) := by decide +kernel
theorem dd_GG_saves_77 : decode bb_GG_saves 77 = .ok (.ireturn, 1) := by decide +kernel
def ff_GG_saves  (x : St) (v0 : Nat) (v1 : Int32) : Option (Int32 × St) := bnd (ff_LE_has x (rf (rf v0 0) 0) v1) (fun r_1 x_2 => (if r_1 = 0 then bnd (ff_GG_refuseBad x_2 v0) (fun r_22 x_23 => some (r_22, x_23)) else bnd (ff_HI_lookAt x_2 (rf v0 4) (rf v0 0)) (fun _ x_6 => bnd (ff_HI_cheapest x_6 (rf v0 4) (-1)) (fun r_8 x_9 => bnd (ff_HI_cheapest x_9 (rf v0 4) v1) (fun r_11 x_12 => (if r_8 = (-1) then some ((-1), x_12) else (if r_11 = (-1) then some ((-1), x_12) else bnd (ff_HI_priceOf x_12 (rf v0 4) r_11) (fun r_16 x_17 => bnd (ff_HI_priceOf x_17 (rf v0 4) r_8) (fun r_19 x_20 => some (r_16 - r_19, x_20))))))))))
set_option maxHeartbeats 4000000 in
set_option maxRecDepth 100000 in
theorem ww_GG_saves {p : Program} {l : Launch} {e : Env} {s : State} {m : MethodId} {args : Array Value} {below : List Frame} {meth : Method} {c : Code} {E : Ev} {A : Nat → Prop} {ad : Nat → Nat} {r : Int32} {x' : St} (C0 : Cx E A RGG bb_GG_saves 4 (some .int) p s m args meth c) (hap : Ap ad ixC A)  {x : St} {v0 : Nat} {v1 : Int32} (ho_v0 : isO ixC v0 5) (hf : ff_GG_saves x v0 v1 = some (r, x')) {H : Heap} {locs : List Loc} {ls : Array Slot} (hP : Wd E ad ixC x H) (hS : va_S A s.heap H locs) (hl : lv_has ls 4 [(0, .ref (ad v0)), (1, .int v1)]) : W p l e rm_GG_saves s m args below meth c H locs 0 0 (MQ below (QX E ad ixC A (some (.int r)) x') args s 0 0 A) (F0 m 0 ls []) := by
  obtain ⟨hx, hb, hml, hr, hown, hts, hlk, hK⟩ := id C0
  have hf : bnd (ff_LE_has x (rf (rf v0 0) 0) v1) (fun r_1 x_2 => (if r_1 = 0 then bnd (ff_GG_refuseBad x_2 v0) (fun r_22 x_23 => some (r_22, x_23)) else bnd (ff_HI_lookAt x_2 (rf v0 4) (rf v0 0)) (fun _ x_6 => bnd (ff_HI_cheapest x_6 (rf v0 4) (-1)) (fun r_8 x_9 => bnd (ff_HI_cheapest x_9 (rf v0 4) v1) (fun r_11 x_12 => (if r_8 = (-1) then some ((-1), x_12) else (if r_11 = (-1) then some ((-1), x_12) else bnd (ff_HI_priceOf x_12 (rf v0 4) r_11) (fun r_16 x_17 => bnd (ff_HI_priceOf x_17 (rf v0 4) r_8) (fun r_19 x_20 => some (r_16 - r_19, x_20)))))))))) = some (r, x') := hf
  refine lv_aload_n hx hb dd_GG_saves_0 rfl (lv_at hl 0 rfl) ?_
  refine gf_GG_12 C0 hP ho_v0 dd_GG_saves_1 ?_
  refine gf_GG_57 C0 hP (tp_5_0 ho_v0) dd_GG_saves_4 ?_
  refine lv_iload_n hx hb dd_GG_saves_7 rfl (lv_at hl 1 rfl) ?_
  obtain ⟨r_1, x_2, c_3, hf⟩ := of_bnd hf
  refine cl_GG_86 C0 hap (tp_4_0 (tp_5_0 ho_v0)) c_3 hP hS ⟨Nat.le_of_ble_eq_true rfl, Nat.le_of_ble_eq_true rfl⟩ hl.1 (Nat.le_of_ble_eq_true rfl) dd_GG_saves_8 ⟨Nat.le_refl _, Nat.le_refl _⟩ (fun H locs hP hS => ?_)
  refine lv_if_ne (tgt := 19) hx hb dd_GG_saves_11 (by decide) (fun h_4 => ?_) (fun h_4 => ?_)
  · have hf := (if_neg h_4).symm.trans hf
    refine lv_aload_n hx hb dd_GG_saves_19 rfl (lv_at hl 0 rfl) ?_
    refine gf_GG_34 C0 hP ho_v0 dd_GG_saves_20 ?_
    refine lv_aload_n hx hb dd_GG_saves_23 rfl (lv_at hl 0 rfl) ?_
    refine gf_GG_12 C0 hP ho_v0 dd_GG_saves_24 ?_
    obtain ⟨_, x_6, c_7, hf⟩ := of_bnd hf
    refine cl_GG_162 C0 hap (tp_5_4 ho_v0) (tp_5_0 ho_v0) c_7 hP hS ⟨Nat.le_of_ble_eq_true rfl, Nat.le_of_ble_eq_true rfl⟩ hl.1 (Nat.le_of_ble_eq_true rfl) dd_GG_saves_27 ⟨Nat.le_refl _, Nat.le_refl _⟩ (fun H locs hP hS => ?_)
    refine lv_aload_n hx hb dd_GG_saves_30 rfl (lv_at hl 0 rfl) ?_
    refine gf_GG_34 C0 hP ho_v0 dd_GG_saves_31 ?_
    refine lv_iconst (v := -1) hx hb dd_GG_saves_34 (by decide) ?_
    obtain ⟨r_8, x_9, c_10, hf⟩ := of_bnd hf
    refine cl_GG_165 C0 hap (tp_5_4 ho_v0) c_10 hP hS ⟨Nat.le_of_ble_eq_true rfl, Nat.le_of_ble_eq_true rfl⟩ hl.1 (Nat.le_of_ble_eq_true rfl) dd_GG_saves_35 ⟨Nat.le_refl _, Nat.le_refl _⟩ (fun H locs hP hS => ?_)
    refine lv_istore_n (lv' := [(2, .int r_8), (0, .ref (ad v0)), (1, .int v1)]) hx hb dd_GG_saves_38 rfl hl (by decide) rfl (fun ls hl => ?_)
    refine lv_aload_n hx hb dd_GG_saves_39 rfl (lv_at hl 1 rfl) ?_
    refine gf_GG_34 C0 hP ho_v0 dd_GG_saves_40 ?_
    refine lv_iload_n hx hb dd_GG_saves_43 rfl (lv_at hl 2 rfl) ?_
    obtain ⟨r_11, x_12, c_13, hf⟩ := of_bnd hf
    refine cl_GG_165 C0 hap (tp_5_4 ho_v0) c_13 hP hS ⟨Nat.le_of_ble_eq_true rfl, Nat.le_of_ble_eq_true rfl⟩ hl.1 (Nat.le_of_ble_eq_true rfl) dd_GG_saves_44 ⟨Nat.le_refl _, Nat.le_refl _⟩ (fun H locs hP hS => ?_)
    refine lv_istore_n (lv' := [(3, .int r_11), (2, .int r_8), (0, .ref (ad v0)), (1, .int v1)]) hx hb dd_GG_saves_47 rfl hl (by decide) rfl (fun ls hl => ?_)
    refine lv_iload_n hx hb dd_GG_saves_48 rfl (lv_at hl 1 rfl) ?_
    refine lv_iconst (v := -1) hx hb dd_GG_saves_49 (by decide) ?_
    refine lv_icmp_eq (tgt := 58) hx hb dd_GG_saves_50 (by decide) (fun h_14 => ?_) (fun h_14 => ?_)
    · have hf := (if_pos h_14).symm.trans hf
      refine lv_iconst (v := -1) hx hb dd_GG_saves_58 (by decide) ?_
      exact rrI C0 hP hS dd_GG_saves_59 hf
    · have hf := (if_neg h_14).symm.trans hf
      refine lv_iload_n hx hb dd_GG_saves_53 rfl (lv_at hl 0 rfl) ?_
      refine lv_iconst (v := -1) hx hb dd_GG_saves_54 (by decide) ?_
      refine lv_icmp_ne (tgt := 60) hx hb dd_GG_saves_55 (by decide) (fun h_15 => ?_) (fun h_15 => ?_)
      · have hf := (if_neg h_15).symm.trans hf
        refine lv_aload_n hx hb dd_GG_saves_60 rfl (lv_at hl 2 rfl) ?_
        refine gf_GG_34 C0 hP ho_v0 dd_GG_saves_61 ?_
        refine lv_iload_n hx hb dd_GG_saves_64 rfl (lv_at hl 0 rfl) ?_
        obtain ⟨r_16, x_17, c_18, hf⟩ := of_bnd hf
        refine cl_GG_168 C0 hap (tp_5_4 ho_v0) c_18 hP hS ⟨Nat.le_of_ble_eq_true rfl, Nat.le_of_ble_eq_true rfl⟩ hl.1 (Nat.le_of_ble_eq_true rfl) dd_GG_saves_65 ⟨Nat.le_refl _, Nat.le_refl _⟩ (fun H locs hP hS => ?_)
        refine lv_aload_n hx hb dd_GG_saves_68 rfl (lv_at hl 2 rfl) ?_
        refine gf_GG_34 C0 hP ho_v0 dd_GG_saves_69 ?_
        refine lv_iload_n hx hb dd_GG_saves_72 rfl (lv_at hl 1 rfl) ?_
        obtain ⟨r_19, x_20, c_21, hf⟩ := of_bnd hf
        refine cl_GG_168 C0 hap (tp_5_4 ho_v0) c_21 hP hS ⟨Nat.le_of_ble_eq_true rfl, Nat.le_of_ble_eq_true rfl⟩ hl.1 (Nat.le_of_ble_eq_true rfl) dd_GG_saves_73 ⟨Nat.le_refl _, Nat.le_refl _⟩ (fun H locs hP hS => ?_)
        refine lv_isub hx hb dd_GG_saves_76 ?_
        exact rrI C0 hP hS dd_GG_saves_77 hf
      · have hf := (if_pos h_15).symm.trans hf
        refine lv_iconst (v := -1) hx hb dd_GG_saves_58 (by decide) ?_
        exact rrI C0 hP hS dd_GG_saves_59 hf
  · have hf := (if_pos h_4).symm.trans hf
    refine lv_aload_n hx hb dd_GG_saves_14 rfl (lv_at hl 0 rfl) ?_
    obtain ⟨r_22, x_23, c_24, hf⟩ := of_bnd hf
    refine cl_GG_53 C0 hap ho_v0 c_24 hP hS ⟨Nat.le_of_ble_eq_true rfl, Nat.le_of_ble_eq_true rfl⟩ hl.1 (Nat.le_of_ble_eq_true rfl) dd_GG_saves_15 ⟨Nat.le_refl _, Nat.le_refl _⟩ (fun H locs hP hS => ?_)
    exact rrI C0 hP hS dd_GG_saves_18 hf
theorem cc_GG_saves {l : Launch} {E : Ev} {A : Nat → Prop} {ad : Nat → Nat} (hap : Ap ad ixC A) {x x' : St} {v0 : Nat} {v1 : Int32} {r : Int32} (ho_v0 : isO ixC v0 5) (hf : ff_GG_saves x v0 v1 = some (r, x')) : Met l yy_GG_saves (Cond.code yy_GG_saves bb_GG_saves 4 (some .int) :: gtb) rm_GG_saves (va_Pc [.ref (ad v0), .int v1] (PB E A ad ixC x)) (QX E ad ixC A (some (.int r)) x') 0 0 A := by
  exact enter (by decide) (Nat.le_of_ble_eq_true rfl) (fun p e s m below meth c ls C0 hP hS hl => ww_GG_saves C0 hap ho_v0 hf hP hS hl)
theorem cl_GG_177 {p : Program} {l : Launch} {e : Env} {R : Room} {s : State} {m : MethodId} {args : Array Value} {below : List Frame} {meth : Method} {c : Code} {H : Heap} {locs : List Loc} {cells slots : Nat} {Q : State → Prop} {cc : ByteArray} {pc : Nat} {ls : Array Slot} {rest : List Value} {E : Ev} {A : Nat → Prop} {ad : Nat → Nat} {nL : Nat} {rt : Option FieldType} (C0 : Cx E A RGG cc nL rt p s m args meth c) (hap : Ap ad ixC A) {x x' : St} {v0 : Nat} {v1 : Nat} {v2 : Int32} {v3 : Int32} {v4 : Int32} {r : Int32} (ho_v0 : isO ixC v0 2) (ho_v1 : isO ixC v1 4) (hc : ff_OU_fewestOnions x v0 v1 v2 v3 v4 = some (r, x')) (hP : Wd E ad ixC x H) (hS : va_S A s.heap H locs) (hR : rm_OU_fewestOnions.frames + 1 ≤ R.frames ∧ 8 + (8 + 11) + rm_OU_fewestOnions.locals ≤ R.locals) (hls : ls.size = nL) (hroom : (rest.map fun v => v.category).sum ≤ 8) (hdg : decode cc pc = .ok (.invokevirtual 177, 3)) (hf : cells ≤ R.cells ∧ slots ≤ R.slots) (kk : ∀ H1 locs1, Wd E ad ixC x' H1 → va_S A s.heap H1 locs1 → W p l e R s m args below meth c H1 locs1 cells slots Q (F0 m (pc + 3) ls (.int r :: rest))) : W p l e R s m args below meth c H locs cells slots Q (F0 m pc ls (.int v4 :: .int v3 :: .int v2 :: .ref (ad v1) :: .ref (ad v0) :: rest)) :=
  rcV (n := 4) C0 (cc_OU_fewestOnions hap ho_v0 ho_v1 hc) hP hS ho_v0 vcl_2 (by decide) gw_code_OU_fewestOnions gw_m_GG_177 gw_inst_OU_fewestOnions gw_sel_OU_fewestOnions gw_ini_OU rfl rfl (by decide +kernel) rfl hR hls rfl hroom hdg hf (fun H1 locs1 a _ _ b => kk H1 locs1 a b)
abbrev rm_GG_tears : Room := { frames := 5, cells := 0, slots := 0, locals := 119 }
theorem dd_GG_tears_0 : decode bb_GG_tears 0 = .ok (.aload_n 0, 1) := by decide +kernel
theorem dd_GG_tears_1 : decode bb_GG_tears 1 = .ok (.getfield 12, 3) := by decide +kernel
theorem dd_GG_tears_4 : decode bb_GG_tears 4 = .ok (.getfield 57, 3) := by decide +kernel
theorem dd_GG_tears_7 : decode bb_GG_tears 7 = .ok (.iload_n 1, 1) := by decide +kernel
theorem dd_GG_tears_8 : decode bb_GG_tears 8 = .ok (.invokevirtual 86, 3) := by decide +kernel
theorem dd_GG_tears_11 : decode bb_GG_tears 11 = .ok (.ifCond .eq 29, 3) := by decide +kernel
theorem dd_GG_tears_14 : decode bb_GG_tears 14 = .ok (.iload_n 2, 1) := by decide +kernel
theorem dd_GG_tears_15 : decode bb_GG_tears 15 = .ok (.iconst 0, 1) := by decide +kernel
theorem dd_GG_tears_16 : decode bb_GG_tears 16 = .ok (.bipush 99, 2) := by decide +kernel
theorem dd_GG_tears_18 : decode bb_GG_tears 18 = .ok (.invokestatic 49, 3) := by decide +kernel
theorem dd_GG_tears_21 : decode bb_GG_tears 21 = .ok (.ifCond .eq 19, 3) := by decide +kernel
theorem dd_GG_tears_24 : decode bb_GG_tears 24 = .ok (.iload_n 3, 1) := by decide +kernel
theorem dd_GG_tears_25 : decode bb_GG_tears 25 = .ok (.aload_n 0, 1) := by decide +kernel
theorem dd_GG_tears_26 : decode bb_GG_tears 26 = .ok (.getfield 12, 3) := by decide +kernel
theorem dd_GG_tears_29 : decode bb_GG_tears 29 = .ok (.getfield 117, 3) := by decide +kernel
theorem dd_GG_tears_32 : decode bb_GG_tears 32 = .ok (.bipush 99, 2) := by decide +kernel
theorem dd_GG_tears_34 : decode bb_GG_tears 34 = .ok (.invokestatic 49, 3) := by decide +kernel
theorem dd_GG_tears_37 : decode bb_GG_tears 37 = .ok (.ifCond .ne 8, 3) := by decide +kernel
theorem dd_GG_tears_40 : decode bb_GG_tears 40 = .ok (.aload_n 0, 1) := by decide +kernel
theorem dd_GG_tears_41 : decode bb_GG_tears 41 = .ok (.invokevirtual 53, 3) := by decide +kernel
theorem dd_GG_tears_44 : decode bb_GG_tears 44 = .ok (.ireturn, 1) := by decide +kernel
theorem dd_GG_tears_45 : decode bb_GG_tears 45 = .ok (.aload_n 0, 1) := by decide +kernel
theorem dd_GG_tears_46 : decode bb_GG_tears 46 = .ok (.getfield 41, 3) := by decide +kernel
theorem dd_GG_tears_49 : decode bb_GG_tears 49 = .ok (.aload_n 0, 1) := by decide +kernel
theorem dd_GG_tears_50 : decode bb_GG_tears 50 = .ok (.getfield 12, 3) := by decide +kernel
theorem dd_GG_tears_53 : decode bb_GG_tears 53 = .ok (.iload_n 1, 1) := by decide +kernel
theorem dd_GG_tears_54 : decode bb_GG_tears 54 = .ok (.iload_n 2, 1) := by decide +kernel
theorem dd_GG_tears_55 : decode bb_GG_tears 55 = .ok (.iload_n 3, 1) := by decide +kernel
theorem dd_GG_tears_56 : decode bb_GG_tears 56 = .ok (.invokevirtual 177, 3) := by decide +kernel
theorem dd_GG_tears_59 : decode bb_GG_tears 59 = .ok (.ireturn, 1) := by decide +kernel
def ff_GG_tears  (x : St) (v0 : Nat) (v1 : Int32) (v2 : Int32) (v3 : Int32) : Option (Int32 × St) := bnd (ff_LE_has x (rf (rf v0 0) 0) v1) (fun r_1 x_2 => (if r_1 = 0 then bnd (ff_GG_refuseBad x_2 v0) (fun r_5 x_6 => some (r_5, x_6)) else bnd (ff_GG_isWithin x_2 v2 0 99) (fun r_8 x_9 => (if r_8 = 0 then bnd (ff_GG_refuseBad x_9 v0) (fun r_12 x_13 => some (r_12, x_13)) else bnd (ff_GG_isWithin x_9 v3 (gi x_9 (rf v0 0) 9) 99) (fun r_15 x_16 => (if r_15 = 0 then bnd (ff_GG_refuseBad x_16 v0) (fun r_22 x_23 => some (r_22, x_23)) else bnd (ff_OU_fewestOnions x_16 (rf v0 5) (rf v0 0) v1 v2 v3) (fun r_19 x_20 => some (r_19, x_20))))))))
set_option maxHeartbeats 4000000 in
set_option maxRecDepth 100000 in
theorem ww_GG_tears {p : Program} {l : Launch} {e : Env} {s : State} {m : MethodId} {args : Array Value} {below : List Frame} {meth : Method} {c : Code} {E : Ev} {A : Nat → Prop} {ad : Nat → Nat} {r : Int32} {x' : St} (C0 : Cx E A RGG bb_GG_tears 4 (some .int) p s m args meth c) (hap : Ap ad ixC A)  {x : St} {v0 : Nat} {v1 : Int32} {v2 : Int32} {v3 : Int32} (ho_v0 : isO ixC v0 5) (hf : ff_GG_tears x v0 v1 v2 v3 = some (r, x')) {H : Heap} {locs : List Loc} {ls : Array Slot} (hP : Wd E ad ixC x H) (hS : va_S A s.heap H locs) (hl : lv_has ls 4 [(0, .ref (ad v0)), (1, .int v1), (2, .int v2), (3, .int v3)]) : W p l e rm_GG_tears s m args below meth c H locs 0 0 (MQ below (QX E ad ixC A (some (.int r)) x') args s 0 0 A) (F0 m 0 ls []) := by
  obtain ⟨hx, hb, hml, hr, hown, hts, hlk, hK⟩ := id C0
  have hf : bnd (ff_LE_has x (rf (rf v0 0) 0) v1) (fun r_1 x_2 => (if r_1 = 0 then bnd (ff_GG_refuseBad x_2 v0) (fun r_5 x_6 => some (r_5, x_6)) else bnd (ff_GG_isWithin x_2 v2 0 99) (fun r_8 x_9 => (if r_8 = 0 then bnd (ff_GG_refuseBad x_9 v0) (fun r_12 x_13 => some (r_12, x_13)) else bnd (ff_GG_isWithin x_9 v3 (gi x_9 (rf v0 0) 9) 99) (fun r_15 x_16 => (if r_15 = 0 then bnd (ff_GG_refuseBad x_16 v0) (fun r_22 x_23 => some (r_22, x_23)) else bnd (ff_OU_fewestOnions x_16 (rf v0 5) (rf v0 0) v1 v2 v3) (fun r_19 x_20 => some (r_19, x_20)))))))) = some (r, x') := hf
  refine lv_aload_n hx hb dd_GG_tears_0 rfl (lv_at hl 0 rfl) ?_
  refine gf_GG_12 C0 hP ho_v0 dd_GG_tears_1 ?_
  refine gf_GG_57 C0 hP (tp_5_0 ho_v0) dd_GG_tears_4 ?_
  refine lv_iload_n hx hb dd_GG_tears_7 rfl (lv_at hl 1 rfl) ?_
  obtain ⟨r_1, x_2, c_3, hf⟩ := of_bnd hf
  refine cl_GG_86 C0 hap (tp_4_0 (tp_5_0 ho_v0)) c_3 hP hS ⟨Nat.le_of_ble_eq_true rfl, Nat.le_of_ble_eq_true rfl⟩ hl.1 (Nat.le_of_ble_eq_true rfl) dd_GG_tears_8 ⟨Nat.le_refl _, Nat.le_refl _⟩ (fun H locs hP hS => ?_)
  refine lv_if_eq (tgt := 40) hx hb dd_GG_tears_11 (by decide) (fun h_4 => ?_) (fun h_4 => ?_)
  · have hf := (if_pos h_4).symm.trans hf
    refine lv_aload_n hx hb dd_GG_tears_40 rfl (lv_at hl 0 rfl) ?_
    obtain ⟨r_5, x_6, c_7, hf⟩ := of_bnd hf
    refine cl_GG_53 C0 hap ho_v0 c_7 hP hS ⟨Nat.le_of_ble_eq_true rfl, Nat.le_of_ble_eq_true rfl⟩ hl.1 (Nat.le_of_ble_eq_true rfl) dd_GG_tears_41 ⟨Nat.le_refl _, Nat.le_refl _⟩ (fun H locs hP hS => ?_)
    exact rrI C0 hP hS dd_GG_tears_44 hf
  · have hf := (if_neg h_4).symm.trans hf
    refine lv_iload_n hx hb dd_GG_tears_14 rfl (lv_at hl 2 rfl) ?_
    refine lv_iconst (v := 0) hx hb dd_GG_tears_15 (by decide) ?_
    refine lv_bipush (v := 99) hx hb dd_GG_tears_16 (by decide) ?_
    obtain ⟨r_8, x_9, c_10, hf⟩ := of_bnd hf
    refine cl_GG_49 C0 hap  c_10 hP hS ⟨Nat.le_of_ble_eq_true rfl, Nat.le_of_ble_eq_true rfl⟩ hl.1 (Nat.le_of_ble_eq_true rfl) dd_GG_tears_18 ⟨Nat.le_refl _, Nat.le_refl _⟩ (fun H locs hP hS => ?_)
    refine lv_if_eq (tgt := 40) hx hb dd_GG_tears_21 (by decide) (fun h_11 => ?_) (fun h_11 => ?_)
    · have hf := (if_pos h_11).symm.trans hf
      refine lv_aload_n hx hb dd_GG_tears_40 rfl (lv_at hl 0 rfl) ?_
      obtain ⟨r_12, x_13, c_14, hf⟩ := of_bnd hf
      refine cl_GG_53 C0 hap ho_v0 c_14 hP hS ⟨Nat.le_of_ble_eq_true rfl, Nat.le_of_ble_eq_true rfl⟩ hl.1 (Nat.le_of_ble_eq_true rfl) dd_GG_tears_41 ⟨Nat.le_refl _, Nat.le_refl _⟩ (fun H locs hP hS => ?_)
      exact rrI C0 hP hS dd_GG_tears_44 hf
    · have hf := (if_neg h_11).symm.trans hf
      refine lv_iload_n hx hb dd_GG_tears_24 rfl (lv_at hl 3 rfl) ?_
      refine lv_aload_n hx hb dd_GG_tears_25 rfl (lv_at hl 0 rfl) ?_
      refine gf_GG_12 C0 hP ho_v0 dd_GG_tears_26 ?_
      refine gf_GG_117 C0 hP (tp_5_0 ho_v0) dd_GG_tears_29 ?_
      refine lv_bipush (v := 99) hx hb dd_GG_tears_32 (by decide) ?_
      obtain ⟨r_15, x_16, c_17, hf⟩ := of_bnd hf
      refine cl_GG_49 C0 hap  c_17 hP hS ⟨Nat.le_of_ble_eq_true rfl, Nat.le_of_ble_eq_true rfl⟩ hl.1 (Nat.le_of_ble_eq_true rfl) dd_GG_tears_34 ⟨Nat.le_refl _, Nat.le_refl _⟩ (fun H locs hP hS => ?_)
      refine lv_if_ne (tgt := 45) hx hb dd_GG_tears_37 (by decide) (fun h_18 => ?_) (fun h_18 => ?_)
      · have hf := (if_neg h_18).symm.trans hf
        refine lv_aload_n hx hb dd_GG_tears_45 rfl (lv_at hl 0 rfl) ?_
        refine gf_GG_41 C0 hP ho_v0 dd_GG_tears_46 ?_
        refine lv_aload_n hx hb dd_GG_tears_49 rfl (lv_at hl 0 rfl) ?_
        refine gf_GG_12 C0 hP ho_v0 dd_GG_tears_50 ?_
        refine lv_iload_n hx hb dd_GG_tears_53 rfl (lv_at hl 1 rfl) ?_
        refine lv_iload_n hx hb dd_GG_tears_54 rfl (lv_at hl 2 rfl) ?_
        refine lv_iload_n hx hb dd_GG_tears_55 rfl (lv_at hl 3 rfl) ?_
        obtain ⟨r_19, x_20, c_21, hf⟩ := of_bnd hf
        refine cl_GG_177 C0 hap (tp_5_5 ho_v0) (tp_5_0 ho_v0) c_21 hP hS ⟨Nat.le_of_ble_eq_true rfl, Nat.le_of_ble_eq_true rfl⟩ hl.1 (Nat.le_of_ble_eq_true rfl) dd_GG_tears_56 ⟨Nat.le_refl _, Nat.le_refl _⟩ (fun H locs hP hS => ?_)
        exact rrI C0 hP hS dd_GG_tears_59 hf
      · have hf := (if_pos h_18).symm.trans hf
        refine lv_aload_n hx hb dd_GG_tears_40 rfl (lv_at hl 0 rfl) ?_
        obtain ⟨r_22, x_23, c_24, hf⟩ := of_bnd hf
        refine cl_GG_53 C0 hap ho_v0 c_24 hP hS ⟨Nat.le_of_ble_eq_true rfl, Nat.le_of_ble_eq_true rfl⟩ hl.1 (Nat.le_of_ble_eq_true rfl) dd_GG_tears_41 ⟨Nat.le_refl _, Nat.le_refl _⟩ (fun H locs hP hS => ?_)
        exact rrI C0 hP hS dd_GG_tears_44 hf
theorem cc_GG_tears {l : Launch} {E : Ev} {A : Nat → Prop} {ad : Nat → Nat} (hap : Ap ad ixC A) {x x' : St} {v0 : Nat} {v1 : Int32} {v2 : Int32} {v3 : Int32} {r : Int32} (ho_v0 : isO ixC v0 5) (hf : ff_GG_tears x v0 v1 v2 v3 = some (r, x')) : Met l yy_GG_tears (Cond.code yy_GG_tears bb_GG_tears 4 (some .int) :: gtb) rm_GG_tears (va_Pc [.ref (ad v0), .int v1, .int v2, .int v3] (PB E A ad ixC x)) (QX E ad ixC A (some (.int r)) x') 0 0 A := by
  exact enter (by decide) (Nat.le_of_ble_eq_true rfl) (fun p e s m below meth c ls C0 hP hS hl => ww_GG_tears C0 hap ho_v0 hf hP hS hl)
abbrev rm_GG_fact : Room := { frames := 2, cells := 0, slots := 0, locals := 44 }
theorem dd_GG_fact_0 : decode bb_GG_fact 0 = .ok (.iload_n 1, 1) := by decide +kernel
theorem dd_GG_fact_1 : decode bb_GG_fact 1 = .ok (.iconst 0, 1) := by decide +kernel
theorem dd_GG_fact_2 : decode bb_GG_fact 2 = .ok (.bipush 99, 2) := by decide +kernel
theorem dd_GG_fact_4 : decode bb_GG_fact 4 = .ok (.invokestatic 49, 3) := by decide +kernel
theorem dd_GG_fact_7 : decode bb_GG_fact 7 = .ok (.ifCond .eq 23, 3) := by decide +kernel
theorem dd_GG_fact_10 : decode bb_GG_fact 10 = .ok (.iload_n 2, 1) := by decide +kernel
theorem dd_GG_fact_11 : decode bb_GG_fact 11 = .ok (.iconst 0, 1) := by decide +kernel
theorem dd_GG_fact_12 : decode bb_GG_fact 12 = .ok (.bipush 99, 2) := by decide +kernel
theorem dd_GG_fact_14 : decode bb_GG_fact 14 = .ok (.invokestatic 49, 3) := by decide +kernel
theorem dd_GG_fact_17 : decode bb_GG_fact 17 = .ok (.ifCond .eq 13, 3) := by decide +kernel
theorem dd_GG_fact_20 : decode bb_GG_fact 20 = .ok (.iload_n 3, 1) := by decide +kernel
theorem dd_GG_fact_21 : decode bb_GG_fact 21 = .ok (.iload_n 2, 1) := by decide +kernel
theorem dd_GG_fact_22 : decode bb_GG_fact 22 = .ok (.bipush 100, 2) := by decide +kernel
theorem dd_GG_fact_24 : decode bb_GG_fact 24 = .ok (.invokestatic 49, 3) := by decide +kernel
theorem dd_GG_fact_27 : decode bb_GG_fact 27 = .ok (.ifCond .ne 8, 3) := by decide +kernel
theorem dd_GG_fact_30 : decode bb_GG_fact 30 = .ok (.aload_n 0, 1) := by decide +kernel
theorem dd_GG_fact_31 : decode bb_GG_fact 31 = .ok (.invokevirtual 53, 3) := by decide +kernel
theorem dd_GG_fact_34 : decode bb_GG_fact 34 = .ok (.ireturn, 1) := by decide +kernel
theorem dd_GG_fact_35 : decode bb_GG_fact 35 = .ok (.aload_n 0, 1) := by decide +kernel
theorem dd_GG_fact_36 : decode bb_GG_fact 36 = .ok (.getfield 12, 3) := by decide +kernel
theorem dd_GG_fact_39 : decode bb_GG_fact 39 = .ok (.getfield 181, 3) := by decide +kernel
theorem dd_GG_fact_42 : decode bb_GG_fact 42 = .ok (.invokevirtual 61, 3) := by decide +kernel
theorem dd_GG_fact_45 : decode bb_GG_fact 45 = .ok (.ifCond .eq 8, 3) := by decide +kernel
theorem dd_GG_fact_48 : decode bb_GG_fact 48 = .ok (.aload_n 0, 1) := by decide +kernel
theorem dd_GG_fact_49 : decode bb_GG_fact 49 = .ok (.invokevirtual 67, 3) := by decide +kernel
theorem dd_GG_fact_52 : decode bb_GG_fact 52 = .ok (.ireturn, 1) := by decide +kernel
theorem dd_GG_fact_53 : decode bb_GG_fact 53 = .ok (.aload_n 0, 1) := by decide +kernel
theorem dd_GG_fact_54 : decode bb_GG_fact 54 = .ok (.getfield 12, 3) := by decide +kernel
theorem dd_GG_fact_57 : decode bb_GG_fact 57 = .ok (.getfield 181, 3) := by decide +kernel
theorem dd_GG_fact_60 : decode bb_GG_fact 60 = .ok (.iload_n 1, 1) := by decide +kernel
theorem dd_GG_fact_61 : decode bb_GG_fact 61 = .ok (.iload_n 2, 1) := by decide +kernel
theorem dd_GG_fact_62 : decode bb_GG_fact 62 = .ok (.iload_n 3, 1) := by decide +kernel
theorem dd_GG_fact_63 : decode bb_GG_fact 63 = .ok (.invokevirtual 77, 3) := by decide +kernel
theorem dd_GG_fact_66 : decode bb_GG_fact 66 = .ok (.ireturn, 1) := by decide +kernel
def ff_GG_fact  (x : St) (v0 : Nat) (v1 : Int32) (v2 : Int32) (v3 : Int32) : Option (Int32 × St) := bnd (ff_GG_isWithin x v1 0 99) (fun r_1 x_2 => (if r_1 = 0 then bnd (ff_GG_refuseBad x_2 v0) (fun r_5 x_6 => some (r_5, x_6)) else bnd (ff_GG_isWithin x_2 v2 0 99) (fun r_8 x_9 => (if r_8 = 0 then bnd (ff_GG_refuseBad x_9 v0) (fun r_12 x_13 => some (r_12, x_13)) else bnd (ff_GG_isWithin x_9 v3 v2 100) (fun r_15 x_16 => (if r_15 = 0 then bnd (ff_GG_refuseBad x_16 v0) (fun r_29 x_30 => some (r_29, x_30)) else bnd (ff_LE_isFull x_16 (rf (rf v0 0) 4)) (fun r_19 x_20 => (if r_19 = 0 then bnd (ff_LE_add x_20 (rf (rf v0 0) 4) v1 v2 v3) (fun r_23 x_24 => some (r_23, x_24)) else bnd (ff_GG_refuseFull x_20 v0) (fun r_26 x_27 => some (r_26, x_27))))))))))
set_option maxHeartbeats 4000000 in
set_option maxRecDepth 100000 in
theorem ww_GG_fact {p : Program} {l : Launch} {e : Env} {s : State} {m : MethodId} {args : Array Value} {below : List Frame} {meth : Method} {c : Code} {E : Ev} {A : Nat → Prop} {ad : Nat → Nat} {r : Int32} {x' : St} (C0 : Cx E A RGG bb_GG_fact 4 (some .int) p s m args meth c) (hap : Ap ad ixC A)  {x : St} {v0 : Nat} {v1 : Int32} {v2 : Int32} {v3 : Int32} (ho_v0 : isO ixC v0 5) (hf : ff_GG_fact x v0 v1 v2 v3 = some (r, x')) {H : Heap} {locs : List Loc} {ls : Array Slot} (hP : Wd E ad ixC x H) (hS : va_S A s.heap H locs) (hl : lv_has ls 4 [(0, .ref (ad v0)), (1, .int v1), (2, .int v2), (3, .int v3)]) : W p l e rm_GG_fact s m args below meth c H locs 0 0 (MQ below (QX E ad ixC A (some (.int r)) x') args s 0 0 A) (F0 m 0 ls []) := by
  obtain ⟨hx, hb, hml, hr, hown, hts, hlk, hK⟩ := id C0
  have hf : bnd (ff_GG_isWithin x v1 0 99) (fun r_1 x_2 => (if r_1 = 0 then bnd (ff_GG_refuseBad x_2 v0) (fun r_5 x_6 => some (r_5, x_6)) else bnd (ff_GG_isWithin x_2 v2 0 99) (fun r_8 x_9 => (if r_8 = 0 then bnd (ff_GG_refuseBad x_9 v0) (fun r_12 x_13 => some (r_12, x_13)) else bnd (ff_GG_isWithin x_9 v3 v2 100) (fun r_15 x_16 => (if r_15 = 0 then bnd (ff_GG_refuseBad x_16 v0) (fun r_29 x_30 => some (r_29, x_30)) else bnd (ff_LE_isFull x_16 (rf (rf v0 0) 4)) (fun r_19 x_20 => (if r_19 = 0 then bnd (ff_LE_add x_20 (rf (rf v0 0) 4) v1 v2 v3) (fun r_23 x_24 => some (r_23, x_24)) else bnd (ff_GG_refuseFull x_20 v0) (fun r_26 x_27 => some (r_26, x_27)))))))))) = some (r, x') := hf
  refine lv_iload_n hx hb dd_GG_fact_0 rfl (lv_at hl 1 rfl) ?_
  refine lv_iconst (v := 0) hx hb dd_GG_fact_1 (by decide) ?_
  refine lv_bipush (v := 99) hx hb dd_GG_fact_2 (by decide) ?_
  obtain ⟨r_1, x_2, c_3, hf⟩ := of_bnd hf
  refine cl_GG_49 C0 hap  c_3 hP hS ⟨Nat.le_of_ble_eq_true rfl, Nat.le_of_ble_eq_true rfl⟩ hl.1 (Nat.le_of_ble_eq_true rfl) dd_GG_fact_4 ⟨Nat.le_refl _, Nat.le_refl _⟩ (fun H locs hP hS => ?_)
  refine lv_if_eq (tgt := 30) hx hb dd_GG_fact_7 (by decide) (fun h_4 => ?_) (fun h_4 => ?_)
  · have hf := (if_pos h_4).symm.trans hf
    refine lv_aload_n hx hb dd_GG_fact_30 rfl (lv_at hl 0 rfl) ?_
    obtain ⟨r_5, x_6, c_7, hf⟩ := of_bnd hf
    refine cl_GG_53 C0 hap ho_v0 c_7 hP hS ⟨Nat.le_of_ble_eq_true rfl, Nat.le_of_ble_eq_true rfl⟩ hl.1 (Nat.le_of_ble_eq_true rfl) dd_GG_fact_31 ⟨Nat.le_refl _, Nat.le_refl _⟩ (fun H locs hP hS => ?_)
    exact rrI C0 hP hS dd_GG_fact_34 hf
  · have hf := (if_neg h_4).symm.trans hf
    refine lv_iload_n hx hb dd_GG_fact_10 rfl (lv_at hl 2 rfl) ?_
    refine lv_iconst (v := 0) hx hb dd_GG_fact_11 (by decide) ?_
    refine lv_bipush (v := 99) hx hb dd_GG_fact_12 (by decide) ?_
    obtain ⟨r_8, x_9, c_10, hf⟩ := of_bnd hf
    refine cl_GG_49 C0 hap  c_10 hP hS ⟨Nat.le_of_ble_eq_true rfl, Nat.le_of_ble_eq_true rfl⟩ hl.1 (Nat.le_of_ble_eq_true rfl) dd_GG_fact_14 ⟨Nat.le_refl _, Nat.le_refl _⟩ (fun H locs hP hS => ?_)
    refine lv_if_eq (tgt := 30) hx hb dd_GG_fact_17 (by decide) (fun h_11 => ?_) (fun h_11 => ?_)
    · have hf := (if_pos h_11).symm.trans hf
      refine lv_aload_n hx hb dd_GG_fact_30 rfl (lv_at hl 0 rfl) ?_
      obtain ⟨r_12, x_13, c_14, hf⟩ := of_bnd hf
      refine cl_GG_53 C0 hap ho_v0 c_14 hP hS ⟨Nat.le_of_ble_eq_true rfl, Nat.le_of_ble_eq_true rfl⟩ hl.1 (Nat.le_of_ble_eq_true rfl) dd_GG_fact_31 ⟨Nat.le_refl _, Nat.le_refl _⟩ (fun H locs hP hS => ?_)
      exact rrI C0 hP hS dd_GG_fact_34 hf
    · have hf := (if_neg h_11).symm.trans hf
      refine lv_iload_n hx hb dd_GG_fact_20 rfl (lv_at hl 3 rfl) ?_
      refine lv_iload_n hx hb dd_GG_fact_21 rfl (lv_at hl 2 rfl) ?_
      refine lv_bipush (v := 100) hx hb dd_GG_fact_22 (by decide) ?_
      obtain ⟨r_15, x_16, c_17, hf⟩ := of_bnd hf
      refine cl_GG_49 C0 hap  c_17 hP hS ⟨Nat.le_of_ble_eq_true rfl, Nat.le_of_ble_eq_true rfl⟩ hl.1 (Nat.le_of_ble_eq_true rfl) dd_GG_fact_24 ⟨Nat.le_refl _, Nat.le_refl _⟩ (fun H locs hP hS => ?_)
      refine lv_if_ne (tgt := 35) hx hb dd_GG_fact_27 (by decide) (fun h_18 => ?_) (fun h_18 => ?_)
      · have hf := (if_neg h_18).symm.trans hf
        refine lv_aload_n hx hb dd_GG_fact_35 rfl (lv_at hl 0 rfl) ?_
        refine gf_GG_12 C0 hP ho_v0 dd_GG_fact_36 ?_
        refine gf_GG_181 C0 hP (tp_5_0 ho_v0) dd_GG_fact_39 ?_
        obtain ⟨r_19, x_20, c_21, hf⟩ := of_bnd hf
        refine cl_GG_61 C0 hap (tp_4_4 (tp_5_0 ho_v0)) c_21 hP hS ⟨Nat.le_of_ble_eq_true rfl, Nat.le_of_ble_eq_true rfl⟩ hl.1 (Nat.le_of_ble_eq_true rfl) dd_GG_fact_42 ⟨Nat.le_refl _, Nat.le_refl _⟩ (fun H locs hP hS => ?_)
        refine lv_if_eq (tgt := 53) hx hb dd_GG_fact_45 (by decide) (fun h_22 => ?_) (fun h_22 => ?_)
        · have hf := (if_pos h_22).symm.trans hf
          refine lv_aload_n hx hb dd_GG_fact_53 rfl (lv_at hl 0 rfl) ?_
          refine gf_GG_12 C0 hP ho_v0 dd_GG_fact_54 ?_
          refine gf_GG_181 C0 hP (tp_5_0 ho_v0) dd_GG_fact_57 ?_
          refine lv_iload_n hx hb dd_GG_fact_60 rfl (lv_at hl 1 rfl) ?_
          refine lv_iload_n hx hb dd_GG_fact_61 rfl (lv_at hl 2 rfl) ?_
          refine lv_iload_n hx hb dd_GG_fact_62 rfl (lv_at hl 3 rfl) ?_
          obtain ⟨r_23, x_24, c_25, hf⟩ := of_bnd hf
          refine cl_GG_77 C0 hap (tp_4_4 (tp_5_0 ho_v0)) c_25 hP hS ⟨Nat.le_of_ble_eq_true rfl, Nat.le_of_ble_eq_true rfl⟩ hl.1 (Nat.le_of_ble_eq_true rfl) dd_GG_fact_63 ⟨Nat.le_refl _, Nat.le_refl _⟩ (fun H locs hP hS => ?_)
          exact rrI C0 hP hS dd_GG_fact_66 hf
        · have hf := (if_neg h_22).symm.trans hf
          refine lv_aload_n hx hb dd_GG_fact_48 rfl (lv_at hl 0 rfl) ?_
          obtain ⟨r_26, x_27, c_28, hf⟩ := of_bnd hf
          refine cl_GG_67 C0 hap ho_v0 c_28 hP hS ⟨Nat.le_of_ble_eq_true rfl, Nat.le_of_ble_eq_true rfl⟩ hl.1 (Nat.le_of_ble_eq_true rfl) dd_GG_fact_49 ⟨Nat.le_refl _, Nat.le_refl _⟩ (fun H locs hP hS => ?_)
          exact rrI C0 hP hS dd_GG_fact_52 hf
      · have hf := (if_pos h_18).symm.trans hf
        refine lv_aload_n hx hb dd_GG_fact_30 rfl (lv_at hl 0 rfl) ?_
        obtain ⟨r_29, x_30, c_31, hf⟩ := of_bnd hf
        refine cl_GG_53 C0 hap ho_v0 c_31 hP hS ⟨Nat.le_of_ble_eq_true rfl, Nat.le_of_ble_eq_true rfl⟩ hl.1 (Nat.le_of_ble_eq_true rfl) dd_GG_fact_31 ⟨Nat.le_refl _, Nat.le_refl _⟩ (fun H locs hP hS => ?_)
        exact rrI C0 hP hS dd_GG_fact_34 hf
theorem cc_GG_fact {l : Launch} {E : Ev} {A : Nat → Prop} {ad : Nat → Nat} (hap : Ap ad ixC A) {x x' : St} {v0 : Nat} {v1 : Int32} {v2 : Int32} {v3 : Int32} {r : Int32} (ho_v0 : isO ixC v0 5) (hf : ff_GG_fact x v0 v1 v2 v3 = some (r, x')) : Met l yy_GG_fact (Cond.code yy_GG_fact bb_GG_fact 4 (some .int) :: gtb) rm_GG_fact (va_Pc [.ref (ad v0), .int v1, .int v2, .int v3] (PB E A ad ixC x)) (QX E ad ixC A (some (.int r)) x') 0 0 A := by
  exact enter (by decide) (Nat.le_of_ble_eq_true rfl) (fun p e s m below meth c ls C0 hP hS hl => ww_GG_fact C0 hap ho_v0 hf hP hS hl)
abbrev rm_GG_forget : Room := { frames := 0, cells := 0, slots := 0, locals := 0 }
theorem dd_GG_forget_0 : decode bb_GG_forget 0 = .ok (.aload_n 0, 1) := by decide +kernel
theorem dd_GG_forget_1 : decode bb_GG_forget 1 = .ok (.getfield 12, 3) := by decide +kernel
theorem dd_GG_forget_4 : decode bb_GG_forget 4 = .ok (.getfield 181, 3) := by decide +kernel
theorem dd_GG_forget_7 : decode bb_GG_forget 7 = .ok (.getfield 96, 3) := by decide +kernel
theorem dd_GG_forget_10 : decode bb_GG_forget 10 = .ok (.istore_n 1, 1) := by decide +kernel
theorem dd_GG_forget_11 : decode bb_GG_forget 11 = .ok (.aload_n 0, 1) := by decide +kernel
theorem dd_GG_forget_12 : decode bb_GG_forget 12 = .ok (.getfield 12, 3) := by decide +kernel
theorem dd_GG_forget_15 : decode bb_GG_forget 15 = .ok (.getfield 181, 3) := by decide +kernel
theorem dd_GG_forget_18 : decode bb_GG_forget 18 = .ok (.iconst 0, 1) := by decide +kernel
theorem dd_GG_forget_19 : decode bb_GG_forget 19 = .ok (.putfield 96, 3) := by decide +kernel
theorem dd_GG_forget_22 : decode bb_GG_forget 22 = .ok (.iload_n 1, 1) := by decide +kernel
theorem dd_GG_forget_23 : decode bb_GG_forget 23 = .ok (.ireturn, 1) := by decide +kernel
def ff_GG_forget  (x : St) (v0 : Nat) : Option (Int32 × St) := st (si x (rf (rf v0 0) 4) 3 0) (fun x_1 => some (gi x (rf (rf v0 0) 4) 3, x_1))
set_option maxHeartbeats 4000000 in
set_option maxRecDepth 100000 in
theorem ww_GG_forget {p : Program} {l : Launch} {e : Env} {s : State} {m : MethodId} {args : Array Value} {below : List Frame} {meth : Method} {c : Code} {E : Ev} {A : Nat → Prop} {ad : Nat → Nat} {r : Int32} {x' : St} (C0 : Cx E A RGG bb_GG_forget 2 (some .int) p s m args meth c) (hap : Ap ad ixC A)  {x : St} {v0 : Nat} (ho_v0 : isO ixC v0 5) (hf : ff_GG_forget x v0 = some (r, x')) {H : Heap} {locs : List Loc} {ls : Array Slot} (hP : Wd E ad ixC x H) (hS : va_S A s.heap H locs) (hl : lv_has ls 2 [(0, .ref (ad v0))]) : W p l e rm_GG_forget s m args below meth c H locs 0 0 (MQ below (QX E ad ixC A (some (.int r)) x') args s 0 0 A) (F0 m 0 ls []) := by
  obtain ⟨hx, hb, hml, hr, hown, hts, hlk, hK⟩ := id C0
  have hf : st (si x (rf (rf v0 0) 4) 3 0) (fun x_1 => some (gi x (rf (rf v0 0) 4) 3, x_1)) = some (r, x') := hf
  refine lv_aload_n hx hb dd_GG_forget_0 rfl (lv_at hl 0 rfl) ?_
  refine gf_GG_12 C0 hP ho_v0 dd_GG_forget_1 ?_
  refine gf_GG_181 C0 hP (tp_5_0 ho_v0) dd_GG_forget_4 ?_
  refine gf_GG_96 C0 hP (tp_4_4 (tp_5_0 ho_v0)) dd_GG_forget_7 ?_
  refine lv_istore_n (lv' := [(1, .int (gi x (rf (rf v0 0) 4) 3)), (0, .ref (ad v0))]) hx hb dd_GG_forget_10 rfl hl (by decide) rfl (fun ls hl => ?_)
  refine lv_aload_n hx hb dd_GG_forget_11 rfl (lv_at hl 1 rfl) ?_
  refine gf_GG_12 C0 hP ho_v0 dd_GG_forget_12 ?_
  refine gf_GG_181 C0 hP (tp_5_0 ho_v0) dd_GG_forget_15 ?_
  refine lv_iconst (v := 0) hx hb dd_GG_forget_18 (by decide) ?_
  obtain ⟨x_1, hx_1, hf⟩ := of_st hf
  refine pf_GG_96 C0 hap hP hS (tp_4_4 (tp_5_0 ho_v0)) hx_1 dd_GG_forget_19 (fun H locs hP hS => ?_)
  refine lv_iload_n hx hb dd_GG_forget_22 rfl (lv_at hl 0 rfl) ?_
  exact rrI C0 hP hS dd_GG_forget_23 hf
theorem cc_GG_forget {l : Launch} {E : Ev} {A : Nat → Prop} {ad : Nat → Nat} (hap : Ap ad ixC A) {x x' : St} {v0 : Nat} {r : Int32} (ho_v0 : isO ixC v0 5) (hf : ff_GG_forget x v0 = some (r, x')) : Met l yy_GG_forget (Cond.code yy_GG_forget bb_GG_forget 2 (some .int) :: gtb) rm_GG_forget (va_Pc [.ref (ad v0)] (PB E A ad ixC x)) (QX E ad ixC A (some (.int r)) x') 0 0 A := by
  exact enter (by decide) (Nat.le_of_ble_eq_true rfl) (fun p e s m below meth c ls C0 hP hS hl => ww_GG_forget C0 hap ho_v0 hf hP hS hl)
theorem cl_GG_184 {p : Program} {l : Launch} {e : Env} {R : Room} {s : State} {m : MethodId} {args : Array Value} {below : List Frame} {meth : Method} {c : Code} {H : Heap} {locs : List Loc} {cells slots : Nat} {Q : State → Prop} {cc : ByteArray} {pc : Nat} {ls : Array Slot} {rest : List Value} {E : Ev} {A : Nat → Prop} {ad : Nat → Nat} {nL : Nat} {rt : Option FieldType} (C0 : Cx E A RGG cc nL rt p s m args meth c) (hap : Ap ad ixC A) {x x' : St} {v0 : Nat} {v1 : Nat} {v2 : Int32} {v3 : Int32} {r : Int32} (ho_v0 : isO ixC v0 2) (ho_v1 : isO ixC v1 1) (hc : ff_OU_firstGriefs x v0 v1 v2 v3 = some (r, x')) (hP : Wd E ad ixC x H) (hS : va_S A s.heap H locs) (hR : rm_OU_firstGriefs.frames + 1 ≤ R.frames ∧ 8 + (8 + 11) + rm_OU_firstGriefs.locals ≤ R.locals) (hls : ls.size = nL) (hroom : (rest.map fun v => v.category).sum ≤ 8) (hdg : decode cc pc = .ok (.invokevirtual 184, 3)) (hf : cells ≤ R.cells ∧ slots ≤ R.slots) (kk : ∀ H1 locs1, Wd E ad ixC x' H1 → va_S A s.heap H1 locs1 → W p l e R s m args below meth c H1 locs1 cells slots Q (F0 m (pc + 3) ls (.int r :: rest))) : W p l e R s m args below meth c H locs cells slots Q (F0 m pc ls (.int v3 :: .int v2 :: .ref (ad v1) :: .ref (ad v0) :: rest)) :=
  rcV (n := 3) C0 (cc_OU_firstGriefs hap ho_v0 ho_v1 hc) hP hS ho_v0 vcl_2 (by decide) gw_code_OU_firstGriefs gw_m_GG_184 gw_inst_OU_firstGriefs gw_sel_OU_firstGriefs gw_ini_OU rfl rfl (by decide +kernel) rfl hR hls rfl hroom hdg hf (fun H1 locs1 a _ _ b => kk H1 locs1 a b)
abbrev rm_GG_likely : Room := { frames := 5, cells := 0, slots := 0, locals := 117 }
theorem dd_GG_likely_0 : decode bb_GG_likely 0 = .ok (.iload_n 1, 1) := by decide +kernel
theorem dd_GG_likely_1 : decode bb_GG_likely 1 = .ok (.iconst 0, 1) := by decide +kernel
theorem dd_GG_likely_2 : decode bb_GG_likely 2 = .ok (.iconst 5, 1) := by decide +kernel
theorem dd_GG_likely_3 : decode bb_GG_likely 3 = .ok (.invokestatic 49, 3) := by decide +kernel
theorem dd_GG_likely_6 : decode bb_GG_likely 6 = .ok (.ifCond .eq 12, 3) := by decide +kernel
theorem dd_GG_likely_9 : decode bb_GG_likely 9 = .ok (.iload_n 2, 1) := by decide +kernel
theorem dd_GG_likely_10 : decode bb_GG_likely 10 = .ok (.iconst 0, 1) := by decide +kernel
theorem dd_GG_likely_11 : decode bb_GG_likely 11 = .ok (.iconst 2, 1) := by decide +kernel
theorem dd_GG_likely_12 : decode bb_GG_likely 12 = .ok (.invokestatic 49, 3) := by decide +kernel
theorem dd_GG_likely_15 : decode bb_GG_likely 15 = .ok (.ifCond .ne 8, 3) := by decide +kernel
theorem dd_GG_likely_18 : decode bb_GG_likely 18 = .ok (.aload_n 0, 1) := by decide +kernel
theorem dd_GG_likely_19 : decode bb_GG_likely 19 = .ok (.invokevirtual 53, 3) := by decide +kernel
theorem dd_GG_likely_22 : decode bb_GG_likely 22 = .ok (.ireturn, 1) := by decide +kernel
theorem dd_GG_likely_23 : decode bb_GG_likely 23 = .ok (.aload_n 0, 1) := by decide +kernel
theorem dd_GG_likely_24 : decode bb_GG_likely 24 = .ok (.getfield 41, 3) := by decide +kernel
theorem dd_GG_likely_27 : decode bb_GG_likely 27 = .ok (.aload_n 0, 1) := by decide +kernel
theorem dd_GG_likely_28 : decode bb_GG_likely 28 = .ok (.getfield 12, 3) := by decide +kernel
theorem dd_GG_likely_31 : decode bb_GG_likely 31 = .ok (.getfield 181, 3) := by decide +kernel
theorem dd_GG_likely_34 : decode bb_GG_likely 34 = .ok (.iload_n 1, 1) := by decide +kernel
theorem dd_GG_likely_35 : decode bb_GG_likely 35 = .ok (.iload_n 2, 1) := by decide +kernel
theorem dd_GG_likely_36 : decode bb_GG_likely 36 = .ok (.invokevirtual 184, 3) := by decide +kernel
theorem dd_GG_likely_39 : decode bb_GG_likely 39 = .ok (.ireturn, 1) := by decide +kernel
def ff_GG_likely  (x : St) (v0 : Nat) (v1 : Int32) (v2 : Int32) : Option (Int32 × St) := bnd (ff_GG_isWithin x v1 0 5) (fun r_1 x_2 => (if r_1 = 0 then bnd (ff_GG_refuseBad x_2 v0) (fun r_5 x_6 => some (r_5, x_6)) else bnd (ff_GG_isWithin x_2 v2 0 2) (fun r_8 x_9 => (if r_8 = 0 then bnd (ff_GG_refuseBad x_9 v0) (fun r_15 x_16 => some (r_15, x_16)) else bnd (ff_OU_firstGriefs x_9 (rf v0 5) (rf (rf v0 0) 4) v1 v2) (fun r_12 x_13 => some (r_12, x_13))))))
set_option maxHeartbeats 4000000 in
set_option maxRecDepth 100000 in
theorem ww_GG_likely {p : Program} {l : Launch} {e : Env} {s : State} {m : MethodId} {args : Array Value} {below : List Frame} {meth : Method} {c : Code} {E : Ev} {A : Nat → Prop} {ad : Nat → Nat} {r : Int32} {x' : St} (C0 : Cx E A RGG bb_GG_likely 3 (some .int) p s m args meth c) (hap : Ap ad ixC A)  {x : St} {v0 : Nat} {v1 : Int32} {v2 : Int32} (ho_v0 : isO ixC v0 5) (hf : ff_GG_likely x v0 v1 v2 = some (r, x')) {H : Heap} {locs : List Loc} {ls : Array Slot} (hP : Wd E ad ixC x H) (hS : va_S A s.heap H locs) (hl : lv_has ls 3 [(0, .ref (ad v0)), (1, .int v1), (2, .int v2)]) : W p l e rm_GG_likely s m args below meth c H locs 0 0 (MQ below (QX E ad ixC A (some (.int r)) x') args s 0 0 A) (F0 m 0 ls []) := by
  obtain ⟨hx, hb, hml, hr, hown, hts, hlk, hK⟩ := id C0
  have hf : bnd (ff_GG_isWithin x v1 0 5) (fun r_1 x_2 => (if r_1 = 0 then bnd (ff_GG_refuseBad x_2 v0) (fun r_5 x_6 => some (r_5, x_6)) else bnd (ff_GG_isWithin x_2 v2 0 2) (fun r_8 x_9 => (if r_8 = 0 then bnd (ff_GG_refuseBad x_9 v0) (fun r_15 x_16 => some (r_15, x_16)) else bnd (ff_OU_firstGriefs x_9 (rf v0 5) (rf (rf v0 0) 4) v1 v2) (fun r_12 x_13 => some (r_12, x_13)))))) = some (r, x') := hf
  refine lv_iload_n hx hb dd_GG_likely_0 rfl (lv_at hl 1 rfl) ?_
  refine lv_iconst (v := 0) hx hb dd_GG_likely_1 (by decide) ?_
  refine lv_iconst (v := 5) hx hb dd_GG_likely_2 (by decide) ?_
  obtain ⟨r_1, x_2, c_3, hf⟩ := of_bnd hf
  refine cl_GG_49 C0 hap  c_3 hP hS ⟨Nat.le_of_ble_eq_true rfl, Nat.le_of_ble_eq_true rfl⟩ hl.1 (Nat.le_of_ble_eq_true rfl) dd_GG_likely_3 ⟨Nat.le_refl _, Nat.le_refl _⟩ (fun H locs hP hS => ?_)
  refine lv_if_eq (tgt := 18) hx hb dd_GG_likely_6 (by decide) (fun h_4 => ?_) (fun h_4 => ?_)
  · have hf := (if_pos h_4).symm.trans hf
    refine lv_aload_n hx hb dd_GG_likely_18 rfl (lv_at hl 0 rfl) ?_
    obtain ⟨r_5, x_6, c_7, hf⟩ := of_bnd hf
    refine cl_GG_53 C0 hap ho_v0 c_7 hP hS ⟨Nat.le_of_ble_eq_true rfl, Nat.le_of_ble_eq_true rfl⟩ hl.1 (Nat.le_of_ble_eq_true rfl) dd_GG_likely_19 ⟨Nat.le_refl _, Nat.le_refl _⟩ (fun H locs hP hS => ?_)
    exact rrI C0 hP hS dd_GG_likely_22 hf
  · have hf := (if_neg h_4).symm.trans hf
    refine lv_iload_n hx hb dd_GG_likely_9 rfl (lv_at hl 2 rfl) ?_
    refine lv_iconst (v := 0) hx hb dd_GG_likely_10 (by decide) ?_
    refine lv_iconst (v := 2) hx hb dd_GG_likely_11 (by decide) ?_
    obtain ⟨r_8, x_9, c_10, hf⟩ := of_bnd hf
    refine cl_GG_49 C0 hap  c_10 hP hS ⟨Nat.le_of_ble_eq_true rfl, Nat.le_of_ble_eq_true rfl⟩ hl.1 (Nat.le_of_ble_eq_true rfl) dd_GG_likely_12 ⟨Nat.le_refl _, Nat.le_refl _⟩ (fun H locs hP hS => ?_)
    refine lv_if_ne (tgt := 23) hx hb dd_GG_likely_15 (by decide) (fun h_11 => ?_) (fun h_11 => ?_)
    · have hf := (if_neg h_11).symm.trans hf
      refine lv_aload_n hx hb dd_GG_likely_23 rfl (lv_at hl 0 rfl) ?_
      refine gf_GG_41 C0 hP ho_v0 dd_GG_likely_24 ?_
      refine lv_aload_n hx hb dd_GG_likely_27 rfl (lv_at hl 0 rfl) ?_
      refine gf_GG_12 C0 hP ho_v0 dd_GG_likely_28 ?_
      refine gf_GG_181 C0 hP (tp_5_0 ho_v0) dd_GG_likely_31 ?_
      refine lv_iload_n hx hb dd_GG_likely_34 rfl (lv_at hl 1 rfl) ?_
      refine lv_iload_n hx hb dd_GG_likely_35 rfl (lv_at hl 2 rfl) ?_
      obtain ⟨r_12, x_13, c_14, hf⟩ := of_bnd hf
      refine cl_GG_184 C0 hap (tp_5_5 ho_v0) (tp_4_4 (tp_5_0 ho_v0)) c_14 hP hS ⟨Nat.le_of_ble_eq_true rfl, Nat.le_of_ble_eq_true rfl⟩ hl.1 (Nat.le_of_ble_eq_true rfl) dd_GG_likely_36 ⟨Nat.le_refl _, Nat.le_refl _⟩ (fun H locs hP hS => ?_)
      exact rrI C0 hP hS dd_GG_likely_39 hf
    · have hf := (if_pos h_11).symm.trans hf
      refine lv_aload_n hx hb dd_GG_likely_18 rfl (lv_at hl 0 rfl) ?_
      obtain ⟨r_15, x_16, c_17, hf⟩ := of_bnd hf
      refine cl_GG_53 C0 hap ho_v0 c_17 hP hS ⟨Nat.le_of_ble_eq_true rfl, Nat.le_of_ble_eq_true rfl⟩ hl.1 (Nat.le_of_ble_eq_true rfl) dd_GG_likely_19 ⟨Nat.le_refl _, Nat.le_refl _⟩ (fun H locs hP hS => ?_)
      exact rrI C0 hP hS dd_GG_likely_22 hf
theorem cc_GG_likely {l : Launch} {E : Ev} {A : Nat → Prop} {ad : Nat → Nat} (hap : Ap ad ixC A) {x x' : St} {v0 : Nat} {v1 : Int32} {v2 : Int32} {r : Int32} (ho_v0 : isO ixC v0 5) (hf : ff_GG_likely x v0 v1 v2 = some (r, x')) : Met l yy_GG_likely (Cond.code yy_GG_likely bb_GG_likely 3 (some .int) :: gtb) rm_GG_likely (va_Pc [.ref (ad v0), .int v1, .int v2] (PB E A ad ixC x)) (QX E ad ixC A (some (.int r)) x') 0 0 A := by
  exact enter (by decide) (Nat.le_of_ble_eq_true rfl) (fun p e s m below meth c ls C0 hP hS hl => ww_GG_likely C0 hap ho_v0 hf hP hS hl)
abbrev rm_GG_tenTo : Room := { frames := 0, cells := 0, slots := 0, locals := 0 }
theorem dd_GG_tenTo_0 : decode bb_GG_tenTo 0 = .ok (.lconst 1, 1) := by decide +kernel
theorem dd_GG_tenTo_1 : decode bb_GG_tenTo 1 = .ok (.lstore_n 1, 1) := by decide +kernel
theorem dd_GG_tenTo_2 : decode bb_GG_tenTo 2 = .ok (.iconst 0, 1) := by decide +kernel
theorem dd_GG_tenTo_3 : decode bb_GG_tenTo 3 = .ok (.istore_n 3, 1) := by decide +kernel
theorem dd_GG_tenTo_4 : decode bb_GG_tenTo 4 = .ok (.iload_n 3, 1) := by decide +kernel
theorem dd_GG_tenTo_5 : decode bb_GG_tenTo 5 = .ok (.iload_n 0, 1) := by decide +kernel
theorem dd_GG_tenTo_6 : decode bb_GG_tenTo 6 = .ok (.if_icmp .ge 15, 3) := by decide +kernel
theorem dd_GG_tenTo_9 : decode bb_GG_tenTo 9 = .ok (.lload_n 1, 1) := by decide +kernel
theorem dd_GG_tenTo_10 : decode bb_GG_tenTo 10 = .ok (.ldc2_w 230, 3) := by decide +kernel
theorem dd_GG_tenTo_13 : decode bb_GG_tenTo 13 = .ok (.lmul, 1) := by decide +kernel
theorem dd_GG_tenTo_14 : decode bb_GG_tenTo 14 = .ok (.lstore_n 1, 1) := by decide +kernel
theorem dd_GG_tenTo_15 : decode bb_GG_tenTo 15 = .ok (.iinc 3 1, 3) := by decide +kernel
theorem dd_GG_tenTo_18 : decode bb_GG_tenTo 18 = .ok (.goto (-14), 3) := by decide +kernel
theorem dd_GG_tenTo_21 : decode bb_GG_tenTo 21 = .ok (.lload_n 1, 1) := by decide +kernel
theorem dd_GG_tenTo_22 : decode bb_GG_tenTo 22 = .ok (.lreturn, 1) := by decide +kernel
def ff_GG_tenTo_4  : Nat → St → Int32 → Int64 → Int32 → Option (Int64 × St)
  | 0, _, _, _, _ => none
  | n + 1, x, v0, v1, v3 => (if v0 ≤ v3 then some (v1, x) else ff_GG_tenTo_4 n x v0 (v1 * 10) (v3 + 1))
def ff_GG_tenTo  (x : St) (v0 : Int32) : Option (Int64 × St) := ff_GG_tenTo_4 FU x v0 1 0
set_option maxHeartbeats 4000000 in
set_option maxRecDepth 100000 in
theorem ww_GG_tenTo_4 {p : Program} {l : Launch} {e : Env} {s : State} {m : MethodId} {args : Array Value} {below : List Frame} {meth : Method} {c : Code} {E : Ev} {A : Nat → Prop} {ad : Nat → Nat} {r : Int64} {x' : St} (C0 : Cx E A RGG bb_GG_tenTo 4 (some .long) p s m args meth c) (hap : Ap ad ixC A)  : ∀ (n : Nat), ∀ (x : St) (v0 : Int32) (v1 : Int64) (v3 : Int32), ff_GG_tenTo_4 n x v0 v1 v3 = some (r, x') → ∀ (H : Heap) (locs : List Loc) (ls : Array Slot), Wd E ad ixC x H → va_S A s.heap H locs → lv_has ls 4 [(0, .int v0), (1, .long v1), (3, .int v3)] → W p l e rm_GG_tenTo s m args below meth c H locs 0 0 (MQ below (QX E ad ixC A (some (.long r)) x') args s 0 0 A) (F0 m 4 ls []) := by
  obtain ⟨hx, hb, hml, hr, hown, hts, hlk, hK⟩ := id C0
  intro n
  induction n with
  | zero => intro x v0 v1 v3  hf; exact of_no hf
  | succ n ih =>
    intro x v0 v1 v3  hf H locs ls hP hS hl
    have hf : (if v0 ≤ v3 then some (v1, x) else ff_GG_tenTo_4 n x v0 (v1 * 10) (v3 + 1)) = some (r, x') := hf
    refine lv_iload_n hx hb dd_GG_tenTo_4 rfl (lv_at hl 2 rfl) ?_
    refine lv_iload_n hx hb dd_GG_tenTo_5 rfl (lv_at hl 0 rfl) ?_
    refine lv_icmp_ge (tgt := 21) hx hb dd_GG_tenTo_6 (by decide) (fun h_1 => ?_) (fun h_1 => ?_)
    · have hf := (if_pos h_1).symm.trans hf
      refine lv_lload_n hx hb dd_GG_tenTo_21 rfl (lv_at hl 1 rfl) ?_
      exact rrL C0 hP hS dd_GG_tenTo_22 hf
    · have hf := (if_neg h_1).symm.trans hf
      refine lv_lload_n hx hb dd_GG_tenTo_9 rfl (lv_at hl 1 rfl) ?_
      refine lv_ldc2 (v := 10) hx hb hown (hts _ gw_k_GG_230) dd_GG_tenTo_10 ?_
      refine lv_lmul hx hb dd_GG_tenTo_13 ?_
      refine lv_lstore_n (lv' := [(1, .long (v1 * 10)), (0, .int v0), (3, .int v3)]) hx hb dd_GG_tenTo_14 rfl hl (by decide) rfl (fun ls hl => ?_)
      refine lv_iinc (v := v3 + 1) (lv' := [(3, .int (v3 + 1)), (1, .long (v1 * 10)), (0, .int v0)]) hx hb dd_GG_tenTo_15 hl (k := 2) rfl rfl (by decide) rfl (fun ls hl => ?_)
      refine lv_goto (tgt := 4) hx hb dd_GG_tenTo_18 (by decide) ?_
      exact ih x v0 (v1 * 10) (v3 + 1)  hf _ _ _ hP hS (lv_sub hl [2, 1, 0] rfl)
set_option maxHeartbeats 4000000 in
set_option maxRecDepth 100000 in
theorem ww_GG_tenTo {p : Program} {l : Launch} {e : Env} {s : State} {m : MethodId} {args : Array Value} {below : List Frame} {meth : Method} {c : Code} {E : Ev} {A : Nat → Prop} {ad : Nat → Nat} {r : Int64} {x' : St} (C0 : Cx E A RGG bb_GG_tenTo 4 (some .long) p s m args meth c) (hap : Ap ad ixC A)  {x : St} {v0 : Int32}  (hf : ff_GG_tenTo x v0 = some (r, x')) {H : Heap} {locs : List Loc} {ls : Array Slot} (hP : Wd E ad ixC x H) (hS : va_S A s.heap H locs) (hl : lv_has ls 4 [(0, .int v0)]) : W p l e rm_GG_tenTo s m args below meth c H locs 0 0 (MQ below (QX E ad ixC A (some (.long r)) x') args s 0 0 A) (F0 m 0 ls []) := by
  obtain ⟨hx, hb, hml, hr, hown, hts, hlk, hK⟩ := id C0
  have hf : ff_GG_tenTo_4 FU x v0 1 0 = some (r, x') := hf
  refine lv_lconst (v := 1) hx hb dd_GG_tenTo_0 (by decide) ?_
  refine lv_lstore_n (lv' := [(1, .long 1), (0, .int v0)]) hx hb dd_GG_tenTo_1 rfl hl (by decide) rfl (fun ls hl => ?_)
  refine lv_iconst (v := 0) hx hb dd_GG_tenTo_2 (by decide) ?_
  refine lv_istore_n (lv' := [(3, .int 0), (1, .long 1), (0, .int v0)]) hx hb dd_GG_tenTo_3 rfl hl (by decide) rfl (fun ls hl => ?_)
  exact ww_GG_tenTo_4 C0 hap  FU x v0 1 0  hf _ _ _ hP hS (lv_sub hl [2, 1, 0] rfl)
theorem cc_GG_tenTo {l : Launch} {E : Ev} {A : Nat → Prop} {ad : Nat → Nat} (hap : Ap ad ixC A) {x x' : St} {v0 : Int32} {r : Int64}  (hf : ff_GG_tenTo x v0 = some (r, x')) : Met l yy_GG_tenTo (Cond.code yy_GG_tenTo bb_GG_tenTo 4 (some .long) :: gtb) rm_GG_tenTo (va_Pc [.int v0] (PB E A ad ixC x)) (QX E ad ixC A (some (.long r)) x') 0 0 A := by
  exact enter (by decide) (Nat.le_of_ble_eq_true rfl) (fun p e s m below meth c ls C0 hP hS hl => ww_GG_tenTo C0 hap  hf hP hS hl)
abbrev rm_GG_commonDivisor : Room := { frames := 0, cells := 0, slots := 0, locals := 0 }
theorem dd_GG_commonDivisor_0 : decode bb_GG_commonDivisor 0 = .ok (.lload_n 0, 1) := by decide +kernel
theorem dd_GG_commonDivisor_1 : decode bb_GG_commonDivisor 1 = .ok (.lstore 4, 2) := by decide +kernel
theorem dd_GG_commonDivisor_3 : decode bb_GG_commonDivisor 3 = .ok (.lload_n 2, 1) := by decide +kernel
theorem dd_GG_commonDivisor_4 : decode bb_GG_commonDivisor 4 = .ok (.lstore 6, 2) := by decide +kernel
theorem dd_GG_commonDivisor_6 : decode bb_GG_commonDivisor 6 = .ok (.iconst 0, 1) := by decide +kernel
theorem dd_GG_commonDivisor_7 : decode bb_GG_commonDivisor 7 = .ok (.istore 8, 2) := by decide +kernel
theorem dd_GG_commonDivisor_9 : decode bb_GG_commonDivisor 9 = .ok (.iload 8, 2) := by decide +kernel
theorem dd_GG_commonDivisor_11 : decode bb_GG_commonDivisor 11 = .ok (.sipush 200, 3) := by decide +kernel
theorem dd_GG_commonDivisor_14 : decode bb_GG_commonDivisor 14 = .ok (.if_icmp .ge 31, 3) := by decide +kernel
theorem dd_GG_commonDivisor_17 : decode bb_GG_commonDivisor 17 = .ok (.lload 6, 2) := by decide +kernel
theorem dd_GG_commonDivisor_19 : decode bb_GG_commonDivisor 19 = .ok (.lconst 0, 1) := by decide +kernel
theorem dd_GG_commonDivisor_20 : decode bb_GG_commonDivisor 20 = .ok (.lcmp, 1) := by decide +kernel
theorem dd_GG_commonDivisor_21 : decode bb_GG_commonDivisor 21 = .ok (.ifCond .eq 24, 3) := by decide +kernel
theorem dd_GG_commonDivisor_24 : decode bb_GG_commonDivisor 24 = .ok (.lload 4, 2) := by decide +kernel
theorem dd_GG_commonDivisor_26 : decode bb_GG_commonDivisor 26 = .ok (.lload 6, 2) := by decide +kernel
theorem dd_GG_commonDivisor_28 : decode bb_GG_commonDivisor 28 = .ok (.lrem, 1) := by decide +kernel
theorem dd_GG_commonDivisor_29 : decode bb_GG_commonDivisor 29 = .ok (.lstore 9, 2) := by decide +kernel
theorem dd_GG_commonDivisor_31 : decode bb_GG_commonDivisor 31 = .ok (.lload 6, 2) := by decide +kernel
theorem dd_GG_commonDivisor_33 : decode bb_GG_commonDivisor 33 = .ok (.lstore 4, 2) := by decide +kernel
theorem dd_GG_commonDivisor_35 : decode bb_GG_commonDivisor 35 = .ok (.lload 9, 2) := by decide +kernel
theorem dd_GG_commonDivisor_37 : decode bb_GG_commonDivisor 37 = .ok (.lstore 6, 2) := by decide +kernel
theorem dd_GG_commonDivisor_39 : decode bb_GG_commonDivisor 39 = .ok (.iinc 8 1, 3) := by decide +kernel
theorem dd_GG_commonDivisor_42 : decode bb_GG_commonDivisor 42 = .ok (.goto (-33), 3) := by decide +kernel
theorem dd_GG_commonDivisor_45 : decode bb_GG_commonDivisor 45 = .ok (.lload 4, 2) := by decide +kernel
theorem dd_GG_commonDivisor_47 : decode bb_GG_commonDivisor 47 = .ok (.lreturn, 1) := by decide +kernel
def ff_GG_commonDivisor_9  : Nat → St → Int64 → Int64 → Int32 → Option (Int64 × St)
  | 0, _, _, _, _ => none
  | n + 1, x, v4, v6, v8 => (if 200 ≤ v8 then some (v4, x) else (if (lg_cmp v6 0) = 0 then some (v4, x) else (if ¬ v6 = 0 then ff_GG_commonDivisor_9 n x v6 (v4 - v4 / v6 * v6) (v8 + 1) else none)))
def ff_GG_commonDivisor  (x : St) (v0 : Int64) (v2 : Int64) : Option (Int64 × St) := ff_GG_commonDivisor_9 FU x v0 v2 0
set_option maxHeartbeats 4000000 in
set_option maxRecDepth 100000 in
theorem ww_GG_commonDivisor_9 {p : Program} {l : Launch} {e : Env} {s : State} {m : MethodId} {args : Array Value} {below : List Frame} {meth : Method} {c : Code} {E : Ev} {A : Nat → Prop} {ad : Nat → Nat} {r : Int64} {x' : St} (C0 : Cx E A RGG bb_GG_commonDivisor 11 (some .long) p s m args meth c) (hap : Ap ad ixC A)  : ∀ (n : Nat), ∀ (x : St) (v4 : Int64) (v6 : Int64) (v8 : Int32), ff_GG_commonDivisor_9 n x v4 v6 v8 = some (r, x') → ∀ (H : Heap) (locs : List Loc) (ls : Array Slot), Wd E ad ixC x H → va_S A s.heap H locs → lv_has ls 11 [(4, .long v4), (6, .long v6), (8, .int v8)] → W p l e rm_GG_commonDivisor s m args below meth c H locs 0 0 (MQ below (QX E ad ixC A (some (.long r)) x') args s 0 0 A) (F0 m 9 ls []) := by
  obtain ⟨hx, hb, hml, hr, hown, hts, hlk, hK⟩ := id C0
  intro n
  induction n with
  | zero => intro x v4 v6 v8  hf; exact of_no hf
  | succ n ih =>
    intro x v4 v6 v8  hf H locs ls hP hS hl
    have hf : (if 200 ≤ v8 then some (v4, x) else (if (lg_cmp v6 0) = 0 then some (v4, x) else (if ¬ v6 = 0 then ff_GG_commonDivisor_9 n x v6 (v4 - v4 / v6 * v6) (v8 + 1) else none))) = some (r, x') := hf
    refine lv_iload hx hb dd_GG_commonDivisor_9 (lv_at hl 2 rfl) ?_
    refine lv_sipush (v := 200) hx hb dd_GG_commonDivisor_11 (by decide) ?_
    refine lv_icmp_ge (tgt := 45) hx hb dd_GG_commonDivisor_14 (by decide) (fun h_1 => ?_) (fun h_1 => ?_)
    · have hf := (if_pos h_1).symm.trans hf
      refine lv_lload hx hb dd_GG_commonDivisor_45 (lv_at hl 0 rfl) ?_
      exact rrL C0 hP hS dd_GG_commonDivisor_47 hf
    · have hf := (if_neg h_1).symm.trans hf
      refine lv_lload hx hb dd_GG_commonDivisor_17 (lv_at hl 1 rfl) ?_
      refine lv_lconst (v := 0) hx hb dd_GG_commonDivisor_19 (by decide) ?_
      refine W.lcmp hx hb dd_GG_commonDivisor_20 ?_
      refine lv_if_eq (tgt := 45) hx hb dd_GG_commonDivisor_21 (by decide) (fun h_2 => ?_) (fun h_2 => ?_)
      · have hf := (if_pos h_2).symm.trans hf
        refine lv_lload hx hb dd_GG_commonDivisor_45 (lv_at hl 0 rfl) ?_
        exact rrL C0 hP hS dd_GG_commonDivisor_47 hf
      · have hf := (if_neg h_2).symm.trans hf
        refine lv_lload hx hb dd_GG_commonDivisor_24 (lv_at hl 0 rfl) ?_
        refine lv_lload hx hb dd_GG_commonDivisor_26 (lv_at hl 1 rfl) ?_
        obtain ⟨h_3, hf⟩ := of_ifp hf
        refine lv_lrem hx hb dd_GG_commonDivisor_28 h_3 ?_
        refine lv_lstore (lv' := [(9, .long (v4 - v4 / v6 * v6)), (4, .long v4), (6, .long v6), (8, .int v8)]) hx hb dd_GG_commonDivisor_29 hl (by decide) rfl (fun ls hl => ?_)
        refine lv_lload hx hb dd_GG_commonDivisor_31 (lv_at hl 2 rfl) ?_
        refine lv_lstore (lv' := [(4, .long v6), (9, .long (v4 - v4 / v6 * v6)), (6, .long v6), (8, .int v8)]) hx hb dd_GG_commonDivisor_33 hl (by decide) rfl (fun ls hl => ?_)
        refine lv_lload hx hb dd_GG_commonDivisor_35 (lv_at hl 1 rfl) ?_
        refine lv_lstore (lv' := [(6, .long (v4 - v4 / v6 * v6)), (4, .long v6), (9, .long (v4 - v4 / v6 * v6)), (8, .int v8)]) hx hb dd_GG_commonDivisor_37 hl (by decide) rfl (fun ls hl => ?_)
        refine lv_iinc (v := v8 + 1) (lv' := [(8, .int (v8 + 1)), (6, .long (v4 - v4 / v6 * v6)), (4, .long v6), (9, .long (v4 - v4 / v6 * v6))]) hx hb dd_GG_commonDivisor_39 hl (k := 3) rfl rfl (by decide) rfl (fun ls hl => ?_)
        refine lv_goto (tgt := 9) hx hb dd_GG_commonDivisor_42 (by decide) ?_
        exact ih x v6 (v4 - v4 / v6 * v6) (v8 + 1)  hf _ _ _ hP hS (lv_sub hl [2, 1, 0] rfl)
set_option maxHeartbeats 4000000 in
set_option maxRecDepth 100000 in
theorem ww_GG_commonDivisor {p : Program} {l : Launch} {e : Env} {s : State} {m : MethodId} {args : Array Value} {below : List Frame} {meth : Method} {c : Code} {E : Ev} {A : Nat → Prop} {ad : Nat → Nat} {r : Int64} {x' : St} (C0 : Cx E A RGG bb_GG_commonDivisor 11 (some .long) p s m args meth c) (hap : Ap ad ixC A)  {x : St} {v0 : Int64} {v2 : Int64}  (hf : ff_GG_commonDivisor x v0 v2 = some (r, x')) {H : Heap} {locs : List Loc} {ls : Array Slot} (hP : Wd E ad ixC x H) (hS : va_S A s.heap H locs) (hl : lv_has ls 11 [(0, .long v0), (2, .long v2)]) : W p l e rm_GG_commonDivisor s m args below meth c H locs 0 0 (MQ below (QX E ad ixC A (some (.long r)) x') args s 0 0 A) (F0 m 0 ls []) := by
  obtain ⟨hx, hb, hml, hr, hown, hts, hlk, hK⟩ := id C0
  have hf : ff_GG_commonDivisor_9 FU x v0 v2 0 = some (r, x') := hf
  refine lv_lload_n hx hb dd_GG_commonDivisor_0 rfl (lv_at hl 0 rfl) ?_
  refine lv_lstore (lv' := [(4, .long v0), (0, .long v0), (2, .long v2)]) hx hb dd_GG_commonDivisor_1 hl (by decide) rfl (fun ls hl => ?_)
  refine lv_lload_n hx hb dd_GG_commonDivisor_3 rfl (lv_at hl 2 rfl) ?_
  refine lv_lstore (lv' := [(6, .long v2), (4, .long v0), (0, .long v0), (2, .long v2)]) hx hb dd_GG_commonDivisor_4 hl (by decide) rfl (fun ls hl => ?_)
  refine lv_iconst (v := 0) hx hb dd_GG_commonDivisor_6 (by decide) ?_
  refine lv_istore (lv' := [(8, .int 0), (6, .long v2), (4, .long v0), (0, .long v0), (2, .long v2)]) hx hb dd_GG_commonDivisor_7 hl (by decide) rfl (fun ls hl => ?_)
  exact ww_GG_commonDivisor_9 C0 hap  FU x v0 v2 0  hf _ _ _ hP hS (lv_sub hl [2, 1, 0] rfl)
theorem cc_GG_commonDivisor {l : Launch} {E : Ev} {A : Nat → Prop} {ad : Nat → Nat} (hap : Ap ad ixC A) {x x' : St} {v0 : Int64} {v2 : Int64} {r : Int64}  (hf : ff_GG_commonDivisor x v0 v2 = some (r, x')) : Met l yy_GG_commonDivisor (Cond.code yy_GG_commonDivisor bb_GG_commonDivisor 11 (some .long) :: gtb) rm_GG_commonDivisor (va_Pc [.long v0, .long v2] (PB E A ad ixC x)) (QX E ad ixC A (some (.long r)) x') 0 0 A := by
  exact enter (by decide) (Nat.le_of_ble_eq_true rfl) (fun p e s m below meth c ls C0 hP hS hl => ww_GG_commonDivisor C0 hap  hf hP hS hl)
theorem cl_GG_188 {p : Program} {l : Launch} {e : Env} {R : Room} {s : State} {m : MethodId} {args : Array Value} {below : List Frame} {meth : Method} {c : Code} {H : Heap} {locs : List Loc} {cells slots : Nat} {Q : State → Prop} {cc : ByteArray} {pc : Nat} {ls : Array Slot} {rest : List Value} {E : Ev} {A : Nat → Prop} {ad : Nat → Nat} {nL : Nat} {rt : Option FieldType} (C0 : Cx E A RGG cc nL rt p s m args meth c) (hap : Ap ad ixC A) {x x' : St} {v0 : Nat} {v1 : Nat} {v2 : Int32} {v3 : Int32} {v4 : Int32} {v5 : Int32} {r : Int64} (ho_v0 : isO ixC v0 2) (ho_v1 : isO ixC v1 4) (hc : ff_OU_chancesToHold x v0 v1 v2 v3 v4 v5 = some (r, x')) (hP : Wd E ad ixC x H) (hS : va_S A s.heap H locs) (hR : rm_OU_chancesToHold.frames + 1 ≤ R.frames ∧ 8 + (10 + 11) + rm_OU_chancesToHold.locals ≤ R.locals) (hls : ls.size = nL) (hroom : (rest.map fun v => v.category).sum ≤ 8) (hdg : decode cc pc = .ok (.invokevirtual 188, 3)) (hf : cells ≤ R.cells ∧ slots ≤ R.slots) (kk : ∀ H1 locs1, Wd E ad ixC x' H1 → va_S A s.heap H1 locs1 → W p l e R s m args below meth c H1 locs1 cells slots Q (F0 m (pc + 3) ls (.long r :: rest))) : W p l e R s m args below meth c H locs cells slots Q (F0 m pc ls (.int v5 :: .int v4 :: .int v3 :: .int v2 :: .ref (ad v1) :: .ref (ad v0) :: rest)) :=
  rcV (n := 5) C0 (cc_OU_chancesToHold hap ho_v0 ho_v1 hc) hP hS ho_v0 vcl_2 (by decide) gw_code_OU_chancesToHold gw_m_GG_188 gw_inst_OU_chancesToHold gw_sel_OU_chancesToHold gw_ini_OU rfl rfl (by decide +kernel) rfl hR hls rfl hroom hdg hf (fun H1 locs1 a _ _ b => kk H1 locs1 a b)
theorem cl_GG_192 {p : Program} {l : Launch} {e : Env} {R : Room} {s : State} {m : MethodId} {args : Array Value} {below : List Frame} {meth : Method} {c : Code} {H : Heap} {locs : List Loc} {cells slots : Nat} {Q : State → Prop} {cc : ByteArray} {pc : Nat} {ls : Array Slot} {rest : List Value} {E : Ev} {A : Nat → Prop} {ad : Nat → Nat} {nL : Nat} {rt : Option FieldType} (C0 : Cx E A RGG cc nL rt p s m args meth c) (hap : Ap ad ixC A) {x x' : St} {v0 : Int32} {r : Int64}  (hc : ff_GG_tenTo x v0 = some (r, x')) (hP : Wd E ad ixC x H) (hS : va_S A s.heap H locs) (hR : rm_GG_tenTo.frames + 1 ≤ R.frames ∧ 8 + (4 + 11) + rm_GG_tenTo.locals ≤ R.locals) (hls : ls.size = nL) (hroom : (rest.map fun v => v.category).sum ≤ 8) (hdg : decode cc pc = .ok (.invokestatic 192, 3)) (hf : cells ≤ R.cells ∧ slots ≤ R.slots) (kk : ∀ H1 locs1, Wd E ad ixC x' H1 → va_S A s.heap H1 locs1 → W p l e R s m args below meth c H1 locs1 cells slots Q (F0 m (pc + 3) ls (.long r :: rest))) : W p l e R s m args below meth c H locs cells slots Q (F0 m pc ls (.int v0 :: rest)) :=
  rcS (n := 1) C0 (cc_GG_tenTo hap  hc) hP hS gw_code_GG_tenTo gw_m_GG_192 gw_static_GG_tenTo gw_ini_GG rfl rfl (by decide +kernel) rfl hR hls rfl hroom hdg hf (fun H1 locs1 a _ _ b => kk H1 locs1 a b)
theorem cl_GG_196 {p : Program} {l : Launch} {e : Env} {R : Room} {s : State} {m : MethodId} {args : Array Value} {below : List Frame} {meth : Method} {c : Code} {H : Heap} {locs : List Loc} {cells slots : Nat} {Q : State → Prop} {cc : ByteArray} {pc : Nat} {ls : Array Slot} {rest : List Value} {E : Ev} {A : Nat → Prop} {ad : Nat → Nat} {nL : Nat} {rt : Option FieldType} (C0 : Cx E A RGG cc nL rt p s m args meth c) (hap : Ap ad ixC A) {x x' : St} {v0 : Int64} {v2 : Int64} {r : Int64}  (hc : ff_GG_commonDivisor x v0 v2 = some (r, x')) (hP : Wd E ad ixC x H) (hS : va_S A s.heap H locs) (hR : rm_GG_commonDivisor.frames + 1 ≤ R.frames ∧ 8 + (11 + 11) + rm_GG_commonDivisor.locals ≤ R.locals) (hls : ls.size = nL) (hroom : (rest.map fun v => v.category).sum ≤ 8) (hdg : decode cc pc = .ok (.invokestatic 196, 3)) (hf : cells ≤ R.cells ∧ slots ≤ R.slots) (kk : ∀ H1 locs1, Wd E ad ixC x' H1 → va_S A s.heap H1 locs1 → W p l e R s m args below meth c H1 locs1 cells slots Q (F0 m (pc + 3) ls (.long r :: rest))) : W p l e R s m args below meth c H locs cells slots Q (F0 m pc ls (.long v2 :: .long v0 :: rest)) :=
  rcS (n := 2) C0 (cc_GG_commonDivisor hap  hc) hP hS gw_code_GG_commonDivisor gw_m_GG_196 gw_static_GG_commonDivisor gw_ini_GG rfl rfl (by decide +kernel) rfl hR hls rfl hroom hdg hf (fun H1 locs1 a _ _ b => kk H1 locs1 a b)
abbrev rm_GG_odds : Room := { frames := 5, cells := 0, slots := 0, locals := 121 }
theorem dd_GG_odds_0 : decode bb_GG_odds 0 = .ok (.aload_n 0, 1) := by decide +kernel
theorem dd_GG_odds_1 : decode bb_GG_odds 1 = .ok (.getfield 12, 3) := by decide +kernel
theorem dd_GG_odds_4 : decode bb_GG_odds 4 = .ok (.getfield 57, 3) := by decide +kernel
theorem dd_GG_odds_7 : decode bb_GG_odds 7 = .ok (.iload_n 1, 1) := by decide +kernel
theorem dd_GG_odds_8 : decode bb_GG_odds 8 = .ok (.invokevirtual 86, 3) := by decide +kernel
theorem dd_GG_odds_11 : decode bb_GG_odds 11 = .ok (.ifCond .eq 13, 3) := by decide +kernel
theorem dd_GG_odds_14 : decode bb_GG_odds 14 = .ok (.iload_n 2, 1) := by decide +kernel
theorem dd_GG_odds_15 : decode bb_GG_odds 15 = .ok (.iconst 0, 1) := by decide +kernel
theorem dd_GG_odds_16 : decode bb_GG_odds 16 = .ok (.bipush 99, 2) := by decide +kernel
theorem dd_GG_odds_18 : decode bb_GG_odds 18 = .ok (.invokestatic 49, 3) := by decide +kernel
theorem dd_GG_odds_21 : decode bb_GG_odds 21 = .ok (.ifCond .ne 8, 3) := by decide +kernel
theorem dd_GG_odds_24 : decode bb_GG_odds 24 = .ok (.aload_n 0, 1) := by decide +kernel
theorem dd_GG_odds_25 : decode bb_GG_odds 25 = .ok (.invokevirtual 53, 3) := by decide +kernel
theorem dd_GG_odds_28 : decode bb_GG_odds 28 = .ok (.ireturn, 1) := by decide +kernel
theorem dd_GG_odds_29 : decode bb_GG_odds 29 = .ok (.iload_n 3, 1) := by decide +kernel
theorem dd_GG_odds_30 : decode bb_GG_odds 30 = .ok (.iconst 0, 1) := by decide +kernel
theorem dd_GG_odds_31 : decode bb_GG_odds 31 = .ok (.bipush 15, 2) := by decide +kernel
theorem dd_GG_odds_33 : decode bb_GG_odds 33 = .ok (.invokestatic 49, 3) := by decide +kernel
theorem dd_GG_odds_36 : decode bb_GG_odds 36 = .ok (.ifCond .eq 28, 3) := by decide +kernel
theorem dd_GG_odds_39 : decode bb_GG_odds 39 = .ok (.iload 4, 2) := by decide +kernel
theorem dd_GG_odds_41 : decode bb_GG_odds 41 = .ok (.iconst 0, 1) := by decide +kernel
theorem dd_GG_odds_42 : decode bb_GG_odds 42 = .ok (.bipush 10, 2) := by decide +kernel
theorem dd_GG_odds_44 : decode bb_GG_odds 44 = .ok (.invokestatic 49, 3) := by decide +kernel
theorem dd_GG_odds_47 : decode bb_GG_odds 47 = .ok (.ifCond .eq 17, 3) := by decide +kernel
theorem dd_GG_odds_50 : decode bb_GG_odds 50 = .ok (.aload_n 0, 1) := by decide +kernel
theorem dd_GG_odds_51 : decode bb_GG_odds 51 = .ok (.getfield 12, 3) := by decide +kernel
theorem dd_GG_odds_54 : decode bb_GG_odds 54 = .ok (.getfield 117, 3) := by decide +kernel
theorem dd_GG_odds_57 : decode bb_GG_odds 57 = .ok (.iload_n 3, 1) := by decide +kernel
theorem dd_GG_odds_58 : decode bb_GG_odds 58 = .ok (.iadd, 1) := by decide +kernel
theorem dd_GG_odds_59 : decode bb_GG_odds 59 = .ok (.bipush 99, 2) := by decide +kernel
theorem dd_GG_odds_61 : decode bb_GG_odds 61 = .ok (.if_icmp .le 8, 3) := by decide +kernel
theorem dd_GG_odds_64 : decode bb_GG_odds 64 = .ok (.aload_n 0, 1) := by decide +kernel
theorem dd_GG_odds_65 : decode bb_GG_odds 65 = .ok (.invokevirtual 53, 3) := by decide +kernel
theorem dd_GG_odds_68 : decode bb_GG_odds 68 = .ok (.ireturn, 1) := by decide +kernel
theorem dd_GG_odds_69 : decode bb_GG_odds 69 = .ok (.aload_n 0, 1) := by decide +kernel
theorem dd_GG_odds_70 : decode bb_GG_odds 70 = .ok (.getfield 41, 3) := by decide +kernel
theorem dd_GG_odds_73 : decode bb_GG_odds 73 = .ok (.aload_n 0, 1) := by decide +kernel
theorem dd_GG_odds_74 : decode bb_GG_odds 74 = .ok (.getfield 12, 3) := by decide +kernel
theorem dd_GG_odds_77 : decode bb_GG_odds 77 = .ok (.iload_n 1, 1) := by decide +kernel
theorem dd_GG_odds_78 : decode bb_GG_odds 78 = .ok (.iload_n 2, 1) := by decide +kernel
theorem dd_GG_odds_79 : decode bb_GG_odds 79 = .ok (.iload_n 3, 1) := by decide +kernel
theorem dd_GG_odds_80 : decode bb_GG_odds 80 = .ok (.iload 4, 2) := by decide +kernel
theorem dd_GG_odds_82 : decode bb_GG_odds 82 = .ok (.invokevirtual 188, 3) := by decide +kernel
theorem dd_GG_odds_85 : decode bb_GG_odds 85 = .ok (.lstore 5, 2) := by decide +kernel
theorem dd_GG_odds_87 : decode bb_GG_odds 87 = .ok (.iload_n 3, 1) := by decide +kernel
theorem dd_GG_odds_88 : decode bb_GG_odds 88 = .ok (.invokestatic 192, 3) := by decide +kernel
theorem dd_GG_odds_91 : decode bb_GG_odds 91 = .ok (.lstore 7, 2) := by decide +kernel
theorem dd_GG_odds_93 : decode bb_GG_odds 93 = .ok (.lload 5, 2) := by decide +kernel
theorem dd_GG_odds_95 : decode bb_GG_odds 95 = .ok (.lload 7, 2) := by decide +kernel
theorem dd_GG_odds_97 : decode bb_GG_odds 97 = .ok (.invokestatic 196, 3) := by decide +kernel
theorem dd_GG_odds_100 : decode bb_GG_odds 100 = .ok (.lstore 9, 2) := by decide +kernel
theorem dd_GG_odds_102 : decode bb_GG_odds 102 = .ok (.lload 9, 2) := by decide +kernel
theorem dd_GG_odds_104 : decode bb_GG_odds 104 = .ok (.lconst 0, 1) := by decide +kernel
theorem dd_GG_odds_105 : decode bb_GG_odds 105 = .ok (.lcmp, 1) := by decide +kernel
theorem dd_GG_odds_106 : decode bb_GG_odds 106 = .ok (.ifCond .le 21, 3) := by decide +kernel
theorem dd_GG_odds_109 : decode bb_GG_odds 109 = .ok (.aload_n 0, 1) := by decide +kernel
theorem dd_GG_odds_110 : decode bb_GG_odds 110 = .ok (.lload 5, 2) := by decide +kernel
theorem dd_GG_odds_112 : decode bb_GG_odds 112 = .ok (.lload 9, 2) := by decide +kernel
theorem dd_GG_odds_114 : decode bb_GG_odds 114 = .ok (.ldiv, 1) := by decide +kernel
theorem dd_GG_odds_115 : decode bb_GG_odds 115 = .ok (.putfield 200, 3) := by decide +kernel
theorem dd_GG_odds_118 : decode bb_GG_odds 118 = .ok (.aload_n 0, 1) := by decide +kernel
theorem dd_GG_odds_119 : decode bb_GG_odds 119 = .ok (.lload 7, 2) := by decide +kernel
theorem dd_GG_odds_121 : decode bb_GG_odds 121 = .ok (.lload 9, 2) := by decide +kernel
theorem dd_GG_odds_123 : decode bb_GG_odds 123 = .ok (.ldiv, 1) := by decide +kernel
theorem dd_GG_odds_124 : decode bb_GG_odds 124 = .ok (.putfield 45, 3) := by decide +kernel
theorem dd_GG_odds_127 : decode bb_GG_odds 127 = .ok (.iconst 1, 1) := by decide +kernel
theorem dd_GG_odds_128 : decode bb_GG_odds 128 = .ok (.ireturn, 1) := by decide +kernel
def ff_GG_odds  (x : St) (v0 : Nat) (v1 : Int32) (v2 : Int32) (v3 : Int32) (v4 : Int32) : Option (Int32 × St) := bnd (ff_LE_has x (rf (rf v0 0) 0) v1) (fun r_1 x_2 => (if r_1 = 0 then bnd (ff_GG_refuseBad x_2 v0) (fun r_5 x_6 => some (r_5, x_6)) else bnd (ff_GG_isWithin x_2 v2 0 99) (fun r_8 x_9 => (if r_8 = 0 then bnd (ff_GG_refuseBad x_9 v0) (fun r_44 x_45 => some (r_44, x_45)) else bnd (ff_GG_isWithin x_9 v3 0 15) (fun r_12 x_13 => (if r_12 = 0 then bnd (ff_GG_refuseBad x_13 v0) (fun r_16 x_17 => some (r_16, x_17)) else bnd (ff_GG_isWithin x_13 v4 0 10) (fun r_19 x_20 => (if r_19 = 0 then bnd (ff_GG_refuseBad x_20 v0) (fun r_23 x_24 => some (r_23, x_24)) else (if ((gi x_20 (rf v0 0) 9) + v3) ≤ 99 then bnd (ff_OU_chancesToHold x_20 (rf v0 5) (rf v0 0) v1 v2 v3 v4) (fun r_27 x_28 => bnd (ff_GG_tenTo x_28 v3) (fun r_30 x_31 => bnd (ff_GG_commonDivisor x_31 r_27 r_30) (fun r_33 x_34 => (if (lg_cmp r_33 0) ≤ 0 then some (1, x_34) else (if ¬ r_33 = 0 then st (sl x_34 v0 6 (r_27 / r_33)) (fun x_38 => (if ¬ r_33 = 0 then st (sl x_38 v0 7 (r_30 / r_33)) (fun x_40 => some (1, x_40)) else none)) else none))))) else bnd (ff_GG_refuseBad x_20 v0) (fun r_41 x_42 => some (r_41, x_42)))))))))))
set_option maxHeartbeats 4000000 in
set_option maxRecDepth 100000 in
theorem ww_GG_odds {p : Program} {l : Launch} {e : Env} {s : State} {m : MethodId} {args : Array Value} {below : List Frame} {meth : Method} {c : Code} {E : Ev} {A : Nat → Prop} {ad : Nat → Nat} {r : Int32} {x' : St} (C0 : Cx E A RGG bb_GG_odds 11 (some .int) p s m args meth c) (hap : Ap ad ixC A)  {x : St} {v0 : Nat} {v1 : Int32} {v2 : Int32} {v3 : Int32} {v4 : Int32} (ho_v0 : isO ixC v0 5) (hf : ff_GG_odds x v0 v1 v2 v3 v4 = some (r, x')) {H : Heap} {locs : List Loc} {ls : Array Slot} (hP : Wd E ad ixC x H) (hS : va_S A s.heap H locs) (hl : lv_has ls 11 [(0, .ref (ad v0)), (1, .int v1), (2, .int v2), (3, .int v3), (4, .int v4)]) : W p l e rm_GG_odds s m args below meth c H locs 0 0 (MQ below (QX E ad ixC A (some (.int r)) x') args s 0 0 A) (F0 m 0 ls []) := by
  obtain ⟨hx, hb, hml, hr, hown, hts, hlk, hK⟩ := id C0
  have hf : bnd (ff_LE_has x (rf (rf v0 0) 0) v1) (fun r_1 x_2 => (if r_1 = 0 then bnd (ff_GG_refuseBad x_2 v0) (fun r_5 x_6 => some (r_5, x_6)) else bnd (ff_GG_isWithin x_2 v2 0 99) (fun r_8 x_9 => (if r_8 = 0 then bnd (ff_GG_refuseBad x_9 v0) (fun r_44 x_45 => some (r_44, x_45)) else bnd (ff_GG_isWithin x_9 v3 0 15) (fun r_12 x_13 => (if r_12 = 0 then bnd (ff_GG_refuseBad x_13 v0) (fun r_16 x_17 => some (r_16, x_17)) else bnd (ff_GG_isWithin x_13 v4 0 10) (fun r_19 x_20 => (if r_19 = 0 then bnd (ff_GG_refuseBad x_20 v0) (fun r_23 x_24 => some (r_23, x_24)) else (if ((gi x_20 (rf v0 0) 9) + v3) ≤ 99 then bnd (ff_OU_chancesToHold x_20 (rf v0 5) (rf v0 0) v1 v2 v3 v4) (fun r_27 x_28 => bnd (ff_GG_tenTo x_28 v3) (fun r_30 x_31 => bnd (ff_GG_commonDivisor x_31 r_27 r_30) (fun r_33 x_34 => (if (lg_cmp r_33 0) ≤ 0 then some (1, x_34) else (if ¬ r_33 = 0 then st (sl x_34 v0 6 (r_27 / r_33)) (fun x_38 => (if ¬ r_33 = 0 then st (sl x_38 v0 7 (r_30 / r_33)) (fun x_40 => some (1, x_40)) else none)) else none))))) else bnd (ff_GG_refuseBad x_20 v0) (fun r_41 x_42 => some (r_41, x_42))))))))))) = some (r, x') := hf
  refine lv_aload_n hx hb dd_GG_odds_0 rfl (lv_at hl 0 rfl) ?_
  refine gf_GG_12 C0 hP ho_v0 dd_GG_odds_1 ?_
  refine gf_GG_57 C0 hP (tp_5_0 ho_v0) dd_GG_odds_4 ?_
  refine lv_iload_n hx hb dd_GG_odds_7 rfl (lv_at hl 1 rfl) ?_
  obtain ⟨r_1, x_2, c_3, hf⟩ := of_bnd hf
  refine cl_GG_86 C0 hap (tp_4_0 (tp_5_0 ho_v0)) c_3 hP hS ⟨Nat.le_of_ble_eq_true rfl, Nat.le_of_ble_eq_true rfl⟩ hl.1 (Nat.le_of_ble_eq_true rfl) dd_GG_odds_8 ⟨Nat.le_refl _, Nat.le_refl _⟩ (fun H locs hP hS => ?_)
  refine lv_if_eq (tgt := 24) hx hb dd_GG_odds_11 (by decide) (fun h_4 => ?_) (fun h_4 => ?_)
  · have hf := (if_pos h_4).symm.trans hf
    refine lv_aload_n hx hb dd_GG_odds_24 rfl (lv_at hl 0 rfl) ?_
    obtain ⟨r_5, x_6, c_7, hf⟩ := of_bnd hf
    refine cl_GG_53 C0 hap ho_v0 c_7 hP hS ⟨Nat.le_of_ble_eq_true rfl, Nat.le_of_ble_eq_true rfl⟩ hl.1 (Nat.le_of_ble_eq_true rfl) dd_GG_odds_25 ⟨Nat.le_refl _, Nat.le_refl _⟩ (fun H locs hP hS => ?_)
    exact rrI C0 hP hS dd_GG_odds_28 hf
  · have hf := (if_neg h_4).symm.trans hf
    refine lv_iload_n hx hb dd_GG_odds_14 rfl (lv_at hl 2 rfl) ?_
    refine lv_iconst (v := 0) hx hb dd_GG_odds_15 (by decide) ?_
    refine lv_bipush (v := 99) hx hb dd_GG_odds_16 (by decide) ?_
    obtain ⟨r_8, x_9, c_10, hf⟩ := of_bnd hf
    refine cl_GG_49 C0 hap  c_10 hP hS ⟨Nat.le_of_ble_eq_true rfl, Nat.le_of_ble_eq_true rfl⟩ hl.1 (Nat.le_of_ble_eq_true rfl) dd_GG_odds_18 ⟨Nat.le_refl _, Nat.le_refl _⟩ (fun H locs hP hS => ?_)
    refine lv_if_ne (tgt := 29) hx hb dd_GG_odds_21 (by decide) (fun h_11 => ?_) (fun h_11 => ?_)
    · have hf := (if_neg h_11).symm.trans hf
      refine lv_iload_n hx hb dd_GG_odds_29 rfl (lv_at hl 3 rfl) ?_
      refine lv_iconst (v := 0) hx hb dd_GG_odds_30 (by decide) ?_
      refine lv_bipush (v := 15) hx hb dd_GG_odds_31 (by decide) ?_
      obtain ⟨r_12, x_13, c_14, hf⟩ := of_bnd hf
      refine cl_GG_49 C0 hap  c_14 hP hS ⟨Nat.le_of_ble_eq_true rfl, Nat.le_of_ble_eq_true rfl⟩ hl.1 (Nat.le_of_ble_eq_true rfl) dd_GG_odds_33 ⟨Nat.le_refl _, Nat.le_refl _⟩ (fun H locs hP hS => ?_)
      refine lv_if_eq (tgt := 64) hx hb dd_GG_odds_36 (by decide) (fun h_15 => ?_) (fun h_15 => ?_)
      · have hf := (if_pos h_15).symm.trans hf
        refine lv_aload_n hx hb dd_GG_odds_64 rfl (lv_at hl 0 rfl) ?_
        obtain ⟨r_16, x_17, c_18, hf⟩ := of_bnd hf
        refine cl_GG_53 C0 hap ho_v0 c_18 hP hS ⟨Nat.le_of_ble_eq_true rfl, Nat.le_of_ble_eq_true rfl⟩ hl.1 (Nat.le_of_ble_eq_true rfl) dd_GG_odds_65 ⟨Nat.le_refl _, Nat.le_refl _⟩ (fun H locs hP hS => ?_)
        exact rrI C0 hP hS dd_GG_odds_68 hf
      · have hf := (if_neg h_15).symm.trans hf
        refine lv_iload hx hb dd_GG_odds_39 (lv_at hl 4 rfl) ?_
        refine lv_iconst (v := 0) hx hb dd_GG_odds_41 (by decide) ?_
        refine lv_bipush (v := 10) hx hb dd_GG_odds_42 (by decide) ?_
        obtain ⟨r_19, x_20, c_21, hf⟩ := of_bnd hf
        refine cl_GG_49 C0 hap  c_21 hP hS ⟨Nat.le_of_ble_eq_true rfl, Nat.le_of_ble_eq_true rfl⟩ hl.1 (Nat.le_of_ble_eq_true rfl) dd_GG_odds_44 ⟨Nat.le_refl _, Nat.le_refl _⟩ (fun H locs hP hS => ?_)
        refine lv_if_eq (tgt := 64) hx hb dd_GG_odds_47 (by decide) (fun h_22 => ?_) (fun h_22 => ?_)
        · have hf := (if_pos h_22).symm.trans hf
          refine lv_aload_n hx hb dd_GG_odds_64 rfl (lv_at hl 0 rfl) ?_
          obtain ⟨r_23, x_24, c_25, hf⟩ := of_bnd hf
          refine cl_GG_53 C0 hap ho_v0 c_25 hP hS ⟨Nat.le_of_ble_eq_true rfl, Nat.le_of_ble_eq_true rfl⟩ hl.1 (Nat.le_of_ble_eq_true rfl) dd_GG_odds_65 ⟨Nat.le_refl _, Nat.le_refl _⟩ (fun H locs hP hS => ?_)
          exact rrI C0 hP hS dd_GG_odds_68 hf
        · have hf := (if_neg h_22).symm.trans hf
          refine lv_aload_n hx hb dd_GG_odds_50 rfl (lv_at hl 0 rfl) ?_
          refine gf_GG_12 C0 hP ho_v0 dd_GG_odds_51 ?_
          refine gf_GG_117 C0 hP (tp_5_0 ho_v0) dd_GG_odds_54 ?_
          refine lv_iload_n hx hb dd_GG_odds_57 rfl (lv_at hl 3 rfl) ?_
          refine lv_iadd hx hb dd_GG_odds_58 ?_
          refine lv_bipush (v := 99) hx hb dd_GG_odds_59 (by decide) ?_
          refine lv_icmp_le (tgt := 69) hx hb dd_GG_odds_61 (by decide) (fun h_26 => ?_) (fun h_26 => ?_)
          · have hf := (if_pos h_26).symm.trans hf
            refine lv_aload_n hx hb dd_GG_odds_69 rfl (lv_at hl 0 rfl) ?_
            refine gf_GG_41 C0 hP ho_v0 dd_GG_odds_70 ?_
            refine lv_aload_n hx hb dd_GG_odds_73 rfl (lv_at hl 0 rfl) ?_
            refine gf_GG_12 C0 hP ho_v0 dd_GG_odds_74 ?_
            refine lv_iload_n hx hb dd_GG_odds_77 rfl (lv_at hl 1 rfl) ?_
            refine lv_iload_n hx hb dd_GG_odds_78 rfl (lv_at hl 2 rfl) ?_
            refine lv_iload_n hx hb dd_GG_odds_79 rfl (lv_at hl 3 rfl) ?_
            refine lv_iload hx hb dd_GG_odds_80 (lv_at hl 4 rfl) ?_
            obtain ⟨r_27, x_28, c_29, hf⟩ := of_bnd hf
            refine cl_GG_188 C0 hap (tp_5_5 ho_v0) (tp_5_0 ho_v0) c_29 hP hS ⟨Nat.le_of_ble_eq_true rfl, Nat.le_of_ble_eq_true rfl⟩ hl.1 (Nat.le_of_ble_eq_true rfl) dd_GG_odds_82 ⟨Nat.le_refl _, Nat.le_refl _⟩ (fun H locs hP hS => ?_)
            refine lv_lstore (lv' := [(5, .long r_27), (0, .ref (ad v0)), (1, .int v1), (2, .int v2), (3, .int v3), (4, .int v4)]) hx hb dd_GG_odds_85 hl (by decide) rfl (fun ls hl => ?_)
            refine lv_iload_n hx hb dd_GG_odds_87 rfl (lv_at hl 4 rfl) ?_
            obtain ⟨r_30, x_31, c_32, hf⟩ := of_bnd hf
            refine cl_GG_192 C0 hap  c_32 hP hS ⟨Nat.le_of_ble_eq_true rfl, Nat.le_of_ble_eq_true rfl⟩ hl.1 (Nat.le_of_ble_eq_true rfl) dd_GG_odds_88 ⟨Nat.le_refl _, Nat.le_refl _⟩ (fun H locs hP hS => ?_)
            refine lv_lstore (lv' := [(7, .long r_30), (5, .long r_27), (0, .ref (ad v0)), (1, .int v1), (2, .int v2), (3, .int v3), (4, .int v4)]) hx hb dd_GG_odds_91 hl (by decide) rfl (fun ls hl => ?_)
            refine lv_lload hx hb dd_GG_odds_93 (lv_at hl 1 rfl) ?_
            refine lv_lload hx hb dd_GG_odds_95 (lv_at hl 0 rfl) ?_
            obtain ⟨r_33, x_34, c_35, hf⟩ := of_bnd hf
            refine cl_GG_196 C0 hap  c_35 hP hS ⟨Nat.le_of_ble_eq_true rfl, Nat.le_of_ble_eq_true rfl⟩ hl.1 (Nat.le_of_ble_eq_true rfl) dd_GG_odds_97 ⟨Nat.le_refl _, Nat.le_refl _⟩ (fun H locs hP hS => ?_)
            refine lv_lstore (lv' := [(9, .long r_33), (7, .long r_30), (5, .long r_27), (0, .ref (ad v0)), (1, .int v1), (2, .int v2), (3, .int v3), (4, .int v4)]) hx hb dd_GG_odds_100 hl (by decide) rfl (fun ls hl => ?_)
            refine lv_lload hx hb dd_GG_odds_102 (lv_at hl 0 rfl) ?_
            refine lv_lconst (v := 0) hx hb dd_GG_odds_104 (by decide) ?_
            refine W.lcmp hx hb dd_GG_odds_105 ?_
            refine lv_if_le (tgt := 127) hx hb dd_GG_odds_106 (by decide) (fun h_36 => ?_) (fun h_36 => ?_)
            · have hf := (if_pos h_36).symm.trans hf
              refine lv_iconst (v := 1) hx hb dd_GG_odds_127 (by decide) ?_
              exact rrI C0 hP hS dd_GG_odds_128 hf
            · have hf := (if_neg h_36).symm.trans hf
              refine lv_aload_n hx hb dd_GG_odds_109 rfl (lv_at hl 3 rfl) ?_
              refine lv_lload hx hb dd_GG_odds_110 (lv_at hl 2 rfl) ?_
              refine lv_lload hx hb dd_GG_odds_112 (lv_at hl 0 rfl) ?_
              obtain ⟨h_37, hf⟩ := of_ifp hf
              refine lv_ldiv hx hb dd_GG_odds_114 h_37 ?_
              obtain ⟨x_38, hx_38, hf⟩ := of_st hf
              refine pf_GG_200 C0 hap hP hS ho_v0 hx_38 dd_GG_odds_115 (fun H locs hP hS => ?_)
              refine lv_aload_n hx hb dd_GG_odds_118 rfl (lv_at hl 3 rfl) ?_
              refine lv_lload hx hb dd_GG_odds_119 (lv_at hl 1 rfl) ?_
              refine lv_lload hx hb dd_GG_odds_121 (lv_at hl 0 rfl) ?_
              obtain ⟨h_39, hf⟩ := of_ifp hf
              refine lv_ldiv hx hb dd_GG_odds_123 h_39 ?_
              obtain ⟨x_40, hx_40, hf⟩ := of_st hf
              refine pf_GG_45 C0 hap hP hS ho_v0 hx_40 dd_GG_odds_124 (fun H locs hP hS => ?_)
              refine lv_iconst (v := 1) hx hb dd_GG_odds_127 (by decide) ?_
              exact rrI C0 hP hS dd_GG_odds_128 hf
          · have hf := (if_neg h_26).symm.trans hf
            refine lv_aload_n hx hb dd_GG_odds_64 rfl (lv_at hl 0 rfl) ?_
            obtain ⟨r_41, x_42, c_43, hf⟩ := of_bnd hf
            refine cl_GG_53 C0 hap ho_v0 c_43 hP hS ⟨Nat.le_of_ble_eq_true rfl, Nat.le_of_ble_eq_true rfl⟩ hl.1 (Nat.le_of_ble_eq_true rfl) dd_GG_odds_65 ⟨Nat.le_refl _, Nat.le_refl _⟩ (fun H locs hP hS => ?_)
            exact rrI C0 hP hS dd_GG_odds_68 hf
    · have hf := (if_pos h_11).symm.trans hf
      refine lv_aload_n hx hb dd_GG_odds_24 rfl (lv_at hl 0 rfl) ?_
      obtain ⟨r_44, x_45, c_46, hf⟩ := of_bnd hf
      refine cl_GG_53 C0 hap ho_v0 c_46 hP hS ⟨Nat.le_of_ble_eq_true rfl, Nat.le_of_ble_eq_true rfl⟩ hl.1 (Nat.le_of_ble_eq_true rfl) dd_GG_odds_25 ⟨Nat.le_refl _, Nat.le_refl _⟩ (fun H locs hP hS => ?_)
      exact rrI C0 hP hS dd_GG_odds_28 hf
theorem cc_GG_odds {l : Launch} {E : Ev} {A : Nat → Prop} {ad : Nat → Nat} (hap : Ap ad ixC A) {x x' : St} {v0 : Nat} {v1 : Int32} {v2 : Int32} {v3 : Int32} {v4 : Int32} {r : Int32} (ho_v0 : isO ixC v0 5) (hf : ff_GG_odds x v0 v1 v2 v3 v4 = some (r, x')) : Met l yy_GG_odds (Cond.code yy_GG_odds bb_GG_odds 11 (some .int) :: gtb) rm_GG_odds (va_Pc [.ref (ad v0), .int v1, .int v2, .int v3, .int v4] (PB E A ad ixC x)) (QX E ad ixC A (some (.int r)) x') 0 0 A := by
  exact enter (by decide) (Nat.le_of_ble_eq_true rfl) (fun p e s m below meth c ls C0 hP hS hl => ww_GG_odds C0 hap ho_v0 hf hP hS hl)
theorem cl_GG_203 {p : Program} {l : Launch} {e : Env} {R : Room} {s : State} {m : MethodId} {args : Array Value} {below : List Frame} {meth : Method} {c : Code} {H : Heap} {locs : List Loc} {cells slots : Nat} {Q : State → Prop} {cc : ByteArray} {pc : Nat} {ls : Array Slot} {rest : List Value} {E : Ev} {A : Nat → Prop} {ad : Nat → Nat} {nL : Nat} {rt : Option FieldType} (C0 : Cx E A RGG cc nL rt p s m args meth c) (hap : Ap ad ixC A) {x x' : St} {v0 : Nat} {v1 : Nat} {v2 : Int32} {r : Int32} (ho_v0 : isO ixC v0 2) (ho_v1 : isO ixC v1 4) (hc : ff_OU_harmOf x v0 v1 v2 = some (r, x')) (hP : Wd E ad ixC x H) (hS : va_S A s.heap H locs) (hR : rm_OU_harmOf.frames + 1 ≤ R.frames ∧ 8 + (11 + 11) + rm_OU_harmOf.locals ≤ R.locals) (hls : ls.size = nL) (hroom : (rest.map fun v => v.category).sum ≤ 8) (hdg : decode cc pc = .ok (.invokevirtual 203, 3)) (hf : cells ≤ R.cells ∧ slots ≤ R.slots) (kk : ∀ H1 locs1, Wd E ad ixC x' H1 → va_S A s.heap H1 locs1 → W p l e R s m args below meth c H1 locs1 cells slots Q (F0 m (pc + 3) ls (.int r :: rest))) : W p l e R s m args below meth c H locs cells slots Q (F0 m pc ls (.int v2 :: .ref (ad v1) :: .ref (ad v0) :: rest)) :=
  rcV (n := 2) C0 (cc_OU_harmOf hap ho_v0 ho_v1 hc) hP hS ho_v0 vcl_2 (by decide) gw_code_OU_harmOf gw_m_GG_203 gw_inst_OU_harmOf gw_sel_OU_harmOf gw_ini_OU rfl rfl (by decide +kernel) rfl hR hls rfl hroom hdg hf (fun H1 locs1 a _ _ b => kk H1 locs1 a b)
abbrev rm_GG_harm : Room := { frames := 5, cells := 0, slots := 0, locals := 123 }
theorem dd_GG_harm_0 : decode bb_GG_harm 0 = .ok (.aload_n 0, 1) := by decide +kernel
theorem dd_GG_harm_1 : decode bb_GG_harm 1 = .ok (.getfield 12, 3) := by decide +kernel
theorem dd_GG_harm_4 : decode bb_GG_harm 4 = .ok (.getfield 90, 3) := by decide +kernel
theorem dd_GG_harm_7 : decode bb_GG_harm 7 = .ok (.iload_n 1, 1) := by decide +kernel
theorem dd_GG_harm_8 : decode bb_GG_harm 8 = .ok (.invokevirtual 86, 3) := by decide +kernel
theorem dd_GG_harm_11 : decode bb_GG_harm 11 = .ok (.ifCond .ne 11, 3) := by decide +kernel
theorem dd_GG_harm_14 : decode bb_GG_harm 14 = .ok (.aload_n 0, 1) := by decide +kernel
theorem dd_GG_harm_15 : decode bb_GG_harm 15 = .ok (.invokevirtual 53, 3) := by decide +kernel
theorem dd_GG_harm_18 : decode bb_GG_harm 18 = .ok (.pop, 1) := by decide +kernel
theorem dd_GG_harm_19 : decode bb_GG_harm 19 = .ok (.bipush (-10), 2) := by decide +kernel
theorem dd_GG_harm_21 : decode bb_GG_harm 21 = .ok (.ireturn, 1) := by decide +kernel
theorem dd_GG_harm_22 : decode bb_GG_harm 22 = .ok (.aload_n 0, 1) := by decide +kernel
theorem dd_GG_harm_23 : decode bb_GG_harm 23 = .ok (.getfield 41, 3) := by decide +kernel
theorem dd_GG_harm_26 : decode bb_GG_harm 26 = .ok (.aload_n 0, 1) := by decide +kernel
theorem dd_GG_harm_27 : decode bb_GG_harm 27 = .ok (.getfield 12, 3) := by decide +kernel
theorem dd_GG_harm_30 : decode bb_GG_harm 30 = .ok (.iload_n 1, 1) := by decide +kernel
theorem dd_GG_harm_31 : decode bb_GG_harm 31 = .ok (.invokevirtual 203, 3) := by decide +kernel
theorem dd_GG_harm_34 : decode bb_GG_harm 34 = .ok (.ireturn, 1) := by decide +kernel
def ff_GG_harm  (x : St) (v0 : Nat) (v1 : Int32) : Option (Int32 × St) := bnd (ff_LE_has x (rf (rf v0 0) 3) v1) (fun r_1 x_2 => (if r_1 = 0 then bnd (ff_GG_refuseBad x_2 v0) (fun r_8 x_9 => some ((-10), x_9)) else bnd (ff_OU_harmOf x_2 (rf v0 5) (rf v0 0) v1) (fun r_5 x_6 => some (r_5, x_6))))
set_option maxHeartbeats 4000000 in
set_option maxRecDepth 100000 in
theorem ww_GG_harm {p : Program} {l : Launch} {e : Env} {s : State} {m : MethodId} {args : Array Value} {below : List Frame} {meth : Method} {c : Code} {E : Ev} {A : Nat → Prop} {ad : Nat → Nat} {r : Int32} {x' : St} (C0 : Cx E A RGG bb_GG_harm 2 (some .int) p s m args meth c) (hap : Ap ad ixC A)  {x : St} {v0 : Nat} {v1 : Int32} (ho_v0 : isO ixC v0 5) (hf : ff_GG_harm x v0 v1 = some (r, x')) {H : Heap} {locs : List Loc} {ls : Array Slot} (hP : Wd E ad ixC x H) (hS : va_S A s.heap H locs) (hl : lv_has ls 2 [(0, .ref (ad v0)), (1, .int v1)]) : W p l e rm_GG_harm s m args below meth c H locs 0 0 (MQ below (QX E ad ixC A (some (.int r)) x') args s 0 0 A) (F0 m 0 ls []) := by
  obtain ⟨hx, hb, hml, hr, hown, hts, hlk, hK⟩ := id C0
  have hf : bnd (ff_LE_has x (rf (rf v0 0) 3) v1) (fun r_1 x_2 => (if r_1 = 0 then bnd (ff_GG_refuseBad x_2 v0) (fun r_8 x_9 => some ((-10), x_9)) else bnd (ff_OU_harmOf x_2 (rf v0 5) (rf v0 0) v1) (fun r_5 x_6 => some (r_5, x_6)))) = some (r, x') := hf
  refine lv_aload_n hx hb dd_GG_harm_0 rfl (lv_at hl 0 rfl) ?_
  refine gf_GG_12 C0 hP ho_v0 dd_GG_harm_1 ?_
  refine gf_GG_90 C0 hP (tp_5_0 ho_v0) dd_GG_harm_4 ?_
  refine lv_iload_n hx hb dd_GG_harm_7 rfl (lv_at hl 1 rfl) ?_
  obtain ⟨r_1, x_2, c_3, hf⟩ := of_bnd hf
  refine cl_GG_86 C0 hap (tp_4_3 (tp_5_0 ho_v0)) c_3 hP hS ⟨Nat.le_of_ble_eq_true rfl, Nat.le_of_ble_eq_true rfl⟩ hl.1 (Nat.le_of_ble_eq_true rfl) dd_GG_harm_8 ⟨Nat.le_refl _, Nat.le_refl _⟩ (fun H locs hP hS => ?_)
  refine lv_if_ne (tgt := 22) hx hb dd_GG_harm_11 (by decide) (fun h_4 => ?_) (fun h_4 => ?_)
  · have hf := (if_neg h_4).symm.trans hf
    refine lv_aload_n hx hb dd_GG_harm_22 rfl (lv_at hl 0 rfl) ?_
    refine gf_GG_41 C0 hP ho_v0 dd_GG_harm_23 ?_
    refine lv_aload_n hx hb dd_GG_harm_26 rfl (lv_at hl 0 rfl) ?_
    refine gf_GG_12 C0 hP ho_v0 dd_GG_harm_27 ?_
    refine lv_iload_n hx hb dd_GG_harm_30 rfl (lv_at hl 1 rfl) ?_
    obtain ⟨r_5, x_6, c_7, hf⟩ := of_bnd hf
    refine cl_GG_203 C0 hap (tp_5_5 ho_v0) (tp_5_0 ho_v0) c_7 hP hS ⟨Nat.le_of_ble_eq_true rfl, Nat.le_of_ble_eq_true rfl⟩ hl.1 (Nat.le_of_ble_eq_true rfl) dd_GG_harm_31 ⟨Nat.le_refl _, Nat.le_refl _⟩ (fun H locs hP hS => ?_)
    exact rrI C0 hP hS dd_GG_harm_34 hf
  · have hf := (if_pos h_4).symm.trans hf
    refine lv_aload_n hx hb dd_GG_harm_14 rfl (lv_at hl 0 rfl) ?_
    obtain ⟨r_8, x_9, c_10, hf⟩ := of_bnd hf
    refine cl_GG_53 C0 hap ho_v0 c_10 hP hS ⟨Nat.le_of_ble_eq_true rfl, Nat.le_of_ble_eq_true rfl⟩ hl.1 (Nat.le_of_ble_eq_true rfl) dd_GG_harm_15 ⟨Nat.le_refl _, Nat.le_refl _⟩ (fun H locs hP hS => ?_)
    refine lv_pop hx hb dd_GG_harm_18 rfl ?_
    refine lv_bipush (v := -10) hx hb dd_GG_harm_19 (by decide) ?_
    exact rrI C0 hP hS dd_GG_harm_21 hf
theorem cc_GG_harm {l : Launch} {E : Ev} {A : Nat → Prop} {ad : Nat → Nat} (hap : Ap ad ixC A) {x x' : St} {v0 : Nat} {v1 : Int32} {r : Int32} (ho_v0 : isO ixC v0 5) (hf : ff_GG_harm x v0 v1 = some (r, x')) : Met l yy_GG_harm (Cond.code yy_GG_harm bb_GG_harm 2 (some .int) :: gtb) rm_GG_harm (va_Pc [.ref (ad v0), .int v1] (PB E A ad ixC x)) (QX E ad ixC A (some (.int r)) x') 0 0 A := by
  exact enter (by decide) (Nat.le_of_ble_eq_true rfl) (fun p e s m below meth c ls C0 hP hS hl => ww_GG_harm C0 hap ho_v0 hf hP hS hl)
abbrev rm_GG_part : Room := { frames := 1, cells := 0, slots := 0, locals := 22 }
theorem dd_GG_part_0 : decode bb_GG_part 0 = .ok (.iload_n 1, 1) := by decide +kernel
theorem dd_GG_part_1 : decode bb_GG_part 1 = .ok (.iconst 0, 1) := by decide +kernel
theorem dd_GG_part_2 : decode bb_GG_part 2 = .ok (.iconst 1, 1) := by decide +kernel
theorem dd_GG_part_3 : decode bb_GG_part 3 = .ok (.invokestatic 49, 3) := by decide +kernel
theorem dd_GG_part_6 : decode bb_GG_part 6 = .ok (.ifCond .ne 9, 3) := by decide +kernel
theorem dd_GG_part_9 : decode bb_GG_part 9 = .ok (.aload_n 0, 1) := by decide +kernel
theorem dd_GG_part_10 : decode bb_GG_part 10 = .ok (.invokevirtual 53, 3) := by decide +kernel
theorem dd_GG_part_13 : decode bb_GG_part 13 = .ok (.i2l, 1) := by decide +kernel
theorem dd_GG_part_14 : decode bb_GG_part 14 = .ok (.lreturn, 1) := by decide +kernel
theorem dd_GG_part_15 : decode bb_GG_part 15 = .ok (.iload_n 1, 1) := by decide +kernel
theorem dd_GG_part_16 : decode bb_GG_part 16 = .ok (.ifCond .ne 10, 3) := by decide +kernel
theorem dd_GG_part_19 : decode bb_GG_part 19 = .ok (.aload_n 0, 1) := by decide +kernel
theorem dd_GG_part_20 : decode bb_GG_part 20 = .ok (.getfield 200, 3) := by decide +kernel
theorem dd_GG_part_23 : decode bb_GG_part 23 = .ok (.goto 7, 3) := by decide +kernel
theorem dd_GG_part_26 : decode bb_GG_part 26 = .ok (.aload_n 0, 1) := by decide +kernel
theorem dd_GG_part_27 : decode bb_GG_part 27 = .ok (.getfield 45, 3) := by decide +kernel
theorem dd_GG_part_30 : decode bb_GG_part 30 = .ok (.lreturn, 1) := by decide +kernel
def ff_GG_part  (x : St) (v0 : Nat) (v1 : Int32) : Option (Int64 × St) := bnd (ff_GG_isWithin x v1 0 1) (fun r_1 x_2 => (if r_1 = 0 then bnd (ff_GG_refuseBad x_2 v0) (fun r_6 x_7 => some (r_6.toInt64, x_7)) else (if v1 = 0 then some (gl x_2 v0 6, x_2) else some (gl x_2 v0 7, x_2))))
set_option maxHeartbeats 4000000 in
set_option maxRecDepth 100000 in
theorem ww_GG_part {p : Program} {l : Launch} {e : Env} {s : State} {m : MethodId} {args : Array Value} {below : List Frame} {meth : Method} {c : Code} {E : Ev} {A : Nat → Prop} {ad : Nat → Nat} {r : Int64} {x' : St} (C0 : Cx E A RGG bb_GG_part 2 (some .long) p s m args meth c) (hap : Ap ad ixC A)  {x : St} {v0 : Nat} {v1 : Int32} (ho_v0 : isO ixC v0 5) (hf : ff_GG_part x v0 v1 = some (r, x')) {H : Heap} {locs : List Loc} {ls : Array Slot} (hP : Wd E ad ixC x H) (hS : va_S A s.heap H locs) (hl : lv_has ls 2 [(0, .ref (ad v0)), (1, .int v1)]) : W p l e rm_GG_part s m args below meth c H locs 0 0 (MQ below (QX E ad ixC A (some (.long r)) x') args s 0 0 A) (F0 m 0 ls []) := by
  obtain ⟨hx, hb, hml, hr, hown, hts, hlk, hK⟩ := id C0
  have hf : bnd (ff_GG_isWithin x v1 0 1) (fun r_1 x_2 => (if r_1 = 0 then bnd (ff_GG_refuseBad x_2 v0) (fun r_6 x_7 => some (r_6.toInt64, x_7)) else (if v1 = 0 then some (gl x_2 v0 6, x_2) else some (gl x_2 v0 7, x_2)))) = some (r, x') := hf
  refine lv_iload_n hx hb dd_GG_part_0 rfl (lv_at hl 1 rfl) ?_
  refine lv_iconst (v := 0) hx hb dd_GG_part_1 (by decide) ?_
  refine lv_iconst (v := 1) hx hb dd_GG_part_2 (by decide) ?_
  obtain ⟨r_1, x_2, c_3, hf⟩ := of_bnd hf
  refine cl_GG_49 C0 hap  c_3 hP hS ⟨Nat.le_of_ble_eq_true rfl, Nat.le_of_ble_eq_true rfl⟩ hl.1 (Nat.le_of_ble_eq_true rfl) dd_GG_part_3 ⟨Nat.le_refl _, Nat.le_refl _⟩ (fun H locs hP hS => ?_)
  refine lv_if_ne (tgt := 15) hx hb dd_GG_part_6 (by decide) (fun h_4 => ?_) (fun h_4 => ?_)
  · have hf := (if_neg h_4).symm.trans hf
    refine lv_iload_n hx hb dd_GG_part_15 rfl (lv_at hl 1 rfl) ?_
    refine lv_if_ne (tgt := 26) hx hb dd_GG_part_16 (by decide) (fun h_5 => ?_) (fun h_5 => ?_)
    · have hf := (if_neg h_5).symm.trans hf
      refine lv_aload_n hx hb dd_GG_part_26 rfl (lv_at hl 0 rfl) ?_
      refine gf_GG_45 C0 hP ho_v0 dd_GG_part_27 ?_
      exact rrL C0 hP hS dd_GG_part_30 hf
    · have hf := (if_pos h_5).symm.trans hf
      refine lv_aload_n hx hb dd_GG_part_19 rfl (lv_at hl 0 rfl) ?_
      refine gf_GG_200 C0 hP ho_v0 dd_GG_part_20 ?_
      refine lv_goto (tgt := 30) hx hb dd_GG_part_23 (by decide) ?_
      exact rrL C0 hP hS dd_GG_part_30 hf
  · have hf := (if_pos h_4).symm.trans hf
    refine lv_aload_n hx hb dd_GG_part_9 rfl (lv_at hl 0 rfl) ?_
    obtain ⟨r_6, x_7, c_8, hf⟩ := of_bnd hf
    refine cl_GG_53 C0 hap ho_v0 c_8 hP hS ⟨Nat.le_of_ble_eq_true rfl, Nat.le_of_ble_eq_true rfl⟩ hl.1 (Nat.le_of_ble_eq_true rfl) dd_GG_part_10 ⟨Nat.le_refl _, Nat.le_refl _⟩ (fun H locs hP hS => ?_)
    refine lv_i2l hx hb dd_GG_part_13 rfl ?_
    exact rrL C0 hP hS dd_GG_part_14 hf
theorem cc_GG_part {l : Launch} {E : Ev} {A : Nat → Prop} {ad : Nat → Nat} (hap : Ap ad ixC A) {x x' : St} {v0 : Nat} {v1 : Int32} {r : Int64} (ho_v0 : isO ixC v0 5) (hf : ff_GG_part x v0 v1 = some (r, x')) : Met l yy_GG_part (Cond.code yy_GG_part bb_GG_part 2 (some .long) :: gtb) rm_GG_part (va_Pc [.ref (ad v0), .int v1] (PB E A ad ixC x)) (QX E ad ixC A (some (.long r)) x') 0 0 A := by
  exact enter (by decide) (Nat.le_of_ble_eq_true rfl) (fun p e s m below meth c ls C0 hP hS hl => ww_GG_part C0 hap ho_v0 hf hP hS hl)
abbrev rm_GG_image : Room := { frames := 3, cells := 0, slots := 0, locals := 69 }
theorem dd_GG_image_0 : decode bb_GG_image 0 = .ok (.iload_n 1, 1) := by decide +kernel
theorem dd_GG_image_1 : decode bb_GG_image 1 = .ok (.iconst 0, 1) := by decide +kernel
theorem dd_GG_image_2 : decode bb_GG_image 2 = .ok (.iconst 1, 1) := by decide +kernel
theorem dd_GG_image_3 : decode bb_GG_image 3 = .ok (.invokestatic 49, 3) := by decide +kernel
theorem dd_GG_image_6 : decode bb_GG_image 6 = .ok (.ifCond .ne 8, 3) := by decide +kernel
theorem dd_GG_image_9 : decode bb_GG_image 9 = .ok (.aload_n 0, 1) := by decide +kernel
theorem dd_GG_image_10 : decode bb_GG_image 10 = .ok (.invokevirtual 53, 3) := by decide +kernel
theorem dd_GG_image_13 : decode bb_GG_image 13 = .ok (.ireturn, 1) := by decide +kernel
theorem dd_GG_image_14 : decode bb_GG_image 14 = .ok (.aload_n 0, 1) := by decide +kernel
theorem dd_GG_image_15 : decode bb_GG_image 15 = .ok (.getfield 16, 3) := by decide +kernel
theorem dd_GG_image_18 : decode bb_GG_image 18 = .ok (.iload_n 1, 1) := by decide +kernel
theorem dd_GG_image_19 : decode bb_GG_image 19 = .ok (.aaload, 1) := by decide +kernel
theorem dd_GG_image_20 : decode bb_GG_image 20 = .ok (.aload_n 0, 1) := by decide +kernel
theorem dd_GG_image_21 : decode bb_GG_image 21 = .ok (.getfield 12, 3) := by decide +kernel
theorem dd_GG_image_24 : decode bb_GG_image 24 = .ok (.invokevirtual 148, 3) := by decide +kernel
theorem dd_GG_image_27 : decode bb_GG_image 27 = .ok (.aload_n 0, 1) := by decide +kernel
theorem dd_GG_image_28 : decode bb_GG_image 28 = .ok (.getfield 20, 3) := by decide +kernel
theorem dd_GG_image_31 : decode bb_GG_image 31 = .ok (.iload_n 1, 1) := by decide +kernel
theorem dd_GG_image_32 : decode bb_GG_image 32 = .ok (.iconst 1, 1) := by decide +kernel
theorem dd_GG_image_33 : decode bb_GG_image 33 = .ok (.bastore, 1) := by decide +kernel
theorem dd_GG_image_34 : decode bb_GG_image 34 = .ok (.iconst 1, 1) := by decide +kernel
theorem dd_GG_image_35 : decode bb_GG_image 35 = .ok (.ireturn, 1) := by decide +kernel
def ff_GG_image  (x : St) (v0 : Nat) (v1 : Int32) : Option (Int32 × St) := bnd (ff_GG_isWithin x v1 0 1) (fun r_1 x_2 => (if r_1 = 0 then bnd (ff_GG_refuseBad x_2 v0) (fun r_11 x_12 => some (r_11, x_12)) else (if ixb v1 (ln (rf v0 1)) = true then bnd (ff_SH_copyFrom x_2 (rf (rf v0 1) (ix v1)) (rf v0 0)) (fun _ x_7 => (if ixb v1 (ln (rf v0 2)) = true then st (si x_7 (rf v0 2) (ix v1) (vp_nar .boolean 1)) (fun x_10 => some (1, x_10)) else none)) else none)))
set_option maxHeartbeats 4000000 in
set_option maxRecDepth 100000 in
theorem ww_GG_image {p : Program} {l : Launch} {e : Env} {s : State} {m : MethodId} {args : Array Value} {below : List Frame} {meth : Method} {c : Code} {E : Ev} {A : Nat → Prop} {ad : Nat → Nat} {r : Int32} {x' : St} (C0 : Cx E A RGG bb_GG_image 2 (some .int) p s m args meth c) (hap : Ap ad ixC A)  {x : St} {v0 : Nat} {v1 : Int32} (ho_v0 : isO ixC v0 5) (hf : ff_GG_image x v0 v1 = some (r, x')) {H : Heap} {locs : List Loc} {ls : Array Slot} (hP : Wd E ad ixC x H) (hS : va_S A s.heap H locs) (hl : lv_has ls 2 [(0, .ref (ad v0)), (1, .int v1)]) : W p l e rm_GG_image s m args below meth c H locs 0 0 (MQ below (QX E ad ixC A (some (.int r)) x') args s 0 0 A) (F0 m 0 ls []) := by
  obtain ⟨hx, hb, hml, hr, hown, hts, hlk, hK⟩ := id C0
  have hf : bnd (ff_GG_isWithin x v1 0 1) (fun r_1 x_2 => (if r_1 = 0 then bnd (ff_GG_refuseBad x_2 v0) (fun r_11 x_12 => some (r_11, x_12)) else (if ixb v1 (ln (rf v0 1)) = true then bnd (ff_SH_copyFrom x_2 (rf (rf v0 1) (ix v1)) (rf v0 0)) (fun _ x_7 => (if ixb v1 (ln (rf v0 2)) = true then st (si x_7 (rf v0 2) (ix v1) (vp_nar .boolean 1)) (fun x_10 => some (1, x_10)) else none)) else none))) = some (r, x') := hf
  refine lv_iload_n hx hb dd_GG_image_0 rfl (lv_at hl 1 rfl) ?_
  refine lv_iconst (v := 0) hx hb dd_GG_image_1 (by decide) ?_
  refine lv_iconst (v := 1) hx hb dd_GG_image_2 (by decide) ?_
  obtain ⟨r_1, x_2, c_3, hf⟩ := of_bnd hf
  refine cl_GG_49 C0 hap  c_3 hP hS ⟨Nat.le_of_ble_eq_true rfl, Nat.le_of_ble_eq_true rfl⟩ hl.1 (Nat.le_of_ble_eq_true rfl) dd_GG_image_3 ⟨Nat.le_refl _, Nat.le_refl _⟩ (fun H locs hP hS => ?_)
  refine lv_if_ne (tgt := 14) hx hb dd_GG_image_6 (by decide) (fun h_4 => ?_) (fun h_4 => ?_)
  · have hf := (if_neg h_4).symm.trans hf
    refine lv_aload_n hx hb dd_GG_image_14 rfl (lv_at hl 0 rfl) ?_
    refine gf_GG_16 C0 hP ho_v0 dd_GG_image_15 ?_
    refine lv_iload_n hx hb dd_GG_image_18 rfl (lv_at hl 1 rfl) ?_
    obtain ⟨h_5, hf⟩ := of_ifb hf
    refine raS C0 hP (tp_5_1 ho_v0) h_5 dd_GG_image_19 ?_
    refine lv_aload_n hx hb dd_GG_image_20 rfl (lv_at hl 0 rfl) ?_
    refine gf_GG_12 C0 hP ho_v0 dd_GG_image_21 ?_
    obtain ⟨_, x_7, c_8, hf⟩ := of_bnd hf
    refine cl_GG_148 C0 hap (tp_24 (tp_5_1 ho_v0) h_5) (tp_5_0 ho_v0) c_8 hP hS ⟨Nat.le_of_ble_eq_true rfl, Nat.le_of_ble_eq_true rfl⟩ hl.1 (Nat.le_of_ble_eq_true rfl) dd_GG_image_24 ⟨Nat.le_refl _, Nat.le_refl _⟩ (fun H locs hP hS => ?_)
    refine lv_aload_n hx hb dd_GG_image_27 rfl (lv_at hl 0 rfl) ?_
    refine gf_GG_20 C0 hP ho_v0 dd_GG_image_28 ?_
    refine lv_iload_n hx hb dd_GG_image_31 rfl (lv_at hl 1 rfl) ?_
    refine lv_iconst (v := 1) hx hb dd_GG_image_32 (by decide) ?_
    obtain ⟨h_9, hf⟩ := of_ifb hf
    obtain ⟨x_10, hx_10, hf⟩ := of_st hf
    refine sZ C0 hap hP hS (tp_5_2 ho_v0) h_9 hx_10 dd_GG_image_33 (fun H locs hP hS => ?_)
    refine lv_iconst (v := 1) hx hb dd_GG_image_34 (by decide) ?_
    exact rrI C0 hP hS dd_GG_image_35 hf
  · have hf := (if_pos h_4).symm.trans hf
    refine lv_aload_n hx hb dd_GG_image_9 rfl (lv_at hl 0 rfl) ?_
    obtain ⟨r_11, x_12, c_13, hf⟩ := of_bnd hf
    refine cl_GG_53 C0 hap ho_v0 c_13 hP hS ⟨Nat.le_of_ble_eq_true rfl, Nat.le_of_ble_eq_true rfl⟩ hl.1 (Nat.le_of_ble_eq_true rfl) dd_GG_image_10 ⟨Nat.le_refl _, Nat.le_refl _⟩ (fun H locs hP hS => ?_)
    exact rrI C0 hP hS dd_GG_image_13 hf
theorem cc_GG_image {l : Launch} {E : Ev} {A : Nat → Prop} {ad : Nat → Nat} (hap : Ap ad ixC A) {x x' : St} {v0 : Nat} {v1 : Int32} {r : Int32} (ho_v0 : isO ixC v0 5) (hf : ff_GG_image x v0 v1 = some (r, x')) : Met l yy_GG_image (Cond.code yy_GG_image bb_GG_image 2 (some .int) :: gtb) rm_GG_image (va_Pc [.ref (ad v0), .int v1] (PB E A ad ixC x)) (QX E ad ixC A (some (.int r)) x') 0 0 A := by
  exact enter (by decide) (Nat.le_of_ble_eq_true rfl) (fun p e s m below meth c ls C0 hP hS hl => ww_GG_image C0 hap ho_v0 hf hP hS hl)
abbrev rm_GG_from : Room := { frames := 3, cells := 0, slots := 0, locals := 69 }
theorem dd_GG_from_0 : decode bb_GG_from 0 = .ok (.iload_n 1, 1) := by decide +kernel
theorem dd_GG_from_1 : decode bb_GG_from 1 = .ok (.iconst 0, 1) := by decide +kernel
theorem dd_GG_from_2 : decode bb_GG_from 2 = .ok (.iconst 1, 1) := by decide +kernel
theorem dd_GG_from_3 : decode bb_GG_from 3 = .ok (.invokestatic 49, 3) := by decide +kernel
theorem dd_GG_from_6 : decode bb_GG_from 6 = .ok (.ifCond .ne 8, 3) := by decide +kernel
theorem dd_GG_from_9 : decode bb_GG_from 9 = .ok (.aload_n 0, 1) := by decide +kernel
theorem dd_GG_from_10 : decode bb_GG_from 10 = .ok (.invokevirtual 53, 3) := by decide +kernel
theorem dd_GG_from_13 : decode bb_GG_from 13 = .ok (.ireturn, 1) := by decide +kernel
theorem dd_GG_from_14 : decode bb_GG_from 14 = .ok (.aload_n 0, 1) := by decide +kernel
theorem dd_GG_from_15 : decode bb_GG_from 15 = .ok (.getfield 20, 3) := by decide +kernel
theorem dd_GG_from_18 : decode bb_GG_from 18 = .ok (.iload_n 1, 1) := by decide +kernel
theorem dd_GG_from_19 : decode bb_GG_from 19 = .ok (.baload, 1) := by decide +kernel
theorem dd_GG_from_20 : decode bb_GG_from 20 = .ok (.ifCond .ne 8, 3) := by decide +kernel
theorem dd_GG_from_23 : decode bb_GG_from 23 = .ok (.aload_n 0, 1) := by decide +kernel
theorem dd_GG_from_24 : decode bb_GG_from 24 = .ok (.invokevirtual 100, 3) := by decide +kernel
theorem dd_GG_from_27 : decode bb_GG_from 27 = .ok (.ireturn, 1) := by decide +kernel
theorem dd_GG_from_28 : decode bb_GG_from 28 = .ok (.aload_n 0, 1) := by decide +kernel
theorem dd_GG_from_29 : decode bb_GG_from 29 = .ok (.getfield 12, 3) := by decide +kernel
theorem dd_GG_from_32 : decode bb_GG_from 32 = .ok (.aload_n 0, 1) := by decide +kernel
theorem dd_GG_from_33 : decode bb_GG_from 33 = .ok (.getfield 16, 3) := by decide +kernel
theorem dd_GG_from_36 : decode bb_GG_from 36 = .ok (.iload_n 1, 1) := by decide +kernel
theorem dd_GG_from_37 : decode bb_GG_from 37 = .ok (.aaload, 1) := by decide +kernel
theorem dd_GG_from_38 : decode bb_GG_from 38 = .ok (.invokevirtual 148, 3) := by decide +kernel
theorem dd_GG_from_41 : decode bb_GG_from 41 = .ok (.iconst 1, 1) := by decide +kernel
theorem dd_GG_from_42 : decode bb_GG_from 42 = .ok (.ireturn, 1) := by decide +kernel
def ff_GG_from  (x : St) (v0 : Nat) (v1 : Int32) : Option (Int32 × St) := bnd (ff_GG_isWithin x v1 0 1) (fun r_1 x_2 => (if r_1 = 0 then bnd (ff_GG_refuseBad x_2 v0) (fun r_14 x_15 => some (r_14, x_15)) else (if ixb v1 (ln (rf v0 2)) = true then (if (gi x_2 (rf v0 2) (ix v1)) = 0 then bnd (ff_GG_refuseNo x_2 v0) (fun r_11 x_12 => some (r_11, x_12)) else (if ixb v1 (ln (rf v0 1)) = true then bnd (ff_SH_copyFrom x_2 (rf v0 0) (rf (rf v0 1) (ix v1))) (fun _ x_9 => some (1, x_9)) else none)) else none)))
set_option maxHeartbeats 4000000 in
set_option maxRecDepth 100000 in
theorem ww_GG_from {p : Program} {l : Launch} {e : Env} {s : State} {m : MethodId} {args : Array Value} {below : List Frame} {meth : Method} {c : Code} {E : Ev} {A : Nat → Prop} {ad : Nat → Nat} {r : Int32} {x' : St} (C0 : Cx E A RGG bb_GG_from 2 (some .int) p s m args meth c) (hap : Ap ad ixC A)  {x : St} {v0 : Nat} {v1 : Int32} (ho_v0 : isO ixC v0 5) (hf : ff_GG_from x v0 v1 = some (r, x')) {H : Heap} {locs : List Loc} {ls : Array Slot} (hP : Wd E ad ixC x H) (hS : va_S A s.heap H locs) (hl : lv_has ls 2 [(0, .ref (ad v0)), (1, .int v1)]) : W p l e rm_GG_from s m args below meth c H locs 0 0 (MQ below (QX E ad ixC A (some (.int r)) x') args s 0 0 A) (F0 m 0 ls []) := by
  obtain ⟨hx, hb, hml, hr, hown, hts, hlk, hK⟩ := id C0
  have hf : bnd (ff_GG_isWithin x v1 0 1) (fun r_1 x_2 => (if r_1 = 0 then bnd (ff_GG_refuseBad x_2 v0) (fun r_14 x_15 => some (r_14, x_15)) else (if ixb v1 (ln (rf v0 2)) = true then (if (gi x_2 (rf v0 2) (ix v1)) = 0 then bnd (ff_GG_refuseNo x_2 v0) (fun r_11 x_12 => some (r_11, x_12)) else (if ixb v1 (ln (rf v0 1)) = true then bnd (ff_SH_copyFrom x_2 (rf v0 0) (rf (rf v0 1) (ix v1))) (fun _ x_9 => some (1, x_9)) else none)) else none))) = some (r, x') := hf
  refine lv_iload_n hx hb dd_GG_from_0 rfl (lv_at hl 1 rfl) ?_
  refine lv_iconst (v := 0) hx hb dd_GG_from_1 (by decide) ?_
  refine lv_iconst (v := 1) hx hb dd_GG_from_2 (by decide) ?_
  obtain ⟨r_1, x_2, c_3, hf⟩ := of_bnd hf
  refine cl_GG_49 C0 hap  c_3 hP hS ⟨Nat.le_of_ble_eq_true rfl, Nat.le_of_ble_eq_true rfl⟩ hl.1 (Nat.le_of_ble_eq_true rfl) dd_GG_from_3 ⟨Nat.le_refl _, Nat.le_refl _⟩ (fun H locs hP hS => ?_)
  refine lv_if_ne (tgt := 14) hx hb dd_GG_from_6 (by decide) (fun h_4 => ?_) (fun h_4 => ?_)
  · have hf := (if_neg h_4).symm.trans hf
    refine lv_aload_n hx hb dd_GG_from_14 rfl (lv_at hl 0 rfl) ?_
    refine gf_GG_20 C0 hP ho_v0 dd_GG_from_15 ?_
    refine lv_iload_n hx hb dd_GG_from_18 rfl (lv_at hl 1 rfl) ?_
    obtain ⟨h_5, hf⟩ := of_ifb hf
    refine raZ C0 hP (tp_5_2 ho_v0) h_5 dd_GG_from_19 ?_
    refine lv_if_ne (tgt := 28) hx hb dd_GG_from_20 (by decide) (fun h_6 => ?_) (fun h_6 => ?_)
    · have hf := (if_neg h_6).symm.trans hf
      refine lv_aload_n hx hb dd_GG_from_28 rfl (lv_at hl 0 rfl) ?_
      refine gf_GG_12 C0 hP ho_v0 dd_GG_from_29 ?_
      refine lv_aload_n hx hb dd_GG_from_32 rfl (lv_at hl 0 rfl) ?_
      refine gf_GG_16 C0 hP ho_v0 dd_GG_from_33 ?_
      refine lv_iload_n hx hb dd_GG_from_36 rfl (lv_at hl 1 rfl) ?_
      obtain ⟨h_7, hf⟩ := of_ifb hf
      refine raS C0 hP (tp_5_1 ho_v0) h_7 dd_GG_from_37 ?_
      obtain ⟨_, x_9, c_10, hf⟩ := of_bnd hf
      refine cl_GG_148 C0 hap (tp_5_0 ho_v0) (tp_24 (tp_5_1 ho_v0) h_7) c_10 hP hS ⟨Nat.le_of_ble_eq_true rfl, Nat.le_of_ble_eq_true rfl⟩ hl.1 (Nat.le_of_ble_eq_true rfl) dd_GG_from_38 ⟨Nat.le_refl _, Nat.le_refl _⟩ (fun H locs hP hS => ?_)
      refine lv_iconst (v := 1) hx hb dd_GG_from_41 (by decide) ?_
      exact rrI C0 hP hS dd_GG_from_42 hf
    · have hf := (if_pos h_6).symm.trans hf
      refine lv_aload_n hx hb dd_GG_from_23 rfl (lv_at hl 0 rfl) ?_
      obtain ⟨r_11, x_12, c_13, hf⟩ := of_bnd hf
      refine cl_GG_100 C0 hap ho_v0 c_13 hP hS ⟨Nat.le_of_ble_eq_true rfl, Nat.le_of_ble_eq_true rfl⟩ hl.1 (Nat.le_of_ble_eq_true rfl) dd_GG_from_24 ⟨Nat.le_refl _, Nat.le_refl _⟩ (fun H locs hP hS => ?_)
      exact rrI C0 hP hS dd_GG_from_27 hf
  · have hf := (if_pos h_4).symm.trans hf
    refine lv_aload_n hx hb dd_GG_from_9 rfl (lv_at hl 0 rfl) ?_
    obtain ⟨r_14, x_15, c_16, hf⟩ := of_bnd hf
    refine cl_GG_53 C0 hap ho_v0 c_16 hP hS ⟨Nat.le_of_ble_eq_true rfl, Nat.le_of_ble_eq_true rfl⟩ hl.1 (Nat.le_of_ble_eq_true rfl) dd_GG_from_10 ⟨Nat.le_refl _, Nat.le_refl _⟩ (fun H locs hP hS => ?_)
    exact rrI C0 hP hS dd_GG_from_13 hf
theorem cc_GG_from {l : Launch} {E : Ev} {A : Nat → Prop} {ad : Nat → Nat} (hap : Ap ad ixC A) {x x' : St} {v0 : Nat} {v1 : Int32} {r : Int32} (ho_v0 : isO ixC v0 5) (hf : ff_GG_from x v0 v1 = some (r, x')) : Met l yy_GG_from (Cond.code yy_GG_from bb_GG_from 2 (some .int) :: gtb) rm_GG_from (va_Pc [.ref (ad v0), .int v1] (PB E A ad ixC x)) (QX E ad ixC A (some (.int r)) x') 0 0 A := by
  exact enter (by decide) (Nat.le_of_ble_eq_true rfl) (fun p e s m below meth c ls C0 hP hS hl => ww_GG_from C0 hap ho_v0 hf hP hS hl)
abbrev rm_GG_status : Room := { frames := 1, cells := 0, slots := 0, locals := 20 }
theorem dd_GG_status_0 : decode bb_GG_status 0 = .ok (.iload_n 1, 1) := by decide +kernel
theorem dd_GG_status_1 : decode bb_GG_status 1 = .ok (.tableswitch 42 0 2 #[27, 32, 37], 27) := by decide +kernel
theorem dd_GG_status_28 : decode bb_GG_status 28 = .ok (.aload_n 0, 1) := by decide +kernel
theorem dd_GG_status_29 : decode bb_GG_status 29 = .ok (.getfield 207, 3) := by decide +kernel
theorem dd_GG_status_32 : decode bb_GG_status 32 = .ok (.ireturn, 1) := by decide +kernel
theorem dd_GG_status_33 : decode bb_GG_status 33 = .ok (.aload_n 0, 1) := by decide +kernel
theorem dd_GG_status_34 : decode bb_GG_status 34 = .ok (.getfield 210, 3) := by decide +kernel
theorem dd_GG_status_37 : decode bb_GG_status 37 = .ok (.ireturn, 1) := by decide +kernel
theorem dd_GG_status_38 : decode bb_GG_status 38 = .ok (.aload_n 0, 1) := by decide +kernel
theorem dd_GG_status_39 : decode bb_GG_status 39 = .ok (.getfield 213, 3) := by decide +kernel
theorem dd_GG_status_42 : decode bb_GG_status 42 = .ok (.ireturn, 1) := by decide +kernel
theorem dd_GG_status_43 : decode bb_GG_status 43 = .ok (.aload_n 0, 1) := by decide +kernel
theorem dd_GG_status_44 : decode bb_GG_status 44 = .ok (.invokevirtual 53, 3) := by decide +kernel
theorem dd_GG_status_47 : decode bb_GG_status 47 = .ok (.pop, 1) := by decide +kernel
theorem dd_GG_status_48 : decode bb_GG_status 48 = .ok (.iconst (-1), 1) := by decide +kernel
theorem dd_GG_status_49 : decode bb_GG_status 49 = .ok (.ireturn, 1) := by decide +kernel
def ff_GG_status  (x : St) (v0 : Nat) (v1 : Int32) : Option (Int32 × St) := (if v1 = 0 then some (gi x v0 8, x) else (if v1 = 1 then some (gi x v0 9, x) else (if v1 = 2 then some (gi x v0 10, x) else bnd (ff_GG_refuseBad x v0) (fun r_4 x_5 => some ((-1), x_5)))))
set_option maxHeartbeats 4000000 in
set_option maxRecDepth 100000 in
theorem ww_GG_status {p : Program} {l : Launch} {e : Env} {s : State} {m : MethodId} {args : Array Value} {below : List Frame} {meth : Method} {c : Code} {E : Ev} {A : Nat → Prop} {ad : Nat → Nat} {r : Int32} {x' : St} (C0 : Cx E A RGG bb_GG_status 2 (some .int) p s m args meth c) (hap : Ap ad ixC A)  {x : St} {v0 : Nat} {v1 : Int32} (ho_v0 : isO ixC v0 5) (hf : ff_GG_status x v0 v1 = some (r, x')) {H : Heap} {locs : List Loc} {ls : Array Slot} (hP : Wd E ad ixC x H) (hS : va_S A s.heap H locs) (hl : lv_has ls 2 [(0, .ref (ad v0)), (1, .int v1)]) : W p l e rm_GG_status s m args below meth c H locs 0 0 (MQ below (QX E ad ixC A (some (.int r)) x') args s 0 0 A) (F0 m 0 ls []) := by
  obtain ⟨hx, hb, hml, hr, hown, hts, hlk, hK⟩ := id C0
  have hf : (if v1 = 0 then some (gi x v0 8, x) else (if v1 = 1 then some (gi x v0 9, x) else (if v1 = 2 then some (gi x v0 10, x) else bnd (ff_GG_refuseBad x v0) (fun r_4 x_5 => some ((-1), x_5))))) = some (r, x') := hf
  refine lv_iload_n hx hb dd_GG_status_0 rfl (lv_at hl 1 rfl) ?_
  by_cases h_1 : v1 = 0
  · have hf := (if_pos h_1).symm.trans hf
    refine lv_tableIn (off := 27) (tgt := 28) hx hb dd_GG_status_1 (by rw [h_1]; decide) (by rw [h_1]; decide) (by rw [h_1]; decide) (by decide) ?_
    refine lv_aload_n hx hb dd_GG_status_28 rfl (lv_at hl 0 rfl) ?_
    refine gf_GG_207 C0 hP ho_v0 dd_GG_status_29 ?_
    exact rrI C0 hP hS dd_GG_status_32 hf
  have hf := (if_neg h_1).symm.trans hf
  by_cases h_2 : v1 = 1
  · have hf := (if_pos h_2).symm.trans hf
    refine lv_tableIn (off := 32) (tgt := 33) hx hb dd_GG_status_1 (by rw [h_2]; decide) (by rw [h_2]; decide) (by rw [h_2]; decide) (by decide) ?_
    refine lv_aload_n hx hb dd_GG_status_33 rfl (lv_at hl 0 rfl) ?_
    refine gf_GG_210 C0 hP ho_v0 dd_GG_status_34 ?_
    exact rrI C0 hP hS dd_GG_status_37 hf
  have hf := (if_neg h_2).symm.trans hf
  by_cases h_3 : v1 = 2
  · have hf := (if_pos h_3).symm.trans hf
    refine lv_tableIn (off := 37) (tgt := 38) hx hb dd_GG_status_1 (by rw [h_3]; decide) (by rw [h_3]; decide) (by rw [h_3]; decide) (by decide) ?_
    refine lv_aload_n hx hb dd_GG_status_38 rfl (lv_at hl 0 rfl) ?_
    refine gf_GG_213 C0 hP ho_v0 dd_GG_status_39 ?_
    exact rrI C0 hP hS dd_GG_status_42 hf
  have hf := (if_neg h_3).symm.trans hf
  refine lv_tableOut (tgt := 43) hx hb dd_GG_status_1 (by have z0 := lv_neT h_1 (a := 0) (by decide); have z1 := lv_neT h_2 (a := 1) (by decide); have z2 := lv_neT h_3 (a := 2) (by decide); omega) (by decide) ?_
  refine lv_aload_n hx hb dd_GG_status_43 rfl (lv_at hl 0 rfl) ?_
  obtain ⟨r_4, x_5, c_6, hf⟩ := of_bnd hf
  refine cl_GG_53 C0 hap ho_v0 c_6 hP hS ⟨Nat.le_of_ble_eq_true rfl, Nat.le_of_ble_eq_true rfl⟩ hl.1 (Nat.le_of_ble_eq_true rfl) dd_GG_status_44 ⟨Nat.le_refl _, Nat.le_refl _⟩ (fun H locs hP hS => ?_)
  refine lv_pop hx hb dd_GG_status_47 rfl ?_
  refine lv_iconst (v := -1) hx hb dd_GG_status_48 (by decide) ?_
  exact rrI C0 hP hS dd_GG_status_49 hf
theorem cc_GG_status {l : Launch} {E : Ev} {A : Nat → Prop} {ad : Nat → Nat} (hap : Ap ad ixC A) {x x' : St} {v0 : Nat} {v1 : Int32} {r : Int32} (ho_v0 : isO ixC v0 5) (hf : ff_GG_status x v0 v1 = some (r, x')) : Met l yy_GG_status (Cond.code yy_GG_status bb_GG_status 2 (some .int) :: gtb) rm_GG_status (va_Pc [.ref (ad v0), .int v1] (PB E A ad ixC x)) (QX E ad ixC A (some (.int r)) x') 0 0 A := by
  exact enter (by decide) (Nat.le_of_ble_eq_true rfl) (fun p e s m below meth c ls C0 hP hS hl => ww_GG_status C0 hap ho_v0 hf hP hS hl)
abbrev rm_GG_countOf : Room := { frames := 0, cells := 0, slots := 0, locals := 0 }
theorem dd_GG_countOf_0 : decode bb_GG_countOf 0 = .ok (.iload_n 1, 1) := by decide +kernel
theorem dd_GG_countOf_1 : decode bb_GG_countOf 1 = .ok (.tableswitch 114 0 6 #[43, 54, 65, 76, 87, 98, 106], 43) := by decide +kernel
theorem dd_GG_countOf_44 : decode bb_GG_countOf 44 = .ok (.aload_n 0, 1) := by decide +kernel
theorem dd_GG_countOf_45 : decode bb_GG_countOf 45 = .ok (.getfield 12, 3) := by decide +kernel
theorem dd_GG_countOf_48 : decode bb_GG_countOf 48 = .ok (.getfield 57, 3) := by decide +kernel
theorem dd_GG_countOf_51 : decode bb_GG_countOf 51 = .ok (.getfield 96, 3) := by decide +kernel
theorem dd_GG_countOf_54 : decode bb_GG_countOf 54 = .ok (.ireturn, 1) := by decide +kernel
theorem dd_GG_countOf_55 : decode bb_GG_countOf 55 = .ok (.aload_n 0, 1) := by decide +kernel
theorem dd_GG_countOf_56 : decode bb_GG_countOf 56 = .ok (.getfield 12, 3) := by decide +kernel
theorem dd_GG_countOf_59 : decode bb_GG_countOf 59 = .ok (.getfield 74, 3) := by decide +kernel
theorem dd_GG_countOf_62 : decode bb_GG_countOf 62 = .ok (.getfield 96, 3) := by decide +kernel
theorem dd_GG_countOf_65 : decode bb_GG_countOf 65 = .ok (.ireturn, 1) := by decide +kernel
theorem dd_GG_countOf_66 : decode bb_GG_countOf 66 = .ok (.aload_n 0, 1) := by decide +kernel
theorem dd_GG_countOf_67 : decode bb_GG_countOf 67 = .ok (.getfield 12, 3) := by decide +kernel
theorem dd_GG_countOf_70 : decode bb_GG_countOf 70 = .ok (.getfield 83, 3) := by decide +kernel
theorem dd_GG_countOf_73 : decode bb_GG_countOf 73 = .ok (.getfield 96, 3) := by decide +kernel
theorem dd_GG_countOf_76 : decode bb_GG_countOf 76 = .ok (.ireturn, 1) := by decide +kernel
theorem dd_GG_countOf_77 : decode bb_GG_countOf 77 = .ok (.aload_n 0, 1) := by decide +kernel
theorem dd_GG_countOf_78 : decode bb_GG_countOf 78 = .ok (.getfield 12, 3) := by decide +kernel
theorem dd_GG_countOf_81 : decode bb_GG_countOf 81 = .ok (.getfield 90, 3) := by decide +kernel
theorem dd_GG_countOf_84 : decode bb_GG_countOf 84 = .ok (.getfield 96, 3) := by decide +kernel
theorem dd_GG_countOf_87 : decode bb_GG_countOf 87 = .ok (.ireturn, 1) := by decide +kernel
theorem dd_GG_countOf_88 : decode bb_GG_countOf 88 = .ok (.aload_n 0, 1) := by decide +kernel
theorem dd_GG_countOf_89 : decode bb_GG_countOf 89 = .ok (.getfield 12, 3) := by decide +kernel
theorem dd_GG_countOf_92 : decode bb_GG_countOf 92 = .ok (.getfield 181, 3) := by decide +kernel
theorem dd_GG_countOf_95 : decode bb_GG_countOf 95 = .ok (.getfield 96, 3) := by decide +kernel
theorem dd_GG_countOf_98 : decode bb_GG_countOf 98 = .ok (.ireturn, 1) := by decide +kernel
theorem dd_GG_countOf_99 : decode bb_GG_countOf 99 = .ok (.aload_n 0, 1) := by decide +kernel
theorem dd_GG_countOf_100 : decode bb_GG_countOf 100 = .ok (.getfield 12, 3) := by decide +kernel
theorem dd_GG_countOf_103 : decode bb_GG_countOf 103 = .ok (.getfield 117, 3) := by decide +kernel
theorem dd_GG_countOf_106 : decode bb_GG_countOf 106 = .ok (.ireturn, 1) := by decide +kernel
theorem dd_GG_countOf_107 : decode bb_GG_countOf 107 = .ok (.aload_n 0, 1) := by decide +kernel
theorem dd_GG_countOf_108 : decode bb_GG_countOf 108 = .ok (.getfield 12, 3) := by decide +kernel
theorem dd_GG_countOf_111 : decode bb_GG_countOf 111 = .ok (.getfield 128, 3) := by decide +kernel
theorem dd_GG_countOf_114 : decode bb_GG_countOf 114 = .ok (.ireturn, 1) := by decide +kernel
theorem dd_GG_countOf_115 : decode bb_GG_countOf 115 = .ok (.aload_n 0, 1) := by decide +kernel
theorem dd_GG_countOf_116 : decode bb_GG_countOf 116 = .ok (.getfield 27, 3) := by decide +kernel
theorem dd_GG_countOf_119 : decode bb_GG_countOf 119 = .ok (.getfield 134, 3) := by decide +kernel
theorem dd_GG_countOf_122 : decode bb_GG_countOf 122 = .ok (.ireturn, 1) := by decide +kernel
def ff_GG_countOf  (x : St) (v0 : Nat) (v1 : Int32) : Option (Int32 × St) := (if v1 = 0 then some (gi x (rf (rf v0 0) 0) 3, x) else (if v1 = 1 then some (gi x (rf (rf v0 0) 1) 3, x) else (if v1 = 2 then some (gi x (rf (rf v0 0) 2) 3, x) else (if v1 = 3 then some (gi x (rf (rf v0 0) 3) 3, x) else (if v1 = 4 then some (gi x (rf (rf v0 0) 4) 3, x) else (if v1 = 5 then some (gi x (rf v0 0) 9, x) else (if v1 = 6 then some (gi x (rf v0 0) 8, x) else some (gi x (rf v0 3) 1, x))))))))
set_option maxHeartbeats 4000000 in
set_option maxRecDepth 100000 in
theorem ww_GG_countOf {p : Program} {l : Launch} {e : Env} {s : State} {m : MethodId} {args : Array Value} {below : List Frame} {meth : Method} {c : Code} {E : Ev} {A : Nat → Prop} {ad : Nat → Nat} {r : Int32} {x' : St} (C0 : Cx E A RGG bb_GG_countOf 2 (some .int) p s m args meth c) (hap : Ap ad ixC A)  {x : St} {v0 : Nat} {v1 : Int32} (ho_v0 : isO ixC v0 5) (hf : ff_GG_countOf x v0 v1 = some (r, x')) {H : Heap} {locs : List Loc} {ls : Array Slot} (hP : Wd E ad ixC x H) (hS : va_S A s.heap H locs) (hl : lv_has ls 2 [(0, .ref (ad v0)), (1, .int v1)]) : W p l e rm_GG_countOf s m args below meth c H locs 0 0 (MQ below (QX E ad ixC A (some (.int r)) x') args s 0 0 A) (F0 m 0 ls []) := by
  obtain ⟨hx, hb, hml, hr, hown, hts, hlk, hK⟩ := id C0
  have hf : (if v1 = 0 then some (gi x (rf (rf v0 0) 0) 3, x) else (if v1 = 1 then some (gi x (rf (rf v0 0) 1) 3, x) else (if v1 = 2 then some (gi x (rf (rf v0 0) 2) 3, x) else (if v1 = 3 then some (gi x (rf (rf v0 0) 3) 3, x) else (if v1 = 4 then some (gi x (rf (rf v0 0) 4) 3, x) else (if v1 = 5 then some (gi x (rf v0 0) 9, x) else (if v1 = 6 then some (gi x (rf v0 0) 8, x) else some (gi x (rf v0 3) 1, x)))))))) = some (r, x') := hf
  refine lv_iload_n hx hb dd_GG_countOf_0 rfl (lv_at hl 1 rfl) ?_
  by_cases h_1 : v1 = 0
  · have hf := (if_pos h_1).symm.trans hf
    refine lv_tableIn (off := 43) (tgt := 44) hx hb dd_GG_countOf_1 (by rw [h_1]; decide) (by rw [h_1]; decide) (by rw [h_1]; decide) (by decide) ?_
    refine lv_aload_n hx hb dd_GG_countOf_44 rfl (lv_at hl 0 rfl) ?_
    refine gf_GG_12 C0 hP ho_v0 dd_GG_countOf_45 ?_
    refine gf_GG_57 C0 hP (tp_5_0 ho_v0) dd_GG_countOf_48 ?_
    refine gf_GG_96 C0 hP (tp_4_0 (tp_5_0 ho_v0)) dd_GG_countOf_51 ?_
    exact rrI C0 hP hS dd_GG_countOf_54 hf
  have hf := (if_neg h_1).symm.trans hf
  by_cases h_2 : v1 = 1
  · have hf := (if_pos h_2).symm.trans hf
    refine lv_tableIn (off := 54) (tgt := 55) hx hb dd_GG_countOf_1 (by rw [h_2]; decide) (by rw [h_2]; decide) (by rw [h_2]; decide) (by decide) ?_
    refine lv_aload_n hx hb dd_GG_countOf_55 rfl (lv_at hl 0 rfl) ?_
    refine gf_GG_12 C0 hP ho_v0 dd_GG_countOf_56 ?_
    refine gf_GG_74 C0 hP (tp_5_0 ho_v0) dd_GG_countOf_59 ?_
    refine gf_GG_96 C0 hP (tp_4_1 (tp_5_0 ho_v0)) dd_GG_countOf_62 ?_
    exact rrI C0 hP hS dd_GG_countOf_65 hf
  have hf := (if_neg h_2).symm.trans hf
  by_cases h_3 : v1 = 2
  · have hf := (if_pos h_3).symm.trans hf
    refine lv_tableIn (off := 65) (tgt := 66) hx hb dd_GG_countOf_1 (by rw [h_3]; decide) (by rw [h_3]; decide) (by rw [h_3]; decide) (by decide) ?_
    refine lv_aload_n hx hb dd_GG_countOf_66 rfl (lv_at hl 0 rfl) ?_
    refine gf_GG_12 C0 hP ho_v0 dd_GG_countOf_67 ?_
    refine gf_GG_83 C0 hP (tp_5_0 ho_v0) dd_GG_countOf_70 ?_
    refine gf_GG_96 C0 hP (tp_4_2 (tp_5_0 ho_v0)) dd_GG_countOf_73 ?_
    exact rrI C0 hP hS dd_GG_countOf_76 hf
  have hf := (if_neg h_3).symm.trans hf
  by_cases h_4 : v1 = 3
  · have hf := (if_pos h_4).symm.trans hf
    refine lv_tableIn (off := 76) (tgt := 77) hx hb dd_GG_countOf_1 (by rw [h_4]; decide) (by rw [h_4]; decide) (by rw [h_4]; decide) (by decide) ?_
    refine lv_aload_n hx hb dd_GG_countOf_77 rfl (lv_at hl 0 rfl) ?_
    refine gf_GG_12 C0 hP ho_v0 dd_GG_countOf_78 ?_
    refine gf_GG_90 C0 hP (tp_5_0 ho_v0) dd_GG_countOf_81 ?_
    refine gf_GG_96 C0 hP (tp_4_3 (tp_5_0 ho_v0)) dd_GG_countOf_84 ?_
    exact rrI C0 hP hS dd_GG_countOf_87 hf
  have hf := (if_neg h_4).symm.trans hf
  by_cases h_5 : v1 = 4
  · have hf := (if_pos h_5).symm.trans hf
    refine lv_tableIn (off := 87) (tgt := 88) hx hb dd_GG_countOf_1 (by rw [h_5]; decide) (by rw [h_5]; decide) (by rw [h_5]; decide) (by decide) ?_
    refine lv_aload_n hx hb dd_GG_countOf_88 rfl (lv_at hl 0 rfl) ?_
    refine gf_GG_12 C0 hP ho_v0 dd_GG_countOf_89 ?_
    refine gf_GG_181 C0 hP (tp_5_0 ho_v0) dd_GG_countOf_92 ?_
    refine gf_GG_96 C0 hP (tp_4_4 (tp_5_0 ho_v0)) dd_GG_countOf_95 ?_
    exact rrI C0 hP hS dd_GG_countOf_98 hf
  have hf := (if_neg h_5).symm.trans hf
  by_cases h_6 : v1 = 5
  · have hf := (if_pos h_6).symm.trans hf
    refine lv_tableIn (off := 98) (tgt := 99) hx hb dd_GG_countOf_1 (by rw [h_6]; decide) (by rw [h_6]; decide) (by rw [h_6]; decide) (by decide) ?_
    refine lv_aload_n hx hb dd_GG_countOf_99 rfl (lv_at hl 0 rfl) ?_
    refine gf_GG_12 C0 hP ho_v0 dd_GG_countOf_100 ?_
    refine gf_GG_117 C0 hP (tp_5_0 ho_v0) dd_GG_countOf_103 ?_
    exact rrI C0 hP hS dd_GG_countOf_106 hf
  have hf := (if_neg h_6).symm.trans hf
  by_cases h_7 : v1 = 6
  · have hf := (if_pos h_7).symm.trans hf
    refine lv_tableIn (off := 106) (tgt := 107) hx hb dd_GG_countOf_1 (by rw [h_7]; decide) (by rw [h_7]; decide) (by rw [h_7]; decide) (by decide) ?_
    refine lv_aload_n hx hb dd_GG_countOf_107 rfl (lv_at hl 0 rfl) ?_
    refine gf_GG_12 C0 hP ho_v0 dd_GG_countOf_108 ?_
    refine gf_GG_128 C0 hP (tp_5_0 ho_v0) dd_GG_countOf_111 ?_
    exact rrI C0 hP hS dd_GG_countOf_114 hf
  have hf := (if_neg h_7).symm.trans hf
  refine lv_tableOut (tgt := 115) hx hb dd_GG_countOf_1 (by have z0 := lv_neT h_1 (a := 0) (by decide); have z1 := lv_neT h_2 (a := 1) (by decide); have z2 := lv_neT h_3 (a := 2) (by decide); have z3 := lv_neT h_4 (a := 3) (by decide); have z4 := lv_neT h_5 (a := 4) (by decide); have z5 := lv_neT h_6 (a := 5) (by decide); have z6 := lv_neT h_7 (a := 6) (by decide); omega) (by decide) ?_
  refine lv_aload_n hx hb dd_GG_countOf_115 rfl (lv_at hl 0 rfl) ?_
  refine gf_GG_27 C0 hP ho_v0 dd_GG_countOf_116 ?_
  refine gf_GG_134 C0 hP (tp_5_3 ho_v0) dd_GG_countOf_119 ?_
  exact rrI C0 hP hS dd_GG_countOf_122 hf
theorem cc_GG_countOf {l : Launch} {E : Ev} {A : Nat → Prop} {ad : Nat → Nat} (hap : Ap ad ixC A) {x x' : St} {v0 : Nat} {v1 : Int32} {r : Int32} (ho_v0 : isO ixC v0 5) (hf : ff_GG_countOf x v0 v1 = some (r, x')) : Met l yy_GG_countOf (Cond.code yy_GG_countOf bb_GG_countOf 2 (some .int) :: gtb) rm_GG_countOf (va_Pc [.ref (ad v0), .int v1] (PB E A ad ixC x)) (QX E ad ixC A (some (.int r)) x') 0 0 A := by
  exact enter (by decide) (Nat.le_of_ble_eq_true rfl) (fun p e s m below meth c ls C0 hP hS hl => ww_GG_countOf C0 hap ho_v0 hf hP hS hl)
theorem cl_GG_216 {p : Program} {l : Launch} {e : Env} {R : Room} {s : State} {m : MethodId} {args : Array Value} {below : List Frame} {meth : Method} {c : Code} {H : Heap} {locs : List Loc} {cells slots : Nat} {Q : State → Prop} {cc : ByteArray} {pc : Nat} {ls : Array Slot} {rest : List Value} {E : Ev} {A : Nat → Prop} {ad : Nat → Nat} {nL : Nat} {rt : Option FieldType} (C0 : Cx E A RGG cc nL rt p s m args meth c) (hap : Ap ad ixC A) {x x' : St} {v0 : Nat} {v1 : Int32} {r : Int32} (ho_v0 : isO ixC v0 5) (hc : ff_GG_countOf x v0 v1 = some (r, x')) (hP : Wd E ad ixC x H) (hS : va_S A s.heap H locs) (hR : rm_GG_countOf.frames + 1 ≤ R.frames ∧ 8 + (2 + 11) + rm_GG_countOf.locals ≤ R.locals) (hls : ls.size = nL) (hroom : (rest.map fun v => v.category).sum ≤ 8) (hdg : decode cc pc = .ok (.invokevirtual 216, 3)) (hf : cells ≤ R.cells ∧ slots ≤ R.slots) (kk : ∀ H1 locs1, Wd E ad ixC x' H1 → va_S A s.heap H1 locs1 → W p l e R s m args below meth c H1 locs1 cells slots Q (F0 m (pc + 3) ls (.int r :: rest))) : W p l e R s m args below meth c H locs cells slots Q (F0 m pc ls (.int v1 :: .ref (ad v0) :: rest)) :=
  rcV (n := 1) C0 (cc_GG_countOf hap ho_v0 hc) hP hS ho_v0 vcl_5 (by decide) gw_code_GG_countOf gw_m_GG_216 gw_inst_GG_countOf gw_sel_GG_countOf gw_ini_GG rfl rfl (by decide +kernel) rfl hR hls rfl hroom hdg hf (fun H1 locs1 a _ _ b => kk H1 locs1 a b)
abbrev rm_GG_count : Room := { frames := 1, cells := 0, slots := 0, locals := 22 }
theorem dd_GG_count_0 : decode bb_GG_count 0 = .ok (.iload_n 1, 1) := by decide +kernel
theorem dd_GG_count_1 : decode bb_GG_count 1 = .ok (.iconst 0, 1) := by decide +kernel
theorem dd_GG_count_2 : decode bb_GG_count 2 = .ok (.bipush 7, 2) := by decide +kernel
theorem dd_GG_count_4 : decode bb_GG_count 4 = .ok (.invokestatic 49, 3) := by decide +kernel
theorem dd_GG_count_7 : decode bb_GG_count 7 = .ok (.ifCond .eq 11, 3) := by decide +kernel
theorem dd_GG_count_10 : decode bb_GG_count 10 = .ok (.aload_n 0, 1) := by decide +kernel
theorem dd_GG_count_11 : decode bb_GG_count 11 = .ok (.iload_n 1, 1) := by decide +kernel
theorem dd_GG_count_12 : decode bb_GG_count 12 = .ok (.invokevirtual 216, 3) := by decide +kernel
theorem dd_GG_count_15 : decode bb_GG_count 15 = .ok (.goto 7, 3) := by decide +kernel
theorem dd_GG_count_18 : decode bb_GG_count 18 = .ok (.aload_n 0, 1) := by decide +kernel
theorem dd_GG_count_19 : decode bb_GG_count 19 = .ok (.invokevirtual 53, 3) := by decide +kernel
theorem dd_GG_count_22 : decode bb_GG_count 22 = .ok (.ireturn, 1) := by decide +kernel
def ff_GG_count  (x : St) (v0 : Nat) (v1 : Int32) : Option (Int32 × St) := bnd (ff_GG_isWithin x v1 0 7) (fun r_1 x_2 => (if r_1 = 0 then bnd (ff_GG_refuseBad x_2 v0) (fun r_5 x_6 => some (r_5, x_6)) else bnd (ff_GG_countOf x_2 v0 v1) (fun r_8 x_9 => some (r_8, x_9))))
set_option maxHeartbeats 4000000 in
set_option maxRecDepth 100000 in
theorem ww_GG_count {p : Program} {l : Launch} {e : Env} {s : State} {m : MethodId} {args : Array Value} {below : List Frame} {meth : Method} {c : Code} {E : Ev} {A : Nat → Prop} {ad : Nat → Nat} {r : Int32} {x' : St} (C0 : Cx E A RGG bb_GG_count 2 (some .int) p s m args meth c) (hap : Ap ad ixC A)  {x : St} {v0 : Nat} {v1 : Int32} (ho_v0 : isO ixC v0 5) (hf : ff_GG_count x v0 v1 = some (r, x')) {H : Heap} {locs : List Loc} {ls : Array Slot} (hP : Wd E ad ixC x H) (hS : va_S A s.heap H locs) (hl : lv_has ls 2 [(0, .ref (ad v0)), (1, .int v1)]) : W p l e rm_GG_count s m args below meth c H locs 0 0 (MQ below (QX E ad ixC A (some (.int r)) x') args s 0 0 A) (F0 m 0 ls []) := by
  obtain ⟨hx, hb, hml, hr, hown, hts, hlk, hK⟩ := id C0
  have hf : bnd (ff_GG_isWithin x v1 0 7) (fun r_1 x_2 => (if r_1 = 0 then bnd (ff_GG_refuseBad x_2 v0) (fun r_5 x_6 => some (r_5, x_6)) else bnd (ff_GG_countOf x_2 v0 v1) (fun r_8 x_9 => some (r_8, x_9)))) = some (r, x') := hf
  refine lv_iload_n hx hb dd_GG_count_0 rfl (lv_at hl 1 rfl) ?_
  refine lv_iconst (v := 0) hx hb dd_GG_count_1 (by decide) ?_
  refine lv_bipush (v := 7) hx hb dd_GG_count_2 (by decide) ?_
  obtain ⟨r_1, x_2, c_3, hf⟩ := of_bnd hf
  refine cl_GG_49 C0 hap  c_3 hP hS ⟨Nat.le_of_ble_eq_true rfl, Nat.le_of_ble_eq_true rfl⟩ hl.1 (Nat.le_of_ble_eq_true rfl) dd_GG_count_4 ⟨Nat.le_refl _, Nat.le_refl _⟩ (fun H locs hP hS => ?_)
  refine lv_if_eq (tgt := 18) hx hb dd_GG_count_7 (by decide) (fun h_4 => ?_) (fun h_4 => ?_)
  · have hf := (if_pos h_4).symm.trans hf
    refine lv_aload_n hx hb dd_GG_count_18 rfl (lv_at hl 0 rfl) ?_
    obtain ⟨r_5, x_6, c_7, hf⟩ := of_bnd hf
    refine cl_GG_53 C0 hap ho_v0 c_7 hP hS ⟨Nat.le_of_ble_eq_true rfl, Nat.le_of_ble_eq_true rfl⟩ hl.1 (Nat.le_of_ble_eq_true rfl) dd_GG_count_19 ⟨Nat.le_refl _, Nat.le_refl _⟩ (fun H locs hP hS => ?_)
    exact rrI C0 hP hS dd_GG_count_22 hf
  · have hf := (if_neg h_4).symm.trans hf
    refine lv_aload_n hx hb dd_GG_count_10 rfl (lv_at hl 0 rfl) ?_
    refine lv_iload_n hx hb dd_GG_count_11 rfl (lv_at hl 1 rfl) ?_
    obtain ⟨r_8, x_9, c_10, hf⟩ := of_bnd hf
    refine cl_GG_216 C0 hap ho_v0 c_10 hP hS ⟨Nat.le_of_ble_eq_true rfl, Nat.le_of_ble_eq_true rfl⟩ hl.1 (Nat.le_of_ble_eq_true rfl) dd_GG_count_12 ⟨Nat.le_refl _, Nat.le_refl _⟩ (fun H locs hP hS => ?_)
    refine lv_goto (tgt := 22) hx hb dd_GG_count_15 (by decide) ?_
    exact rrI C0 hP hS dd_GG_count_22 hf
theorem cc_GG_count {l : Launch} {E : Ev} {A : Nat → Prop} {ad : Nat → Nat} (hap : Ap ad ixC A) {x x' : St} {v0 : Nat} {v1 : Int32} {r : Int32} (ho_v0 : isO ixC v0 5) (hf : ff_GG_count x v0 v1 = some (r, x')) : Met l yy_GG_count (Cond.code yy_GG_count bb_GG_count 2 (some .int) :: gtb) rm_GG_count (va_Pc [.ref (ad v0), .int v1] (PB E A ad ixC x)) (QX E ad ixC A (some (.int r)) x') 0 0 A := by
  exact enter (by decide) (Nat.le_of_ble_eq_true rfl) (fun p e s m below meth c ls C0 hP hS hl => ww_GG_count C0 hap ho_v0 hf hP hS hl)
theorem cl_GG_223 {p : Program} {l : Launch} {e : Env} {R : Room} {s : State} {m : MethodId} {args : Array Value} {below : List Frame} {meth : Method} {c : Code} {H : Heap} {locs : List Loc} {cells slots : Nat} {Q : State → Prop} {cc : ByteArray} {pc : Nat} {ls : Array Slot} {rest : List Value} {E : Ev} {A : Nat → Prop} {ad : Nat → Nat} {nL : Nat} {rt : Option FieldType} (C0 : Cx E A RGG cc nL rt p s m args meth c) (hap : Ap ad ixC A) {x x' : St} {v0 : Nat} {v1 : Int64} {r : Int64} (ho_v0 : isO ixC v0 1) (hc : ff_LE_mixInto x v0 v1 = some (r, x')) (hP : Wd E ad ixC x H) (hS : va_S A s.heap H locs) (hR : rm_LE_mixInto.frames + 1 ≤ R.frames ∧ 8 + (6 + 11) + rm_LE_mixInto.locals ≤ R.locals) (hls : ls.size = nL) (hroom : (rest.map fun v => v.category).sum ≤ 8) (hdg : decode cc pc = .ok (.invokevirtual 223, 3)) (hf : cells ≤ R.cells ∧ slots ≤ R.slots) (kk : ∀ H1 locs1, Wd E ad ixC x' H1 → va_S A s.heap H1 locs1 → W p l e R s m args below meth c H1 locs1 cells slots Q (F0 m (pc + 3) ls (.long r :: rest))) : W p l e R s m args below meth c H locs cells slots Q (F0 m pc ls (.long v1 :: .ref (ad v0) :: rest)) :=
  rcV (n := 1) C0 (cc_LE_mixInto hap ho_v0 hc) hP hS ho_v0 vcl_1 (by decide) gw_code_LE_mixInto gw_m_GG_223 gw_inst_LE_mixInto gw_sel_LE_mixInto gw_ini_LE rfl rfl (by decide +kernel) rfl hR hls rfl hroom hdg hf (fun H1 locs1 a _ _ b => kk H1 locs1 a b)
theorem cl_GG_227 {p : Program} {l : Launch} {e : Env} {R : Room} {s : State} {m : MethodId} {args : Array Value} {below : List Frame} {meth : Method} {c : Code} {H : Heap} {locs : List Loc} {cells slots : Nat} {Q : State → Prop} {cc : ByteArray} {pc : Nat} {ls : Array Slot} {rest : List Value} {E : Ev} {A : Nat → Prop} {ad : Nat → Nat} {nL : Nat} {rt : Option FieldType} (C0 : Cx E A RGG cc nL rt p s m args meth c) (hap : Ap ad ixC A) {x x' : St} {v0 : Nat} {v1 : Int64} {r : Int64} (ho_v0 : isO ixC v0 4) (hc : ff_SH_mixJointsInto x v0 v1 = some (r, x')) (hP : Wd E ad ixC x H) (hS : va_S A s.heap H locs) (hR : rm_SH_mixJointsInto.frames + 1 ≤ R.frames ∧ 8 + (6 + 11) + rm_SH_mixJointsInto.locals ≤ R.locals) (hls : ls.size = nL) (hroom : (rest.map fun v => v.category).sum ≤ 8) (hdg : decode cc pc = .ok (.invokevirtual 227, 3)) (hf : cells ≤ R.cells ∧ slots ≤ R.slots) (kk : ∀ H1 locs1, Wd E ad ixC x' H1 → va_S A s.heap H1 locs1 → W p l e R s m args below meth c H1 locs1 cells slots Q (F0 m (pc + 3) ls (.long r :: rest))) : W p l e R s m args below meth c H locs cells slots Q (F0 m pc ls (.long v1 :: .ref (ad v0) :: rest)) :=
  rcV (n := 1) C0 (cc_SH_mixJointsInto hap ho_v0 hc) hP hS ho_v0 vcl_4 (by decide) gw_code_SH_mixJointsInto gw_m_GG_227 gw_inst_SH_mixJointsInto gw_sel_SH_mixJointsInto gw_ini_SH rfl rfl (by decide +kernel) rfl hR hls rfl hroom hdg hf (fun H1 locs1 a _ _ b => kk H1 locs1 a b)
abbrev rm_GG_digest : Room := { frames := 3, cells := 0, slots := 0, locals := 68 }
theorem dd_GG_digest_0 : decode bb_GG_digest 0 = .ok (.ldc2_w 219, 3) := by decide +kernel
theorem dd_GG_digest_3 : decode bb_GG_digest 3 = .ok (.lstore_n 1, 1) := by decide +kernel
theorem dd_GG_digest_4 : decode bb_GG_digest 4 = .ok (.iconst 0, 1) := by decide +kernel
theorem dd_GG_digest_5 : decode bb_GG_digest 5 = .ok (.istore_n 3, 1) := by decide +kernel
theorem dd_GG_digest_6 : decode bb_GG_digest 6 = .ok (.iload_n 3, 1) := by decide +kernel
theorem dd_GG_digest_7 : decode bb_GG_digest 7 = .ok (.bipush 7, 2) := by decide +kernel
theorem dd_GG_digest_9 : decode bb_GG_digest 9 = .ok (.if_icmp .gt 22, 3) := by decide +kernel
theorem dd_GG_digest_12 : decode bb_GG_digest 12 = .ok (.ldc2_w 221, 3) := by decide +kernel
theorem dd_GG_digest_15 : decode bb_GG_digest 15 = .ok (.lload_n 1, 1) := by decide +kernel
theorem dd_GG_digest_16 : decode bb_GG_digest 16 = .ok (.lmul, 1) := by decide +kernel
theorem dd_GG_digest_17 : decode bb_GG_digest 17 = .ok (.aload_n 0, 1) := by decide +kernel
theorem dd_GG_digest_18 : decode bb_GG_digest 18 = .ok (.iload_n 3, 1) := by decide +kernel
theorem dd_GG_digest_19 : decode bb_GG_digest 19 = .ok (.invokevirtual 216, 3) := by decide +kernel
theorem dd_GG_digest_22 : decode bb_GG_digest 22 = .ok (.i2l, 1) := by decide +kernel
theorem dd_GG_digest_23 : decode bb_GG_digest 23 = .ok (.ladd, 1) := by decide +kernel
theorem dd_GG_digest_24 : decode bb_GG_digest 24 = .ok (.lstore_n 1, 1) := by decide +kernel
theorem dd_GG_digest_25 : decode bb_GG_digest 25 = .ok (.iinc 3 1, 3) := by decide +kernel
theorem dd_GG_digest_28 : decode bb_GG_digest 28 = .ok (.goto (-22), 3) := by decide +kernel
theorem dd_GG_digest_31 : decode bb_GG_digest 31 = .ok (.aload_n 0, 1) := by decide +kernel
theorem dd_GG_digest_32 : decode bb_GG_digest 32 = .ok (.getfield 12, 3) := by decide +kernel
theorem dd_GG_digest_35 : decode bb_GG_digest 35 = .ok (.getfield 57, 3) := by decide +kernel
theorem dd_GG_digest_38 : decode bb_GG_digest 38 = .ok (.lload_n 1, 1) := by decide +kernel
theorem dd_GG_digest_39 : decode bb_GG_digest 39 = .ok (.invokevirtual 223, 3) := by decide +kernel
theorem dd_GG_digest_42 : decode bb_GG_digest 42 = .ok (.lstore_n 1, 1) := by decide +kernel
theorem dd_GG_digest_43 : decode bb_GG_digest 43 = .ok (.aload_n 0, 1) := by decide +kernel
theorem dd_GG_digest_44 : decode bb_GG_digest 44 = .ok (.getfield 12, 3) := by decide +kernel
theorem dd_GG_digest_47 : decode bb_GG_digest 47 = .ok (.lload_n 1, 1) := by decide +kernel
theorem dd_GG_digest_48 : decode bb_GG_digest 48 = .ok (.invokevirtual 227, 3) := by decide +kernel
theorem dd_GG_digest_51 : decode bb_GG_digest 51 = .ok (.lstore_n 1, 1) := by decide +kernel
theorem dd_GG_digest_52 : decode bb_GG_digest 52 = .ok (.aload_n 0, 1) := by decide +kernel
theorem dd_GG_digest_53 : decode bb_GG_digest 53 = .ok (.getfield 12, 3) := by decide +kernel
theorem dd_GG_digest_56 : decode bb_GG_digest 56 = .ok (.getfield 83, 3) := by decide +kernel
theorem dd_GG_digest_59 : decode bb_GG_digest 59 = .ok (.lload_n 1, 1) := by decide +kernel
theorem dd_GG_digest_60 : decode bb_GG_digest 60 = .ok (.invokevirtual 223, 3) := by decide +kernel
theorem dd_GG_digest_63 : decode bb_GG_digest 63 = .ok (.lstore_n 1, 1) := by decide +kernel
theorem dd_GG_digest_64 : decode bb_GG_digest 64 = .ok (.aload_n 0, 1) := by decide +kernel
theorem dd_GG_digest_65 : decode bb_GG_digest 65 = .ok (.getfield 12, 3) := by decide +kernel
theorem dd_GG_digest_68 : decode bb_GG_digest 68 = .ok (.getfield 90, 3) := by decide +kernel
theorem dd_GG_digest_71 : decode bb_GG_digest 71 = .ok (.lload_n 1, 1) := by decide +kernel
theorem dd_GG_digest_72 : decode bb_GG_digest 72 = .ok (.invokevirtual 223, 3) := by decide +kernel
theorem dd_GG_digest_75 : decode bb_GG_digest 75 = .ok (.lstore_n 1, 1) := by decide +kernel
theorem dd_GG_digest_76 : decode bb_GG_digest 76 = .ok (.aload_n 0, 1) := by decide +kernel
theorem dd_GG_digest_77 : decode bb_GG_digest 77 = .ok (.getfield 12, 3) := by decide +kernel
theorem dd_GG_digest_80 : decode bb_GG_digest 80 = .ok (.getfield 181, 3) := by decide +kernel
theorem dd_GG_digest_83 : decode bb_GG_digest 83 = .ok (.lload_n 1, 1) := by decide +kernel
theorem dd_GG_digest_84 : decode bb_GG_digest 84 = .ok (.invokevirtual 223, 3) := by decide +kernel
theorem dd_GG_digest_87 : decode bb_GG_digest 87 = .ok (.lstore_n 1, 1) := by decide +kernel
theorem dd_GG_digest_88 : decode bb_GG_digest 88 = .ok (.ldc2_w 221, 3) := by decide +kernel
theorem dd_GG_digest_91 : decode bb_GG_digest 91 = .ok (.lload_n 1, 1) := by decide +kernel
theorem dd_GG_digest_92 : decode bb_GG_digest 92 = .ok (.lmul, 1) := by decide +kernel
theorem dd_GG_digest_93 : decode bb_GG_digest 93 = .ok (.aload_n 0, 1) := by decide +kernel
theorem dd_GG_digest_94 : decode bb_GG_digest 94 = .ok (.getfield 200, 3) := by decide +kernel
theorem dd_GG_digest_97 : decode bb_GG_digest 97 = .ok (.ladd, 1) := by decide +kernel
theorem dd_GG_digest_98 : decode bb_GG_digest 98 = .ok (.lstore_n 1, 1) := by decide +kernel
theorem dd_GG_digest_99 : decode bb_GG_digest 99 = .ok (.ldc2_w 221, 3) := by decide +kernel
theorem dd_GG_digest_102 : decode bb_GG_digest 102 = .ok (.lload_n 1, 1) := by decide +kernel
theorem dd_GG_digest_103 : decode bb_GG_digest 103 = .ok (.lmul, 1) := by decide +kernel
theorem dd_GG_digest_104 : decode bb_GG_digest 104 = .ok (.aload_n 0, 1) := by decide +kernel
theorem dd_GG_digest_105 : decode bb_GG_digest 105 = .ok (.getfield 45, 3) := by decide +kernel
theorem dd_GG_digest_108 : decode bb_GG_digest 108 = .ok (.ladd, 1) := by decide +kernel
theorem dd_GG_digest_109 : decode bb_GG_digest 109 = .ok (.lreturn, 1) := by decide +kernel
def ff_GG_digest_31  (x : St) (v0 : Nat) (v1 : Int64) : Option (Int64 × St) := bnd (ff_LE_mixInto x (rf (rf v0 0) 0) v1) (fun r_2 x_3 => bnd (ff_SH_mixJointsInto x_3 (rf v0 0) r_2) (fun r_5 x_6 => bnd (ff_LE_mixInto x_6 (rf (rf v0 0) 2) r_5) (fun r_8 x_9 => bnd (ff_LE_mixInto x_9 (rf (rf v0 0) 3) r_8) (fun r_11 x_12 => bnd (ff_LE_mixInto x_12 (rf (rf v0 0) 4) r_11) (fun r_14 x_15 => lj ((31 * r_14) + (gl x_15 v0 6)) (fun u_17 => some ((31 * u_17) + (gl x_15 v0 7), x_15)))))))
def ff_GG_digest_6  : Nat → St → Nat → Int64 → Int32 → Option (Int64 × St)
  | 0, _, _, _, _ => none
  | n + 1, x, v0, v1, v3 => (if 7 < v3 then ff_GG_digest_31 x v0 v1 else bnd (ff_GG_countOf x v0 v3) (fun r_18 x_19 => lj ((31 * v1) + (r_18.toInt64)) (fun u_21 => ff_GG_digest_6 n x_19 v0 u_21 (v3 + 1))))
def ff_GG_digest  (x : St) (v0 : Nat) : Option (Int64 × St) := ff_GG_digest_6 FU x v0 797 0
set_option maxHeartbeats 4000000 in
set_option maxRecDepth 100000 in
theorem ww_GG_digest_31 {p : Program} {l : Launch} {e : Env} {s : State} {m : MethodId} {args : Array Value} {below : List Frame} {meth : Method} {c : Code} {E : Ev} {A : Nat → Prop} {ad : Nat → Nat} {r : Int64} {x' : St} (C0 : Cx E A RGG bb_GG_digest 4 (some .long) p s m args meth c) (hap : Ap ad ixC A)  {x : St} {v0 : Nat} {v1 : Int64} (ho_v0 : isO ixC v0 5) (hf : ff_GG_digest_31 x v0 v1 = some (r, x')) {H : Heap} {locs : List Loc} {ls : Array Slot} (hP : Wd E ad ixC x H) (hS : va_S A s.heap H locs) (hl : lv_has ls 4 [(0, .ref (ad v0)), (1, .long v1)]) : W p l e rm_GG_digest s m args below meth c H locs 0 0 (MQ below (QX E ad ixC A (some (.long r)) x') args s 0 0 A) (F0 m 31 ls []) := by
  obtain ⟨hx, hb, hml, hr, hown, hts, hlk, hK⟩ := id C0
  have hf : bnd (ff_LE_mixInto x (rf (rf v0 0) 0) v1) (fun r_2 x_3 => bnd (ff_SH_mixJointsInto x_3 (rf v0 0) r_2) (fun r_5 x_6 => bnd (ff_LE_mixInto x_6 (rf (rf v0 0) 2) r_5) (fun r_8 x_9 => bnd (ff_LE_mixInto x_9 (rf (rf v0 0) 3) r_8) (fun r_11 x_12 => bnd (ff_LE_mixInto x_12 (rf (rf v0 0) 4) r_11) (fun r_14 x_15 => lj ((31 * r_14) + (gl x_15 v0 6)) (fun u_17 => some ((31 * u_17) + (gl x_15 v0 7), x_15))))))) = some (r, x') := hf
  refine lv_aload_n hx hb dd_GG_digest_31 rfl (lv_at hl 0 rfl) ?_
  refine gf_GG_12 C0 hP ho_v0 dd_GG_digest_32 ?_
  refine gf_GG_57 C0 hP (tp_5_0 ho_v0) dd_GG_digest_35 ?_
  refine lv_lload_n hx hb dd_GG_digest_38 rfl (lv_at hl 1 rfl) ?_
  obtain ⟨r_2, x_3, c_4, hf⟩ := of_bnd hf
  refine cl_GG_223 C0 hap (tp_4_0 (tp_5_0 ho_v0)) c_4 hP hS ⟨Nat.le_of_ble_eq_true rfl, Nat.le_of_ble_eq_true rfl⟩ hl.1 (Nat.le_of_ble_eq_true rfl) dd_GG_digest_39 ⟨Nat.le_refl _, Nat.le_refl _⟩ (fun H locs hP hS => ?_)
  refine lv_lstore_n (lv' := [(1, .long r_2), (0, .ref (ad v0))]) hx hb dd_GG_digest_42 rfl hl (by decide) rfl (fun ls hl => ?_)
  refine lv_aload_n hx hb dd_GG_digest_43 rfl (lv_at hl 1 rfl) ?_
  refine gf_GG_12 C0 hP ho_v0 dd_GG_digest_44 ?_
  refine lv_lload_n hx hb dd_GG_digest_47 rfl (lv_at hl 0 rfl) ?_
  obtain ⟨r_5, x_6, c_7, hf⟩ := of_bnd hf
  refine cl_GG_227 C0 hap (tp_5_0 ho_v0) c_7 hP hS ⟨Nat.le_of_ble_eq_true rfl, Nat.le_of_ble_eq_true rfl⟩ hl.1 (Nat.le_of_ble_eq_true rfl) dd_GG_digest_48 ⟨Nat.le_refl _, Nat.le_refl _⟩ (fun H locs hP hS => ?_)
  refine lv_lstore_n (lv' := [(1, .long r_5), (0, .ref (ad v0))]) hx hb dd_GG_digest_51 rfl hl (by decide) rfl (fun ls hl => ?_)
  refine lv_aload_n hx hb dd_GG_digest_52 rfl (lv_at hl 1 rfl) ?_
  refine gf_GG_12 C0 hP ho_v0 dd_GG_digest_53 ?_
  refine gf_GG_83 C0 hP (tp_5_0 ho_v0) dd_GG_digest_56 ?_
  refine lv_lload_n hx hb dd_GG_digest_59 rfl (lv_at hl 0 rfl) ?_
  obtain ⟨r_8, x_9, c_10, hf⟩ := of_bnd hf
  refine cl_GG_223 C0 hap (tp_4_2 (tp_5_0 ho_v0)) c_10 hP hS ⟨Nat.le_of_ble_eq_true rfl, Nat.le_of_ble_eq_true rfl⟩ hl.1 (Nat.le_of_ble_eq_true rfl) dd_GG_digest_60 ⟨Nat.le_refl _, Nat.le_refl _⟩ (fun H locs hP hS => ?_)
  refine lv_lstore_n (lv' := [(1, .long r_8), (0, .ref (ad v0))]) hx hb dd_GG_digest_63 rfl hl (by decide) rfl (fun ls hl => ?_)
  refine lv_aload_n hx hb dd_GG_digest_64 rfl (lv_at hl 1 rfl) ?_
  refine gf_GG_12 C0 hP ho_v0 dd_GG_digest_65 ?_
  refine gf_GG_90 C0 hP (tp_5_0 ho_v0) dd_GG_digest_68 ?_
  refine lv_lload_n hx hb dd_GG_digest_71 rfl (lv_at hl 0 rfl) ?_
  obtain ⟨r_11, x_12, c_13, hf⟩ := of_bnd hf
  refine cl_GG_223 C0 hap (tp_4_3 (tp_5_0 ho_v0)) c_13 hP hS ⟨Nat.le_of_ble_eq_true rfl, Nat.le_of_ble_eq_true rfl⟩ hl.1 (Nat.le_of_ble_eq_true rfl) dd_GG_digest_72 ⟨Nat.le_refl _, Nat.le_refl _⟩ (fun H locs hP hS => ?_)
  refine lv_lstore_n (lv' := [(1, .long r_11), (0, .ref (ad v0))]) hx hb dd_GG_digest_75 rfl hl (by decide) rfl (fun ls hl => ?_)
  refine lv_aload_n hx hb dd_GG_digest_76 rfl (lv_at hl 1 rfl) ?_
  refine gf_GG_12 C0 hP ho_v0 dd_GG_digest_77 ?_
  refine gf_GG_181 C0 hP (tp_5_0 ho_v0) dd_GG_digest_80 ?_
  refine lv_lload_n hx hb dd_GG_digest_83 rfl (lv_at hl 0 rfl) ?_
  obtain ⟨r_14, x_15, c_16, hf⟩ := of_bnd hf
  refine cl_GG_223 C0 hap (tp_4_4 (tp_5_0 ho_v0)) c_16 hP hS ⟨Nat.le_of_ble_eq_true rfl, Nat.le_of_ble_eq_true rfl⟩ hl.1 (Nat.le_of_ble_eq_true rfl) dd_GG_digest_84 ⟨Nat.le_refl _, Nat.le_refl _⟩ (fun H locs hP hS => ?_)
  refine lv_lstore_n (lv' := [(1, .long r_14), (0, .ref (ad v0))]) hx hb dd_GG_digest_87 rfl hl (by decide) rfl (fun ls hl => ?_)
  refine lv_ldc2 (v := 31) hx hb hown (hts _ gw_k_GG_221) dd_GG_digest_88 ?_
  refine lv_lload_n hx hb dd_GG_digest_91 rfl (lv_at hl 0 rfl) ?_
  refine lv_lmul hx hb dd_GG_digest_92 ?_
  refine lv_aload_n hx hb dd_GG_digest_93 rfl (lv_at hl 1 rfl) ?_
  refine gf_GG_200 C0 hP ho_v0 dd_GG_digest_94 ?_
  refine lv_ladd hx hb dd_GG_digest_97 ?_
  obtain ⟨u_17, eu_17, hf⟩ := of_lj hf
  refine tpj eu_17 ?_
  refine lv_lstore_n (lv' := [(1, .long u_17), (0, .ref (ad v0))]) hx hb dd_GG_digest_98 rfl hl (by decide) rfl (fun ls hl => ?_)
  refine lv_ldc2 (v := 31) hx hb hown (hts _ gw_k_GG_221) dd_GG_digest_99 ?_
  refine lv_lload_n hx hb dd_GG_digest_102 rfl (lv_at hl 0 rfl) ?_
  refine lv_lmul hx hb dd_GG_digest_103 ?_
  refine lv_aload_n hx hb dd_GG_digest_104 rfl (lv_at hl 1 rfl) ?_
  refine gf_GG_45 C0 hP ho_v0 dd_GG_digest_105 ?_
  refine lv_ladd hx hb dd_GG_digest_108 ?_
  exact rrL C0 hP hS dd_GG_digest_109 hf
set_option maxHeartbeats 4000000 in
set_option maxRecDepth 100000 in
theorem ww_GG_digest_6 {p : Program} {l : Launch} {e : Env} {s : State} {m : MethodId} {args : Array Value} {below : List Frame} {meth : Method} {c : Code} {E : Ev} {A : Nat → Prop} {ad : Nat → Nat} {r : Int64} {x' : St} (C0 : Cx E A RGG bb_GG_digest 4 (some .long) p s m args meth c) (hap : Ap ad ixC A)  : ∀ (n : Nat), ∀ (x : St) (v0 : Nat) (v1 : Int64) (v3 : Int32), (isO ixC v0 5) → ff_GG_digest_6 n x v0 v1 v3 = some (r, x') → ∀ (H : Heap) (locs : List Loc) (ls : Array Slot), Wd E ad ixC x H → va_S A s.heap H locs → lv_has ls 4 [(0, .ref (ad v0)), (1, .long v1), (3, .int v3)] → W p l e rm_GG_digest s m args below meth c H locs 0 0 (MQ below (QX E ad ixC A (some (.long r)) x') args s 0 0 A) (F0 m 6 ls []) := by
  obtain ⟨hx, hb, hml, hr, hown, hts, hlk, hK⟩ := id C0
  intro n
  induction n with
  | zero => intro x v0 v1 v3 ho_v0 hf; exact of_no hf
  | succ n ih =>
    intro x v0 v1 v3 ho_v0 hf H locs ls hP hS hl
    have hf : (if 7 < v3 then ff_GG_digest_31 x v0 v1 else bnd (ff_GG_countOf x v0 v3) (fun r_18 x_19 => lj ((31 * v1) + (r_18.toInt64)) (fun u_21 => ff_GG_digest_6 n x_19 v0 u_21 (v3 + 1)))) = some (r, x') := hf
    refine lv_iload_n hx hb dd_GG_digest_6 rfl (lv_at hl 2 rfl) ?_
    refine lv_bipush (v := 7) hx hb dd_GG_digest_7 (by decide) ?_
    refine lv_icmp_gt (tgt := 31) hx hb dd_GG_digest_9 (by decide) (fun h_1 => ?_) (fun h_1 => ?_)
    · have hf := (if_pos h_1).symm.trans hf
      exact ww_GG_digest_31 C0 hap  ho_v0 hf hP hS (lv_sub hl [0, 1] rfl)
    · have hf := (if_neg h_1).symm.trans hf
      refine lv_ldc2 (v := 31) hx hb hown (hts _ gw_k_GG_221) dd_GG_digest_12 ?_
      refine lv_lload_n hx hb dd_GG_digest_15 rfl (lv_at hl 1 rfl) ?_
      refine lv_lmul hx hb dd_GG_digest_16 ?_
      refine lv_aload_n hx hb dd_GG_digest_17 rfl (lv_at hl 0 rfl) ?_
      refine lv_iload_n hx hb dd_GG_digest_18 rfl (lv_at hl 2 rfl) ?_
      obtain ⟨r_18, x_19, c_20, hf⟩ := of_bnd hf
      refine cl_GG_216 C0 hap ho_v0 c_20 hP hS ⟨Nat.le_of_ble_eq_true rfl, Nat.le_of_ble_eq_true rfl⟩ hl.1 (Nat.le_of_ble_eq_true rfl) dd_GG_digest_19 ⟨Nat.le_refl _, Nat.le_refl _⟩ (fun H locs hP hS => ?_)
      refine lv_i2l hx hb dd_GG_digest_22 rfl ?_
      refine lv_ladd hx hb dd_GG_digest_23 ?_
      obtain ⟨u_21, eu_21, hf⟩ := of_lj hf
      refine tpj eu_21 ?_
      refine lv_lstore_n (lv' := [(1, .long u_21), (0, .ref (ad v0)), (3, .int v3)]) hx hb dd_GG_digest_24 rfl hl (by decide) rfl (fun ls hl => ?_)
      refine lv_iinc (v := v3 + 1) (lv' := [(3, .int (v3 + 1)), (1, .long u_21), (0, .ref (ad v0))]) hx hb dd_GG_digest_25 hl (k := 2) rfl rfl (by decide) rfl (fun ls hl => ?_)
      refine lv_goto (tgt := 6) hx hb dd_GG_digest_28 (by decide) ?_
      exact ih x_19 v0 u_21 (v3 + 1) ho_v0 hf _ _ _ hP hS (lv_sub hl [2, 1, 0] rfl)
set_option maxHeartbeats 4000000 in
set_option maxRecDepth 100000 in
theorem ww_GG_digest {p : Program} {l : Launch} {e : Env} {s : State} {m : MethodId} {args : Array Value} {below : List Frame} {meth : Method} {c : Code} {E : Ev} {A : Nat → Prop} {ad : Nat → Nat} {r : Int64} {x' : St} (C0 : Cx E A RGG bb_GG_digest 4 (some .long) p s m args meth c) (hap : Ap ad ixC A)  {x : St} {v0 : Nat} (ho_v0 : isO ixC v0 5) (hf : ff_GG_digest x v0 = some (r, x')) {H : Heap} {locs : List Loc} {ls : Array Slot} (hP : Wd E ad ixC x H) (hS : va_S A s.heap H locs) (hl : lv_has ls 4 [(0, .ref (ad v0))]) : W p l e rm_GG_digest s m args below meth c H locs 0 0 (MQ below (QX E ad ixC A (some (.long r)) x') args s 0 0 A) (F0 m 0 ls []) := by
  obtain ⟨hx, hb, hml, hr, hown, hts, hlk, hK⟩ := id C0
  have hf : ff_GG_digest_6 FU x v0 797 0 = some (r, x') := hf
  refine lv_ldc2 (v := 797) hx hb hown (hts _ gw_k_GG_219) dd_GG_digest_0 ?_
  refine lv_lstore_n (lv' := [(1, .long 797), (0, .ref (ad v0))]) hx hb dd_GG_digest_3 rfl hl (by decide) rfl (fun ls hl => ?_)
  refine lv_iconst (v := 0) hx hb dd_GG_digest_4 (by decide) ?_
  refine lv_istore_n (lv' := [(3, .int 0), (1, .long 797), (0, .ref (ad v0))]) hx hb dd_GG_digest_5 rfl hl (by decide) rfl (fun ls hl => ?_)
  exact ww_GG_digest_6 C0 hap  FU x v0 797 0 ho_v0 hf _ _ _ hP hS (lv_sub hl [2, 1, 0] rfl)
theorem cc_GG_digest {l : Launch} {E : Ev} {A : Nat → Prop} {ad : Nat → Nat} (hap : Ap ad ixC A) {x x' : St} {v0 : Nat} {r : Int64} (ho_v0 : isO ixC v0 5) (hf : ff_GG_digest x v0 = some (r, x')) : Met l yy_GG_digest (Cond.code yy_GG_digest bb_GG_digest 4 (some .long) :: gtb) rm_GG_digest (va_Pc [.ref (ad v0)] (PB E A ad ixC x)) (QX E ad ixC A (some (.long r)) x') 0 0 A := by
  exact enter (by decide) (Nat.le_of_ble_eq_true rfl) (fun p e s m below meth c ls C0 hP hS hl => ww_GG_digest C0 hap ho_v0 hf hP hS hl)
